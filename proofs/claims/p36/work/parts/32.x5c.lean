abbrev ws_X5_today : List Cond := Cond.code yX5_today cX5_today 1 (some .int) :: ALL
set_option maxHeartbeats 4000000 in
set_option maxRecDepth 100000 in
theorem m_X5_today (l : Launch) (D : va_G) (cs : Nat → ClassId) (kr la ia na b4 b6 b8 b10 sh it : Nat) (lc : Int) (dy : Nat) (pct lr sr : Int) : Met l yX5_today ws_X5_today ({ frames := 0, cells := 0, slots := 0, locals := 0 }) (va_Pc [.ref kr] (PC D cs [(kr, .inr (5, [.ref la, .ref ia, .ref na, .ref b4, .ref b6, .ref b8, .ref b10, .int (iI (((sh : Nat) : Int))), .int (iI (((it : Nat) : Int))), .int (iI (lc)), .int (iI (((dy : Nat) : Int))), .int (iI (pct)), .int (iI (lr)), .int (iI (sr))]))])) (va_Qi (fun r (_ : Unit) => r = iI (((dy : Nat) : Int))) (fun _ _ => True) noA) 0 0 noA := by
  refine Met.ofW (cc := cX5_today) (maxL := 1) (ret := (some .int)) (by decide +kernel) rfl ?_
  intro p e s m args below meth c s₁ B hml hv
  obtain ⟨rfl, hP, hK, hD, hN⟩ := hv
  have hx := B.exec
  have hb := B.bytes
  have hr := B.returns
  have hts : ∀ w ∈ ALL, w.before _ s = true := fun w h => atoms_spec (ws := ws_X5_today) B.pre w (List.mem_cons_of_mem _ h)
  have hown : s.vm.findClass RX5 = some m.cls := findClass_of_methodNamed B.named
  have hlocks := B.notSynchronized
  have hS : va_S noA s.heap s.heap [] := va_S.rf
  generalize inW [(kr, .inr (5, [.ref la, .ref ia, .ref na, .ref b4, .ref b6, .ref b8, .ref b10, .int (iI (((sh : Nat) : Int))), .int (iI (((it : Nat) : Int))), .int (iI (lc)), .int (iI (((dy : Nat) : Int))), .int (iI (pct)), .int (iI (lr)), .int (iI (sr))]))] = A at hD
  have hl := lv_entry ([.ref kr]) (n := 1) (Nat.le_of_ble_eq_true rfl)
  rw [lg_entry_eq]
  generalize (lg_sl ([.ref kr]) ++ List.replicate (1 - (lg_sl ([.ref kr])).length) Slot.unset).toArray = ls at hl ⊢
  have hl : lv_has ls 1 [(0, .ref kr)] := hl
  have hH := rfl (a := s.heap)
  refine lv_aload_n hx hb dX5_today_0 rfl (lv_at hl 0 rfl) ?_
  refine my_get hx hb hts inAX5 hown hK hP 0 rfl rfl 10 (by decide) w_79 rfl rfl dX5_today_1 ?_
  have hres : iI (((dy : Nat) : Int)) = iI (((dy : Nat) : Int)) := congrArg iI (by
      rfl)
  exact W.iret hx hb hr (fun t ht hW => ⟨⟨_, (), rfl, hres, trivial⟩, hS.F ht⟩) hS.2.2 dX5_today_4

abbrev ws_X5_addShop : List Cond := Cond.code yX5_addShop cX5_addShop 2 (some .int) :: ALL
set_option maxHeartbeats 4000000 in
set_option maxRecDepth 100000 in
theorem m_X5_addShop (l : Launch) (hst : l.stackTraces = false) (D : va_G) (cs : Nat → ClassId) (kr la ia na b4 b6 b8 b10 sh it : Nat) (lc : Int) (dy : Nat) (pct lr sr : Int) (lf : Nat → Int) (zl : Int) (hsh : sh ≤ 4) (hzl : -2147483648 ≤ zl ∧ zl < 2147483648) : vx_Met l yX5_addShop ws_X5_addShop ({ frames := 6, cells := 1, slots := 6, locals := 82 }) (va_Pc [.ref kr, .int (iI (zl))] (PE D cs [(kr, .inr (5, [.ref la, .ref ia, .ref na, .ref b4, .ref b6, .ref b8, .ref b10, .int (iI (((sh : Nat) : Int))), .int (iI (((it : Nat) : Int))), .int (iI (lc)), .int (iI (((dy : Nat) : Int))), .int (iI (pct)), .int (iI (lr)), .int (iI (sr))])), (la, arI cs 4 lf)] (inW [(kr, .inr (5, [.ref la, .ref ia, .ref na, .ref b4, .ref b6, .ref b8, .ref b10, .int (iI (((sh : Nat) : Int))), .int (iI (((it : Nat) : Int))), .int (iI (lc)), .int (iI (((dy : Nat) : Int))), .int (iI (pct)), .int (iI (lr)), .int (iI (sr))])), (la, arI cs 4 lf)]))) (va_Qi (fun r (_ : Unit) => (if zl < 1 ∨ 5 < zl then 3 else if 4 ≤ sh then 4 else 0) = 0 ∧ r = iI (((sh : Nat) : Int))) (fun _ t => va_P D vwCl [(kr, .inr (5, [.ref la, .ref ia, .ref na, .ref b4, .ref b6, .ref b8, .ref b10, .int (iI ((((sh + 1) : Nat) : Int))), .int (iI (((it : Nat) : Int))), .int (iI (lc)), .int (iI (((dy : Nat) : Int))), .int (iI (pct)), .int (iI (lr)), .int (iI (sr))])), (la, arI cs 4 (upI lf sh zl))] t.heap) (inW [(kr, .inr (5, [.ref la, .ref ia, .ref na, .ref b4, .ref b6, .ref b8, .ref b10, .int (iI (((sh : Nat) : Int))), .int (iI (((it : Nat) : Int))), .int (iI (lc)), .int (iI (((dy : Nat) : Int))), .int (iI (pct)), .int (iI (lr)), .int (iI (sr))])), (la, arI cs 4 lf)])) (vx_X (fun (u : Nat) => u = (if zl < 1 ∨ 5 < zl then 3 else if 4 ≤ sh then 4 else 0) ∧ u ≠ 0) (fun E u t => E = exN u ∧ va_P D vwCl [(kr, .inr (5, [.ref la, .ref ia, .ref na, .ref b4, .ref b6, .ref b8, .ref b10, .int (iI (((sh : Nat) : Int))), .int (iI (((it : Nat) : Int))), .int (iI (lc)), .int (iI (((dy : Nat) : Int))), .int (iI (pct)), .int (iI (lr)), .int (iI (sr))])), (la, arI cs 4 lf)] t.heap) (inW [(kr, .inr (5, [.ref la, .ref ia, .ref na, .ref b4, .ref b6, .ref b8, .ref b10, .int (iI (((sh : Nat) : Int))), .int (iI (((it : Nat) : Int))), .int (iI (lc)), .int (iI (((dy : Nat) : Int))), .int (iI (pct)), .int (iI (lr)), .int (iI (sr))])), (la, arI cs 4 lf)])) 1 6 (inW [(kr, .inr (5, [.ref la, .ref ia, .ref na, .ref b4, .ref b6, .ref b8, .ref b10, .int (iI (((sh : Nat) : Int))), .int (iI (((it : Nat) : Int))), .int (iI (lc)), .int (iI (((dy : Nat) : Int))), .int (iI (pct)), .int (iI (lr)), .int (iI (sr))])), (la, arI cs 4 lf)]) := by
  refine vx_ofW (cc := cX5_addShop) (maxL := 2) (ret := (some .int)) (by decide +kernel) rfl ?_
  intro p e s m args below meth c s₁ B hml hnt hv
  obtain ⟨rfl, ⟨hP, hK, hD, hN⟩, hE⟩ := hv
  have hx := B.exec
  have hb := B.bytes
  have hr := B.returns
  have hts : ∀ w ∈ ALL, w.before _ s = true := fun w h => atoms_spec (ws := ws_X5_addShop) B.pre w (List.mem_cons_of_mem _ h)
  have hown : s.vm.findClass RX5 = some m.cls := findClass_of_methodNamed B.named
  have hlocks := B.notSynchronized
  generalize hAe : inW [(kr, .inr (5, [.ref la, .ref ia, .ref na, .ref b4, .ref b6, .ref b8, .ref b10, .int (iI (((sh : Nat) : Int))), .int (iI (((it : Nat) : Int))), .int (iI (lc)), .int (iI (((dy : Nat) : Int))), .int (iI (pct)), .int (iI (lr)), .int (iI (sr))])), (la, arI cs 4 lf)] = A at hD hE ⊢
  have hS : va_S A s.heap s.heap [] := va_S.rf
  have hl := lv_entry ([.ref kr, .int (iI (zl))]) (n := 2) (Nat.le_of_ble_eq_true rfl)
  rw [lg_entry_eq]
  generalize (lg_sl ([.ref kr, .int (iI (zl))]) ++ List.replicate (2 - (lg_sl ([.ref kr, .int (iI (zl))])).length) Slot.unset).toArray = ls at hl ⊢
  have hl : lv_has ls 2 [(0, .ref kr), (1, .int (iI (zl)))] := hl
  have hH := rfl (a := s.heap)
  refine lv_iload_n hx hb dX5_addShop_0 rfl (lv_at hl 1 rfl) ?_
  refine lv_iconst (v := iI (1)) hx hb dX5_addShop_1 rfl ?_
  refine my_icmp_lt (tgt := 10) hx hb (by omega) dX5_addShop_2 (by decide) (fun bh1 => ?_) (fun bh1 => ?_)
  · refine my_throw3 hx hb hst hts hown hE hS (hml.trans hl.1.symm) w_144 (List.mem_of_getElem? (i := 0) rfl) hnt hlocks dX5_addShop_10 dX5_addShop_13 dX5_addShop_14 dX5_addShop_16 dX5_addShop_19 (Nat.le_of_ble_eq_true rfl) (Nat.le_of_ble_eq_true rfl) (Nat.le_of_ble_eq_true rfl) (Nat.le_of_ble_eq_true rfl) (fun t H1 ht hz1 hk1 hS1 => ?_) hS.2.2 (Nat.le_of_ble_eq_true rfl) (Nat.le_of_ble_eq_true rfl)
    have hcode : 3 = (if zl < 1 ∨ 5 < zl then 3 else if 4 ≤ sh then 4 else 0) := by
        first | rw [if_pos (by omega)] | rw [if_neg (by omega), if_pos (by omega)]
    subst hAe
    exact ⟨3, ⟨hcode, by decide⟩, ⟨rfl, by show va_P D vwCl _ t.heap; rw [ht]; exact hP.kept (fun k q hq => hk1 q.1 (hP k q hq).lt)⟩, hS1.F ht⟩
  · refine lv_iload_n hx hb dX5_addShop_5 rfl (lv_at hl 1 rfl) ?_
    refine lv_iconst (v := iI (5)) hx hb dX5_addShop_6 rfl ?_
    refine my_icmp_le (tgt := 20) hx hb (by omega) dX5_addShop_7 (by decide) (fun bh2 => ?_) (fun bh2 => ?_)
    · refine lv_aload_n hx hb dX5_addShop_20 rfl (lv_at hl 0 rfl) ?_
      refine my_get hx hb hts inAX5 hown hK hP 0 rfl rfl 7 (by decide) w_76 rfl rfl dX5_addShop_21 ?_
      refine lv_aload_n hx hb dX5_addShop_24 rfl (lv_at hl 0 rfl) ?_
      refine my_get hx hb hts inAX5 hown hK hP 0 rfl rfl 0 (by decide) w_69 rfl rfl dX5_addShop_25 ?_
      refine my_alenI hx hb hK hP 1 rfl dX5_addShop_28 ?_
      refine my_icmp_lt (tgt := 42) hx hb (by omega) dX5_addShop_29 (by decide) (fun bh3 => ?_) (fun bh3 => ?_)
      · refine lv_aload_n hx hb dX5_addShop_42 rfl (lv_at hl 0 rfl) ?_
        refine my_get hx hb hts inAX5 hown hK hP 0 rfl rfl 0 (by decide) w_69 rfl rfl dX5_addShop_43 ?_
        refine lv_aload_n hx hb dX5_addShop_46 rfl (lv_at hl 0 rfl) ?_
        refine my_get hx hb hts inAX5 hown hK hP 0 rfl rfl 7 (by decide) w_76 rfl rfl dX5_addShop_47 ?_
        refine lv_iload_n hx hb dX5_addShop_50 rfl (lv_at hl 1 rfl) ?_
        refine my_iast hx hb hK hP hD hS 1 rfl (by omega) (k := sh) (Int.toNat_natCast _) dX5_addShop_51 (fun H locs hP hD hS => ?_)
        have hP : va_P D vwCl [(kr, .inr (5, [.ref la, .ref ia, .ref na, .ref b4, .ref b6, .ref b8, .ref b10, .int (iI (((sh : Nat) : Int))), .int (iI (((it : Nat) : Int))), .int (iI (lc)), .int (iI (((dy : Nat) : Int))), .int (iI (pct)), .int (iI (lr)), .int (iI (sr))])), (la, arI cs 4 (upI lf sh zl))] H := hP
        have hD : va_D A [(kr, .inr (5, [.ref la, .ref ia, .ref na, .ref b4, .ref b6, .ref b8, .ref b10, .int (iI (((sh : Nat) : Int))), .int (iI (((it : Nat) : Int))), .int (iI (lc)), .int (iI (((dy : Nat) : Int))), .int (iI (pct)), .int (iI (lr)), .int (iI (sr))])), (la, arI cs 4 (upI lf sh zl))] := hD
        refine lv_aload_n hx hb dX5_addShop_52 rfl (lv_at hl 0 rfl) ?_
        refine lv_dup hx hb dX5_addShop_53 rfl ?_
        refine my_get hx hb hts inAX5 hown hK hP 0 rfl rfl 7 (by decide) w_76 rfl rfl dX5_addShop_54 ?_
        refine lv_iconst (v := iI (1)) hx hb dX5_addShop_57 rfl ?_
        refine my_iadd (z := ((sh : Nat) : Int) + 1) hx hb dX5_addShop_58 (rfl) ?_
        refine my_cv0 (z := (((sh + 1) : Nat) : Int)) (by omega) ?_
        refine my_put hx hb hts inAX5 tyX5_ok nmX5 hown hK hP hD hS 0 rfl rfl 7 (by decide) w_76 rfl rfl rfl (Nat.le_of_ble_eq_true rfl) dX5_addShop_59 (fun H locs hP hD hS => ?_)
        have hP : va_P D vwCl [(kr, .inr (5, [.ref la, .ref ia, .ref na, .ref b4, .ref b6, .ref b8, .ref b10, .int (iI ((((sh + 1) : Nat) : Int))), .int (iI (((it : Nat) : Int))), .int (iI (lc)), .int (iI (((dy : Nat) : Int))), .int (iI (pct)), .int (iI (lr)), .int (iI (sr))])), (la, arI cs 4 (upI lf sh zl))] H := hP
        have hD : va_D A [(kr, .inr (5, [.ref la, .ref ia, .ref na, .ref b4, .ref b6, .ref b8, .ref b10, .int (iI ((((sh + 1) : Nat) : Int))), .int (iI (((it : Nat) : Int))), .int (iI (lc)), .int (iI (((dy : Nat) : Int))), .int (iI (pct)), .int (iI (lr)), .int (iI (sr))])), (la, arI cs 4 (upI lf sh zl))] := hD
        refine lv_aload_n hx hb dX5_addShop_62 rfl (lv_at hl 0 rfl) ?_
        refine my_get hx hb hts inAX5 hown hK hP 0 rfl rfl 7 (by decide) w_76 rfl rfl dX5_addShop_63 ?_
        refine lv_iconst (v := iI (1)) hx hb dX5_addShop_66 rfl ?_
        refine my_isub (z := (((sh + 1) : Nat) : Int) - 1) hx hb dX5_addShop_67 (rfl) ?_
        subst hAe
        refine vx_ret ?_
        refine W.widen (k := 1) (n := 6) (by omega) (by omega) ?_
        have hcode : (if zl < 1 ∨ 5 < zl then 3 else if 4 ≤ sh then 4 else 0) = 0 := by
            rw [if_neg (by omega), if_neg (by omega)]
        have hres : iI ((((sh + 1) : Nat) : Int) - 1) = iI (((sh : Nat) : Int)) := congrArg iI (by
            omega)
        exact W.iret hx hb hr (fun t ht hW => ⟨⟨_, (), rfl, ⟨hcode, hres⟩, by show va_P D vwCl _ t.heap; rw [ht]; exact hP⟩, hS.F ht⟩) hS.2.2 dX5_addShop_68
      · refine my_throw4 hx hb hst hts hown hE hS (hml.trans hl.1.symm) w_214 (List.mem_of_getElem? (i := 1) rfl) hnt hlocks dX5_addShop_32 dX5_addShop_35 dX5_addShop_36 dX5_addShop_38 dX5_addShop_41 (Nat.le_of_ble_eq_true rfl) (Nat.le_of_ble_eq_true rfl) (Nat.le_of_ble_eq_true rfl) (Nat.le_of_ble_eq_true rfl) (fun t H1 ht hz1 hk1 hS1 => ?_) hS.2.2 (Nat.le_of_ble_eq_true rfl) (Nat.le_of_ble_eq_true rfl)
        have hcode : 4 = (if zl < 1 ∨ 5 < zl then 3 else if 4 ≤ sh then 4 else 0) := by
            first | rw [if_pos (by omega)] | rw [if_neg (by omega), if_pos (by omega)]
        subst hAe
        exact ⟨4, ⟨hcode, by decide⟩, ⟨rfl, by show va_P D vwCl _ t.heap; rw [ht]; exact hP.kept (fun k q hq => hk1 q.1 (hP k q hq).lt)⟩, hS1.F ht⟩
    · refine my_throw3 hx hb hst hts hown hE hS (hml.trans hl.1.symm) w_144 (List.mem_of_getElem? (i := 0) rfl) hnt hlocks dX5_addShop_10 dX5_addShop_13 dX5_addShop_14 dX5_addShop_16 dX5_addShop_19 (Nat.le_of_ble_eq_true rfl) (Nat.le_of_ble_eq_true rfl) (Nat.le_of_ble_eq_true rfl) (Nat.le_of_ble_eq_true rfl) (fun t H1 ht hz1 hk1 hS1 => ?_) hS.2.2 (Nat.le_of_ble_eq_true rfl) (Nat.le_of_ble_eq_true rfl)
      have hcode : 3 = (if zl < 1 ∨ 5 < zl then 3 else if 4 ≤ sh then 4 else 0) := by
          first | rw [if_pos (by omega)] | rw [if_neg (by omega), if_pos (by omega)]
      subst hAe
      exact ⟨3, ⟨hcode, by decide⟩, ⟨rfl, by show va_P D vwCl _ t.heap; rw [ht]; exact hP.kept (fun k q hq => hk1 q.1 (hP k q hq).lt)⟩, hS1.F ht⟩

abbrev ws_X5_setService : List Cond := Cond.code yX5_setService cX5_setService 3 (some .int) :: ALL
set_option maxHeartbeats 4000000 in
set_option maxRecDepth 100000 in
theorem m_X5_setService (l : Launch) (hst : l.stackTraces = false) (D : va_G) (cs : Nat → ClassId) (kr la ia na b4 b6 b8 b10 sh it : Nat) (lc : Int) (dy : Nat) (pct lr sr : Int) (zl : Int) (hzl : -2147483648 ≤ zl ∧ zl < 2147483648) : vx_Met l yX5_setService ws_X5_setService ({ frames := 6, cells := 1, slots := 6, locals := 82 }) (va_Pc [.ref kr, .int (iI (zl))] (PE D cs [(kr, .inr (5, [.ref la, .ref ia, .ref na, .ref b4, .ref b6, .ref b8, .ref b10, .int (iI (((sh : Nat) : Int))), .int (iI (((it : Nat) : Int))), .int (iI (lc)), .int (iI (((dy : Nat) : Int))), .int (iI (pct)), .int (iI (lr)), .int (iI (sr))]))] (inW [(kr, .inr (5, [.ref la, .ref ia, .ref na, .ref b4, .ref b6, .ref b8, .ref b10, .int (iI (((sh : Nat) : Int))), .int (iI (((it : Nat) : Int))), .int (iI (lc)), .int (iI (((dy : Nat) : Int))), .int (iI (pct)), .int (iI (lr)), .int (iI (sr))]))]))) (va_Qi (fun r (_ : Unit) => (if zl < 1 ∨ 100 < zl then 3 else 0) = 0 ∧ r = iI (pct)) (fun _ t => va_P D vwCl [(kr, .inr (5, [.ref la, .ref ia, .ref na, .ref b4, .ref b6, .ref b8, .ref b10, .int (iI (((sh : Nat) : Int))), .int (iI (((it : Nat) : Int))), .int (iI (lc)), .int (iI (((dy : Nat) : Int))), .int (iI (zl)), .int (iI (lr)), .int (iI (sr))]))] t.heap) (inW [(kr, .inr (5, [.ref la, .ref ia, .ref na, .ref b4, .ref b6, .ref b8, .ref b10, .int (iI (((sh : Nat) : Int))), .int (iI (((it : Nat) : Int))), .int (iI (lc)), .int (iI (((dy : Nat) : Int))), .int (iI (pct)), .int (iI (lr)), .int (iI (sr))]))])) (vx_X (fun (u : Nat) => u = (if zl < 1 ∨ 100 < zl then 3 else 0) ∧ u ≠ 0) (fun E u t => E = exN u ∧ va_P D vwCl [(kr, .inr (5, [.ref la, .ref ia, .ref na, .ref b4, .ref b6, .ref b8, .ref b10, .int (iI (((sh : Nat) : Int))), .int (iI (((it : Nat) : Int))), .int (iI (lc)), .int (iI (((dy : Nat) : Int))), .int (iI (pct)), .int (iI (lr)), .int (iI (sr))]))] t.heap) (inW [(kr, .inr (5, [.ref la, .ref ia, .ref na, .ref b4, .ref b6, .ref b8, .ref b10, .int (iI (((sh : Nat) : Int))), .int (iI (((it : Nat) : Int))), .int (iI (lc)), .int (iI (((dy : Nat) : Int))), .int (iI (pct)), .int (iI (lr)), .int (iI (sr))]))])) 1 6 (inW [(kr, .inr (5, [.ref la, .ref ia, .ref na, .ref b4, .ref b6, .ref b8, .ref b10, .int (iI (((sh : Nat) : Int))), .int (iI (((it : Nat) : Int))), .int (iI (lc)), .int (iI (((dy : Nat) : Int))), .int (iI (pct)), .int (iI (lr)), .int (iI (sr))]))]) := by
  refine vx_ofW (cc := cX5_setService) (maxL := 3) (ret := (some .int)) (by decide +kernel) rfl ?_
  intro p e s m args below meth c s₁ B hml hnt hv
  obtain ⟨rfl, ⟨hP, hK, hD, hN⟩, hE⟩ := hv
  have hx := B.exec
  have hb := B.bytes
  have hr := B.returns
  have hts : ∀ w ∈ ALL, w.before _ s = true := fun w h => atoms_spec (ws := ws_X5_setService) B.pre w (List.mem_cons_of_mem _ h)
  have hown : s.vm.findClass RX5 = some m.cls := findClass_of_methodNamed B.named
  have hlocks := B.notSynchronized
  generalize hAe : inW [(kr, .inr (5, [.ref la, .ref ia, .ref na, .ref b4, .ref b6, .ref b8, .ref b10, .int (iI (((sh : Nat) : Int))), .int (iI (((it : Nat) : Int))), .int (iI (lc)), .int (iI (((dy : Nat) : Int))), .int (iI (pct)), .int (iI (lr)), .int (iI (sr))]))] = A at hD hE ⊢
  have hS : va_S A s.heap s.heap [] := va_S.rf
  have hl := lv_entry ([.ref kr, .int (iI (zl))]) (n := 3) (Nat.le_of_ble_eq_true rfl)
  rw [lg_entry_eq]
  generalize (lg_sl ([.ref kr, .int (iI (zl))]) ++ List.replicate (3 - (lg_sl ([.ref kr, .int (iI (zl))])).length) Slot.unset).toArray = ls at hl ⊢
  have hl : lv_has ls 3 [(0, .ref kr), (1, .int (iI (zl)))] := hl
  have hH := rfl (a := s.heap)
  refine lv_iload_n hx hb dX5_setService_0 rfl (lv_at hl 1 rfl) ?_
  refine lv_iconst (v := iI (1)) hx hb dX5_setService_1 rfl ?_
  refine my_icmp_lt (tgt := 11) hx hb (by omega) dX5_setService_2 (by decide) (fun bh1 => ?_) (fun bh1 => ?_)
  · refine my_throw3 hx hb hst hts hown hE hS (hml.trans hl.1.symm) w_144 (List.mem_of_getElem? (i := 10) rfl) hnt hlocks dX5_setService_11 dX5_setService_14 dX5_setService_15 dX5_setService_17 dX5_setService_20 (Nat.le_of_ble_eq_true rfl) (Nat.le_of_ble_eq_true rfl) (Nat.le_of_ble_eq_true rfl) (Nat.le_of_ble_eq_true rfl) (fun t H1 ht hz1 hk1 hS1 => ?_) hS.2.2 (Nat.le_of_ble_eq_true rfl) (Nat.le_of_ble_eq_true rfl)
    have hcode : 3 = (if zl < 1 ∨ 100 < zl then 3 else 0) := by
        rw [if_pos (by omega)]
    subst hAe
    exact ⟨3, ⟨hcode, by decide⟩, ⟨rfl, by show va_P D vwCl _ t.heap; rw [ht]; exact hP.kept (fun k q hq => hk1 q.1 (hP k q hq).lt)⟩, hS1.F ht⟩
  · refine lv_iload_n hx hb dX5_setService_5 rfl (lv_at hl 1 rfl) ?_
    refine lv_bipush (v := iI (100)) hx hb dX5_setService_6 (by decide) ?_
    refine my_icmp_le (tgt := 21) hx hb (by omega) dX5_setService_8 (by decide) (fun bh2 => ?_) (fun bh2 => ?_)
    · refine lv_aload_n hx hb dX5_setService_21 rfl (lv_at hl 0 rfl) ?_
      refine my_get hx hb hts inAX5 hown hK hP 0 rfl rfl 11 (by decide) w_80 rfl rfl dX5_setService_22 ?_
      refine lv_istore_n (lv' := [(2, .int (iI (pct))), (0, .ref kr), (1, .int (iI (zl)))]) hx hb dX5_setService_25 rfl hl (by decide) rfl (fun ls hl => ?_)
      refine lv_aload_n hx hb dX5_setService_26 rfl (lv_at hl 1 rfl) ?_
      refine lv_iload_n hx hb dX5_setService_27 rfl (lv_at hl 2 rfl) ?_
      refine my_put hx hb hts inAX5 tyX5_ok nmX5 hown hK hP hD hS 0 rfl rfl 11 (by decide) w_80 rfl rfl rfl (Nat.le_of_ble_eq_true rfl) dX5_setService_28 (fun H locs hP hD hS => ?_)
      have hP : va_P D vwCl [(kr, .inr (5, [.ref la, .ref ia, .ref na, .ref b4, .ref b6, .ref b8, .ref b10, .int (iI (((sh : Nat) : Int))), .int (iI (((it : Nat) : Int))), .int (iI (lc)), .int (iI (((dy : Nat) : Int))), .int (iI (zl)), .int (iI (lr)), .int (iI (sr))]))] H := hP
      have hD : va_D A [(kr, .inr (5, [.ref la, .ref ia, .ref na, .ref b4, .ref b6, .ref b8, .ref b10, .int (iI (((sh : Nat) : Int))), .int (iI (((it : Nat) : Int))), .int (iI (lc)), .int (iI (((dy : Nat) : Int))), .int (iI (zl)), .int (iI (lr)), .int (iI (sr))]))] := hD
      refine lv_iload_n hx hb dX5_setService_31 rfl (lv_at hl 0 rfl) ?_
      subst hAe
      refine vx_ret ?_
      refine W.widen (k := 1) (n := 6) (by omega) (by omega) ?_
      have hcode : (if zl < 1 ∨ 100 < zl then 3 else 0) = 0 := by
          rw [if_neg (by omega)]
      have hres : iI (pct) = iI (pct) := congrArg iI (by
          rfl)
      exact W.iret hx hb hr (fun t ht hW => ⟨⟨_, (), rfl, ⟨hcode, hres⟩, by show va_P D vwCl _ t.heap; rw [ht]; exact hP⟩, hS.F ht⟩) hS.2.2 dX5_setService_32
    · refine my_throw3 hx hb hst hts hown hE hS (hml.trans hl.1.symm) w_144 (List.mem_of_getElem? (i := 10) rfl) hnt hlocks dX5_setService_11 dX5_setService_14 dX5_setService_15 dX5_setService_17 dX5_setService_20 (Nat.le_of_ble_eq_true rfl) (Nat.le_of_ble_eq_true rfl) (Nat.le_of_ble_eq_true rfl) (Nat.le_of_ble_eq_true rfl) (fun t H1 ht hz1 hk1 hS1 => ?_) hS.2.2 (Nat.le_of_ble_eq_true rfl) (Nat.le_of_ble_eq_true rfl)
      have hcode : 3 = (if zl < 1 ∨ 100 < zl then 3 else 0) := by
          rw [if_pos (by omega)]
      subst hAe
      exact ⟨3, ⟨hcode, by decide⟩, ⟨rfl, by show va_P D vwCl _ t.heap; rw [ht]; exact hP.kept (fun k q hq => hk1 q.1 (hP k q hq).lt)⟩, hS1.F ht⟩

abbrev ws_X5_setRates : List Cond := Cond.code yX5_setRates cX5_setRates 4 (some .int) :: ALL
set_option maxHeartbeats 4000000 in
set_option maxRecDepth 100000 in
theorem m_X5_setRates (l : Launch) (hst : l.stackTraces = false) (D : va_G) (cs : Nat → ClassId) (kr la ia na b4 b6 b8 b10 sh it : Nat) (lc : Int) (dy : Nat) (pct lr sr : Int) (zl zm : Int) (hzl : -2147483648 ≤ zl ∧ zl < 2147483648) (hzm : -2147483648 ≤ zm ∧ zm < 2147483648) : vx_Met l yX5_setRates ws_X5_setRates ({ frames := 6, cells := 1, slots := 6, locals := 82 }) (va_Pc [.ref kr, .int (iI (zl)), .int (iI (zm))] (PE D cs [(kr, .inr (5, [.ref la, .ref ia, .ref na, .ref b4, .ref b6, .ref b8, .ref b10, .int (iI (((sh : Nat) : Int))), .int (iI (((it : Nat) : Int))), .int (iI (lc)), .int (iI (((dy : Nat) : Int))), .int (iI (pct)), .int (iI (lr)), .int (iI (sr))]))] (inW [(kr, .inr (5, [.ref la, .ref ia, .ref na, .ref b4, .ref b6, .ref b8, .ref b10, .int (iI (((sh : Nat) : Int))), .int (iI (((it : Nat) : Int))), .int (iI (lc)), .int (iI (((dy : Nat) : Int))), .int (iI (pct)), .int (iI (lr)), .int (iI (sr))]))]))) (va_Qi (fun r (_ : Unit) => (if (zl < 0 ∨ 100 < zl) ∨ (zm < 0 ∨ 100 < zm) then 3 else 0) = 0 ∧ r = iI (lr)) (fun _ t => va_P D vwCl [(kr, .inr (5, [.ref la, .ref ia, .ref na, .ref b4, .ref b6, .ref b8, .ref b10, .int (iI (((sh : Nat) : Int))), .int (iI (((it : Nat) : Int))), .int (iI (lc)), .int (iI (((dy : Nat) : Int))), .int (iI (pct)), .int (iI (zl)), .int (iI (zm))]))] t.heap) (inW [(kr, .inr (5, [.ref la, .ref ia, .ref na, .ref b4, .ref b6, .ref b8, .ref b10, .int (iI (((sh : Nat) : Int))), .int (iI (((it : Nat) : Int))), .int (iI (lc)), .int (iI (((dy : Nat) : Int))), .int (iI (pct)), .int (iI (lr)), .int (iI (sr))]))])) (vx_X (fun (u : Nat) => u = (if (zl < 0 ∨ 100 < zl) ∨ (zm < 0 ∨ 100 < zm) then 3 else 0) ∧ u ≠ 0) (fun E u t => E = exN u ∧ va_P D vwCl [(kr, .inr (5, [.ref la, .ref ia, .ref na, .ref b4, .ref b6, .ref b8, .ref b10, .int (iI (((sh : Nat) : Int))), .int (iI (((it : Nat) : Int))), .int (iI (lc)), .int (iI (((dy : Nat) : Int))), .int (iI (pct)), .int (iI (lr)), .int (iI (sr))]))] t.heap) (inW [(kr, .inr (5, [.ref la, .ref ia, .ref na, .ref b4, .ref b6, .ref b8, .ref b10, .int (iI (((sh : Nat) : Int))), .int (iI (((it : Nat) : Int))), .int (iI (lc)), .int (iI (((dy : Nat) : Int))), .int (iI (pct)), .int (iI (lr)), .int (iI (sr))]))])) 1 6 (inW [(kr, .inr (5, [.ref la, .ref ia, .ref na, .ref b4, .ref b6, .ref b8, .ref b10, .int (iI (((sh : Nat) : Int))), .int (iI (((it : Nat) : Int))), .int (iI (lc)), .int (iI (((dy : Nat) : Int))), .int (iI (pct)), .int (iI (lr)), .int (iI (sr))]))]) := by
  refine vx_ofW (cc := cX5_setRates) (maxL := 4) (ret := (some .int)) (by decide +kernel) rfl ?_
  intro p e s m args below meth c s₁ B hml hnt hv
  obtain ⟨rfl, ⟨hP, hK, hD, hN⟩, hE⟩ := hv
  have hx := B.exec
  have hb := B.bytes
  have hr := B.returns
  have hts : ∀ w ∈ ALL, w.before _ s = true := fun w h => atoms_spec (ws := ws_X5_setRates) B.pre w (List.mem_cons_of_mem _ h)
  have hown : s.vm.findClass RX5 = some m.cls := findClass_of_methodNamed B.named
  have hlocks := B.notSynchronized
  generalize hAe : inW [(kr, .inr (5, [.ref la, .ref ia, .ref na, .ref b4, .ref b6, .ref b8, .ref b10, .int (iI (((sh : Nat) : Int))), .int (iI (((it : Nat) : Int))), .int (iI (lc)), .int (iI (((dy : Nat) : Int))), .int (iI (pct)), .int (iI (lr)), .int (iI (sr))]))] = A at hD hE ⊢
  have hS : va_S A s.heap s.heap [] := va_S.rf
  have hl := lv_entry ([.ref kr, .int (iI (zl)), .int (iI (zm))]) (n := 4) (Nat.le_of_ble_eq_true rfl)
  rw [lg_entry_eq]
  generalize (lg_sl ([.ref kr, .int (iI (zl)), .int (iI (zm))]) ++ List.replicate (4 - (lg_sl ([.ref kr, .int (iI (zl)), .int (iI (zm))])).length) Slot.unset).toArray = ls at hl ⊢
  have hl : lv_has ls 4 [(0, .ref kr), (1, .int (iI (zl))), (2, .int (iI (zm)))] := hl
  have hH := rfl (a := s.heap)
  refine lv_iload_n hx hb dX5_setRates_0 rfl (lv_at hl 1 rfl) ?_
  refine my_if_lt (tgt := 10) hx hb (by omega) dX5_setRates_1 (by decide) (fun bh1 => ?_) (fun bh1 => ?_)
  · refine my_throw3 hx hb hst hts hown hE hS (hml.trans hl.1.symm) w_144 (List.mem_of_getElem? (i := 11) rfl) hnt hlocks dX5_setRates_10 dX5_setRates_13 dX5_setRates_14 dX5_setRates_16 dX5_setRates_19 (Nat.le_of_ble_eq_true rfl) (Nat.le_of_ble_eq_true rfl) (Nat.le_of_ble_eq_true rfl) (Nat.le_of_ble_eq_true rfl) (fun t H1 ht hz1 hk1 hS1 => ?_) hS.2.2 (Nat.le_of_ble_eq_true rfl) (Nat.le_of_ble_eq_true rfl)
    have hcode : 3 = (if (zl < 0 ∨ 100 < zl) ∨ (zm < 0 ∨ 100 < zm) then 3 else 0) := by
        rw [if_pos (by omega)]
    subst hAe
    exact ⟨3, ⟨hcode, by decide⟩, ⟨rfl, by show va_P D vwCl _ t.heap; rw [ht]; exact hP.kept (fun k q hq => hk1 q.1 (hP k q hq).lt)⟩, hS1.F ht⟩
  · refine lv_iload_n hx hb dX5_setRates_4 rfl (lv_at hl 1 rfl) ?_
    refine lv_bipush (v := iI (100)) hx hb dX5_setRates_5 (by decide) ?_
    refine my_icmp_le (tgt := 20) hx hb (by omega) dX5_setRates_7 (by decide) (fun bh2 => ?_) (fun bh2 => ?_)
    · refine lv_iload_n hx hb dX5_setRates_20 rfl (lv_at hl 2 rfl) ?_
      refine my_if_lt (tgt := 30) hx hb (by omega) dX5_setRates_21 (by decide) (fun bh3 => ?_) (fun bh3 => ?_)
      · refine my_throw3 hx hb hst hts hown hE hS (hml.trans hl.1.symm) w_144 (List.mem_of_getElem? (i := 12) rfl) hnt hlocks dX5_setRates_30 dX5_setRates_33 dX5_setRates_34 dX5_setRates_36 dX5_setRates_39 (Nat.le_of_ble_eq_true rfl) (Nat.le_of_ble_eq_true rfl) (Nat.le_of_ble_eq_true rfl) (Nat.le_of_ble_eq_true rfl) (fun t H1 ht hz1 hk1 hS1 => ?_) hS.2.2 (Nat.le_of_ble_eq_true rfl) (Nat.le_of_ble_eq_true rfl)
        have hcode : 3 = (if (zl < 0 ∨ 100 < zl) ∨ (zm < 0 ∨ 100 < zm) then 3 else 0) := by
            rw [if_pos (by omega)]
        subst hAe
        exact ⟨3, ⟨hcode, by decide⟩, ⟨rfl, by show va_P D vwCl _ t.heap; rw [ht]; exact hP.kept (fun k q hq => hk1 q.1 (hP k q hq).lt)⟩, hS1.F ht⟩
      · refine lv_iload_n hx hb dX5_setRates_24 rfl (lv_at hl 2 rfl) ?_
        refine lv_bipush (v := iI (100)) hx hb dX5_setRates_25 (by decide) ?_
        refine my_icmp_le (tgt := 40) hx hb (by omega) dX5_setRates_27 (by decide) (fun bh4 => ?_) (fun bh4 => ?_)
        · refine lv_aload_n hx hb dX5_setRates_40 rfl (lv_at hl 0 rfl) ?_
          refine my_get hx hb hts inAX5 hown hK hP 0 rfl rfl 12 (by decide) w_81 rfl rfl dX5_setRates_41 ?_
          refine lv_istore_n (lv' := [(3, .int (iI (lr))), (0, .ref kr), (1, .int (iI (zl))), (2, .int (iI (zm)))]) hx hb dX5_setRates_44 rfl hl (by decide) rfl (fun ls hl => ?_)
          refine lv_aload_n hx hb dX5_setRates_45 rfl (lv_at hl 1 rfl) ?_
          refine lv_iload_n hx hb dX5_setRates_46 rfl (lv_at hl 2 rfl) ?_
          refine my_put hx hb hts inAX5 tyX5_ok nmX5 hown hK hP hD hS 0 rfl rfl 12 (by decide) w_81 rfl rfl rfl (Nat.le_of_ble_eq_true rfl) dX5_setRates_47 (fun H locs hP hD hS => ?_)
          have hP : va_P D vwCl [(kr, .inr (5, [.ref la, .ref ia, .ref na, .ref b4, .ref b6, .ref b8, .ref b10, .int (iI (((sh : Nat) : Int))), .int (iI (((it : Nat) : Int))), .int (iI (lc)), .int (iI (((dy : Nat) : Int))), .int (iI (pct)), .int (iI (zl)), .int (iI (sr))]))] H := hP
          have hD : va_D A [(kr, .inr (5, [.ref la, .ref ia, .ref na, .ref b4, .ref b6, .ref b8, .ref b10, .int (iI (((sh : Nat) : Int))), .int (iI (((it : Nat) : Int))), .int (iI (lc)), .int (iI (((dy : Nat) : Int))), .int (iI (pct)), .int (iI (zl)), .int (iI (sr))]))] := hD
          refine lv_aload_n hx hb dX5_setRates_50 rfl (lv_at hl 1 rfl) ?_
          refine lv_iload_n hx hb dX5_setRates_51 rfl (lv_at hl 3 rfl) ?_
          refine my_put hx hb hts inAX5 tyX5_ok nmX5 hown hK hP hD hS 0 rfl rfl 13 (by decide) w_82 rfl rfl rfl (Nat.le_of_ble_eq_true rfl) dX5_setRates_52 (fun H locs hP hD hS => ?_)
          have hP : va_P D vwCl [(kr, .inr (5, [.ref la, .ref ia, .ref na, .ref b4, .ref b6, .ref b8, .ref b10, .int (iI (((sh : Nat) : Int))), .int (iI (((it : Nat) : Int))), .int (iI (lc)), .int (iI (((dy : Nat) : Int))), .int (iI (pct)), .int (iI (zl)), .int (iI (zm))]))] H := hP
          have hD : va_D A [(kr, .inr (5, [.ref la, .ref ia, .ref na, .ref b4, .ref b6, .ref b8, .ref b10, .int (iI (((sh : Nat) : Int))), .int (iI (((it : Nat) : Int))), .int (iI (lc)), .int (iI (((dy : Nat) : Int))), .int (iI (pct)), .int (iI (zl)), .int (iI (zm))]))] := hD
          refine lv_iload_n hx hb dX5_setRates_55 rfl (lv_at hl 0 rfl) ?_
          subst hAe
          refine vx_ret ?_
          refine W.widen (k := 1) (n := 6) (by omega) (by omega) ?_
          have hcode : (if (zl < 0 ∨ 100 < zl) ∨ (zm < 0 ∨ 100 < zm) then 3 else 0) = 0 := by
              rw [if_neg (by omega)]
          have hres : iI (lr) = iI (lr) := congrArg iI (by
              rfl)
          exact W.iret hx hb hr (fun t ht hW => ⟨⟨_, (), rfl, ⟨hcode, hres⟩, by show va_P D vwCl _ t.heap; rw [ht]; exact hP⟩, hS.F ht⟩) hS.2.2 dX5_setRates_56
        · refine my_throw3 hx hb hst hts hown hE hS (hml.trans hl.1.symm) w_144 (List.mem_of_getElem? (i := 12) rfl) hnt hlocks dX5_setRates_30 dX5_setRates_33 dX5_setRates_34 dX5_setRates_36 dX5_setRates_39 (Nat.le_of_ble_eq_true rfl) (Nat.le_of_ble_eq_true rfl) (Nat.le_of_ble_eq_true rfl) (Nat.le_of_ble_eq_true rfl) (fun t H1 ht hz1 hk1 hS1 => ?_) hS.2.2 (Nat.le_of_ble_eq_true rfl) (Nat.le_of_ble_eq_true rfl)
          have hcode : 3 = (if (zl < 0 ∨ 100 < zl) ∨ (zm < 0 ∨ 100 < zm) then 3 else 0) := by
              rw [if_pos (by omega)]
          subst hAe
          exact ⟨3, ⟨hcode, by decide⟩, ⟨rfl, by show va_P D vwCl _ t.heap; rw [ht]; exact hP.kept (fun k q hq => hk1 q.1 (hP k q hq).lt)⟩, hS1.F ht⟩
    · refine my_throw3 hx hb hst hts hown hE hS (hml.trans hl.1.symm) w_144 (List.mem_of_getElem? (i := 11) rfl) hnt hlocks dX5_setRates_10 dX5_setRates_13 dX5_setRates_14 dX5_setRates_16 dX5_setRates_19 (Nat.le_of_ble_eq_true rfl) (Nat.le_of_ble_eq_true rfl) (Nat.le_of_ble_eq_true rfl) (Nat.le_of_ble_eq_true rfl) (fun t H1 ht hz1 hk1 hS1 => ?_) hS.2.2 (Nat.le_of_ble_eq_true rfl) (Nat.le_of_ble_eq_true rfl)
      have hcode : 3 = (if (zl < 0 ∨ 100 < zl) ∨ (zm < 0 ∨ 100 < zm) then 3 else 0) := by
          rw [if_pos (by omega)]
      subst hAe
      exact ⟨3, ⟨hcode, by decide⟩, ⟨rfl, by show va_P D vwCl _ t.heap; rw [ht]; exact hP.kept (fun k q hq => hk1 q.1 (hP k q hq).lt)⟩, hS1.F ht⟩

abbrev ws_X5_centre : List Cond := Cond.code yX5_centre cX5_centre 2 (some .int) :: ALL
set_option maxHeartbeats 4000000 in
set_option maxRecDepth 100000 in
theorem m_X5_centre_no (l : Launch) (hst : l.stackTraces = false) (D : va_G) (cs : Nat → ClassId) (kr la ia na b4 b6 b8 b10 sh it : Nat) (lc : Int) (dy : Nat) (pct lr sr : Int) (itf : Nat → Option Nat) (zi : Int) (hit : it ≤ 5) (hitf : ∀ j, j < it → itf j ≠ none) (hzi : -2147483648 ≤ zi ∧ zi < 2147483648) (hno : cdS it zi ≠ 0) : vx_Met l yX5_centre ws_X5_centre ({ frames := 7, cells := 1, slots := 6, locals := 104 }) (va_Pc [.ref kr, .int (iI (zi))] (PE D cs [(kr, .inr (5, [.ref la, .ref ia, .ref na, .ref b4, .ref b6, .ref b8, .ref b10, .int (iI (((sh : Nat) : Int))), .int (iI (((it : Nat) : Int))), .int (iI (lc)), .int (iI (((dy : Nat) : Int))), .int (iI (pct)), .int (iI (lr)), .int (iI (sr))])), (ia, arQ cs 2 5 itf)] noA)) (va_Qi (fun r (_ : Unit) => cdS it zi = 0 ∧ r = iI (0)) (fun _ _ => True) noA) (vx_X (fun (u : Nat) => u = cdS it zi ∧ u ≠ 0) (fun E u _ => E = exN u) noA) 1 6 noA := by
  refine vx_ofW (cc := cX5_centre) (maxL := 2) (ret := (some .int)) (by decide +kernel) rfl ?_
  intro p e s m args below meth c s₁ B hml hnt hv
  obtain ⟨rfl, ⟨hP, hK, hD, hN⟩, hE⟩ := hv
  have hx := B.exec
  have hb := B.bytes
  have hr := B.returns
  have hts : ∀ w ∈ ALL, w.before _ s = true := fun w h => atoms_spec (ws := ws_X5_centre) B.pre w (List.mem_cons_of_mem _ h)
  have hown : s.vm.findClass RX5 = some m.cls := findClass_of_methodNamed B.named
  have hlocks := B.notSynchronized
  have hS : va_S noA s.heap s.heap [] := va_S.rf
  generalize inW [(kr, .inr (5, [.ref la, .ref ia, .ref na, .ref b4, .ref b6, .ref b8, .ref b10, .int (iI (((sh : Nat) : Int))), .int (iI (((it : Nat) : Int))), .int (iI (lc)), .int (iI (((dy : Nat) : Int))), .int (iI (pct)), .int (iI (lr)), .int (iI (sr))])), (ia, arQ cs 2 5 itf)] = A at hD
  have hl := lv_entry ([.ref kr, .int (iI (zi))]) (n := 2) (Nat.le_of_ble_eq_true rfl)
  rw [lg_entry_eq]
  generalize (lg_sl ([.ref kr, .int (iI (zi))]) ++ List.replicate (2 - (lg_sl ([.ref kr, .int (iI (zi))])).length) Slot.unset).toArray = ls at hl ⊢
  have hl : lv_has ls 2 [(0, .ref kr), (1, .int (iI (zi)))] := hl
  have hH := rfl (a := s.heap)
  refine lv_aload_n hx hb dX5_centre_0 rfl (lv_at hl 0 rfl) ?_
  refine lv_iload_n hx hb dX5_centre_1 rfl (lv_at hl 1 rfl) ?_
  have pk1 : picks [(kr, .inr (5, [.ref la, .ref ia, .ref na, .ref b4, .ref b6, .ref b8, .ref b10, .int (iI (((sh : Nat) : Int))), .int (iI (((it : Nat) : Int))), .int (iI (lc)), .int (iI (((dy : Nat) : Int))), .int (iI (pct)), .int (iI (lr)), .int (iI (sr))])), (ia, arQ cs 2 5 itf)] [0, 1] [(kr, .inr (5, [.ref la, .ref ia, .ref na, .ref b4, .ref b6, .ref b8, .ref b10, .int (iI (((sh : Nat) : Int))), .int (iI (((it : Nat) : Int))), .int (iI (lc)), .int (iI (((dy : Nat) : Int))), .int (iI (pct)), .int (iI (lr)), .int (iI (sr))])), (ia, arQ cs 2 5 itf)] := ⟨rfl, rfl, trivial⟩
  refine vx_callq (vx_runV (As := [.int (iI (zi))]) (rest := []) ⟨hx, hb, hml, hown, hts⟩ (m_X5_requireItem l hst D cs kr la ia na b4 b6 b8 b10 sh it lc dy pct lr sr itf zi (by assumption) (by assumption) (by omega)) (cwV 1 hts (gV w_301 w_303 w_p3 w_1 w_304) rfl rfl rfl (by decide +kernel) ⟨Nat.le_of_ble_eq_true rfl, Nat.le_of_ble_eq_true rfl⟩) (PE_V hK hN hE hS (fun _ h => False.elim h) hP hD [0, 1] rfl pk1 rfl rfl) rfl rfl hl.1 rfl (lv_room (Nat.le_of_ble_eq_true rfl)) dX5_centre_2 ⟨Nat.le_of_ble_eq_true rfl, Nat.le_of_ble_eq_true rfl⟩) hS (fun _ _ h => False.elim h) (fun _ h => False.elim h) (fun _ _ h => False.elim h) (fun E ce q9 u t H1 locs1 ht hvm hpx hBX hz1 hk1 hS1 hce hcv hcl => ?_) (fun r u t H locs ht hvm hw hB hz1 hk1 hS => ?_)
  · have hcode : u = cdS it zi := by
        have h9 : u = cdS it zi := hpx.1
        have h10 : u ≠ 0 := hpx.2
        exact h9
    exact vx_out (fun x hx => (hnt x hx).elim) hlocks hce hcv hcl (fun t2 ht2 _ => ⟨u, ⟨hcode, hpx.2⟩, hBX, hS1.F ht2⟩) hS1.2.2 (Nat.le_of_ble_eq_true rfl) (Nat.le_of_ble_eq_true rfl)
  obtain ⟨hc2, hw⟩ := hw
  subst hw
  have hP := P_kept hP hk1
  have hci := cdS_s it zi
  exact absurd hc2 hno

set_option maxHeartbeats 4000000 in
set_option maxRecDepth 100000 in
theorem m_X5_centre_ok (l : Launch) (hst : l.stackTraces = false) (D : va_G) (cs : Nat → ClassId) (kr la ia na b4 b6 b8 b10 sh it : Nat) (lc : Int) (dy : Nat) (pct lr sr : Int) (itf : Nat → Option Nat) (tn : Nat) (hi ti go pr : Nat) (pk fs st : Int) (hit : it ≤ 5) (hitf : ∀ j, j < it → itf j ≠ none) (htn : tn < it) (hitn : itf tn = some hi) : vx_Met l yX5_centre ws_X5_centre ({ frames := 7, cells := 1, slots := 6, locals := 104 }) (va_Pc [.ref kr, .int (iI (((tn : Nat) : Int)))] (PE D cs [(kr, .inr (5, [.ref la, .ref ia, .ref na, .ref b4, .ref b6, .ref b8, .ref b10, .int (iI (((sh : Nat) : Int))), .int (iI (((it : Nat) : Int))), .int (iI (lc)), .int (iI (((dy : Nat) : Int))), .int (iI (pct)), .int (iI (lr)), .int (iI (sr))])), (ia, arQ cs 2 5 itf), (hi, .inr (1, [.int (iI (pk)), .int (iI (fs)), .ref ti, .ref go, .ref pr, .int (iI (st))]))] noA)) (va_Qi (fun r (_ : Unit) => 0 = 0 ∧ r = iI (st)) (fun _ _ => True) noA) (vx_X (fun (u : Nat) => u = 0 ∧ u ≠ 0) (fun E u _ => E = exN u) noA) 1 6 noA := by
  refine vx_ofW (cc := cX5_centre) (maxL := 2) (ret := (some .int)) (by decide +kernel) rfl ?_
  intro p e s m args below meth c s₁ B hml hnt hv
  obtain ⟨rfl, ⟨hP, hK, hD, hN⟩, hE⟩ := hv
  have hx := B.exec
  have hb := B.bytes
  have hr := B.returns
  have hts : ∀ w ∈ ALL, w.before _ s = true := fun w h => atoms_spec (ws := ws_X5_centre) B.pre w (List.mem_cons_of_mem _ h)
  have hown : s.vm.findClass RX5 = some m.cls := findClass_of_methodNamed B.named
  have hlocks := B.notSynchronized
  have hS : va_S noA s.heap s.heap [] := va_S.rf
  generalize inW [(kr, .inr (5, [.ref la, .ref ia, .ref na, .ref b4, .ref b6, .ref b8, .ref b10, .int (iI (((sh : Nat) : Int))), .int (iI (((it : Nat) : Int))), .int (iI (lc)), .int (iI (((dy : Nat) : Int))), .int (iI (pct)), .int (iI (lr)), .int (iI (sr))])), (ia, arQ cs 2 5 itf), (hi, .inr (1, [.int (iI (pk)), .int (iI (fs)), .ref ti, .ref go, .ref pr, .int (iI (st))]))] = A at hD
  have hl := lv_entry ([.ref kr, .int (iI (((tn : Nat) : Int)))]) (n := 2) (Nat.le_of_ble_eq_true rfl)
  rw [lg_entry_eq]
  generalize (lg_sl ([.ref kr, .int (iI (((tn : Nat) : Int)))]) ++ List.replicate (2 - (lg_sl ([.ref kr, .int (iI (((tn : Nat) : Int)))])).length) Slot.unset).toArray = ls at hl ⊢
  have hl : lv_has ls 2 [(0, .ref kr), (1, .int (iI (((tn : Nat) : Int))))] := hl
  have hH := rfl (a := s.heap)
  refine lv_aload_n hx hb dX5_centre_0 rfl (lv_at hl 0 rfl) ?_
  refine lv_iload_n hx hb dX5_centre_1 rfl (lv_at hl 1 rfl) ?_
  have pk1 : picks [(kr, .inr (5, [.ref la, .ref ia, .ref na, .ref b4, .ref b6, .ref b8, .ref b10, .int (iI (((sh : Nat) : Int))), .int (iI (((it : Nat) : Int))), .int (iI (lc)), .int (iI (((dy : Nat) : Int))), .int (iI (pct)), .int (iI (lr)), .int (iI (sr))])), (ia, arQ cs 2 5 itf), (hi, .inr (1, [.int (iI (pk)), .int (iI (fs)), .ref ti, .ref go, .ref pr, .int (iI (st))]))] [0, 1] [(kr, .inr (5, [.ref la, .ref ia, .ref na, .ref b4, .ref b6, .ref b8, .ref b10, .int (iI (((sh : Nat) : Int))), .int (iI (((it : Nat) : Int))), .int (iI (lc)), .int (iI (((dy : Nat) : Int))), .int (iI (pct)), .int (iI (lr)), .int (iI (sr))])), (ia, arQ cs 2 5 itf)] := ⟨rfl, rfl, trivial⟩
  refine vx_callq (vx_runV (As := [.int (iI (((tn : Nat) : Int)))]) (rest := []) ⟨hx, hb, hml, hown, hts⟩ (m_X5_requireItem l hst D cs kr la ia na b4 b6 b8 b10 sh it lc dy pct lr sr itf ((tn : Nat) : Int) (by assumption) (by assumption) (by omega)) (cwV 1 hts (gV w_301 w_303 w_p3 w_1 w_304) rfl rfl rfl (by decide +kernel) ⟨Nat.le_of_ble_eq_true rfl, Nat.le_of_ble_eq_true rfl⟩) (PE_V hK hN hE hS (fun _ h => False.elim h) hP hD [0, 1] rfl pk1 rfl rfl) rfl rfl hl.1 rfl (lv_room (Nat.le_of_ble_eq_true rfl)) dX5_centre_2 ⟨Nat.le_of_ble_eq_true rfl, Nat.le_of_ble_eq_true rfl⟩) hS (fun _ _ h => False.elim h) (fun _ h => False.elim h) (fun _ _ h => False.elim h) (fun E ce q9 u t H1 locs1 ht hvm hpx hBX hz1 hk1 hS1 hce hcv hcl => ?_) (fun r u t H locs ht hvm hw hB hz1 hk1 hS => ?_)
  · have hcode : u = 0 := by
        have h9 : u = cdS it ((tn : Nat) : Int) := hpx.1
        have h10 : u ≠ 0 := hpx.2
        exact absurd (h9.trans (cdS_0 htn)) h10
    exact vx_out (fun x hx => (hnt x hx).elim) hlocks hce hcv hcl (fun t2 ht2 _ => ⟨u, ⟨hcode, hpx.2⟩, hBX, hS1.F ht2⟩) hS1.2.2 (Nat.le_of_ble_eq_true rfl) (Nat.le_of_ble_eq_true rfl)
  obtain ⟨hc2, hw⟩ := hw
  subst hw
  have hP := P_kept hP hk1
  have hci := cdS_s it ((tn : Nat) : Int)
  have hq0 : itf (((tn : Nat) : Int)).toNat = some hi := by rw [Int.toNat_natCast]; exact hitn
  refine my_cvq hq0 ?_
  refine my_getN hx hb hts inAX1 hown hK hN hP 2 rfl rfl 5 (by decide) 0 rfl rfl rfl dX5_centre_5 ?_
  refine vx_ret ?_
  refine W.widen (k := 1) (n := 6) (by omega) (by omega) ?_
  have hcode : 0 = 0 := by
      rfl
  have hres : iI (st) = iI (st) := congrArg iI (by
      rfl)
  exact W.iret hx hb hr (fun t ht hW => ⟨⟨_, (), rfl, ⟨hcode, hres⟩, trivial⟩, hS.F ht⟩) hS.2.2 dX5_centre_8

abbrev ws_X5_centreByJournal : List Cond := Cond.code yX5_centreByJournal cX5_centreByJournal 2 (some .int) :: ALL
set_option maxHeartbeats 4000000 in
set_option maxRecDepth 100000 in
theorem m_X5_centreByJournal_no (l : Launch) (hst : l.stackTraces = false) (D : va_G) (cs : Nat → ClassId) (kr la ia na b4 b6 b8 b10 sh it : Nat) (lc : Int) (dy : Nat) (pct lr sr : Int) (itf : Nat → Option Nat) (zi : Int) (hit : it ≤ 5) (hitf : ∀ j, j < it → itf j ≠ none) (hzi : -2147483648 ≤ zi ∧ zi < 2147483648) (hno : cdS it zi ≠ 0) : vx_Met l yX5_centreByJournal ws_X5_centreByJournal ({ frames := 7, cells := 1, slots := 6, locals := 104 }) (va_Pc [.ref kr, .int (iI (zi))] (PE D cs [(kr, .inr (5, [.ref la, .ref ia, .ref na, .ref b4, .ref b6, .ref b8, .ref b10, .int (iI (((sh : Nat) : Int))), .int (iI (((it : Nat) : Int))), .int (iI (lc)), .int (iI (((dy : Nat) : Int))), .int (iI (pct)), .int (iI (lr)), .int (iI (sr))])), (ia, arQ cs 2 5 itf)] noA)) (va_Qi (fun r (_ : Unit) => cdS it zi = 0 ∧ r = iI (0)) (fun _ _ => True) noA) (vx_X (fun (u : Nat) => u = cdS it zi ∧ u ≠ 0) (fun E u _ => E = exN u) noA) 1 6 noA := by
  refine vx_ofW (cc := cX5_centreByJournal) (maxL := 2) (ret := (some .int)) (by decide +kernel) rfl ?_
  intro p e s m args below meth c s₁ B hml hnt hv
  obtain ⟨rfl, ⟨hP, hK, hD, hN⟩, hE⟩ := hv
  have hx := B.exec
  have hb := B.bytes
  have hr := B.returns
  have hts : ∀ w ∈ ALL, w.before _ s = true := fun w h => atoms_spec (ws := ws_X5_centreByJournal) B.pre w (List.mem_cons_of_mem _ h)
  have hown : s.vm.findClass RX5 = some m.cls := findClass_of_methodNamed B.named
  have hlocks := B.notSynchronized
  have hS : va_S noA s.heap s.heap [] := va_S.rf
  generalize inW [(kr, .inr (5, [.ref la, .ref ia, .ref na, .ref b4, .ref b6, .ref b8, .ref b10, .int (iI (((sh : Nat) : Int))), .int (iI (((it : Nat) : Int))), .int (iI (lc)), .int (iI (((dy : Nat) : Int))), .int (iI (pct)), .int (iI (lr)), .int (iI (sr))])), (ia, arQ cs 2 5 itf)] = A at hD
  have hl := lv_entry ([.ref kr, .int (iI (zi))]) (n := 2) (Nat.le_of_ble_eq_true rfl)
  rw [lg_entry_eq]
  generalize (lg_sl ([.ref kr, .int (iI (zi))]) ++ List.replicate (2 - (lg_sl ([.ref kr, .int (iI (zi))])).length) Slot.unset).toArray = ls at hl ⊢
  have hl : lv_has ls 2 [(0, .ref kr), (1, .int (iI (zi)))] := hl
  have hH := rfl (a := s.heap)
  refine lv_aload_n hx hb dX5_centreByJournal_0 rfl (lv_at hl 0 rfl) ?_
  refine lv_iload_n hx hb dX5_centreByJournal_1 rfl (lv_at hl 1 rfl) ?_
  have pk1 : picks [(kr, .inr (5, [.ref la, .ref ia, .ref na, .ref b4, .ref b6, .ref b8, .ref b10, .int (iI (((sh : Nat) : Int))), .int (iI (((it : Nat) : Int))), .int (iI (lc)), .int (iI (((dy : Nat) : Int))), .int (iI (pct)), .int (iI (lr)), .int (iI (sr))])), (ia, arQ cs 2 5 itf)] [0, 1] [(kr, .inr (5, [.ref la, .ref ia, .ref na, .ref b4, .ref b6, .ref b8, .ref b10, .int (iI (((sh : Nat) : Int))), .int (iI (((it : Nat) : Int))), .int (iI (lc)), .int (iI (((dy : Nat) : Int))), .int (iI (pct)), .int (iI (lr)), .int (iI (sr))])), (ia, arQ cs 2 5 itf)] := ⟨rfl, rfl, trivial⟩
  refine vx_callq (vx_runV (As := [.int (iI (zi))]) (rest := []) ⟨hx, hb, hml, hown, hts⟩ (m_X5_requireItem l hst D cs kr la ia na b4 b6 b8 b10 sh it lc dy pct lr sr itf zi (by assumption) (by assumption) (by omega)) (cwV 1 hts (gV w_301 w_303 w_p3 w_1 w_304) rfl rfl rfl (by decide +kernel) ⟨Nat.le_of_ble_eq_true rfl, Nat.le_of_ble_eq_true rfl⟩) (PE_V hK hN hE hS (fun _ h => False.elim h) hP hD [0, 1] rfl pk1 rfl rfl) rfl rfl hl.1 rfl (lv_room (Nat.le_of_ble_eq_true rfl)) dX5_centreByJournal_2 ⟨Nat.le_of_ble_eq_true rfl, Nat.le_of_ble_eq_true rfl⟩) hS (fun _ _ h => False.elim h) (fun _ h => False.elim h) (fun _ _ h => False.elim h) (fun E ce q9 u t H1 locs1 ht hvm hpx hBX hz1 hk1 hS1 hce hcv hcl => ?_) (fun r u t H locs ht hvm hw hB hz1 hk1 hS => ?_)
  · have hcode : u = cdS it zi := by
        have h9 : u = cdS it zi := hpx.1
        have h10 : u ≠ 0 := hpx.2
        exact h9
    exact vx_out (fun x hx => (hnt x hx).elim) hlocks hce hcv hcl (fun t2 ht2 _ => ⟨u, ⟨hcode, hpx.2⟩, hBX, hS1.F ht2⟩) hS1.2.2 (Nat.le_of_ble_eq_true rfl) (Nat.le_of_ble_eq_true rfl)
  obtain ⟨hc2, hw⟩ := hw
  subst hw
  have hP := P_kept hP hk1
  have hci := cdS_s it zi
  exact absurd hc2 hno

set_option maxHeartbeats 4000000 in
set_option maxRecDepth 100000 in
theorem m_X5_centreByJournal_ok (l : Launch) (hst : l.stackTraces = false) (D : va_G) (cs : Nat → ClassId) (kr la ia na b4 b6 b8 b10 sh it : Nat) (lc : Int) (dy : Nat) (pct lr sr : Int) (itf : Nat → Option Nat) (tn : Nat) (hi ti go pr : Nat) (pk fs st : Int) (uti ugo : Nat) (fti fgo : Nat → Int) (hit : it ≤ 5) (hitf : ∀ j, j < it → itf j ≠ none) (htn : tn < it) (hitn : itf tn = some hi) (hd : dy < 1000) : vx_Met l yX5_centreByJournal ws_X5_centreByJournal ({ frames := 7, cells := 1, slots := 6, locals := 104 }) (va_Pc [.ref kr, .int (iI (((tn : Nat) : Int)))] (PE D cs [(kr, .inr (5, [.ref la, .ref ia, .ref na, .ref b4, .ref b6, .ref b8, .ref b10, .int (iI (((sh : Nat) : Int))), .int (iI (((it : Nat) : Int))), .int (iI (lc)), .int (iI (((dy : Nat) : Int))), .int (iI (pct)), .int (iI (lr)), .int (iI (sr))])), (ia, arQ cs 2 5 itf), (hi, .inr (1, [.int (iI (pk)), .int (iI (fs)), .ref ti, .ref go, .ref pr, .int (iI (st))])), (ti, .inr (0, [.ref uti])), (uti, arI cs 1005 fti), (go, .inr (0, [.ref ugo])), (ugo, arI cs 1005 fgo)] noA)) (va_Qi (fun r (_ : Unit) => 0 = 0 ∧ r = iI (fs + smI fti (dy + 1) - smI fgo (dy + 1))) (fun _ _ => True) noA) (vx_X (fun (u : Nat) => u = 0 ∧ u ≠ 0) (fun E u _ => E = exN u) noA) 1 6 noA := by
  refine vx_ofW (cc := cX5_centreByJournal) (maxL := 2) (ret := (some .int)) (by decide +kernel) rfl ?_
  intro p e s m args below meth c s₁ B hml hnt hv
  obtain ⟨rfl, ⟨hP, hK, hD, hN⟩, hE⟩ := hv
  have hx := B.exec
  have hb := B.bytes
  have hr := B.returns
  have hts : ∀ w ∈ ALL, w.before _ s = true := fun w h => atoms_spec (ws := ws_X5_centreByJournal) B.pre w (List.mem_cons_of_mem _ h)
  have hown : s.vm.findClass RX5 = some m.cls := findClass_of_methodNamed B.named
  have hlocks := B.notSynchronized
  have hS : va_S noA s.heap s.heap [] := va_S.rf
  generalize inW [(kr, .inr (5, [.ref la, .ref ia, .ref na, .ref b4, .ref b6, .ref b8, .ref b10, .int (iI (((sh : Nat) : Int))), .int (iI (((it : Nat) : Int))), .int (iI (lc)), .int (iI (((dy : Nat) : Int))), .int (iI (pct)), .int (iI (lr)), .int (iI (sr))])), (ia, arQ cs 2 5 itf), (hi, .inr (1, [.int (iI (pk)), .int (iI (fs)), .ref ti, .ref go, .ref pr, .int (iI (st))])), (ti, .inr (0, [.ref uti])), (uti, arI cs 1005 fti), (go, .inr (0, [.ref ugo])), (ugo, arI cs 1005 fgo)] = A at hD
  have hl := lv_entry ([.ref kr, .int (iI (((tn : Nat) : Int)))]) (n := 2) (Nat.le_of_ble_eq_true rfl)
  rw [lg_entry_eq]
  generalize (lg_sl ([.ref kr, .int (iI (((tn : Nat) : Int)))]) ++ List.replicate (2 - (lg_sl ([.ref kr, .int (iI (((tn : Nat) : Int)))])).length) Slot.unset).toArray = ls at hl ⊢
  have hl : lv_has ls 2 [(0, .ref kr), (1, .int (iI (((tn : Nat) : Int))))] := hl
  have hH := rfl (a := s.heap)
  refine lv_aload_n hx hb dX5_centreByJournal_0 rfl (lv_at hl 0 rfl) ?_
  refine lv_iload_n hx hb dX5_centreByJournal_1 rfl (lv_at hl 1 rfl) ?_
  have pk1 : picks [(kr, .inr (5, [.ref la, .ref ia, .ref na, .ref b4, .ref b6, .ref b8, .ref b10, .int (iI (((sh : Nat) : Int))), .int (iI (((it : Nat) : Int))), .int (iI (lc)), .int (iI (((dy : Nat) : Int))), .int (iI (pct)), .int (iI (lr)), .int (iI (sr))])), (ia, arQ cs 2 5 itf), (hi, .inr (1, [.int (iI (pk)), .int (iI (fs)), .ref ti, .ref go, .ref pr, .int (iI (st))])), (ti, .inr (0, [.ref uti])), (uti, arI cs 1005 fti), (go, .inr (0, [.ref ugo])), (ugo, arI cs 1005 fgo)] [0, 1] [(kr, .inr (5, [.ref la, .ref ia, .ref na, .ref b4, .ref b6, .ref b8, .ref b10, .int (iI (((sh : Nat) : Int))), .int (iI (((it : Nat) : Int))), .int (iI (lc)), .int (iI (((dy : Nat) : Int))), .int (iI (pct)), .int (iI (lr)), .int (iI (sr))])), (ia, arQ cs 2 5 itf)] := ⟨rfl, rfl, trivial⟩
  refine vx_callq (vx_runV (As := [.int (iI (((tn : Nat) : Int)))]) (rest := []) ⟨hx, hb, hml, hown, hts⟩ (m_X5_requireItem l hst D cs kr la ia na b4 b6 b8 b10 sh it lc dy pct lr sr itf ((tn : Nat) : Int) (by assumption) (by assumption) (by omega)) (cwV 1 hts (gV w_301 w_303 w_p3 w_1 w_304) rfl rfl rfl (by decide +kernel) ⟨Nat.le_of_ble_eq_true rfl, Nat.le_of_ble_eq_true rfl⟩) (PE_V hK hN hE hS (fun _ h => False.elim h) hP hD [0, 1] rfl pk1 rfl rfl) rfl rfl hl.1 rfl (lv_room (Nat.le_of_ble_eq_true rfl)) dX5_centreByJournal_2 ⟨Nat.le_of_ble_eq_true rfl, Nat.le_of_ble_eq_true rfl⟩) hS (fun _ _ h => False.elim h) (fun _ h => False.elim h) (fun _ _ h => False.elim h) (fun E ce q9 u t H1 locs1 ht hvm hpx hBX hz1 hk1 hS1 hce hcv hcl => ?_) (fun r u t H locs ht hvm hw hB hz1 hk1 hS => ?_)
  · have hcode : u = 0 := by
        have h9 : u = cdS it ((tn : Nat) : Int) := hpx.1
        have h10 : u ≠ 0 := hpx.2
        exact absurd (h9.trans (cdS_0 htn)) h10
    exact vx_out (fun x hx => (hnt x hx).elim) hlocks hce hcv hcl (fun t2 ht2 _ => ⟨u, ⟨hcode, hpx.2⟩, hBX, hS1.F ht2⟩) hS1.2.2 (Nat.le_of_ble_eq_true rfl) (Nat.le_of_ble_eq_true rfl)
  obtain ⟨hc2, hw⟩ := hw
  subst hw
  have hP := P_kept hP hk1
  have hci := cdS_s it ((tn : Nat) : Int)
  have hq0 : itf (((tn : Nat) : Int)).toNat = some hi := by rw [Int.toNat_natCast]; exact hitn
  refine my_cvq hq0 ?_
  refine lv_aload_n hx hb dX5_centreByJournal_5 rfl (lv_at hl 0 rfl) ?_
  refine my_get hx hb hts inAX5 hown hK hP 0 rfl rfl 10 (by decide) w_79 rfl rfl dX5_centreByJournal_6 ?_
  have pk3 : picks [(kr, .inr (5, [.ref la, .ref ia, .ref na, .ref b4, .ref b6, .ref b8, .ref b10, .int (iI (((sh : Nat) : Int))), .int (iI (((it : Nat) : Int))), .int (iI (lc)), .int (iI (((dy : Nat) : Int))), .int (iI (pct)), .int (iI (lr)), .int (iI (sr))])), (ia, arQ cs 2 5 itf), (hi, .inr (1, [.int (iI (pk)), .int (iI (fs)), .ref ti, .ref go, .ref pr, .int (iI (st))])), (ti, .inr (0, [.ref uti])), (uti, arI cs 1005 fti), (go, .inr (0, [.ref ugo])), (ugo, arI cs 1005 fgo)] [2, 3, 4, 5, 6] [(hi, .inr (1, [.int (iI (pk)), .int (iI (fs)), .ref ti, .ref go, .ref pr, .int (iI (st))])), (ti, .inr (0, [.ref uti])), (uti, arI cs 1005 fti), (go, .inr (0, [.ref ugo])), (ugo, arI cs 1005 fgo)] := ⟨rfl, rfl, rfl, rfl, rfl, trivial⟩
  refine va_calli (va_runV (As := [.int (iI (((dy : Nat) : Int)))]) (rest := []) ⟨hx, hb, hml, hown, hts⟩ (m_X1_journalStock l D cs hi ti go pr pk fs st uti ugo fti fgo dy (by omega)) (cwV 1 hts (gV w_799 w_800 w_801 w_10 w_802) rfl rfl rfl (by decide +kernel) ⟨Nat.le_of_ble_eq_true rfl, Nat.le_of_ble_eq_true rfl⟩) (PC_V hK hN hP hD [2, 3, 4, 5, 6] rfl pk3 rfl rfl) rfl rfl hl.1 rfl (lv_room (Nat.le_of_ble_eq_true rfl)) dX5_centreByJournal_9 ⟨Nat.le_of_ble_eq_true rfl, Nat.le_of_ble_eq_true rfl⟩) hS (fun _ _ h => False.elim h) (fun _ h => False.elim h) (fun r u t H locs ht hvm hw hB hz1 hk1 hS => ?_)
  subst hw
  have hP := P_kept hP hk1
  refine vx_ret ?_
  refine W.widen (k := 1) (n := 6) (by omega) (by omega) ?_
  have hcode : 0 = 0 := by
      rfl
  have hres : iI (fs + smI fti (dy + 1) - smI fgo (dy + 1)) = iI (fs + smI fti (dy + 1) - smI fgo (dy + 1)) := congrArg iI (by
      rfl)
  exact W.iret hx hb hr (fun t ht hW => ⟨⟨_, (), rfl, ⟨hcode, hres⟩, trivial⟩, hS.F ht⟩) hS.2.2 dX5_centreByJournal_12

abbrev ws_X5_supply : List Cond := Cond.code yX5_supply cX5_supply 4 (some .int) :: ALL
set_option maxHeartbeats 4000000 in
set_option maxRecDepth 100000 in
theorem m_X5_supply_no (l : Launch) (hst : l.stackTraces = false) (D : va_G) (cs : Nat → ClassId) (kr la ia na b4 b6 b8 b10 sh it : Nat) (lc : Int) (dy : Nat) (pct lr sr : Int) (itf : Nat → Option Nat) (zi : Int) (z0 : Int) (hit : it ≤ 5) (hitf : ∀ j, j < it → itf j ≠ none) (hzi : -2147483648 ≤ zi ∧ zi < 2147483648) (hno : cdS it zi ≠ 0) : vx_Met l yX5_supply ws_X5_supply ({ frames := 7, cells := 1, slots := 6, locals := 104 }) (va_Pc [.ref kr, .int (iI (zi)), .int (iI (z0))] (PE D cs [(kr, .inr (5, [.ref la, .ref ia, .ref na, .ref b4, .ref b6, .ref b8, .ref b10, .int (iI (((sh : Nat) : Int))), .int (iI (((it : Nat) : Int))), .int (iI (lc)), .int (iI (((dy : Nat) : Int))), .int (iI (pct)), .int (iI (lr)), .int (iI (sr))])), (ia, arQ cs 2 5 itf)] noA)) (va_Qi (fun r (_ : Unit) => cdS it zi = 0 ∧ r = iI (0)) (fun _ _ => True) noA) (vx_X (fun (u : Nat) => u = cdS it zi ∧ u ≠ 0) (fun E u _ => E = exN u) noA) 1 6 noA := by
  refine vx_ofW (cc := cX5_supply) (maxL := 4) (ret := (some .int)) (by decide +kernel) rfl ?_
  intro p e s m args below meth c s₁ B hml hnt hv
  obtain ⟨rfl, ⟨hP, hK, hD, hN⟩, hE⟩ := hv
  have hx := B.exec
  have hb := B.bytes
  have hr := B.returns
  have hts : ∀ w ∈ ALL, w.before _ s = true := fun w h => atoms_spec (ws := ws_X5_supply) B.pre w (List.mem_cons_of_mem _ h)
  have hown : s.vm.findClass RX5 = some m.cls := findClass_of_methodNamed B.named
  have hlocks := B.notSynchronized
  have hS : va_S noA s.heap s.heap [] := va_S.rf
  generalize inW [(kr, .inr (5, [.ref la, .ref ia, .ref na, .ref b4, .ref b6, .ref b8, .ref b10, .int (iI (((sh : Nat) : Int))), .int (iI (((it : Nat) : Int))), .int (iI (lc)), .int (iI (((dy : Nat) : Int))), .int (iI (pct)), .int (iI (lr)), .int (iI (sr))])), (ia, arQ cs 2 5 itf)] = A at hD
  have hl := lv_entry ([.ref kr, .int (iI (zi)), .int (iI (z0))]) (n := 4) (Nat.le_of_ble_eq_true rfl)
  rw [lg_entry_eq]
  generalize (lg_sl ([.ref kr, .int (iI (zi)), .int (iI (z0))]) ++ List.replicate (4 - (lg_sl ([.ref kr, .int (iI (zi)), .int (iI (z0))])).length) Slot.unset).toArray = ls at hl ⊢
  have hl : lv_has ls 4 [(0, .ref kr), (1, .int (iI (zi))), (2, .int (iI (z0)))] := hl
  have hH := rfl (a := s.heap)
  refine lv_aload_n hx hb dX5_supply_0 rfl (lv_at hl 0 rfl) ?_
  refine lv_iload_n hx hb dX5_supply_1 rfl (lv_at hl 1 rfl) ?_
  have pk1 : picks [(kr, .inr (5, [.ref la, .ref ia, .ref na, .ref b4, .ref b6, .ref b8, .ref b10, .int (iI (((sh : Nat) : Int))), .int (iI (((it : Nat) : Int))), .int (iI (lc)), .int (iI (((dy : Nat) : Int))), .int (iI (pct)), .int (iI (lr)), .int (iI (sr))])), (ia, arQ cs 2 5 itf)] [0, 1] [(kr, .inr (5, [.ref la, .ref ia, .ref na, .ref b4, .ref b6, .ref b8, .ref b10, .int (iI (((sh : Nat) : Int))), .int (iI (((it : Nat) : Int))), .int (iI (lc)), .int (iI (((dy : Nat) : Int))), .int (iI (pct)), .int (iI (lr)), .int (iI (sr))])), (ia, arQ cs 2 5 itf)] := ⟨rfl, rfl, trivial⟩
  refine vx_callq (vx_runV (As := [.int (iI (zi))]) (rest := []) ⟨hx, hb, hml, hown, hts⟩ (m_X5_requireItem l hst D cs kr la ia na b4 b6 b8 b10 sh it lc dy pct lr sr itf zi (by assumption) (by assumption) (by omega)) (cwV 1 hts (gV w_301 w_303 w_p3 w_1 w_304) rfl rfl rfl (by decide +kernel) ⟨Nat.le_of_ble_eq_true rfl, Nat.le_of_ble_eq_true rfl⟩) (PE_V hK hN hE hS (fun _ h => False.elim h) hP hD [0, 1] rfl pk1 rfl rfl) rfl rfl hl.1 rfl (lv_room (Nat.le_of_ble_eq_true rfl)) dX5_supply_2 ⟨Nat.le_of_ble_eq_true rfl, Nat.le_of_ble_eq_true rfl⟩) hS (fun _ _ h => False.elim h) (fun _ h => False.elim h) (fun _ _ h => False.elim h) (fun E ce q9 u t H1 locs1 ht hvm hpx hBX hz1 hk1 hS1 hce hcv hcl => ?_) (fun r u t H locs ht hvm hw hB hz1 hk1 hS => ?_)
  · have hcode : u = cdS it zi := by
        have h9 : u = cdS it zi := hpx.1
        have h10 : u ≠ 0 := hpx.2
        exact h9
    exact vx_out (fun x hx => (hnt x hx).elim) hlocks hce hcv hcl (fun t2 ht2 _ => ⟨u, ⟨hcode, hpx.2⟩, hBX, hS1.F ht2⟩) hS1.2.2 (Nat.le_of_ble_eq_true rfl) (Nat.le_of_ble_eq_true rfl)
  obtain ⟨hc2, hw⟩ := hw
  subst hw
  have hP := P_kept hP hk1
  have hci := cdS_s it zi
  exact absurd hc2 hno

set_option maxHeartbeats 4000000 in
set_option maxRecDepth 100000 in
theorem m_X5_supply_ok (l : Launch) (hst : l.stackTraces = false) (D : va_G) (cs : Nat → ClassId) (kr la ia na b4 b6 b8 b10 sh it : Nat) (lc : Int) (dy : Nat) (pct lr sr : Int) (itf : Nat → Option Nat) (tn : Nat) (hi ti go pr : Nat) (pk fs st : Int) (uti : Nat) (fti : Nat → Int) (zu : Int) (hit : it ≤ 5) (hitf : ∀ j, j < it → itf j ≠ none) (htn : tn < it) (hitn : itf tn = some hi) (hd : dy < 1000) (hstk : 0 ≤ st ∧ st ≤ 99999) (hzu : -2147483648 ≤ zu ∧ zu < 2147483648) : vx_Met l yX5_supply ws_X5_supply ({ frames := 7, cells := 2, slots := 12, locals := 104 }) (va_Pc [.ref kr, .int (iI (((tn : Nat) : Int))), .int (iI (zu))] (PE D cs [(kr, .inr (5, [.ref la, .ref ia, .ref na, .ref b4, .ref b6, .ref b8, .ref b10, .int (iI (((sh : Nat) : Int))), .int (iI (((it : Nat) : Int))), .int (iI (lc)), .int (iI (((dy : Nat) : Int))), .int (iI (pct)), .int (iI (lr)), .int (iI (sr))])), (ia, arQ cs 2 5 itf), (hi, .inr (1, [.int (iI (pk)), .int (iI (fs)), .ref ti, .ref go, .ref pr, .int (iI (st))])), (ti, .inr (0, [.ref uti])), (uti, arI cs 1005 fti)] (inW [(kr, .inr (5, [.ref la, .ref ia, .ref na, .ref b4, .ref b6, .ref b8, .ref b10, .int (iI (((sh : Nat) : Int))), .int (iI (((it : Nat) : Int))), .int (iI (lc)), .int (iI (((dy : Nat) : Int))), .int (iI (pct)), .int (iI (lr)), .int (iI (sr))])), (ia, arQ cs 2 5 itf), (hi, .inr (1, [.int (iI (pk)), .int (iI (fs)), .ref ti, .ref go, .ref pr, .int (iI (st))])), (ti, .inr (0, [.ref uti])), (uti, arI cs 1005 fti)]))) (va_Qi (fun r (_ : Unit) => (if zu < 1 ∨ 9999 < zu then 3 else if 99999 < st + zu then 4 else 0) = 0 ∧ r = iI (st + zu)) (fun _ t => va_P D vwCl [(kr, .inr (5, [.ref la, .ref ia, .ref na, .ref b4, .ref b6, .ref b8, .ref b10, .int (iI (((sh : Nat) : Int))), .int (iI (((it : Nat) : Int))), .int (iI (lc)), .int (iI (((dy : Nat) : Int))), .int (iI (pct)), .int (iI (lr)), .int (iI (sr))])), (ia, arQ cs 2 5 itf), (hi, .inr (1, [.int (iI (pk)), .int (iI (fs)), .ref ti, .ref go, .ref pr, .int (iI (st + zu))])), (ti, .inr (0, [.ref uti])), (uti, arI cs 1005 (upI fti dy (fti dy + zu)))] t.heap) (inW [(kr, .inr (5, [.ref la, .ref ia, .ref na, .ref b4, .ref b6, .ref b8, .ref b10, .int (iI (((sh : Nat) : Int))), .int (iI (((it : Nat) : Int))), .int (iI (lc)), .int (iI (((dy : Nat) : Int))), .int (iI (pct)), .int (iI (lr)), .int (iI (sr))])), (ia, arQ cs 2 5 itf), (hi, .inr (1, [.int (iI (pk)), .int (iI (fs)), .ref ti, .ref go, .ref pr, .int (iI (st))])), (ti, .inr (0, [.ref uti])), (uti, arI cs 1005 fti)])) (vx_X (fun (u : Nat) => u = (if zu < 1 ∨ 9999 < zu then 3 else if 99999 < st + zu then 4 else 0) ∧ u ≠ 0) (fun E u t => E = exN u ∧ va_P D vwCl [(kr, .inr (5, [.ref la, .ref ia, .ref na, .ref b4, .ref b6, .ref b8, .ref b10, .int (iI (((sh : Nat) : Int))), .int (iI (((it : Nat) : Int))), .int (iI (lc)), .int (iI (((dy : Nat) : Int))), .int (iI (pct)), .int (iI (lr)), .int (iI (sr))])), (ia, arQ cs 2 5 itf), (hi, .inr (1, [.int (iI (pk)), .int (iI (fs)), .ref ti, .ref go, .ref pr, .int (iI (st))])), (ti, .inr (0, [.ref uti])), (uti, arI cs 1005 fti)] t.heap) (inW [(kr, .inr (5, [.ref la, .ref ia, .ref na, .ref b4, .ref b6, .ref b8, .ref b10, .int (iI (((sh : Nat) : Int))), .int (iI (((it : Nat) : Int))), .int (iI (lc)), .int (iI (((dy : Nat) : Int))), .int (iI (pct)), .int (iI (lr)), .int (iI (sr))])), (ia, arQ cs 2 5 itf), (hi, .inr (1, [.int (iI (pk)), .int (iI (fs)), .ref ti, .ref go, .ref pr, .int (iI (st))])), (ti, .inr (0, [.ref uti])), (uti, arI cs 1005 fti)])) 2 12 (inW [(kr, .inr (5, [.ref la, .ref ia, .ref na, .ref b4, .ref b6, .ref b8, .ref b10, .int (iI (((sh : Nat) : Int))), .int (iI (((it : Nat) : Int))), .int (iI (lc)), .int (iI (((dy : Nat) : Int))), .int (iI (pct)), .int (iI (lr)), .int (iI (sr))])), (ia, arQ cs 2 5 itf), (hi, .inr (1, [.int (iI (pk)), .int (iI (fs)), .ref ti, .ref go, .ref pr, .int (iI (st))])), (ti, .inr (0, [.ref uti])), (uti, arI cs 1005 fti)]) := by
  refine vx_ofW (cc := cX5_supply) (maxL := 4) (ret := (some .int)) (by decide +kernel) rfl ?_
  intro p e s m args below meth c s₁ B hml hnt hv
  obtain ⟨rfl, ⟨hP, hK, hD, hN⟩, hE⟩ := hv
  have hx := B.exec
  have hb := B.bytes
  have hr := B.returns
  have hts : ∀ w ∈ ALL, w.before _ s = true := fun w h => atoms_spec (ws := ws_X5_supply) B.pre w (List.mem_cons_of_mem _ h)
  have hown : s.vm.findClass RX5 = some m.cls := findClass_of_methodNamed B.named
  have hlocks := B.notSynchronized
  generalize hAe : inW [(kr, .inr (5, [.ref la, .ref ia, .ref na, .ref b4, .ref b6, .ref b8, .ref b10, .int (iI (((sh : Nat) : Int))), .int (iI (((it : Nat) : Int))), .int (iI (lc)), .int (iI (((dy : Nat) : Int))), .int (iI (pct)), .int (iI (lr)), .int (iI (sr))])), (ia, arQ cs 2 5 itf), (hi, .inr (1, [.int (iI (pk)), .int (iI (fs)), .ref ti, .ref go, .ref pr, .int (iI (st))])), (ti, .inr (0, [.ref uti])), (uti, arI cs 1005 fti)] = A at hD hE ⊢
  have hS : va_S A s.heap s.heap [] := va_S.rf
  have hl := lv_entry ([.ref kr, .int (iI (((tn : Nat) : Int))), .int (iI (zu))]) (n := 4) (Nat.le_of_ble_eq_true rfl)
  rw [lg_entry_eq]
  generalize (lg_sl ([.ref kr, .int (iI (((tn : Nat) : Int))), .int (iI (zu))]) ++ List.replicate (4 - (lg_sl ([.ref kr, .int (iI (((tn : Nat) : Int))), .int (iI (zu))])).length) Slot.unset).toArray = ls at hl ⊢
  have hl : lv_has ls 4 [(0, .ref kr), (1, .int (iI (((tn : Nat) : Int)))), (2, .int (iI (zu)))] := hl
  have hH := rfl (a := s.heap)
  refine lv_aload_n hx hb dX5_supply_0 rfl (lv_at hl 0 rfl) ?_
  refine lv_iload_n hx hb dX5_supply_1 rfl (lv_at hl 1 rfl) ?_
  have pk1 : picks [(kr, .inr (5, [.ref la, .ref ia, .ref na, .ref b4, .ref b6, .ref b8, .ref b10, .int (iI (((sh : Nat) : Int))), .int (iI (((it : Nat) : Int))), .int (iI (lc)), .int (iI (((dy : Nat) : Int))), .int (iI (pct)), .int (iI (lr)), .int (iI (sr))])), (ia, arQ cs 2 5 itf), (hi, .inr (1, [.int (iI (pk)), .int (iI (fs)), .ref ti, .ref go, .ref pr, .int (iI (st))])), (ti, .inr (0, [.ref uti])), (uti, arI cs 1005 fti)] [0, 1] [(kr, .inr (5, [.ref la, .ref ia, .ref na, .ref b4, .ref b6, .ref b8, .ref b10, .int (iI (((sh : Nat) : Int))), .int (iI (((it : Nat) : Int))), .int (iI (lc)), .int (iI (((dy : Nat) : Int))), .int (iI (pct)), .int (iI (lr)), .int (iI (sr))])), (ia, arQ cs 2 5 itf)] := ⟨rfl, rfl, trivial⟩
  refine vx_callq (vx_runV (As := [.int (iI (((tn : Nat) : Int)))]) (rest := []) ⟨hx, hb, hml, hown, hts⟩ (m_X5_requireItem l hst D cs kr la ia na b4 b6 b8 b10 sh it lc dy pct lr sr itf ((tn : Nat) : Int) (by assumption) (by assumption) (by omega)) (cwV 1 hts (gV w_301 w_303 w_p3 w_1 w_304) rfl rfl rfl (by decide +kernel) ⟨Nat.le_of_ble_eq_true rfl, Nat.le_of_ble_eq_true rfl⟩) (PE_V hK hN hE hS (fun _ h => False.elim h) hP hD [0, 1] rfl pk1 rfl rfl) rfl rfl hl.1 rfl (lv_room (Nat.le_of_ble_eq_true rfl)) dX5_supply_2 ⟨Nat.le_of_ble_eq_true rfl, Nat.le_of_ble_eq_true rfl⟩) hS (fun _ _ h => False.elim h) (fun _ h => False.elim h) (fun _ _ h => False.elim h) (fun E ce q9 u t H1 locs1 ht hvm hpx hBX hz1 hk1 hS1 hce hcv hcl => ?_) (fun r u t H locs ht hvm hw hB hz1 hk1 hS => ?_)
  · have hcode : u = (if zu < 1 ∨ 9999 < zu then 3 else if 99999 < st + zu then 4 else 0) := by
        have h9 : u = cdS it ((tn : Nat) : Int) := hpx.1
        have h10 : u ≠ 0 := hpx.2
        exact absurd (h9.trans (cdS_0 htn)) h10
    have hP := P_kept hP hk1
    subst hAe
    exact vx_out (fun x hx => (hnt x hx).elim) hlocks hce hcv hcl (fun t2 ht2 _ => ⟨u, ⟨hcode, hpx.2⟩, ⟨hBX, by show va_P D vwCl _ t2.heap; rw [ht2]; exact hP⟩, hS1.F ht2⟩) hS1.2.2 (Nat.le_of_ble_eq_true rfl) (Nat.le_of_ble_eq_true rfl)
  obtain ⟨hc2, hw⟩ := hw
  subst hw
  have hP := P_kept hP hk1
  have hci := cdS_s it ((tn : Nat) : Int)
  have hq0 : itf (((tn : Nat) : Int)).toNat = some hi := by rw [Int.toNat_natCast]; exact hitn
  refine my_cvq hq0 ?_
  refine lv_astore_n (lv' := [(3, .ref hi), (0, .ref kr), (1, .int (iI (((tn : Nat) : Int)))), (2, .int (iI (zu)))]) hx hb dX5_supply_5 rfl hl (by decide) rfl (fun ls hl => ?_)
  refine lv_iload_n hx hb dX5_supply_6 rfl (lv_at hl 3 rfl) ?_
  refine lv_iconst (v := iI (1)) hx hb dX5_supply_7 rfl ?_
  refine my_icmp_lt (tgt := 18) hx hb (by omega) dX5_supply_8 (by decide) (fun bh3 => ?_) (fun bh3 => ?_)
  · refine my_throw3 hx hb hst hts hown hE hS (hml.trans hl.1.symm) w_144 (List.mem_of_getElem? (i := 8) rfl) hnt hlocks dX5_supply_18 dX5_supply_21 dX5_supply_22 dX5_supply_24 dX5_supply_27 (Nat.le_of_ble_eq_true rfl) (Nat.le_of_ble_eq_true rfl) (Nat.le_of_ble_eq_true rfl) (Nat.le_of_ble_eq_true rfl) (fun t H1 ht hz1 hk1 hS1 => ?_) hS.2.2 (Nat.le_of_ble_eq_true rfl) (Nat.le_of_ble_eq_true rfl)
    have hcode : 3 = (if zu < 1 ∨ 9999 < zu then 3 else if 99999 < st + zu then 4 else 0) := by
        first | rw [if_pos (by omega)] | rw [if_neg (by omega), if_pos (by omega)]
    subst hAe
    exact ⟨3, ⟨hcode, by decide⟩, ⟨rfl, by show va_P D vwCl _ t.heap; rw [ht]; exact hP.kept (fun k q hq => hk1 q.1 (hP k q hq).lt)⟩, hS1.F ht⟩
  · refine lv_iload_n hx hb dX5_supply_11 rfl (lv_at hl 3 rfl) ?_
    refine lv_sipush (v := iI (9999)) hx hb dX5_supply_12 (by decide) ?_
    refine my_icmp_le (tgt := 28) hx hb (by omega) dX5_supply_15 (by decide) (fun bh4 => ?_) (fun bh4 => ?_)
    · refine lv_aload_n hx hb dX5_supply_28 rfl (lv_at hl 0 rfl) ?_
      refine my_getN hx hb hts inAX1 hown hK hN hP 2 rfl rfl 5 (by decide) 0 rfl rfl rfl dX5_supply_29 ?_
      refine lv_iload_n hx hb dX5_supply_32 rfl (lv_at hl 3 rfl) ?_
      refine my_iadd (z := st + zu) hx hb dX5_supply_33 (rfl) ?_
      refine lv_ldc (v := iI 99999) hx hb hown (hts _ w_315) dX5_supply_34 ?_
      refine my_icmp_le (tgt := 49) hx hb (by omega) dX5_supply_36 (by decide) (fun bh5 => ?_) (fun bh5 => ?_)
      · refine lv_aload_n hx hb dX5_supply_49 rfl (lv_at hl 0 rfl) ?_
        refine lv_aload_n hx hb dX5_supply_50 rfl (lv_at hl 1 rfl) ?_
        refine my_get hx hb hts inAX5 hown hK hP 0 rfl rfl 10 (by decide) w_79 rfl rfl dX5_supply_51 ?_
        refine lv_iload_n hx hb dX5_supply_54 rfl (lv_at hl 3 rfl) ?_
        have pk6 : picks [(kr, .inr (5, [.ref la, .ref ia, .ref na, .ref b4, .ref b6, .ref b8, .ref b10, .int (iI (((sh : Nat) : Int))), .int (iI (((it : Nat) : Int))), .int (iI (lc)), .int (iI (((dy : Nat) : Int))), .int (iI (pct)), .int (iI (lr)), .int (iI (sr))])), (ia, arQ cs 2 5 itf), (hi, .inr (1, [.int (iI (pk)), .int (iI (fs)), .ref ti, .ref go, .ref pr, .int (iI (st))])), (ti, .inr (0, [.ref uti])), (uti, arI cs 1005 fti)] [2, 3, 4] [(hi, .inr (1, [.int (iI (pk)), .int (iI (fs)), .ref ti, .ref go, .ref pr, .int (iI (st))])), (ti, .inr (0, [.ref uti])), (uti, arI cs 1005 fti)] := ⟨rfl, rfl, rfl, trivial⟩
        refine va_callv (va_runV (As := [.int (iI (((dy : Nat) : Int))), .int (iI (zu))]) (rest := []) ⟨hx, hb, hml, hown, hts⟩ (m_X1_takeIn l D cs hi ti go pr pk fs st uti fti dy zu (by omega)) (cwV 2 hts (gV w_410 w_411 w_412 w_10 w_413) rfl rfl rfl (by decide +kernel) ⟨Nat.le_of_ble_eq_true rfl, Nat.le_of_ble_eq_true rfl⟩) (PC_V hK hN hP hD [2, 3, 4] rfl pk6 rfl rfl) rfl rfl hl.1 rfl (lv_room (Nat.le_of_ble_eq_true rfl)) dX5_supply_55 ⟨Nat.le_of_ble_eq_true rfl, Nat.le_of_ble_eq_true rfl⟩) hS (fun q _ h => inW_sub hD [2, 3, 4] pk6 q h) (fun q h => inW_sub hD [2, 3, 4] pk6 q h) (fun u t H locs ht hvm hw hB hz1 hk1 hS => ?_)
        rw [ht] at hB
        obtain ⟨hP, hD⟩ := my_join (W1 := [(hi, .inr (1, [.int (iI (pk)), .int (iI (fs)), .ref ti, .ref go, .ref pr, .int (iI (st + zu))])), (ti, .inr (0, [.ref uti])), (uti, arI cs 1005 (upI fti dy (fti dy + zu)))]) hP hD [2, 3, 4] rfl pk6 rfl hk1 hB
        have hP : va_P D vwCl [(kr, .inr (5, [.ref la, .ref ia, .ref na, .ref b4, .ref b6, .ref b8, .ref b10, .int (iI (((sh : Nat) : Int))), .int (iI (((it : Nat) : Int))), .int (iI (lc)), .int (iI (((dy : Nat) : Int))), .int (iI (pct)), .int (iI (lr)), .int (iI (sr))])), (ia, arQ cs 2 5 itf), (hi, .inr (1, [.int (iI (pk)), .int (iI (fs)), .ref ti, .ref go, .ref pr, .int (iI (st + zu))])), (ti, .inr (0, [.ref uti])), (uti, arI cs 1005 (upI fti dy (fti dy + zu)))] H := hP
        have hD : va_D A [(kr, .inr (5, [.ref la, .ref ia, .ref na, .ref b4, .ref b6, .ref b8, .ref b10, .int (iI (((sh : Nat) : Int))), .int (iI (((it : Nat) : Int))), .int (iI (lc)), .int (iI (((dy : Nat) : Int))), .int (iI (pct)), .int (iI (lr)), .int (iI (sr))])), (ia, arQ cs 2 5 itf), (hi, .inr (1, [.int (iI (pk)), .int (iI (fs)), .ref ti, .ref go, .ref pr, .int (iI (st + zu))])), (ti, .inr (0, [.ref uti])), (uti, arI cs 1005 (upI fti dy (fti dy + zu)))] := hD
        refine lv_aload_n hx hb dX5_supply_58 rfl (lv_at hl 0 rfl) ?_
        refine my_getN hx hb hts inAX1 hown hK hN hP 2 rfl rfl 5 (by decide) 0 rfl rfl rfl dX5_supply_59 ?_
        subst hAe
        refine vx_ret ?_
        refine W.widen (k := 2) (n := 12) (by omega) (by omega) ?_
        have hcode : (if zu < 1 ∨ 9999 < zu then 3 else if 99999 < st + zu then 4 else 0) = 0 := by
            rw [if_neg (by omega), if_neg (by omega)]
        have hres : iI (st + zu) = iI (st + zu) := congrArg iI (by
            rfl)
        exact W.iret hx hb hr (fun t ht hW => ⟨⟨_, (), rfl, ⟨hcode, hres⟩, by show va_P D vwCl _ t.heap; rw [ht]; exact hP⟩, hS.F ht⟩) hS.2.2 dX5_supply_62
      · refine my_throw4 hx hb hst hts hown hE hS (hml.trans hl.1.symm) w_214 (List.mem_of_getElem? (i := 9) rfl) hnt hlocks dX5_supply_39 dX5_supply_42 dX5_supply_43 dX5_supply_45 dX5_supply_48 (Nat.le_of_ble_eq_true rfl) (Nat.le_of_ble_eq_true rfl) (Nat.le_of_ble_eq_true rfl) (Nat.le_of_ble_eq_true rfl) (fun t H1 ht hz1 hk1 hS1 => ?_) hS.2.2 (Nat.le_of_ble_eq_true rfl) (Nat.le_of_ble_eq_true rfl)
        have hcode : 4 = (if zu < 1 ∨ 9999 < zu then 3 else if 99999 < st + zu then 4 else 0) := by
            first | rw [if_pos (by omega)] | rw [if_neg (by omega), if_pos (by omega)]
        subst hAe
        exact ⟨4, ⟨hcode, by decide⟩, ⟨rfl, by show va_P D vwCl _ t.heap; rw [ht]; exact hP.kept (fun k q hq => hk1 q.1 (hP k q hq).lt)⟩, hS1.F ht⟩
    · refine my_throw3 hx hb hst hts hown hE hS (hml.trans hl.1.symm) w_144 (List.mem_of_getElem? (i := 8) rfl) hnt hlocks dX5_supply_18 dX5_supply_21 dX5_supply_22 dX5_supply_24 dX5_supply_27 (Nat.le_of_ble_eq_true rfl) (Nat.le_of_ble_eq_true rfl) (Nat.le_of_ble_eq_true rfl) (Nat.le_of_ble_eq_true rfl) (fun t H1 ht hz1 hk1 hS1 => ?_) hS.2.2 (Nat.le_of_ble_eq_true rfl) (Nat.le_of_ble_eq_true rfl)
      have hcode : 3 = (if zu < 1 ∨ 9999 < zu then 3 else if 99999 < st + zu then 4 else 0) := by
          first | rw [if_pos (by omega)] | rw [if_neg (by omega), if_pos (by omega)]
      subst hAe
      exact ⟨3, ⟨hcode, by decide⟩, ⟨rfl, by show va_P D vwCl _ t.heap; rw [ht]; exact hP.kept (fun k q hq => hk1 q.1 (hP k q hq).lt)⟩, hS1.F ht⟩

abbrev ws_X5_isMarked : List Cond := Cond.code yX5_isMarked cX5_isMarked 4 (some .boolean) :: ALL
set_option maxHeartbeats 4000000 in
set_option maxRecDepth 100000 in
theorem m_X5_isMarked_no (l : Launch) (hst : l.stackTraces = false) (D : va_G) (cs : Nat → ClassId) (kr la ia na b4 b6 b8 b10 sh it : Nat) (lc : Int) (dy : Nat) (pct lr sr : Int) (itf : Nat → Option Nat) (zi : Int) (z0 : Int) (hit : it ≤ 5) (hitf : ∀ j, j < it → itf j ≠ none) (hzi : -2147483648 ≤ zi ∧ zi < 2147483648) (hno : cdS it zi ≠ 0) : vx_Met l yX5_isMarked ws_X5_isMarked ({ frames := 7, cells := 1, slots := 6, locals := 104 }) (va_Pc [.ref kr, .int (iI (zi)), .int (iI (z0))] (PE D cs [(kr, .inr (5, [.ref la, .ref ia, .ref na, .ref b4, .ref b6, .ref b8, .ref b10, .int (iI (((sh : Nat) : Int))), .int (iI (((it : Nat) : Int))), .int (iI (lc)), .int (iI (((dy : Nat) : Int))), .int (iI (pct)), .int (iI (lr)), .int (iI (sr))])), (ia, arQ cs 2 5 itf)] noA)) (va_Qi (fun r (_ : Unit) => cdS it zi = 0 ∧ r = iI (0)) (fun _ _ => True) noA) (vx_X (fun (u : Nat) => u = cdS it zi ∧ u ≠ 0) (fun E u _ => E = exN u) noA) 1 6 noA := by
  refine vx_ofW (cc := cX5_isMarked) (maxL := 4) (ret := (some .boolean)) (by decide +kernel) rfl ?_
  intro p e s m args below meth c s₁ B hml hnt hv
  obtain ⟨rfl, ⟨hP, hK, hD, hN⟩, hE⟩ := hv
  have hx := B.exec
  have hb := B.bytes
  have hr := B.returns
  have hts : ∀ w ∈ ALL, w.before _ s = true := fun w h => atoms_spec (ws := ws_X5_isMarked) B.pre w (List.mem_cons_of_mem _ h)
  have hown : s.vm.findClass RX5 = some m.cls := findClass_of_methodNamed B.named
  have hlocks := B.notSynchronized
  have hS : va_S noA s.heap s.heap [] := va_S.rf
  generalize inW [(kr, .inr (5, [.ref la, .ref ia, .ref na, .ref b4, .ref b6, .ref b8, .ref b10, .int (iI (((sh : Nat) : Int))), .int (iI (((it : Nat) : Int))), .int (iI (lc)), .int (iI (((dy : Nat) : Int))), .int (iI (pct)), .int (iI (lr)), .int (iI (sr))])), (ia, arQ cs 2 5 itf)] = A at hD
  have hl := lv_entry ([.ref kr, .int (iI (zi)), .int (iI (z0))]) (n := 4) (Nat.le_of_ble_eq_true rfl)
  rw [lg_entry_eq]
  generalize (lg_sl ([.ref kr, .int (iI (zi)), .int (iI (z0))]) ++ List.replicate (4 - (lg_sl ([.ref kr, .int (iI (zi)), .int (iI (z0))])).length) Slot.unset).toArray = ls at hl ⊢
  have hl : lv_has ls 4 [(0, .ref kr), (1, .int (iI (zi))), (2, .int (iI (z0)))] := hl
  have hH := rfl (a := s.heap)
  refine lv_aload_n hx hb dX5_isMarked_0 rfl (lv_at hl 0 rfl) ?_
  refine lv_iload_n hx hb dX5_isMarked_1 rfl (lv_at hl 1 rfl) ?_
  have pk1 : picks [(kr, .inr (5, [.ref la, .ref ia, .ref na, .ref b4, .ref b6, .ref b8, .ref b10, .int (iI (((sh : Nat) : Int))), .int (iI (((it : Nat) : Int))), .int (iI (lc)), .int (iI (((dy : Nat) : Int))), .int (iI (pct)), .int (iI (lr)), .int (iI (sr))])), (ia, arQ cs 2 5 itf)] [0, 1] [(kr, .inr (5, [.ref la, .ref ia, .ref na, .ref b4, .ref b6, .ref b8, .ref b10, .int (iI (((sh : Nat) : Int))), .int (iI (((it : Nat) : Int))), .int (iI (lc)), .int (iI (((dy : Nat) : Int))), .int (iI (pct)), .int (iI (lr)), .int (iI (sr))])), (ia, arQ cs 2 5 itf)] := ⟨rfl, rfl, trivial⟩
  refine vx_callq (vx_runV (As := [.int (iI (zi))]) (rest := []) ⟨hx, hb, hml, hown, hts⟩ (m_X5_requireItem l hst D cs kr la ia na b4 b6 b8 b10 sh it lc dy pct lr sr itf zi (by assumption) (by assumption) (by omega)) (cwV 1 hts (gV w_301 w_303 w_p3 w_1 w_304) rfl rfl rfl (by decide +kernel) ⟨Nat.le_of_ble_eq_true rfl, Nat.le_of_ble_eq_true rfl⟩) (PE_V hK hN hE hS (fun _ h => False.elim h) hP hD [0, 1] rfl pk1 rfl rfl) rfl rfl hl.1 rfl (lv_room (Nat.le_of_ble_eq_true rfl)) dX5_isMarked_2 ⟨Nat.le_of_ble_eq_true rfl, Nat.le_of_ble_eq_true rfl⟩) hS (fun _ _ h => False.elim h) (fun _ h => False.elim h) (fun _ _ h => False.elim h) (fun E ce q9 u t H1 locs1 ht hvm hpx hBX hz1 hk1 hS1 hce hcv hcl => ?_) (fun r u t H locs ht hvm hw hB hz1 hk1 hS => ?_)
  · have hcode : u = cdS it zi := by
        have h9 : u = cdS it zi := hpx.1
        have h10 : u ≠ 0 := hpx.2
        exact h9
    exact vx_out (fun x hx => (hnt x hx).elim) hlocks hce hcv hcl (fun t2 ht2 _ => ⟨u, ⟨hcode, hpx.2⟩, hBX, hS1.F ht2⟩) hS1.2.2 (Nat.le_of_ble_eq_true rfl) (Nat.le_of_ble_eq_true rfl)
  obtain ⟨hc2, hw⟩ := hw
  subst hw
  have hP := P_kept hP hk1
  have hci := cdS_s it zi
  exact absurd hc2 hno

set_option maxHeartbeats 4000000 in
set_option maxRecDepth 100000 in
theorem m_X5_isMarked_ok (l : Launch) (hst : l.stackTraces = false) (D : va_G) (cs : Nat → ClassId) (kr la ia na b4 b6 b8 b10 sh it : Nat) (lc : Int) (dy : Nat) (pct lr sr : Int) (itf : Nat → Option Nat) (tn : Nat) (hi ti go pr : Nat) (pk fs st : Int) (upr : Nat) (fpr : Nat → Int) (zd : Int) (hit : it ≤ 5) (hitf : ∀ j, j < it → itf j ≠ none) (htn : tn < it) (hitn : itf tn = some hi) (hfp : ∀ j, 0 ≤ fpr j ∧ fpr j ≤ 1) (hzd : -2147483648 ≤ zd ∧ zd < 2147483648) : vx_Met l yX5_isMarked ws_X5_isMarked ({ frames := 7, cells := 2, slots := 12, locals := 104 }) (va_Pc [.ref kr, .int (iI (((tn : Nat) : Int))), .int (iI (zd))] (PE D cs [(kr, .inr (5, [.ref la, .ref ia, .ref na, .ref b4, .ref b6, .ref b8, .ref b10, .int (iI (((sh : Nat) : Int))), .int (iI (((it : Nat) : Int))), .int (iI (lc)), .int (iI (((dy : Nat) : Int))), .int (iI (pct)), .int (iI (lr)), .int (iI (sr))])), (ia, arQ cs 2 5 itf), (hi, .inr (1, [.int (iI (pk)), .int (iI (fs)), .ref ti, .ref go, .ref pr, .int (iI (st))])), (pr, .inr (0, [.ref upr])), (upr, arI cs 1005 fpr)] noA)) (va_Qi (fun r (_ : Unit) => (if zd < 0 ∨ 999 < zd then 3 else 0) = 0 ∧ r = iI (fpr zd.toNat)) (fun _ _ => True) noA) (vx_X (fun (u : Nat) => u = (if zd < 0 ∨ 999 < zd then 3 else 0) ∧ u ≠ 0) (fun E u _ => E = exN u) noA) 2 12 noA := by
  refine vx_ofW (cc := cX5_isMarked) (maxL := 4) (ret := (some .boolean)) (by decide +kernel) rfl ?_
  intro p e s m args below meth c s₁ B hml hnt hv
  obtain ⟨rfl, ⟨hP, hK, hD, hN⟩, hE⟩ := hv
  have hx := B.exec
  have hb := B.bytes
  have hr := B.returns
  have hts : ∀ w ∈ ALL, w.before _ s = true := fun w h => atoms_spec (ws := ws_X5_isMarked) B.pre w (List.mem_cons_of_mem _ h)
  have hown : s.vm.findClass RX5 = some m.cls := findClass_of_methodNamed B.named
  have hlocks := B.notSynchronized
  have hS : va_S noA s.heap s.heap [] := va_S.rf
  generalize inW [(kr, .inr (5, [.ref la, .ref ia, .ref na, .ref b4, .ref b6, .ref b8, .ref b10, .int (iI (((sh : Nat) : Int))), .int (iI (((it : Nat) : Int))), .int (iI (lc)), .int (iI (((dy : Nat) : Int))), .int (iI (pct)), .int (iI (lr)), .int (iI (sr))])), (ia, arQ cs 2 5 itf), (hi, .inr (1, [.int (iI (pk)), .int (iI (fs)), .ref ti, .ref go, .ref pr, .int (iI (st))])), (pr, .inr (0, [.ref upr])), (upr, arI cs 1005 fpr)] = A at hD
  have hl := lv_entry ([.ref kr, .int (iI (((tn : Nat) : Int))), .int (iI (zd))]) (n := 4) (Nat.le_of_ble_eq_true rfl)
  rw [lg_entry_eq]
  generalize (lg_sl ([.ref kr, .int (iI (((tn : Nat) : Int))), .int (iI (zd))]) ++ List.replicate (4 - (lg_sl ([.ref kr, .int (iI (((tn : Nat) : Int))), .int (iI (zd))])).length) Slot.unset).toArray = ls at hl ⊢
  have hl : lv_has ls 4 [(0, .ref kr), (1, .int (iI (((tn : Nat) : Int)))), (2, .int (iI (zd)))] := hl
  have hH := rfl (a := s.heap)
  refine lv_aload_n hx hb dX5_isMarked_0 rfl (lv_at hl 0 rfl) ?_
  refine lv_iload_n hx hb dX5_isMarked_1 rfl (lv_at hl 1 rfl) ?_
  have pk1 : picks [(kr, .inr (5, [.ref la, .ref ia, .ref na, .ref b4, .ref b6, .ref b8, .ref b10, .int (iI (((sh : Nat) : Int))), .int (iI (((it : Nat) : Int))), .int (iI (lc)), .int (iI (((dy : Nat) : Int))), .int (iI (pct)), .int (iI (lr)), .int (iI (sr))])), (ia, arQ cs 2 5 itf), (hi, .inr (1, [.int (iI (pk)), .int (iI (fs)), .ref ti, .ref go, .ref pr, .int (iI (st))])), (pr, .inr (0, [.ref upr])), (upr, arI cs 1005 fpr)] [0, 1] [(kr, .inr (5, [.ref la, .ref ia, .ref na, .ref b4, .ref b6, .ref b8, .ref b10, .int (iI (((sh : Nat) : Int))), .int (iI (((it : Nat) : Int))), .int (iI (lc)), .int (iI (((dy : Nat) : Int))), .int (iI (pct)), .int (iI (lr)), .int (iI (sr))])), (ia, arQ cs 2 5 itf)] := ⟨rfl, rfl, trivial⟩
  refine vx_callq (vx_runV (As := [.int (iI (((tn : Nat) : Int)))]) (rest := []) ⟨hx, hb, hml, hown, hts⟩ (m_X5_requireItem l hst D cs kr la ia na b4 b6 b8 b10 sh it lc dy pct lr sr itf ((tn : Nat) : Int) (by assumption) (by assumption) (by omega)) (cwV 1 hts (gV w_301 w_303 w_p3 w_1 w_304) rfl rfl rfl (by decide +kernel) ⟨Nat.le_of_ble_eq_true rfl, Nat.le_of_ble_eq_true rfl⟩) (PE_V hK hN hE hS (fun _ h => False.elim h) hP hD [0, 1] rfl pk1 rfl rfl) rfl rfl hl.1 rfl (lv_room (Nat.le_of_ble_eq_true rfl)) dX5_isMarked_2 ⟨Nat.le_of_ble_eq_true rfl, Nat.le_of_ble_eq_true rfl⟩) hS (fun _ _ h => False.elim h) (fun _ h => False.elim h) (fun _ _ h => False.elim h) (fun E ce q9 u t H1 locs1 ht hvm hpx hBX hz1 hk1 hS1 hce hcv hcl => ?_) (fun r u t H locs ht hvm hw hB hz1 hk1 hS => ?_)
  · have hcode : u = (if zd < 0 ∨ 999 < zd then 3 else 0) := by
        have h9 : u = cdS it ((tn : Nat) : Int) := hpx.1
        have h10 : u ≠ 0 := hpx.2
        exact absurd (h9.trans (cdS_0 htn)) h10
    exact vx_out (fun x hx => (hnt x hx).elim) hlocks hce hcv hcl (fun t2 ht2 _ => ⟨u, ⟨hcode, hpx.2⟩, hBX, hS1.F ht2⟩) hS1.2.2 (Nat.le_of_ble_eq_true rfl) (Nat.le_of_ble_eq_true rfl)
  obtain ⟨hc2, hw⟩ := hw
  subst hw
  have hP := P_kept hP hk1
  have hci := cdS_s it ((tn : Nat) : Int)
  have hq0 : itf (((tn : Nat) : Int)).toNat = some hi := by rw [Int.toNat_natCast]; exact hitn
  refine my_cvq hq0 ?_
  refine lv_astore_n (lv' := [(3, .ref hi), (0, .ref kr), (1, .int (iI (((tn : Nat) : Int)))), (2, .int (iI (zd)))]) hx hb dX5_isMarked_5 rfl hl (by decide) rfl (fun ls hl => ?_)
  refine lv_iload_n hx hb dX5_isMarked_6 rfl (lv_at hl 3 rfl) ?_
  refine my_if_lt (tgt := 17) hx hb (by omega) dX5_isMarked_7 (by decide) (fun bh3 => ?_) (fun bh3 => ?_)
  · refine my_throw3 hx hb hst hts hown hE hS (hml.trans hl.1.symm) w_144 (List.mem_of_getElem? (i := 14) rfl) hnt hlocks dX5_isMarked_17 dX5_isMarked_20 dX5_isMarked_21 dX5_isMarked_23 dX5_isMarked_26 (Nat.le_of_ble_eq_true rfl) (Nat.le_of_ble_eq_true rfl) (Nat.le_of_ble_eq_true rfl) (Nat.le_of_ble_eq_true rfl) (fun t H1 ht hz1 hk1 hS1 => ?_) hS.2.2 (Nat.le_of_ble_eq_true rfl) (Nat.le_of_ble_eq_true rfl)
    have hcode : 3 = (if zd < 0 ∨ 999 < zd then 3 else 0) := by
        rw [if_pos (by omega)]
    exact ⟨3, ⟨hcode, by decide⟩, rfl, hS1.F ht⟩
  · refine lv_iload_n hx hb dX5_isMarked_10 rfl (lv_at hl 3 rfl) ?_
    refine lv_sipush (v := iI (999)) hx hb dX5_isMarked_11 (by decide) ?_
    refine my_icmp_le (tgt := 27) hx hb (by omega) dX5_isMarked_14 (by decide) (fun bh4 => ?_) (fun bh4 => ?_)
    · refine lv_aload_n hx hb dX5_isMarked_27 rfl (lv_at hl 0 rfl) ?_
      refine lv_iload_n hx hb dX5_isMarked_28 rfl (lv_at hl 3 rfl) ?_
      refine my_cv0 (z := ((zd.toNat : Nat) : Int)) (by omega) ?_
      have pk5 : picks [(kr, .inr (5, [.ref la, .ref ia, .ref na, .ref b4, .ref b6, .ref b8, .ref b10, .int (iI (((sh : Nat) : Int))), .int (iI (((it : Nat) : Int))), .int (iI (lc)), .int (iI (((dy : Nat) : Int))), .int (iI (pct)), .int (iI (lr)), .int (iI (sr))])), (ia, arQ cs 2 5 itf), (hi, .inr (1, [.int (iI (pk)), .int (iI (fs)), .ref ti, .ref go, .ref pr, .int (iI (st))])), (pr, .inr (0, [.ref upr])), (upr, arI cs 1005 fpr)] [2, 3, 4] [(hi, .inr (1, [.int (iI (pk)), .int (iI (fs)), .ref ti, .ref go, .ref pr, .int (iI (st))])), (pr, .inr (0, [.ref upr])), (upr, arI cs 1005 fpr)] := ⟨rfl, rfl, rfl, trivial⟩
      refine va_calli (va_runV (As := [.int (iI (((zd.toNat : Nat) : Int)))]) (rest := []) ⟨hx, hb, hml, hown, hts⟩ (m_X1_hasPromotion l D cs hi ti go pr pk fs st upr fpr zd.toNat (by omega) (hfp _)) (cwV 1 hts (gV w_443 w_444 w_445 w_10 w_446) rfl rfl rfl (by decide +kernel) ⟨Nat.le_of_ble_eq_true rfl, Nat.le_of_ble_eq_true rfl⟩) (PC_V hK hN hP hD [2, 3, 4] rfl pk5 rfl rfl) rfl rfl hl.1 rfl (lv_room (Nat.le_of_ble_eq_true rfl)) dX5_isMarked_29 ⟨Nat.le_of_ble_eq_true rfl, Nat.le_of_ble_eq_true rfl⟩) hS (fun _ _ h => False.elim h) (fun _ h => False.elim h) (fun r u t H locs ht hvm hw hB hz1 hk1 hS => ?_)
      subst hw
      have hP := P_kept hP hk1
      refine vx_ret ?_
      refine W.widen (k := 2) (n := 12) (by omega) (by omega) ?_
      have hcode : (if zd < 0 ∨ 999 < zd then 3 else 0) = 0 := by
          rw [if_neg (by omega)]
      have hres : iI (fpr zd.toNat) = iI (fpr zd.toNat) := congrArg iI (by
          rfl)
      exact W.zret hx hb hr (nar01 (hfp _)) (fun t ht hW => ⟨⟨_, (), rfl, ⟨hcode, hres⟩, trivial⟩, hS.F ht⟩) hS.2.2 dX5_isMarked_32
    · refine my_throw3 hx hb hst hts hown hE hS (hml.trans hl.1.symm) w_144 (List.mem_of_getElem? (i := 14) rfl) hnt hlocks dX5_isMarked_17 dX5_isMarked_20 dX5_isMarked_21 dX5_isMarked_23 dX5_isMarked_26 (Nat.le_of_ble_eq_true rfl) (Nat.le_of_ble_eq_true rfl) (Nat.le_of_ble_eq_true rfl) (Nat.le_of_ble_eq_true rfl) (fun t H1 ht hz1 hk1 hS1 => ?_) hS.2.2 (Nat.le_of_ble_eq_true rfl) (Nat.le_of_ble_eq_true rfl)
      have hcode : 3 = (if zd < 0 ∨ 999 < zd then 3 else 0) := by
          rw [if_pos (by omega)]
      exact ⟨3, ⟨hcode, by decide⟩, rfl, hS1.F ht⟩

abbrev ws_X5_mark : List Cond := Cond.code yX5_mark cX5_mark 5 (some .boolean) :: ALL
set_option maxHeartbeats 4000000 in
set_option maxRecDepth 100000 in
theorem m_X5_mark_no (l : Launch) (hst : l.stackTraces = false) (D : va_G) (cs : Nat → ClassId) (kr la ia na b4 b6 b8 b10 sh it : Nat) (lc : Int) (dy : Nat) (pct lr sr : Int) (itf : Nat → Option Nat) (zi : Int) (z0 : Int) (hit : it ≤ 5) (hitf : ∀ j, j < it → itf j ≠ none) (hzi : -2147483648 ≤ zi ∧ zi < 2147483648) (hno : cdS it zi ≠ 0) : vx_Met l yX5_mark ws_X5_mark ({ frames := 7, cells := 1, slots := 6, locals := 104 }) (va_Pc [.ref kr, .int (iI (zi)), .int (iI (z0))] (PE D cs [(kr, .inr (5, [.ref la, .ref ia, .ref na, .ref b4, .ref b6, .ref b8, .ref b10, .int (iI (((sh : Nat) : Int))), .int (iI (((it : Nat) : Int))), .int (iI (lc)), .int (iI (((dy : Nat) : Int))), .int (iI (pct)), .int (iI (lr)), .int (iI (sr))])), (ia, arQ cs 2 5 itf)] noA)) (va_Qi (fun r (_ : Unit) => cdS it zi = 0 ∧ r = iI (0)) (fun _ _ => True) noA) (vx_X (fun (u : Nat) => u = cdS it zi ∧ u ≠ 0) (fun E u _ => E = exN u) noA) 1 6 noA := by
  refine vx_ofW (cc := cX5_mark) (maxL := 5) (ret := (some .boolean)) (by decide +kernel) rfl ?_
  intro p e s m args below meth c s₁ B hml hnt hv
  obtain ⟨rfl, ⟨hP, hK, hD, hN⟩, hE⟩ := hv
  have hx := B.exec
  have hb := B.bytes
  have hr := B.returns
  have hts : ∀ w ∈ ALL, w.before _ s = true := fun w h => atoms_spec (ws := ws_X5_mark) B.pre w (List.mem_cons_of_mem _ h)
  have hown : s.vm.findClass RX5 = some m.cls := findClass_of_methodNamed B.named
  have hlocks := B.notSynchronized
  have hS : va_S noA s.heap s.heap [] := va_S.rf
  generalize inW [(kr, .inr (5, [.ref la, .ref ia, .ref na, .ref b4, .ref b6, .ref b8, .ref b10, .int (iI (((sh : Nat) : Int))), .int (iI (((it : Nat) : Int))), .int (iI (lc)), .int (iI (((dy : Nat) : Int))), .int (iI (pct)), .int (iI (lr)), .int (iI (sr))])), (ia, arQ cs 2 5 itf)] = A at hD
  have hl := lv_entry ([.ref kr, .int (iI (zi)), .int (iI (z0))]) (n := 5) (Nat.le_of_ble_eq_true rfl)
  rw [lg_entry_eq]
  generalize (lg_sl ([.ref kr, .int (iI (zi)), .int (iI (z0))]) ++ List.replicate (5 - (lg_sl ([.ref kr, .int (iI (zi)), .int (iI (z0))])).length) Slot.unset).toArray = ls at hl ⊢
  have hl : lv_has ls 5 [(0, .ref kr), (1, .int (iI (zi))), (2, .int (iI (z0)))] := hl
  have hH := rfl (a := s.heap)
  refine lv_aload_n hx hb dX5_mark_0 rfl (lv_at hl 0 rfl) ?_
  refine lv_iload_n hx hb dX5_mark_1 rfl (lv_at hl 1 rfl) ?_
  have pk1 : picks [(kr, .inr (5, [.ref la, .ref ia, .ref na, .ref b4, .ref b6, .ref b8, .ref b10, .int (iI (((sh : Nat) : Int))), .int (iI (((it : Nat) : Int))), .int (iI (lc)), .int (iI (((dy : Nat) : Int))), .int (iI (pct)), .int (iI (lr)), .int (iI (sr))])), (ia, arQ cs 2 5 itf)] [0, 1] [(kr, .inr (5, [.ref la, .ref ia, .ref na, .ref b4, .ref b6, .ref b8, .ref b10, .int (iI (((sh : Nat) : Int))), .int (iI (((it : Nat) : Int))), .int (iI (lc)), .int (iI (((dy : Nat) : Int))), .int (iI (pct)), .int (iI (lr)), .int (iI (sr))])), (ia, arQ cs 2 5 itf)] := ⟨rfl, rfl, trivial⟩
  refine vx_callq (vx_runV (As := [.int (iI (zi))]) (rest := []) ⟨hx, hb, hml, hown, hts⟩ (m_X5_requireItem l hst D cs kr la ia na b4 b6 b8 b10 sh it lc dy pct lr sr itf zi (by assumption) (by assumption) (by omega)) (cwV 1 hts (gV w_301 w_303 w_p3 w_1 w_304) rfl rfl rfl (by decide +kernel) ⟨Nat.le_of_ble_eq_true rfl, Nat.le_of_ble_eq_true rfl⟩) (PE_V hK hN hE hS (fun _ h => False.elim h) hP hD [0, 1] rfl pk1 rfl rfl) rfl rfl hl.1 rfl (lv_room (Nat.le_of_ble_eq_true rfl)) dX5_mark_2 ⟨Nat.le_of_ble_eq_true rfl, Nat.le_of_ble_eq_true rfl⟩) hS (fun _ _ h => False.elim h) (fun _ h => False.elim h) (fun _ _ h => False.elim h) (fun E ce q9 u t H1 locs1 ht hvm hpx hBX hz1 hk1 hS1 hce hcv hcl => ?_) (fun r u t H locs ht hvm hw hB hz1 hk1 hS => ?_)
  · have hcode : u = cdS it zi := by
        have h9 : u = cdS it zi := hpx.1
        have h10 : u ≠ 0 := hpx.2
        exact h9
    exact vx_out (fun x hx => (hnt x hx).elim) hlocks hce hcv hcl (fun t2 ht2 _ => ⟨u, ⟨hcode, hpx.2⟩, hBX, hS1.F ht2⟩) hS1.2.2 (Nat.le_of_ble_eq_true rfl) (Nat.le_of_ble_eq_true rfl)
  obtain ⟨hc2, hw⟩ := hw
  subst hw
  have hP := P_kept hP hk1
  have hci := cdS_s it zi
  exact absurd hc2 hno

set_option maxHeartbeats 4000000 in
set_option maxRecDepth 100000 in
theorem m_X5_mark_ok (l : Launch) (hst : l.stackTraces = false) (D : va_G) (cs : Nat → ClassId) (kr la ia na b4 b6 b8 b10 sh it : Nat) (lc : Int) (dy : Nat) (pct lr sr : Int) (itf : Nat → Option Nat) (tn : Nat) (hi ti go pr : Nat) (pk fs st : Int) (upr : Nat) (fpr : Nat → Int) (zd : Int) (hit : it ≤ 5) (hitf : ∀ j, j < it → itf j ≠ none) (htn : tn < it) (hitn : itf tn = some hi) (hfp : ∀ j, 0 ≤ fpr j ∧ fpr j ≤ 1) (hd : dy < 1000) (hzd : -2147483648 ≤ zd ∧ zd < 2147483648) : vx_Met l yX5_mark ws_X5_mark ({ frames := 7, cells := 2, slots := 12, locals := 104 }) (va_Pc [.ref kr, .int (iI (((tn : Nat) : Int))), .int (iI (zd))] (PE D cs [(kr, .inr (5, [.ref la, .ref ia, .ref na, .ref b4, .ref b6, .ref b8, .ref b10, .int (iI (((sh : Nat) : Int))), .int (iI (((it : Nat) : Int))), .int (iI (lc)), .int (iI (((dy : Nat) : Int))), .int (iI (pct)), .int (iI (lr)), .int (iI (sr))])), (ia, arQ cs 2 5 itf), (hi, .inr (1, [.int (iI (pk)), .int (iI (fs)), .ref ti, .ref go, .ref pr, .int (iI (st))])), (pr, .inr (0, [.ref upr])), (upr, arI cs 1005 fpr)] (inW [(kr, .inr (5, [.ref la, .ref ia, .ref na, .ref b4, .ref b6, .ref b8, .ref b10, .int (iI (((sh : Nat) : Int))), .int (iI (((it : Nat) : Int))), .int (iI (lc)), .int (iI (((dy : Nat) : Int))), .int (iI (pct)), .int (iI (lr)), .int (iI (sr))])), (ia, arQ cs 2 5 itf), (hi, .inr (1, [.int (iI (pk)), .int (iI (fs)), .ref ti, .ref go, .ref pr, .int (iI (st))])), (pr, .inr (0, [.ref upr])), (upr, arI cs 1005 fpr)]))) (va_Qi (fun r (_ : Unit) => (if zd < (dy : Int) ∨ 999 < zd then 3 else 0) = 0 ∧ r = iI (fpr zd.toNat)) (fun _ t => va_P D vwCl [(kr, .inr (5, [.ref la, .ref ia, .ref na, .ref b4, .ref b6, .ref b8, .ref b10, .int (iI (((sh : Nat) : Int))), .int (iI (((it : Nat) : Int))), .int (iI (lc)), .int (iI (((dy : Nat) : Int))), .int (iI (pct)), .int (iI (lr)), .int (iI (sr))])), (ia, arQ cs 2 5 itf), (hi, .inr (1, [.int (iI (pk)), .int (iI (fs)), .ref ti, .ref go, .ref pr, .int (iI (st))])), (pr, .inr (0, [.ref upr])), (upr, arI cs 1005 (upI fpr zd.toNat 1))] t.heap) (inW [(kr, .inr (5, [.ref la, .ref ia, .ref na, .ref b4, .ref b6, .ref b8, .ref b10, .int (iI (((sh : Nat) : Int))), .int (iI (((it : Nat) : Int))), .int (iI (lc)), .int (iI (((dy : Nat) : Int))), .int (iI (pct)), .int (iI (lr)), .int (iI (sr))])), (ia, arQ cs 2 5 itf), (hi, .inr (1, [.int (iI (pk)), .int (iI (fs)), .ref ti, .ref go, .ref pr, .int (iI (st))])), (pr, .inr (0, [.ref upr])), (upr, arI cs 1005 fpr)])) (vx_X (fun (u : Nat) => u = (if zd < (dy : Int) ∨ 999 < zd then 3 else 0) ∧ u ≠ 0) (fun E u t => E = exN u ∧ va_P D vwCl [(kr, .inr (5, [.ref la, .ref ia, .ref na, .ref b4, .ref b6, .ref b8, .ref b10, .int (iI (((sh : Nat) : Int))), .int (iI (((it : Nat) : Int))), .int (iI (lc)), .int (iI (((dy : Nat) : Int))), .int (iI (pct)), .int (iI (lr)), .int (iI (sr))])), (ia, arQ cs 2 5 itf), (hi, .inr (1, [.int (iI (pk)), .int (iI (fs)), .ref ti, .ref go, .ref pr, .int (iI (st))])), (pr, .inr (0, [.ref upr])), (upr, arI cs 1005 fpr)] t.heap) (inW [(kr, .inr (5, [.ref la, .ref ia, .ref na, .ref b4, .ref b6, .ref b8, .ref b10, .int (iI (((sh : Nat) : Int))), .int (iI (((it : Nat) : Int))), .int (iI (lc)), .int (iI (((dy : Nat) : Int))), .int (iI (pct)), .int (iI (lr)), .int (iI (sr))])), (ia, arQ cs 2 5 itf), (hi, .inr (1, [.int (iI (pk)), .int (iI (fs)), .ref ti, .ref go, .ref pr, .int (iI (st))])), (pr, .inr (0, [.ref upr])), (upr, arI cs 1005 fpr)])) 2 12 (inW [(kr, .inr (5, [.ref la, .ref ia, .ref na, .ref b4, .ref b6, .ref b8, .ref b10, .int (iI (((sh : Nat) : Int))), .int (iI (((it : Nat) : Int))), .int (iI (lc)), .int (iI (((dy : Nat) : Int))), .int (iI (pct)), .int (iI (lr)), .int (iI (sr))])), (ia, arQ cs 2 5 itf), (hi, .inr (1, [.int (iI (pk)), .int (iI (fs)), .ref ti, .ref go, .ref pr, .int (iI (st))])), (pr, .inr (0, [.ref upr])), (upr, arI cs 1005 fpr)]) := by
  refine vx_ofW (cc := cX5_mark) (maxL := 5) (ret := (some .boolean)) (by decide +kernel) rfl ?_
  intro p e s m args below meth c s₁ B hml hnt hv
  obtain ⟨rfl, ⟨hP, hK, hD, hN⟩, hE⟩ := hv
  have hx := B.exec
  have hb := B.bytes
  have hr := B.returns
  have hts : ∀ w ∈ ALL, w.before _ s = true := fun w h => atoms_spec (ws := ws_X5_mark) B.pre w (List.mem_cons_of_mem _ h)
  have hown : s.vm.findClass RX5 = some m.cls := findClass_of_methodNamed B.named
  have hlocks := B.notSynchronized
  generalize hAe : inW [(kr, .inr (5, [.ref la, .ref ia, .ref na, .ref b4, .ref b6, .ref b8, .ref b10, .int (iI (((sh : Nat) : Int))), .int (iI (((it : Nat) : Int))), .int (iI (lc)), .int (iI (((dy : Nat) : Int))), .int (iI (pct)), .int (iI (lr)), .int (iI (sr))])), (ia, arQ cs 2 5 itf), (hi, .inr (1, [.int (iI (pk)), .int (iI (fs)), .ref ti, .ref go, .ref pr, .int (iI (st))])), (pr, .inr (0, [.ref upr])), (upr, arI cs 1005 fpr)] = A at hD hE ⊢
  have hS : va_S A s.heap s.heap [] := va_S.rf
  have hl := lv_entry ([.ref kr, .int (iI (((tn : Nat) : Int))), .int (iI (zd))]) (n := 5) (Nat.le_of_ble_eq_true rfl)
  rw [lg_entry_eq]
  generalize (lg_sl ([.ref kr, .int (iI (((tn : Nat) : Int))), .int (iI (zd))]) ++ List.replicate (5 - (lg_sl ([.ref kr, .int (iI (((tn : Nat) : Int))), .int (iI (zd))])).length) Slot.unset).toArray = ls at hl ⊢
  have hl : lv_has ls 5 [(0, .ref kr), (1, .int (iI (((tn : Nat) : Int)))), (2, .int (iI (zd)))] := hl
  have hH := rfl (a := s.heap)
  refine lv_aload_n hx hb dX5_mark_0 rfl (lv_at hl 0 rfl) ?_
  refine lv_iload_n hx hb dX5_mark_1 rfl (lv_at hl 1 rfl) ?_
  have pk1 : picks [(kr, .inr (5, [.ref la, .ref ia, .ref na, .ref b4, .ref b6, .ref b8, .ref b10, .int (iI (((sh : Nat) : Int))), .int (iI (((it : Nat) : Int))), .int (iI (lc)), .int (iI (((dy : Nat) : Int))), .int (iI (pct)), .int (iI (lr)), .int (iI (sr))])), (ia, arQ cs 2 5 itf), (hi, .inr (1, [.int (iI (pk)), .int (iI (fs)), .ref ti, .ref go, .ref pr, .int (iI (st))])), (pr, .inr (0, [.ref upr])), (upr, arI cs 1005 fpr)] [0, 1] [(kr, .inr (5, [.ref la, .ref ia, .ref na, .ref b4, .ref b6, .ref b8, .ref b10, .int (iI (((sh : Nat) : Int))), .int (iI (((it : Nat) : Int))), .int (iI (lc)), .int (iI (((dy : Nat) : Int))), .int (iI (pct)), .int (iI (lr)), .int (iI (sr))])), (ia, arQ cs 2 5 itf)] := ⟨rfl, rfl, trivial⟩
  refine vx_callq (vx_runV (As := [.int (iI (((tn : Nat) : Int)))]) (rest := []) ⟨hx, hb, hml, hown, hts⟩ (m_X5_requireItem l hst D cs kr la ia na b4 b6 b8 b10 sh it lc dy pct lr sr itf ((tn : Nat) : Int) (by assumption) (by assumption) (by omega)) (cwV 1 hts (gV w_301 w_303 w_p3 w_1 w_304) rfl rfl rfl (by decide +kernel) ⟨Nat.le_of_ble_eq_true rfl, Nat.le_of_ble_eq_true rfl⟩) (PE_V hK hN hE hS (fun _ h => False.elim h) hP hD [0, 1] rfl pk1 rfl rfl) rfl rfl hl.1 rfl (lv_room (Nat.le_of_ble_eq_true rfl)) dX5_mark_2 ⟨Nat.le_of_ble_eq_true rfl, Nat.le_of_ble_eq_true rfl⟩) hS (fun _ _ h => False.elim h) (fun _ h => False.elim h) (fun _ _ h => False.elim h) (fun E ce q9 u t H1 locs1 ht hvm hpx hBX hz1 hk1 hS1 hce hcv hcl => ?_) (fun r u t H locs ht hvm hw hB hz1 hk1 hS => ?_)
  · have hcode : u = (if zd < (dy : Int) ∨ 999 < zd then 3 else 0) := by
        have h9 : u = cdS it ((tn : Nat) : Int) := hpx.1
        have h10 : u ≠ 0 := hpx.2
        exact absurd (h9.trans (cdS_0 htn)) h10
    have hP := P_kept hP hk1
    subst hAe
    exact vx_out (fun x hx => (hnt x hx).elim) hlocks hce hcv hcl (fun t2 ht2 _ => ⟨u, ⟨hcode, hpx.2⟩, ⟨hBX, by show va_P D vwCl _ t2.heap; rw [ht2]; exact hP⟩, hS1.F ht2⟩) hS1.2.2 (Nat.le_of_ble_eq_true rfl) (Nat.le_of_ble_eq_true rfl)
  obtain ⟨hc2, hw⟩ := hw
  subst hw
  have hP := P_kept hP hk1
  have hci := cdS_s it ((tn : Nat) : Int)
  have hq0 : itf (((tn : Nat) : Int)).toNat = some hi := by rw [Int.toNat_natCast]; exact hitn
  refine my_cvq hq0 ?_
  refine lv_astore_n (lv' := [(3, .ref hi), (0, .ref kr), (1, .int (iI (((tn : Nat) : Int)))), (2, .int (iI (zd)))]) hx hb dX5_mark_5 rfl hl (by decide) rfl (fun ls hl => ?_)
  refine lv_iload_n hx hb dX5_mark_6 rfl (lv_at hl 3 rfl) ?_
  refine lv_aload_n hx hb dX5_mark_7 rfl (lv_at hl 1 rfl) ?_
  refine my_get hx hb hts inAX5 hown hK hP 0 rfl rfl 10 (by decide) w_79 rfl rfl dX5_mark_8 ?_
  refine my_icmp_lt (tgt := 21) hx hb (by omega) dX5_mark_11 (by decide) (fun bh3 => ?_) (fun bh3 => ?_)
  · refine my_throw3 hx hb hst hts hown hE hS (hml.trans hl.1.symm) w_144 (List.mem_of_getElem? (i := 13) rfl) hnt hlocks dX5_mark_21 dX5_mark_24 dX5_mark_25 dX5_mark_27 dX5_mark_30 (Nat.le_of_ble_eq_true rfl) (Nat.le_of_ble_eq_true rfl) (Nat.le_of_ble_eq_true rfl) (Nat.le_of_ble_eq_true rfl) (fun t H1 ht hz1 hk1 hS1 => ?_) hS.2.2 (Nat.le_of_ble_eq_true rfl) (Nat.le_of_ble_eq_true rfl)
    have hcode : 3 = (if zd < (dy : Int) ∨ 999 < zd then 3 else 0) := by
        rw [if_pos (by omega)]
    subst hAe
    exact ⟨3, ⟨hcode, by decide⟩, ⟨rfl, by show va_P D vwCl _ t.heap; rw [ht]; exact hP.kept (fun k q hq => hk1 q.1 (hP k q hq).lt)⟩, hS1.F ht⟩
  · refine lv_iload_n hx hb dX5_mark_14 rfl (lv_at hl 3 rfl) ?_
    refine lv_sipush (v := iI (999)) hx hb dX5_mark_15 (by decide) ?_
    refine my_icmp_le (tgt := 31) hx hb (by omega) dX5_mark_18 (by decide) (fun bh4 => ?_) (fun bh4 => ?_)
    · refine lv_aload_n hx hb dX5_mark_31 rfl (lv_at hl 0 rfl) ?_
      refine lv_iload_n hx hb dX5_mark_32 rfl (lv_at hl 3 rfl) ?_
      refine my_cv0 (z := ((zd.toNat : Nat) : Int)) (by omega) ?_
      have hfz := hfp zd.toNat
      have pk5 : picks [(kr, .inr (5, [.ref la, .ref ia, .ref na, .ref b4, .ref b6, .ref b8, .ref b10, .int (iI (((sh : Nat) : Int))), .int (iI (((it : Nat) : Int))), .int (iI (lc)), .int (iI (((dy : Nat) : Int))), .int (iI (pct)), .int (iI (lr)), .int (iI (sr))])), (ia, arQ cs 2 5 itf), (hi, .inr (1, [.int (iI (pk)), .int (iI (fs)), .ref ti, .ref go, .ref pr, .int (iI (st))])), (pr, .inr (0, [.ref upr])), (upr, arI cs 1005 fpr)] [2, 3, 4] [(hi, .inr (1, [.int (iI (pk)), .int (iI (fs)), .ref ti, .ref go, .ref pr, .int (iI (st))])), (pr, .inr (0, [.ref upr])), (upr, arI cs 1005 fpr)] := ⟨rfl, rfl, rfl, trivial⟩
      refine va_calli (va_runV (As := [.int (iI (((zd.toNat : Nat) : Int)))]) (rest := []) ⟨hx, hb, hml, hown, hts⟩ (m_X1_hasPromotion l D cs hi ti go pr pk fs st upr fpr zd.toNat (by omega) (hfp _)) (cwV 1 hts (gV w_443 w_444 w_445 w_10 w_446) rfl rfl rfl (by decide +kernel) ⟨Nat.le_of_ble_eq_true rfl, Nat.le_of_ble_eq_true rfl⟩) (PC_V hK hN hP hD [2, 3, 4] rfl pk5 rfl rfl) rfl rfl hl.1 rfl (lv_room (Nat.le_of_ble_eq_true rfl)) dX5_mark_33 ⟨Nat.le_of_ble_eq_true rfl, Nat.le_of_ble_eq_true rfl⟩) hS (fun _ _ h => False.elim h) (fun _ h => False.elim h) (fun r u t H locs ht hvm hw hB hz1 hk1 hS => ?_)
      subst hw
      have hP := P_kept hP hk1
      refine lv_istore (lv' := [(4, .int (iI (fpr zd.toNat))), (3, .ref hi), (0, .ref kr), (1, .int (iI (((tn : Nat) : Int)))), (2, .int (iI (zd)))]) hx hb dX5_mark_36 hl (by decide) rfl (fun ls hl => ?_)
      refine lv_iload hx hb dX5_mark_38 (lv_at hl 0 rfl) ?_
      refine my_if_ne (tgt := 52) hx hb (by omega) dX5_mark_40 (by decide) (fun bh6 => ?_) (fun bh6 => ?_)
      · refine lv_iload hx hb dX5_mark_52 (lv_at hl 0 rfl) ?_
        have hWe : ([(kr, .inr (5, [.ref la, .ref ia, .ref na, .ref b4, .ref b6, .ref b8, .ref b10, .int (iI (((sh : Nat) : Int))), .int (iI (((it : Nat) : Int))), .int (iI (lc)), .int (iI (((dy : Nat) : Int))), .int (iI (pct)), .int (iI (lr)), .int (iI (sr))])), (ia, arQ cs 2 5 itf), (hi, .inr (1, [.int (iI (pk)), .int (iI (fs)), .ref ti, .ref go, .ref pr, .int (iI (st))])), (pr, .inr (0, [.ref upr])), (upr, arI cs 1005 fpr)] : va_W) = [(kr, .inr (5, [.ref la, .ref ia, .ref na, .ref b4, .ref b6, .ref b8, .ref b10, .int (iI (((sh : Nat) : Int))), .int (iI (((it : Nat) : Int))), .int (iI (lc)), .int (iI (((dy : Nat) : Int))), .int (iI (pct)), .int (iI (lr)), .int (iI (sr))])), (ia, arQ cs 2 5 itf), (hi, .inr (1, [.int (iI (pk)), .int (iI (fs)), .ref ti, .ref go, .ref pr, .int (iI (st))])), (pr, .inr (0, [.ref upr])), (upr, arI cs 1005 (upI fpr zd.toNat 1))] := by
          have hz1 : fpr zd.toNat = 1 := by omega
          rw [upI_id hz1]
        rw [hWe] at hP
        subst hAe
        refine vx_ret ?_
        refine W.widen (k := 2) (n := 12) (by omega) (by omega) ?_
        have hcode : (if zd < (dy : Int) ∨ 999 < zd then 3 else 0) = 0 := by
            rw [if_neg (by omega)]
        have hres : iI (fpr zd.toNat) = iI (fpr zd.toNat) := congrArg iI (by
            rfl)
        exact W.zret hx hb hr (nar01 (hfp _)) (fun t ht hW => ⟨⟨_, (), rfl, ⟨hcode, hres⟩, by show va_P D vwCl _ t.heap; rw [ht]; exact hP⟩, hS.F ht⟩) hS.2.2 dX5_mark_54
      · refine lv_aload_n hx hb dX5_mark_43 rfl (lv_at hl 1 rfl) ?_
        refine my_getN hx hb hts inAX1 hown hK hN hP 2 rfl rfl 4 (by decide) 1 rfl rfl rfl dX5_mark_44 ?_
        refine lv_iload_n hx hb dX5_mark_47 rfl (lv_at hl 4 rfl) ?_
        refine my_cv0 (z := ((zd.toNat : Nat) : Int)) (by omega) ?_
        refine lv_iconst (v := iI (1)) hx hb dX5_mark_48 rfl ?_
        have pk7 : picks [(kr, .inr (5, [.ref la, .ref ia, .ref na, .ref b4, .ref b6, .ref b8, .ref b10, .int (iI (((sh : Nat) : Int))), .int (iI (((it : Nat) : Int))), .int (iI (lc)), .int (iI (((dy : Nat) : Int))), .int (iI (pct)), .int (iI (lr)), .int (iI (sr))])), (ia, arQ cs 2 5 itf), (hi, .inr (1, [.int (iI (pk)), .int (iI (fs)), .ref ti, .ref go, .ref pr, .int (iI (st))])), (pr, .inr (0, [.ref upr])), (upr, arI cs 1005 fpr)] [3, 4] [(pr, .inr (0, [.ref upr])), (upr, arI cs 1005 fpr)] := ⟨rfl, rfl, trivial⟩
        refine va_callv (va_runV (As := [.int (iI (((zd.toNat : Nat) : Int))), .int (iI (1))]) (rest := []) ⟨hx, hb, hml, hown, hts⟩ (m_X0_add l D cs pr upr fpr zd.toNat 1 (by omega)) (cwV 2 hts (gV w_448 w_415 w_416 w_2 w_417) rfl rfl rfl (by decide +kernel) ⟨Nat.le_of_ble_eq_true rfl, Nat.le_of_ble_eq_true rfl⟩) (PC_V hK hN hP hD [3, 4] rfl pk7 rfl rfl) rfl rfl hl.1 rfl (lv_room (Nat.le_of_ble_eq_true rfl)) dX5_mark_49 ⟨Nat.le_of_ble_eq_true rfl, Nat.le_of_ble_eq_true rfl⟩) hS (fun q _ h => inW_sub hD [3, 4] pk7 q h) (fun q h => inW_sub hD [3, 4] pk7 q h) (fun u t H locs ht hvm hw hB hz1 hk1 hS => ?_)
        rw [ht] at hB
        obtain ⟨hP, hD⟩ := my_join (W1 := [(pr, .inr (0, [.ref upr])), (upr, arI cs 1005 (upI fpr zd.toNat (fpr zd.toNat + 1)))]) hP hD [3, 4] rfl pk7 rfl hk1 hB
        have hP : va_P D vwCl [(kr, .inr (5, [.ref la, .ref ia, .ref na, .ref b4, .ref b6, .ref b8, .ref b10, .int (iI (((sh : Nat) : Int))), .int (iI (((it : Nat) : Int))), .int (iI (lc)), .int (iI (((dy : Nat) : Int))), .int (iI (pct)), .int (iI (lr)), .int (iI (sr))])), (ia, arQ cs 2 5 itf), (hi, .inr (1, [.int (iI (pk)), .int (iI (fs)), .ref ti, .ref go, .ref pr, .int (iI (st))])), (pr, .inr (0, [.ref upr])), (upr, arI cs 1005 (upI fpr zd.toNat (fpr zd.toNat + 1)))] H := hP
        have hD : va_D A [(kr, .inr (5, [.ref la, .ref ia, .ref na, .ref b4, .ref b6, .ref b8, .ref b10, .int (iI (((sh : Nat) : Int))), .int (iI (((it : Nat) : Int))), .int (iI (lc)), .int (iI (((dy : Nat) : Int))), .int (iI (pct)), .int (iI (lr)), .int (iI (sr))])), (ia, arQ cs 2 5 itf), (hi, .inr (1, [.int (iI (pk)), .int (iI (fs)), .ref ti, .ref go, .ref pr, .int (iI (st))])), (pr, .inr (0, [.ref upr])), (upr, arI cs 1005 (upI fpr zd.toNat (fpr zd.toNat + 1)))] := hD
        refine lv_iload hx hb dX5_mark_52 (lv_at hl 0 rfl) ?_
        have hWe : ([(kr, .inr (5, [.ref la, .ref ia, .ref na, .ref b4, .ref b6, .ref b8, .ref b10, .int (iI (((sh : Nat) : Int))), .int (iI (((it : Nat) : Int))), .int (iI (lc)), .int (iI (((dy : Nat) : Int))), .int (iI (pct)), .int (iI (lr)), .int (iI (sr))])), (ia, arQ cs 2 5 itf), (hi, .inr (1, [.int (iI (pk)), .int (iI (fs)), .ref ti, .ref go, .ref pr, .int (iI (st))])), (pr, .inr (0, [.ref upr])), (upr, arI cs 1005 (upI fpr zd.toNat (fpr zd.toNat + 1)))] : va_W) = [(kr, .inr (5, [.ref la, .ref ia, .ref na, .ref b4, .ref b6, .ref b8, .ref b10, .int (iI (((sh : Nat) : Int))), .int (iI (((it : Nat) : Int))), .int (iI (lc)), .int (iI (((dy : Nat) : Int))), .int (iI (pct)), .int (iI (lr)), .int (iI (sr))])), (ia, arQ cs 2 5 itf), (hi, .inr (1, [.int (iI (pk)), .int (iI (fs)), .ref ti, .ref go, .ref pr, .int (iI (st))])), (pr, .inr (0, [.ref upr])), (upr, arI cs 1005 (upI fpr zd.toNat 1))] := by
          have hz1 : fpr zd.toNat + 1 = 1 := by omega
          rw [hz1]
        rw [hWe] at hP
        subst hAe
        refine vx_ret ?_
        refine W.widen (k := 2) (n := 12) (by omega) (by omega) ?_
        have hcode : (if zd < (dy : Int) ∨ 999 < zd then 3 else 0) = 0 := by
            rw [if_neg (by omega)]
        have hres : iI (fpr zd.toNat) = iI (fpr zd.toNat) := congrArg iI (by
            rfl)
        exact W.zret hx hb hr (nar01 (hfp _)) (fun t ht hW => ⟨⟨_, (), rfl, ⟨hcode, hres⟩, by show va_P D vwCl _ t.heap; rw [ht]; exact hP⟩, hS.F ht⟩) hS.2.2 dX5_mark_54
    · refine my_throw3 hx hb hst hts hown hE hS (hml.trans hl.1.symm) w_144 (List.mem_of_getElem? (i := 13) rfl) hnt hlocks dX5_mark_21 dX5_mark_24 dX5_mark_25 dX5_mark_27 dX5_mark_30 (Nat.le_of_ble_eq_true rfl) (Nat.le_of_ble_eq_true rfl) (Nat.le_of_ble_eq_true rfl) (Nat.le_of_ble_eq_true rfl) (fun t H1 ht hz1 hk1 hS1 => ?_) hS.2.2 (Nat.le_of_ble_eq_true rfl) (Nat.le_of_ble_eq_true rfl)
      have hcode : 3 = (if zd < (dy : Int) ∨ 999 < zd then 3 else 0) := by
          rw [if_pos (by omega)]
      subst hAe
      exact ⟨3, ⟨hcode, by decide⟩, ⟨rfl, by show va_P D vwCl _ t.heap; rw [ht]; exact hP.kept (fun k q hq => hk1 q.1 (hP k q hq).lt)⟩, hS1.F ht⟩

abbrev ws_X5_carries : List Cond := Cond.code yX5_carries cX5_carries 3 (some .boolean) :: ALL
set_option maxHeartbeats 4000000 in
set_option maxRecDepth 100000 in
theorem m_X5_carries (l : Launch) (hst : l.stackTraces = false) (D : va_G) (cs : Nat → ClassId) (kr la ia na b4 b6 b8 b10 sh it : Nat) (lc : Int) (dy : Nat) (pct lr sr : Int) (lf : Nat → Int) (itf : Nat → Option Nat) (lnf : Nat → Option Nat) (zs zi : Int) (hsh : sh ≤ 4) (hit : it ≤ 5) (hitf : ∀ j, j < it → itf j ≠ none) (hzs : -2147483648 ≤ zs ∧ zs < 2147483648) (hzi : -2147483648 ≤ zi ∧ zi < 2147483648) : vx_Met l yX5_carries ws_X5_carries ({ frames := 7, cells := 2, slots := 12, locals := 104 }) (va_Pc [.ref kr, .int (iI (zs)), .int (iI (zi))] (PE D cs [(kr, .inr (5, [.ref la, .ref ia, .ref na, .ref b4, .ref b6, .ref b8, .ref b10, .int (iI (((sh : Nat) : Int))), .int (iI (((it : Nat) : Int))), .int (iI (lc)), .int (iI (((dy : Nat) : Int))), .int (iI (pct)), .int (iI (lr)), .int (iI (sr))])), (la, arI cs 4 lf), (ia, arQ cs 2 5 itf), (na, arQ cs 3 20 lnf)] noA)) (va_Qi (fun r (_ : Unit) => (if (0 ≤ zs ∧ zs < (sh : Int)) ∧ (0 ≤ zi ∧ zi < (it : Int)) then 0 else 1) = 0 ∧ r = iI (crI sh it lnf zs zi)) (fun _ _ => True) noA) (vx_X (fun (u : Nat) => u = (if (0 ≤ zs ∧ zs < (sh : Int)) ∧ (0 ≤ zi ∧ zi < (it : Int)) then 0 else 1) ∧ u ≠ 0) (fun E u _ => E = exN u) noA) 2 12 noA := by
  refine vx_ofW (cc := cX5_carries) (maxL := 3) (ret := (some .boolean)) (by decide +kernel) rfl ?_
  intro p e s m args below meth c s₁ B hml hnt hv
  obtain ⟨rfl, ⟨hP, hK, hD, hN⟩, hE⟩ := hv
  have hx := B.exec
  have hb := B.bytes
  have hr := B.returns
  have hts : ∀ w ∈ ALL, w.before _ s = true := fun w h => atoms_spec (ws := ws_X5_carries) B.pre w (List.mem_cons_of_mem _ h)
  have hown : s.vm.findClass RX5 = some m.cls := findClass_of_methodNamed B.named
  have hlocks := B.notSynchronized
  have hS : va_S noA s.heap s.heap [] := va_S.rf
  generalize inW [(kr, .inr (5, [.ref la, .ref ia, .ref na, .ref b4, .ref b6, .ref b8, .ref b10, .int (iI (((sh : Nat) : Int))), .int (iI (((it : Nat) : Int))), .int (iI (lc)), .int (iI (((dy : Nat) : Int))), .int (iI (pct)), .int (iI (lr)), .int (iI (sr))])), (la, arI cs 4 lf), (ia, arQ cs 2 5 itf), (na, arQ cs 3 20 lnf)] = A at hD
  have hl := lv_entry ([.ref kr, .int (iI (zs)), .int (iI (zi))]) (n := 3) (Nat.le_of_ble_eq_true rfl)
  rw [lg_entry_eq]
  generalize (lg_sl ([.ref kr, .int (iI (zs)), .int (iI (zi))]) ++ List.replicate (3 - (lg_sl ([.ref kr, .int (iI (zs)), .int (iI (zi))])).length) Slot.unset).toArray = ls at hl ⊢
  have hl : lv_has ls 3 [(0, .ref kr), (1, .int (iI (zs))), (2, .int (iI (zi)))] := hl
  have hH := rfl (a := s.heap)
  refine lv_aload_n hx hb dX5_carries_0 rfl (lv_at hl 0 rfl) ?_
  refine lv_iload_n hx hb dX5_carries_1 rfl (lv_at hl 1 rfl) ?_
  have pk1 : picks [(kr, .inr (5, [.ref la, .ref ia, .ref na, .ref b4, .ref b6, .ref b8, .ref b10, .int (iI (((sh : Nat) : Int))), .int (iI (((it : Nat) : Int))), .int (iI (lc)), .int (iI (((dy : Nat) : Int))), .int (iI (pct)), .int (iI (lr)), .int (iI (sr))])), (la, arI cs 4 lf), (ia, arQ cs 2 5 itf), (na, arQ cs 3 20 lnf)] [0, 1] [(kr, .inr (5, [.ref la, .ref ia, .ref na, .ref b4, .ref b6, .ref b8, .ref b10, .int (iI (((sh : Nat) : Int))), .int (iI (((it : Nat) : Int))), .int (iI (lc)), .int (iI (((dy : Nat) : Int))), .int (iI (pct)), .int (iI (lr)), .int (iI (sr))])), (la, arI cs 4 lf)] := ⟨rfl, rfl, trivial⟩
  refine vx_callv (vx_runV (As := [.int (iI (zs))]) (rest := []) ⟨hx, hb, hml, hown, hts⟩ (m_X5_requireShop l hst D cs kr la ia na b4 b6 b8 b10 sh it lc dy pct lr sr lf zs (by assumption) (by omega)) (cwV 1 hts (gV w_277 w_279 w_p1 w_1 w_280) rfl rfl rfl (by decide +kernel) ⟨Nat.le_of_ble_eq_true rfl, Nat.le_of_ble_eq_true rfl⟩) (PE_V hK hN hE hS (fun _ h => False.elim h) hP hD [0, 1] rfl pk1 rfl rfl) rfl rfl hl.1 rfl (lv_room (Nat.le_of_ble_eq_true rfl)) dX5_carries_2 ⟨Nat.le_of_ble_eq_true rfl, Nat.le_of_ble_eq_true rfl⟩) hS (fun _ _ h => False.elim h) (fun _ h => False.elim h) (fun _ _ h => False.elim h) (fun E ce q9 u t H1 locs1 ht hvm hpx hBX hz1 hk1 hS1 hce hcv hcl => ?_) (fun u t H locs ht hvm hw hB hz1 hk1 hS => ?_)
  · have hcode : u = (if (0 ≤ zs ∧ zs < (sh : Int)) ∧ (0 ≤ zi ∧ zi < (it : Int)) then 0 else 1) := by
        have h9 : u = cdS sh zs := hpx.1
        have h10 : u ≠ 0 := hpx.2
        have h11 := cdS_s sh zs
        rw [if_neg (by omega)]; omega
    exact vx_out (fun x hx => (hnt x hx).elim) hlocks hce hcv hcl (fun t2 ht2 _ => ⟨u, ⟨hcode, hpx.2⟩, hBX, hS1.F ht2⟩) hS1.2.2 (Nat.le_of_ble_eq_true rfl) (Nat.le_of_ble_eq_true rfl)
  have hc2 := hw
  have hP := P_kept hP hk1
  have hcs := cdS_s sh zs
  refine lv_aload_n hx hb dX5_carries_5 rfl (lv_at hl 0 rfl) ?_
  refine lv_iload_n hx hb dX5_carries_6 rfl (lv_at hl 2 rfl) ?_
  have pk3 : picks [(kr, .inr (5, [.ref la, .ref ia, .ref na, .ref b4, .ref b6, .ref b8, .ref b10, .int (iI (((sh : Nat) : Int))), .int (iI (((it : Nat) : Int))), .int (iI (lc)), .int (iI (((dy : Nat) : Int))), .int (iI (pct)), .int (iI (lr)), .int (iI (sr))])), (la, arI cs 4 lf), (ia, arQ cs 2 5 itf), (na, arQ cs 3 20 lnf)] [0, 2] [(kr, .inr (5, [.ref la, .ref ia, .ref na, .ref b4, .ref b6, .ref b8, .ref b10, .int (iI (((sh : Nat) : Int))), .int (iI (((it : Nat) : Int))), .int (iI (lc)), .int (iI (((dy : Nat) : Int))), .int (iI (pct)), .int (iI (lr)), .int (iI (sr))])), (ia, arQ cs 2 5 itf)] := ⟨rfl, rfl, trivial⟩
  refine vx_callq (vx_runV (As := [.int (iI (zi))]) (rest := []) ⟨hx, hb, hml, hown, hts⟩ (m_X5_requireItem l hst D cs kr la ia na b4 b6 b8 b10 sh it lc dy pct lr sr itf zi (by assumption) (by assumption) (by omega)) (cwV 1 hts (gV w_301 w_303 w_p3 w_1 w_304) rfl rfl rfl (by decide +kernel) ⟨Nat.le_of_ble_eq_true rfl, Nat.le_of_ble_eq_true rfl⟩) (PE_V hK hN hE hS (fun _ h => False.elim h) hP hD [0, 2] rfl pk3 rfl rfl) rfl rfl hl.1 rfl (lv_room (Nat.le_of_ble_eq_true rfl)) dX5_carries_7 ⟨Nat.le_of_ble_eq_true rfl, Nat.le_of_ble_eq_true rfl⟩) hS (fun _ _ h => False.elim h) (fun _ h => False.elim h) (fun _ _ h => False.elim h) (fun E ce q9 u t H1 locs1 ht hvm hpx hBX hz1 hk1 hS1 hce hcv hcl => ?_) (fun r u t H locs ht hvm hw hB hz1 hk1 hS => ?_)
  · have hcode : u = (if (0 ≤ zs ∧ zs < (sh : Int)) ∧ (0 ≤ zi ∧ zi < (it : Int)) then 0 else 1) := by
        have h9 : u = cdS it zi := hpx.1
        have h10 : u ≠ 0 := hpx.2
        have h11 := cdS_s it zi
        rw [if_neg (by omega)]; omega
    exact vx_out (fun x hx => (hnt x hx).elim) hlocks hce hcv hcl (fun t2 ht2 _ => ⟨u, ⟨hcode, hpx.2⟩, hBX, hS1.F ht2⟩) hS1.2.2 (Nat.le_of_ble_eq_true rfl) (Nat.le_of_ble_eq_true rfl)
  obtain ⟨hc4, hw⟩ := hw
  subst hw
  have hP := P_kept hP hk1
  have hci := cdS_s it zi
  refine lv_pop hx hb dX5_carries_10 (rf_cat _) ?_
  refine lv_aload_n hx hb dX5_carries_11 rfl (lv_at hl 0 rfl) ?_
  refine lv_iload_n hx hb dX5_carries_12 rfl (lv_at hl 1 rfl) ?_
  refine lv_iload_n hx hb dX5_carries_13 rfl (lv_at hl 2 rfl) ?_
  have pk5 : picks [(kr, .inr (5, [.ref la, .ref ia, .ref na, .ref b4, .ref b6, .ref b8, .ref b10, .int (iI (((sh : Nat) : Int))), .int (iI (((it : Nat) : Int))), .int (iI (lc)), .int (iI (((dy : Nat) : Int))), .int (iI (pct)), .int (iI (lr)), .int (iI (sr))])), (la, arI cs 4 lf), (ia, arQ cs 2 5 itf), (na, arQ cs 3 20 lnf)] [0, 1, 2, 3] [(kr, .inr (5, [.ref la, .ref ia, .ref na, .ref b4, .ref b6, .ref b8, .ref b10, .int (iI (((sh : Nat) : Int))), .int (iI (((it : Nat) : Int))), .int (iI (lc)), .int (iI (((dy : Nat) : Int))), .int (iI (pct)), .int (iI (lr)), .int (iI (sr))])), (la, arI cs 4 lf), (ia, arQ cs 2 5 itf), (na, arQ cs 3 20 lnf)] := ⟨rfl, rfl, rfl, rfl, trivial⟩
  refine va_callq (va_runV (As := [.int (iI (zs)), .int (iI (zi))]) (rest := []) ⟨hx, hb, hml, hown, hts⟩ (m_X5_lineOrNull l D cs kr la ia na b4 b6 b8 b10 sh it lc dy pct lr sr lf itf lnf zs zi (by assumption) (by assumption) (by omega) (by omega)) (cwV 2 hts (gV w_397 w_399 w_p8 w_1 w_400) rfl rfl rfl (by decide +kernel) ⟨Nat.le_of_ble_eq_true rfl, Nat.le_of_ble_eq_true rfl⟩) (PC_V hK hN hP hD [0, 1, 2, 3] rfl pk5 rfl rfl) rfl rfl hl.1 rfl (lv_room (Nat.le_of_ble_eq_true rfl)) dX5_carries_14 ⟨Nat.le_of_ble_eq_true rfl, Nat.le_of_ble_eq_true rfl⟩) hS (fun _ _ h => False.elim h) (fun _ h => False.elim h) (fun r u t H locs ht hvm hw hB hz1 hk1 hS => ?_)
  subst hw
  have hP := P_kept hP hk1
  rcases hq6 : (lnO sh it lnf zs zi) with _ | qa7
  · refine lv_ifnullN (tgt := 24) hx hb dX5_carries_17 (by decide) ?_
    refine lv_iconst (v := iI (0)) hx hb dX5_carries_24 rfl ?_
    refine vx_ret ?_
    refine W.widen (k := 2) (n := 12) (by omega) (by omega) ?_
    have hcode : (if (0 ≤ zs ∧ zs < (sh : Int)) ∧ (0 ≤ zi ∧ zi < (it : Int)) then 0 else 1) = 0 := by
        rw [if_pos (by omega)]
    have hres : iI (0) = iI (crI sh it lnf zs zi) := congrArg iI (by
        unfold crI; rw [if_pos hq6])
    exact W.zret hx hb hr (by decide) (fun t ht hW => ⟨⟨_, (), rfl, ⟨hcode, hres⟩, trivial⟩, hS.F ht⟩) hS.2.2 dX5_carries_25
  · refine lv_ifnull hx hb dX5_carries_17 ?_
    refine lv_iconst (v := iI (1)) hx hb dX5_carries_20 rfl ?_
    refine lv_goto (tgt := 25) hx hb dX5_carries_21 (by decide) ?_
    refine vx_ret ?_
    refine W.widen (k := 2) (n := 12) (by omega) (by omega) ?_
    have hcode : (if (0 ≤ zs ∧ zs < (sh : Int)) ∧ (0 ≤ zi ∧ zi < (it : Int)) then 0 else 1) = 0 := by
        rw [if_pos (by omega)]
    have hres : iI (1) = iI (crI sh it lnf zs zi) := congrArg iI (by
        unfold crI; rw [if_neg (by rw [hq6]; simp)])
    exact W.zret hx hb hr (by decide) (fun t ht hW => ⟨⟨_, (), rfl, ⟨hcode, hres⟩, trivial⟩, hS.F ht⟩) hS.2.2 dX5_carries_25

abbrev ws_X5_levelByDays : List Cond := Cond.code yX5_levelByDays cX5_levelByDays 5 (some .int) :: ALL
set_option maxHeartbeats 4000000 in
set_option maxRecDepth 100000 in
theorem m_X5_levelByDays_no (l : Launch) (hst : l.stackTraces = false) (D : va_G) (cs : Nat → ClassId) (kr la ia na b4 b6 b8 b10 sh it : Nat) (lc : Int) (dy : Nat) (pct lr sr : Int) (lf : Nat → Int) (itf : Nat → Option Nat) (lnf : Nat → Option Nat) (zs zi : Int) (hsh : sh ≤ 4) (hit : it ≤ 5) (hitf : ∀ j, j < it → itf j ≠ none) (hzs : -2147483648 ≤ zs ∧ zs < 2147483648) (hzi : -2147483648 ≤ zi ∧ zi < 2147483648) (hno : cdL sh it lnf zs zi ≠ 0) : vx_Met l yX5_levelByDays ws_X5_levelByDays ({ frames := 8, cells := 3, slots := 18, locals := 127 }) (va_Pc [.ref kr, .int (iI (zs)), .int (iI (zi))] (PE D cs [(kr, .inr (5, [.ref la, .ref ia, .ref na, .ref b4, .ref b6, .ref b8, .ref b10, .int (iI (((sh : Nat) : Int))), .int (iI (((it : Nat) : Int))), .int (iI (lc)), .int (iI (((dy : Nat) : Int))), .int (iI (pct)), .int (iI (lr)), .int (iI (sr))])), (la, arI cs 4 lf), (ia, arQ cs 2 5 itf), (na, arQ cs 3 20 lnf)] noA)) (va_Qi (fun r (_ : Unit) => cdL sh it lnf zs zi = 0 ∧ r = iI (0)) (fun _ _ => True) noA) (vx_X (fun (u : Nat) => u = cdL sh it lnf zs zi ∧ u ≠ 0) (fun E u _ => E = exN u) noA) 3 18 noA := by
  refine vx_ofW (cc := cX5_levelByDays) (maxL := 5) (ret := (some .int)) (by decide +kernel) rfl ?_
  intro p e s m args below meth c s₁ B hml hnt hv
  obtain ⟨rfl, ⟨hP, hK, hD, hN⟩, hE⟩ := hv
  have hx := B.exec
  have hb := B.bytes
  have hr := B.returns
  have hts : ∀ w ∈ ALL, w.before _ s = true := fun w h => atoms_spec (ws := ws_X5_levelByDays) B.pre w (List.mem_cons_of_mem _ h)
  have hown : s.vm.findClass RX5 = some m.cls := findClass_of_methodNamed B.named
  have hlocks := B.notSynchronized
  have hS : va_S noA s.heap s.heap [] := va_S.rf
  generalize inW [(kr, .inr (5, [.ref la, .ref ia, .ref na, .ref b4, .ref b6, .ref b8, .ref b10, .int (iI (((sh : Nat) : Int))), .int (iI (((it : Nat) : Int))), .int (iI (lc)), .int (iI (((dy : Nat) : Int))), .int (iI (pct)), .int (iI (lr)), .int (iI (sr))])), (la, arI cs 4 lf), (ia, arQ cs 2 5 itf), (na, arQ cs 3 20 lnf)] = A at hD
  have hl := lv_entry ([.ref kr, .int (iI (zs)), .int (iI (zi))]) (n := 5) (Nat.le_of_ble_eq_true rfl)
  rw [lg_entry_eq]
  generalize (lg_sl ([.ref kr, .int (iI (zs)), .int (iI (zi))]) ++ List.replicate (5 - (lg_sl ([.ref kr, .int (iI (zs)), .int (iI (zi))])).length) Slot.unset).toArray = ls at hl ⊢
  have hl : lv_has ls 5 [(0, .ref kr), (1, .int (iI (zs))), (2, .int (iI (zi)))] := hl
  have hH := rfl (a := s.heap)
  refine lv_aload_n hx hb dX5_levelByDays_0 rfl (lv_at hl 0 rfl) ?_
  refine lv_iload_n hx hb dX5_levelByDays_1 rfl (lv_at hl 1 rfl) ?_
  refine lv_iload_n hx hb dX5_levelByDays_2 rfl (lv_at hl 2 rfl) ?_
  have pk1 : picks [(kr, .inr (5, [.ref la, .ref ia, .ref na, .ref b4, .ref b6, .ref b8, .ref b10, .int (iI (((sh : Nat) : Int))), .int (iI (((it : Nat) : Int))), .int (iI (lc)), .int (iI (((dy : Nat) : Int))), .int (iI (pct)), .int (iI (lr)), .int (iI (sr))])), (la, arI cs 4 lf), (ia, arQ cs 2 5 itf), (na, arQ cs 3 20 lnf)] [0, 1, 2, 3] [(kr, .inr (5, [.ref la, .ref ia, .ref na, .ref b4, .ref b6, .ref b8, .ref b10, .int (iI (((sh : Nat) : Int))), .int (iI (((it : Nat) : Int))), .int (iI (lc)), .int (iI (((dy : Nat) : Int))), .int (iI (pct)), .int (iI (lr)), .int (iI (sr))])), (la, arI cs 4 lf), (ia, arQ cs 2 5 itf), (na, arQ cs 3 20 lnf)] := ⟨rfl, rfl, rfl, rfl, trivial⟩
  refine vx_callq (vx_runV (As := [.int (iI (zs)), .int (iI (zi))]) (rest := []) ⟨hx, hb, hml, hown, hts⟩ (m_X5_requireLine l hst D cs kr la ia na b4 b6 b8 b10 sh it lc dy pct lr sr lf itf lnf zs zi (by assumption) (by assumption) (by assumption) (by omega) (by omega)) (cwV 2 hts (gV w_466 w_468 w_p9 w_1 w_469) rfl rfl rfl (by decide +kernel) ⟨Nat.le_of_ble_eq_true rfl, Nat.le_of_ble_eq_true rfl⟩) (PE_V hK hN hE hS (fun _ h => False.elim h) hP hD [0, 1, 2, 3] rfl pk1 rfl rfl) rfl rfl hl.1 rfl (lv_room (Nat.le_of_ble_eq_true rfl)) dX5_levelByDays_3 ⟨Nat.le_of_ble_eq_true rfl, Nat.le_of_ble_eq_true rfl⟩) hS (fun _ _ h => False.elim h) (fun _ h => False.elim h) (fun _ _ h => False.elim h) (fun E ce q9 u t H1 locs1 ht hvm hpx hBX hz1 hk1 hS1 hce hcv hcl => ?_) (fun r u t H locs ht hvm hw hB hz1 hk1 hS => ?_)
  · have hcode : u = cdL sh it lnf zs zi := by
        have h9 : u = cdL sh it lnf zs zi := hpx.1
        have h10 : u ≠ 0 := hpx.2
        exact h9
    exact vx_out (fun x hx => (hnt x hx).elim) hlocks hce hcv hcl (fun t2 ht2 _ => ⟨u, ⟨hcode, hpx.2⟩, hBX, hS1.F ht2⟩) hS1.2.2 (Nat.le_of_ble_eq_true rfl) (Nat.le_of_ble_eq_true rfl)
  obtain ⟨hc2, hw⟩ := hw
  subst hw
  have hP := P_kept hP hk1
  exact absurd hc2 hno

set_option maxHeartbeats 4000000 in
set_option maxRecDepth 100000 in
theorem m_X5_levelByDays_ok (l : Launch) (hst : l.stackTraces = false) (D : va_G) (cs : Nat → ClassId) (kr la ia na b4 b6 b8 b10 sh it : Nat) (lc : Int) (dy : Nat) (pct lr sr : Int) (lf : Nat → Int) (itf : Nat → Option Nat) (lnf : Nat → Option Nat) (sn tn : Nat) (kn hi kl ke kd ks ka : Nat) (ld fk fv es sk so lo : Int) (ti go pr : Nat) (pk fs st : Int) (fdn upr ud ur ulr usr : Nat) (rv : Int) (fpr dm rse lrf srf : Nat → Int) (hsh : sh ≤ 4) (hit : it ≤ 5) (hitf : ∀ j, j < it → itf j ≠ none) (hsn : sn < sh) (htn : tn < it) (hln : lnf (sn * 5 + tn) = some kn) (hd : dy < 1000) (hfp : ∀ j, 0 ≤ fpr j ∧ fpr j ≤ 1) (hfv : 0 ≤ fv ∧ fv ≤ 9990000) (hfd : fdn ≤ dy) (hdm : ∀ j, 0 ≤ dm j ∧ dm j ≤ 999) (hlrf : ∀ j, 0 ≤ lrf j ∧ lrf j ≤ 100) (hsrf : ∀ j, 0 ≤ srf j ∧ srf j ≤ 100) : vx_Met l yX5_levelByDays ws_X5_levelByDays ({ frames := 8, cells := 3, slots := 18, locals := 127 }) (va_Pc [.ref kr, .int (iI (((sn : Nat) : Int))), .int (iI (((tn : Nat) : Int)))] (PE D cs [(kr, .inr (5, [.ref la, .ref ia, .ref na, .ref b4, .ref b6, .ref b8, .ref b10, .int (iI (((sh : Nat) : Int))), .int (iI (((it : Nat) : Int))), .int (iI (lc)), .int (iI (((dy : Nat) : Int))), .int (iI (pct)), .int (iI (lr)), .int (iI (sr))])), (la, arI cs 4 lf), (ia, arQ cs 2 5 itf), (na, arQ cs 3 20 lnf), (kn, .inr (3, [.ref hi, .int (iI (ld)), .int (iI (((fdn : Nat) : Int))), .int (iI (fk)), .int (iI (fv)), .ref kl, .ref ke, .ref kd, .ref ks, .ref ka, .int (iI (es)), .int (iI (sk)), .int (iI (so)), .int (iI (lo))])), (hi, .inr (1, [.int (iI (pk)), .int (iI (fs)), .ref ti, .ref go, .ref pr, .int (iI (st))])), (pr, .inr (0, [.ref upr])), (upr, arI cs 1005 fpr), (kd, .inr (0, [.ref ud])), (ud, arI cs 1005 dm), (b8, .inr (2, [.ref ur, .int (iI (rv))])), (ur, arI cs 7 rse), (b4, .inr (0, [.ref ulr])), (ulr, arI cs 1005 lrf), (b6, .inr (0, [.ref usr])), (usr, arI cs 1005 srf)] (inW [(kr, .inr (5, [.ref la, .ref ia, .ref na, .ref b4, .ref b6, .ref b8, .ref b10, .int (iI (((sh : Nat) : Int))), .int (iI (((it : Nat) : Int))), .int (iI (lc)), .int (iI (((dy : Nat) : Int))), .int (iI (pct)), .int (iI (lr)), .int (iI (sr))])), (la, arI cs 4 lf), (ia, arQ cs 2 5 itf), (na, arQ cs 3 20 lnf), (kn, .inr (3, [.ref hi, .int (iI (ld)), .int (iI (((fdn : Nat) : Int))), .int (iI (fk)), .int (iI (fv)), .ref kl, .ref ke, .ref kd, .ref ks, .ref ka, .int (iI (es)), .int (iI (sk)), .int (iI (so)), .int (iI (lo))])), (hi, .inr (1, [.int (iI (pk)), .int (iI (fs)), .ref ti, .ref go, .ref pr, .int (iI (st))])), (pr, .inr (0, [.ref upr])), (upr, arI cs 1005 fpr), (kd, .inr (0, [.ref ud])), (ud, arI cs 1005 dm), (b8, .inr (2, [.ref ur, .int (iI (rv))])), (ur, arI cs 7 rse), (b4, .inr (0, [.ref ulr])), (ulr, arI cs 1005 lrf), (b6, .inr (0, [.ref usr])), (usr, arI cs 1005 srf)]))) (va_Qi (fun r (_ : Unit) => 0 = 0 ∧ r = iI ((rpS fv fpr dm lrf srf fdn (dy - fdn)).1)) (fun _ t => va_P D vwCl [(kr, .inr (5, [.ref la, .ref ia, .ref na, .ref b4, .ref b6, .ref b8, .ref b10, .int (iI (((sh : Nat) : Int))), .int (iI (((it : Nat) : Int))), .int (iI (lc)), .int (iI (((dy : Nat) : Int))), .int (iI (pct)), .int (iI (lr)), .int (iI (sr))])), (la, arI cs 4 lf), (ia, arQ cs 2 5 itf), (na, arQ cs 3 20 lnf), (kn, .inr (3, [.ref hi, .int (iI (ld)), .int (iI (((fdn : Nat) : Int))), .int (iI (fk)), .int (iI (fv)), .ref kl, .ref ke, .ref kd, .ref ks, .ref ka, .int (iI (es)), .int (iI (sk)), .int (iI (so)), .int (iI (lo))])), (hi, .inr (1, [.int (iI (pk)), .int (iI (fs)), .ref ti, .ref go, .ref pr, .int (iI (st))])), (pr, .inr (0, [.ref upr])), (upr, arI cs 1005 fpr), (kd, .inr (0, [.ref ud])), (ud, arI cs 1005 dm), (b8, .inr (2, [.ref ur, .int (iI ((rpS fv fpr dm lrf srf fdn (dy - fdn)).1))])), (ur, arI cs 7 ((rpS fv fpr dm lrf srf fdn (dy - fdn)).2)), (b4, .inr (0, [.ref ulr])), (ulr, arI cs 1005 lrf), (b6, .inr (0, [.ref usr])), (usr, arI cs 1005 srf)] t.heap) (inW [(kr, .inr (5, [.ref la, .ref ia, .ref na, .ref b4, .ref b6, .ref b8, .ref b10, .int (iI (((sh : Nat) : Int))), .int (iI (((it : Nat) : Int))), .int (iI (lc)), .int (iI (((dy : Nat) : Int))), .int (iI (pct)), .int (iI (lr)), .int (iI (sr))])), (la, arI cs 4 lf), (ia, arQ cs 2 5 itf), (na, arQ cs 3 20 lnf), (kn, .inr (3, [.ref hi, .int (iI (ld)), .int (iI (((fdn : Nat) : Int))), .int (iI (fk)), .int (iI (fv)), .ref kl, .ref ke, .ref kd, .ref ks, .ref ka, .int (iI (es)), .int (iI (sk)), .int (iI (so)), .int (iI (lo))])), (hi, .inr (1, [.int (iI (pk)), .int (iI (fs)), .ref ti, .ref go, .ref pr, .int (iI (st))])), (pr, .inr (0, [.ref upr])), (upr, arI cs 1005 fpr), (kd, .inr (0, [.ref ud])), (ud, arI cs 1005 dm), (b8, .inr (2, [.ref ur, .int (iI (rv))])), (ur, arI cs 7 rse), (b4, .inr (0, [.ref ulr])), (ulr, arI cs 1005 lrf), (b6, .inr (0, [.ref usr])), (usr, arI cs 1005 srf)])) (vx_X (fun (u : Nat) => u = 0 ∧ u ≠ 0) (fun E u t => E = exN u ∧ va_P D vwCl [(kr, .inr (5, [.ref la, .ref ia, .ref na, .ref b4, .ref b6, .ref b8, .ref b10, .int (iI (((sh : Nat) : Int))), .int (iI (((it : Nat) : Int))), .int (iI (lc)), .int (iI (((dy : Nat) : Int))), .int (iI (pct)), .int (iI (lr)), .int (iI (sr))])), (la, arI cs 4 lf), (ia, arQ cs 2 5 itf), (na, arQ cs 3 20 lnf), (kn, .inr (3, [.ref hi, .int (iI (ld)), .int (iI (((fdn : Nat) : Int))), .int (iI (fk)), .int (iI (fv)), .ref kl, .ref ke, .ref kd, .ref ks, .ref ka, .int (iI (es)), .int (iI (sk)), .int (iI (so)), .int (iI (lo))])), (hi, .inr (1, [.int (iI (pk)), .int (iI (fs)), .ref ti, .ref go, .ref pr, .int (iI (st))])), (pr, .inr (0, [.ref upr])), (upr, arI cs 1005 fpr), (kd, .inr (0, [.ref ud])), (ud, arI cs 1005 dm), (b8, .inr (2, [.ref ur, .int (iI (rv))])), (ur, arI cs 7 rse), (b4, .inr (0, [.ref ulr])), (ulr, arI cs 1005 lrf), (b6, .inr (0, [.ref usr])), (usr, arI cs 1005 srf)] t.heap) (inW [(kr, .inr (5, [.ref la, .ref ia, .ref na, .ref b4, .ref b6, .ref b8, .ref b10, .int (iI (((sh : Nat) : Int))), .int (iI (((it : Nat) : Int))), .int (iI (lc)), .int (iI (((dy : Nat) : Int))), .int (iI (pct)), .int (iI (lr)), .int (iI (sr))])), (la, arI cs 4 lf), (ia, arQ cs 2 5 itf), (na, arQ cs 3 20 lnf), (kn, .inr (3, [.ref hi, .int (iI (ld)), .int (iI (((fdn : Nat) : Int))), .int (iI (fk)), .int (iI (fv)), .ref kl, .ref ke, .ref kd, .ref ks, .ref ka, .int (iI (es)), .int (iI (sk)), .int (iI (so)), .int (iI (lo))])), (hi, .inr (1, [.int (iI (pk)), .int (iI (fs)), .ref ti, .ref go, .ref pr, .int (iI (st))])), (pr, .inr (0, [.ref upr])), (upr, arI cs 1005 fpr), (kd, .inr (0, [.ref ud])), (ud, arI cs 1005 dm), (b8, .inr (2, [.ref ur, .int (iI (rv))])), (ur, arI cs 7 rse), (b4, .inr (0, [.ref ulr])), (ulr, arI cs 1005 lrf), (b6, .inr (0, [.ref usr])), (usr, arI cs 1005 srf)])) 3 18 (inW [(kr, .inr (5, [.ref la, .ref ia, .ref na, .ref b4, .ref b6, .ref b8, .ref b10, .int (iI (((sh : Nat) : Int))), .int (iI (((it : Nat) : Int))), .int (iI (lc)), .int (iI (((dy : Nat) : Int))), .int (iI (pct)), .int (iI (lr)), .int (iI (sr))])), (la, arI cs 4 lf), (ia, arQ cs 2 5 itf), (na, arQ cs 3 20 lnf), (kn, .inr (3, [.ref hi, .int (iI (ld)), .int (iI (((fdn : Nat) : Int))), .int (iI (fk)), .int (iI (fv)), .ref kl, .ref ke, .ref kd, .ref ks, .ref ka, .int (iI (es)), .int (iI (sk)), .int (iI (so)), .int (iI (lo))])), (hi, .inr (1, [.int (iI (pk)), .int (iI (fs)), .ref ti, .ref go, .ref pr, .int (iI (st))])), (pr, .inr (0, [.ref upr])), (upr, arI cs 1005 fpr), (kd, .inr (0, [.ref ud])), (ud, arI cs 1005 dm), (b8, .inr (2, [.ref ur, .int (iI (rv))])), (ur, arI cs 7 rse), (b4, .inr (0, [.ref ulr])), (ulr, arI cs 1005 lrf), (b6, .inr (0, [.ref usr])), (usr, arI cs 1005 srf)]) := by
  refine vx_ofW (cc := cX5_levelByDays) (maxL := 5) (ret := (some .int)) (by decide +kernel) rfl ?_
  intro p e s m args below meth c s₁ B hml hnt hv
  obtain ⟨rfl, ⟨hP, hK, hD, hN⟩, hE⟩ := hv
  have hx := B.exec
  have hb := B.bytes
  have hr := B.returns
  have hts : ∀ w ∈ ALL, w.before _ s = true := fun w h => atoms_spec (ws := ws_X5_levelByDays) B.pre w (List.mem_cons_of_mem _ h)
  have hown : s.vm.findClass RX5 = some m.cls := findClass_of_methodNamed B.named
  have hlocks := B.notSynchronized
  generalize hAe : inW [(kr, .inr (5, [.ref la, .ref ia, .ref na, .ref b4, .ref b6, .ref b8, .ref b10, .int (iI (((sh : Nat) : Int))), .int (iI (((it : Nat) : Int))), .int (iI (lc)), .int (iI (((dy : Nat) : Int))), .int (iI (pct)), .int (iI (lr)), .int (iI (sr))])), (la, arI cs 4 lf), (ia, arQ cs 2 5 itf), (na, arQ cs 3 20 lnf), (kn, .inr (3, [.ref hi, .int (iI (ld)), .int (iI (((fdn : Nat) : Int))), .int (iI (fk)), .int (iI (fv)), .ref kl, .ref ke, .ref kd, .ref ks, .ref ka, .int (iI (es)), .int (iI (sk)), .int (iI (so)), .int (iI (lo))])), (hi, .inr (1, [.int (iI (pk)), .int (iI (fs)), .ref ti, .ref go, .ref pr, .int (iI (st))])), (pr, .inr (0, [.ref upr])), (upr, arI cs 1005 fpr), (kd, .inr (0, [.ref ud])), (ud, arI cs 1005 dm), (b8, .inr (2, [.ref ur, .int (iI (rv))])), (ur, arI cs 7 rse), (b4, .inr (0, [.ref ulr])), (ulr, arI cs 1005 lrf), (b6, .inr (0, [.ref usr])), (usr, arI cs 1005 srf)] = A at hD hE ⊢
  have hS : va_S A s.heap s.heap [] := va_S.rf
  have hl := lv_entry ([.ref kr, .int (iI (((sn : Nat) : Int))), .int (iI (((tn : Nat) : Int)))]) (n := 5) (Nat.le_of_ble_eq_true rfl)
  rw [lg_entry_eq]
  generalize (lg_sl ([.ref kr, .int (iI (((sn : Nat) : Int))), .int (iI (((tn : Nat) : Int)))]) ++ List.replicate (5 - (lg_sl ([.ref kr, .int (iI (((sn : Nat) : Int))), .int (iI (((tn : Nat) : Int)))])).length) Slot.unset).toArray = ls at hl ⊢
  have hl : lv_has ls 5 [(0, .ref kr), (1, .int (iI (((sn : Nat) : Int)))), (2, .int (iI (((tn : Nat) : Int))))] := hl
  have hH := rfl (a := s.heap)
  refine lv_aload_n hx hb dX5_levelByDays_0 rfl (lv_at hl 0 rfl) ?_
  refine lv_iload_n hx hb dX5_levelByDays_1 rfl (lv_at hl 1 rfl) ?_
  refine lv_iload_n hx hb dX5_levelByDays_2 rfl (lv_at hl 2 rfl) ?_
  have pk1 : picks [(kr, .inr (5, [.ref la, .ref ia, .ref na, .ref b4, .ref b6, .ref b8, .ref b10, .int (iI (((sh : Nat) : Int))), .int (iI (((it : Nat) : Int))), .int (iI (lc)), .int (iI (((dy : Nat) : Int))), .int (iI (pct)), .int (iI (lr)), .int (iI (sr))])), (la, arI cs 4 lf), (ia, arQ cs 2 5 itf), (na, arQ cs 3 20 lnf), (kn, .inr (3, [.ref hi, .int (iI (ld)), .int (iI (((fdn : Nat) : Int))), .int (iI (fk)), .int (iI (fv)), .ref kl, .ref ke, .ref kd, .ref ks, .ref ka, .int (iI (es)), .int (iI (sk)), .int (iI (so)), .int (iI (lo))])), (hi, .inr (1, [.int (iI (pk)), .int (iI (fs)), .ref ti, .ref go, .ref pr, .int (iI (st))])), (pr, .inr (0, [.ref upr])), (upr, arI cs 1005 fpr), (kd, .inr (0, [.ref ud])), (ud, arI cs 1005 dm), (b8, .inr (2, [.ref ur, .int (iI (rv))])), (ur, arI cs 7 rse), (b4, .inr (0, [.ref ulr])), (ulr, arI cs 1005 lrf), (b6, .inr (0, [.ref usr])), (usr, arI cs 1005 srf)] [0, 1, 2, 3] [(kr, .inr (5, [.ref la, .ref ia, .ref na, .ref b4, .ref b6, .ref b8, .ref b10, .int (iI (((sh : Nat) : Int))), .int (iI (((it : Nat) : Int))), .int (iI (lc)), .int (iI (((dy : Nat) : Int))), .int (iI (pct)), .int (iI (lr)), .int (iI (sr))])), (la, arI cs 4 lf), (ia, arQ cs 2 5 itf), (na, arQ cs 3 20 lnf)] := ⟨rfl, rfl, rfl, rfl, trivial⟩
  refine vx_callq (vx_runV (As := [.int (iI (((sn : Nat) : Int))), .int (iI (((tn : Nat) : Int)))]) (rest := []) ⟨hx, hb, hml, hown, hts⟩ (m_X5_requireLine l hst D cs kr la ia na b4 b6 b8 b10 sh it lc dy pct lr sr lf itf lnf ((sn : Nat) : Int) ((tn : Nat) : Int) (by assumption) (by assumption) (by assumption) (by omega) (by omega)) (cwV 2 hts (gV w_466 w_468 w_p9 w_1 w_469) rfl rfl rfl (by decide +kernel) ⟨Nat.le_of_ble_eq_true rfl, Nat.le_of_ble_eq_true rfl⟩) (PE_V hK hN hE hS (fun _ h => False.elim h) hP hD [0, 1, 2, 3] rfl pk1 rfl rfl) rfl rfl hl.1 rfl (lv_room (Nat.le_of_ble_eq_true rfl)) dX5_levelByDays_3 ⟨Nat.le_of_ble_eq_true rfl, Nat.le_of_ble_eq_true rfl⟩) hS (fun _ _ h => False.elim h) (fun _ h => False.elim h) (fun _ _ h => False.elim h) (fun E ce q9 u t H1 locs1 ht hvm hpx hBX hz1 hk1 hS1 hce hcv hcl => ?_) (fun r u t H locs ht hvm hw hB hz1 hk1 hS => ?_)
  · have hcode : u = 0 := by
        have h9 : u = cdL sh it lnf ((sn : Nat) : Int) ((tn : Nat) : Int) := hpx.1
        have h10 : u ≠ 0 := hpx.2
        exact absurd (h9.trans (cdL_0 (lnf := lnf) hsn htn hln)) h10
    have hP := P_kept hP hk1
    subst hAe
    exact vx_out (fun x hx => (hnt x hx).elim) hlocks hce hcv hcl (fun t2 ht2 _ => ⟨u, ⟨hcode, hpx.2⟩, ⟨hBX, by show va_P D vwCl _ t2.heap; rw [ht2]; exact hP⟩, hS1.F ht2⟩) hS1.2.2 (Nat.le_of_ble_eq_true rfl) (Nat.le_of_ble_eq_true rfl)
  obtain ⟨hc2, hw⟩ := hw
  subst hw
  have hP := P_kept hP hk1
  have hq0 : lnf (((sn : Nat) : Int) * 5 + ((tn : Nat) : Int)).toNat = some kn := by rw [ix5]; exact hln
  refine my_cvq hq0 ?_
  refine lv_astore_n (lv' := [(3, .ref kn), (0, .ref kr), (1, .int (iI (((sn : Nat) : Int)))), (2, .int (iI (((tn : Nat) : Int))))]) hx hb dX5_levelByDays_6 rfl hl (by decide) rfl (fun ls hl => ?_)
  refine lv_aload_n hx hb dX5_levelByDays_7 rfl (lv_at hl 1 rfl) ?_
  refine my_get hx hb hts inAX5 hown hK hP 0 rfl rfl 5 (by decide) w_74 rfl rfl dX5_levelByDays_8 ?_
  refine lv_aload_n hx hb dX5_levelByDays_11 rfl (lv_at hl 0 rfl) ?_
  refine my_getN hx hb hts inAX3 hown hK hN hP 4 rfl rfl 4 (by decide) 5 rfl rfl rfl dX5_levelByDays_12 ?_
  have pk3 : picks [(kr, .inr (5, [.ref la, .ref ia, .ref na, .ref b4, .ref b6, .ref b8, .ref b10, .int (iI (((sh : Nat) : Int))), .int (iI (((it : Nat) : Int))), .int (iI (lc)), .int (iI (((dy : Nat) : Int))), .int (iI (pct)), .int (iI (lr)), .int (iI (sr))])), (la, arI cs 4 lf), (ia, arQ cs 2 5 itf), (na, arQ cs 3 20 lnf), (kn, .inr (3, [.ref hi, .int (iI (ld)), .int (iI (((fdn : Nat) : Int))), .int (iI (fk)), .int (iI (fv)), .ref kl, .ref ke, .ref kd, .ref ks, .ref ka, .int (iI (es)), .int (iI (sk)), .int (iI (so)), .int (iI (lo))])), (hi, .inr (1, [.int (iI (pk)), .int (iI (fs)), .ref ti, .ref go, .ref pr, .int (iI (st))])), (pr, .inr (0, [.ref upr])), (upr, arI cs 1005 fpr), (kd, .inr (0, [.ref ud])), (ud, arI cs 1005 dm), (b8, .inr (2, [.ref ur, .int (iI (rv))])), (ur, arI cs 7 rse), (b4, .inr (0, [.ref ulr])), (ulr, arI cs 1005 lrf), (b6, .inr (0, [.ref usr])), (usr, arI cs 1005 srf)] [10, 11] [(b8, .inr (2, [.ref ur, .int (iI (rv))])), (ur, arI cs 7 rse)] := ⟨rfl, rfl, trivial⟩
  refine va_callv (va_runV (As := [.int (iI (fv))]) (rest := []) ⟨hx, hb, hml, hown, hts⟩ (m_X2_start l D cs b8 ur rv rse fv) (cwV 1 hts (gV w_767 w_336 w_337 w_3 w_338) rfl rfl rfl (by decide +kernel) ⟨Nat.le_of_ble_eq_true rfl, Nat.le_of_ble_eq_true rfl⟩) (PC_V hK hN hP hD [10, 11] rfl pk3 rfl rfl) rfl rfl hl.1 rfl (lv_room (Nat.le_of_ble_eq_true rfl)) dX5_levelByDays_15 ⟨Nat.le_of_ble_eq_true rfl, Nat.le_of_ble_eq_true rfl⟩) hS (fun q _ h => inW_sub hD [10, 11] pk3 q h) (fun q h => inW_sub hD [10, 11] pk3 q h) (fun u t H locs ht hvm hw hB hz1 hk1 hS => ?_)
  rw [ht] at hB
  obtain ⟨hP, hD⟩ := my_join (W1 := [(b8, .inr (2, [.ref ur, .int (iI (fv))])), (ur, arI cs 7 (fun _ => 1000))]) hP hD [10, 11] rfl pk3 rfl hk1 hB
  have hP : va_P D vwCl [(kr, .inr (5, [.ref la, .ref ia, .ref na, .ref b4, .ref b6, .ref b8, .ref b10, .int (iI (((sh : Nat) : Int))), .int (iI (((it : Nat) : Int))), .int (iI (lc)), .int (iI (((dy : Nat) : Int))), .int (iI (pct)), .int (iI (lr)), .int (iI (sr))])), (la, arI cs 4 lf), (ia, arQ cs 2 5 itf), (na, arQ cs 3 20 lnf), (kn, .inr (3, [.ref hi, .int (iI (ld)), .int (iI (((fdn : Nat) : Int))), .int (iI (fk)), .int (iI (fv)), .ref kl, .ref ke, .ref kd, .ref ks, .ref ka, .int (iI (es)), .int (iI (sk)), .int (iI (so)), .int (iI (lo))])), (hi, .inr (1, [.int (iI (pk)), .int (iI (fs)), .ref ti, .ref go, .ref pr, .int (iI (st))])), (pr, .inr (0, [.ref upr])), (upr, arI cs 1005 fpr), (kd, .inr (0, [.ref ud])), (ud, arI cs 1005 dm), (b8, .inr (2, [.ref ur, .int (iI (fv))])), (ur, arI cs 7 (fun _ => 1000)), (b4, .inr (0, [.ref ulr])), (ulr, arI cs 1005 lrf), (b6, .inr (0, [.ref usr])), (usr, arI cs 1005 srf)] H := hP
  have hD : va_D A [(kr, .inr (5, [.ref la, .ref ia, .ref na, .ref b4, .ref b6, .ref b8, .ref b10, .int (iI (((sh : Nat) : Int))), .int (iI (((it : Nat) : Int))), .int (iI (lc)), .int (iI (((dy : Nat) : Int))), .int (iI (pct)), .int (iI (lr)), .int (iI (sr))])), (la, arI cs 4 lf), (ia, arQ cs 2 5 itf), (na, arQ cs 3 20 lnf), (kn, .inr (3, [.ref hi, .int (iI (ld)), .int (iI (((fdn : Nat) : Int))), .int (iI (fk)), .int (iI (fv)), .ref kl, .ref ke, .ref kd, .ref ks, .ref ka, .int (iI (es)), .int (iI (sk)), .int (iI (so)), .int (iI (lo))])), (hi, .inr (1, [.int (iI (pk)), .int (iI (fs)), .ref ti, .ref go, .ref pr, .int (iI (st))])), (pr, .inr (0, [.ref upr])), (upr, arI cs 1005 fpr), (kd, .inr (0, [.ref ud])), (ud, arI cs 1005 dm), (b8, .inr (2, [.ref ur, .int (iI (fv))])), (ur, arI cs 7 (fun _ => 1000)), (b4, .inr (0, [.ref ulr])), (ulr, arI cs 1005 lrf), (b6, .inr (0, [.ref usr])), (usr, arI cs 1005 srf)] := hD
  refine lv_aload_n hx hb dX5_levelByDays_18 rfl (lv_at hl 0 rfl) ?_
  refine my_getN hx hb hts inAX3 hown hK hN hP 4 rfl rfl 2 (by decide) 6 rfl rfl rfl dX5_levelByDays_19 ?_
  refine lv_istore (lv' := [(4, .int (iI (((fdn : Nat) : Int)))), (3, .ref kn), (0, .ref kr), (1, .int (iI (((sn : Nat) : Int)))), (2, .int (iI (((tn : Nat) : Int))))]) hx hb dX5_levelByDays_22 hl (by decide) rfl (fun ls hl => ?_)
  suffices KL : ∀ (n : Nat) (i : Nat), fdn + i ≤ dy → dy - (fdn + i) < n → ∀ (H : Heap) (locs : List Loc) (ls : Array Slot), va_P D vwCl [(kr, .inr (5, [.ref la, .ref ia, .ref na, .ref b4, .ref b6, .ref b8, .ref b10, .int (iI (((sh : Nat) : Int))), .int (iI (((it : Nat) : Int))), .int (iI (lc)), .int (iI (((dy : Nat) : Int))), .int (iI (pct)), .int (iI (lr)), .int (iI (sr))])), (la, arI cs 4 lf), (ia, arQ cs 2 5 itf), (na, arQ cs 3 20 lnf), (kn, .inr (3, [.ref hi, .int (iI (ld)), .int (iI (((fdn : Nat) : Int))), .int (iI (fk)), .int (iI (fv)), .ref kl, .ref ke, .ref kd, .ref ks, .ref ka, .int (iI (es)), .int (iI (sk)), .int (iI (so)), .int (iI (lo))])), (hi, .inr (1, [.int (iI (pk)), .int (iI (fs)), .ref ti, .ref go, .ref pr, .int (iI (st))])), (pr, .inr (0, [.ref upr])), (upr, arI cs 1005 fpr), (kd, .inr (0, [.ref ud])), (ud, arI cs 1005 dm), (b8, .inr (2, [.ref ur, .int (iI ((rpS fv fpr dm lrf srf fdn i).1))])), (ur, arI cs 7 ((rpS fv fpr dm lrf srf fdn i).2)), (b4, .inr (0, [.ref ulr])), (ulr, arI cs 1005 lrf), (b6, .inr (0, [.ref usr])), (usr, arI cs 1005 srf)] H → va_D A [(kr, .inr (5, [.ref la, .ref ia, .ref na, .ref b4, .ref b6, .ref b8, .ref b10, .int (iI (((sh : Nat) : Int))), .int (iI (((it : Nat) : Int))), .int (iI (lc)), .int (iI (((dy : Nat) : Int))), .int (iI (pct)), .int (iI (lr)), .int (iI (sr))])), (la, arI cs 4 lf), (ia, arQ cs 2 5 itf), (na, arQ cs 3 20 lnf), (kn, .inr (3, [.ref hi, .int (iI (ld)), .int (iI (((fdn : Nat) : Int))), .int (iI (fk)), .int (iI (fv)), .ref kl, .ref ke, .ref kd, .ref ks, .ref ka, .int (iI (es)), .int (iI (sk)), .int (iI (so)), .int (iI (lo))])), (hi, .inr (1, [.int (iI (pk)), .int (iI (fs)), .ref ti, .ref go, .ref pr, .int (iI (st))])), (pr, .inr (0, [.ref upr])), (upr, arI cs 1005 fpr), (kd, .inr (0, [.ref ud])), (ud, arI cs 1005 dm), (b8, .inr (2, [.ref ur, .int (iI ((rpS fv fpr dm lrf srf fdn i).1))])), (ur, arI cs 7 ((rpS fv fpr dm lrf srf fdn i).2)), (b4, .inr (0, [.ref ulr])), (ulr, arI cs 1005 lrf), (b6, .inr (0, [.ref usr])), (usr, arI cs 1005 srf)] → va_S A s.heap H locs → lv_has ls 5 [(4, .int (iI ((((fdn + i) : Nat) : Int)))), (3, .ref kn), (0, .ref kr), (1, .int (iI (((sn : Nat) : Int)))), (2, .int (iI (((tn : Nat) : Int))))] → W p l e _ s m _ below meth c H locs 3 18 _ (F0 m 24 ls []) from
    KL _ 0 (by omega) (Nat.lt_succ_self _) _ _ _ hP hD hS (lv_sub hl [0, 1, 2, 3, 4] rfl)
  intro n
  induction n with
  | zero => intro i hil h0; exact absurd h0 (Nat.not_lt_zero _)
  | succ n ih =>
    intro i hil hmu H locs ls hP hD hS hl
    have hrs := rpS_rng (pm := fpr) (srf := srf) (fd := fdn) hfv hdm hlrf i
    refine lv_iload hx hb dX5_levelByDays_24 (lv_at hl 0 rfl) ?_
    refine lv_aload_n hx hb dX5_levelByDays_26 rfl (lv_at hl 2 rfl) ?_
    refine my_get hx hb hts inAX5 hown hK hP 0 rfl rfl 10 (by decide) w_79 rfl rfl dX5_levelByDays_27 ?_
    refine my_icmp_ge (tgt := 87) hx hb (by omega) dX5_levelByDays_30 (by decide) (fun bh4 => ?_) (fun bh4 => ?_)
    · have ei : i = dy - fdn := by omega
      rw [ei] at hP hD
      refine lv_aload_n hx hb dX5_levelByDays_87 rfl (lv_at hl 2 rfl) ?_
      refine my_get hx hb hts inAX5 hown hK hP 0 rfl rfl 5 (by decide) w_74 rfl rfl dX5_levelByDays_88 ?_
      refine my_getN hx hb hts inAX2 hown hK hN hP 10 rfl rfl 1 (by decide) 4 rfl rfl rfl dX5_levelByDays_91 ?_
      subst hAe
      refine vx_ret ?_
      refine W.widen (k := 3) (n := 18) (by omega) (by omega) ?_
      have hcode : 0 = 0 := by
          rfl
      have hres : iI ((rpS fv fpr dm lrf srf fdn (dy - fdn)).1) = iI ((rpS fv fpr dm lrf srf fdn (dy - fdn)).1) := congrArg iI (by
          rfl)
      exact W.iret hx hb hr (fun t ht hW => ⟨⟨_, (), rfl, ⟨hcode, hres⟩, by show va_P D vwCl _ t.heap; rw [ht]; exact hP⟩, hS.F ht⟩) hS.2.2 dX5_levelByDays_94
    · refine lv_aload_n hx hb dX5_levelByDays_33 rfl (lv_at hl 1 rfl) ?_
      refine my_getN hx hb hts inAX3 hown hK hN hP 4 rfl rfl 0 (by decide) 7 rfl rfl rfl dX5_levelByDays_34 ?_
      have hfz := hfp (fdn + i)
      refine lv_iload hx hb dX5_levelByDays_37 (lv_at hl 0 rfl) ?_
      have pk5 : picks [(kr, .inr (5, [.ref la, .ref ia, .ref na, .ref b4, .ref b6, .ref b8, .ref b10, .int (iI (((sh : Nat) : Int))), .int (iI (((it : Nat) : Int))), .int (iI (lc)), .int (iI (((dy : Nat) : Int))), .int (iI (pct)), .int (iI (lr)), .int (iI (sr))])), (la, arI cs 4 lf), (ia, arQ cs 2 5 itf), (na, arQ cs 3 20 lnf), (kn, .inr (3, [.ref hi, .int (iI (ld)), .int (iI (((fdn : Nat) : Int))), .int (iI (fk)), .int (iI (fv)), .ref kl, .ref ke, .ref kd, .ref ks, .ref ka, .int (iI (es)), .int (iI (sk)), .int (iI (so)), .int (iI (lo))])), (hi, .inr (1, [.int (iI (pk)), .int (iI (fs)), .ref ti, .ref go, .ref pr, .int (iI (st))])), (pr, .inr (0, [.ref upr])), (upr, arI cs 1005 fpr), (kd, .inr (0, [.ref ud])), (ud, arI cs 1005 dm), (b8, .inr (2, [.ref ur, .int (iI ((rpS fv fpr dm lrf srf fdn i).1))])), (ur, arI cs 7 ((rpS fv fpr dm lrf srf fdn i).2)), (b4, .inr (0, [.ref ulr])), (ulr, arI cs 1005 lrf), (b6, .inr (0, [.ref usr])), (usr, arI cs 1005 srf)] [5, 6, 7] [(hi, .inr (1, [.int (iI (pk)), .int (iI (fs)), .ref ti, .ref go, .ref pr, .int (iI (st))])), (pr, .inr (0, [.ref upr])), (upr, arI cs 1005 fpr)] := ⟨rfl, rfl, rfl, trivial⟩
      refine va_calli (va_runV (As := [.int (iI ((((fdn + i) : Nat) : Int)))]) (rest := []) ⟨hx, hb, hml, hown, hts⟩ (m_X1_hasPromotion l D cs hi ti go pr pk fs st upr fpr (fdn + i) (by omega) (hfp _)) (cwV 1 hts (gV w_443 w_444 w_445 w_10 w_446) rfl rfl rfl (by decide +kernel) ⟨Nat.le_of_ble_eq_true rfl, Nat.le_of_ble_eq_true rfl⟩) (PC_V hK hN hP hD [5, 6, 7] rfl pk5 rfl rfl) rfl rfl hl.1 rfl (lv_room (Nat.le_of_ble_eq_true rfl)) dX5_levelByDays_39 ⟨Nat.le_of_ble_eq_true rfl, Nat.le_of_ble_eq_true rfl⟩) hS (fun _ _ h => False.elim h) (fun _ h => False.elim h) (fun r u t H locs ht hvm hw hB hz1 hk1 hS => ?_)
      subst hw
      have hP := P_kept hP hk1
      refine my_if_ne (tgt := 81) hx hb (by omega) dX5_levelByDays_42 (by decide) (fun bh6 => ?_) (fun bh6 => ?_)
      · refine lv_iinc (v := iI ((((fdn + i) : Nat) : Int) + 1)) (lv' := [(4, .int (iI ((((fdn + i) : Nat) : Int) + 1))), (3, .ref kn), (0, .ref kr), (1, .int (iI (((sn : Nat) : Int)))), (2, .int (iI (((tn : Nat) : Int))))]) hx hb dX5_levelByDays_81 hl (k := 0) rfl (by rw [show ((((fdn + i) : Nat) : Int) + 1 : Int) = (((fdn + i) : Nat) : Int) + 1 from rfl]; exact iI_add _ _) (by decide) rfl (fun ls hl => ?_)
        refine lv_goto (tgt := 24) hx hb dX5_levelByDays_84 (by decide) ?_
        have e1 : ((fdn + i : Nat) : Int) + 1 = ((fdn + (i + 1) : Nat) : Int) := by omega
        rw [e1] at hl
        have e5 : (rpS fv fpr dm lrf srf fdn (i + 1)) = (rpS fv fpr dm lrf srf fdn i) := by rw [rpS, if_neg (by omega)]
        exact ih (i + 1) (by omega) (by omega) _ _ _ (by rw [e5]; exact hP) (by rw [e5]; exact hD) hS (lv_sub hl [0, 1, 2, 3, 4] rfl)
      · refine lv_aload_n hx hb dX5_levelByDays_45 rfl (lv_at hl 2 rfl) ?_
        refine my_get hx hb hts inAX5 hown hK hP 0 rfl rfl 5 (by decide) w_74 rfl rfl dX5_levelByDays_46 ?_
        refine lv_iload hx hb dX5_levelByDays_49 (lv_at hl 0 rfl) ?_
        refine lv_aload_n hx hb dX5_levelByDays_51 rfl (lv_at hl 1 rfl) ?_
        refine my_getN hx hb hts inAX3 hown hK hN hP 4 rfl rfl 7 (by decide) 2 rfl rfl rfl dX5_levelByDays_52 ?_
        refine lv_iload hx hb dX5_levelByDays_55 (lv_at hl 0 rfl) ?_
        have pk7 : picks [(kr, .inr (5, [.ref la, .ref ia, .ref na, .ref b4, .ref b6, .ref b8, .ref b10, .int (iI (((sh : Nat) : Int))), .int (iI (((it : Nat) : Int))), .int (iI (lc)), .int (iI (((dy : Nat) : Int))), .int (iI (pct)), .int (iI (lr)), .int (iI (sr))])), (la, arI cs 4 lf), (ia, arQ cs 2 5 itf), (na, arQ cs 3 20 lnf), (kn, .inr (3, [.ref hi, .int (iI (ld)), .int (iI (((fdn : Nat) : Int))), .int (iI (fk)), .int (iI (fv)), .ref kl, .ref ke, .ref kd, .ref ks, .ref ka, .int (iI (es)), .int (iI (sk)), .int (iI (so)), .int (iI (lo))])), (hi, .inr (1, [.int (iI (pk)), .int (iI (fs)), .ref ti, .ref go, .ref pr, .int (iI (st))])), (pr, .inr (0, [.ref upr])), (upr, arI cs 1005 fpr), (kd, .inr (0, [.ref ud])), (ud, arI cs 1005 dm), (b8, .inr (2, [.ref ur, .int (iI ((rpS fv fpr dm lrf srf fdn i).1))])), (ur, arI cs 7 ((rpS fv fpr dm lrf srf fdn i).2)), (b4, .inr (0, [.ref ulr])), (ulr, arI cs 1005 lrf), (b6, .inr (0, [.ref usr])), (usr, arI cs 1005 srf)] [8, 9] [(kd, .inr (0, [.ref ud])), (ud, arI cs 1005 dm)] := ⟨rfl, rfl, trivial⟩
        refine va_calli (va_runV (As := [.int (iI ((((fdn + i) : Nat) : Int)))]) (rest := [.int (iI ((((fdn + i) : Nat) : Int))), .ref b8]) ⟨hx, hb, hml, hown, hts⟩ (m_X0_on l D cs kd ud dm (fdn + i) (by omega)) (cwV 1 hts (gV w_487 w_125 w_126 w_2 w_127) rfl rfl rfl (by decide +kernel) ⟨Nat.le_of_ble_eq_true rfl, Nat.le_of_ble_eq_true rfl⟩) (PC_V hK hN hP hD [8, 9] rfl pk7 rfl rfl) rfl rfl hl.1 rfl (lv_room (Nat.le_of_ble_eq_true rfl)) dX5_levelByDays_57 ⟨Nat.le_of_ble_eq_true rfl, Nat.le_of_ble_eq_true rfl⟩) hS (fun _ _ h => False.elim h) (fun _ h => False.elim h) (fun r u t H locs ht hvm hw hB hz1 hk1 hS => ?_)
        subst hw
        have hP := P_kept hP hk1
        refine lv_aload_n hx hb dX5_levelByDays_60 rfl (lv_at hl 2 rfl) ?_
        refine my_get hx hb hts inAX5 hown hK hP 0 rfl rfl 3 (by decide) w_72 rfl rfl dX5_levelByDays_61 ?_
        refine lv_iload hx hb dX5_levelByDays_64 (lv_at hl 0 rfl) ?_
        have pk8 : picks [(kr, .inr (5, [.ref la, .ref ia, .ref na, .ref b4, .ref b6, .ref b8, .ref b10, .int (iI (((sh : Nat) : Int))), .int (iI (((it : Nat) : Int))), .int (iI (lc)), .int (iI (((dy : Nat) : Int))), .int (iI (pct)), .int (iI (lr)), .int (iI (sr))])), (la, arI cs 4 lf), (ia, arQ cs 2 5 itf), (na, arQ cs 3 20 lnf), (kn, .inr (3, [.ref hi, .int (iI (ld)), .int (iI (((fdn : Nat) : Int))), .int (iI (fk)), .int (iI (fv)), .ref kl, .ref ke, .ref kd, .ref ks, .ref ka, .int (iI (es)), .int (iI (sk)), .int (iI (so)), .int (iI (lo))])), (hi, .inr (1, [.int (iI (pk)), .int (iI (fs)), .ref ti, .ref go, .ref pr, .int (iI (st))])), (pr, .inr (0, [.ref upr])), (upr, arI cs 1005 fpr), (kd, .inr (0, [.ref ud])), (ud, arI cs 1005 dm), (b8, .inr (2, [.ref ur, .int (iI ((rpS fv fpr dm lrf srf fdn i).1))])), (ur, arI cs 7 ((rpS fv fpr dm lrf srf fdn i).2)), (b4, .inr (0, [.ref ulr])), (ulr, arI cs 1005 lrf), (b6, .inr (0, [.ref usr])), (usr, arI cs 1005 srf)] [12, 13] [(b4, .inr (0, [.ref ulr])), (ulr, arI cs 1005 lrf)] := ⟨rfl, rfl, trivial⟩
        refine va_calli (va_runV (As := [.int (iI ((((fdn + i) : Nat) : Int)))]) (rest := [.int (iI (dm (fdn + i))), .int (iI ((((fdn + i) : Nat) : Int))), .ref b8]) ⟨hx, hb, hml, hown, hts⟩ (m_X0_on l D cs b4 ulr lrf (fdn + i) (by omega)) (cwV 1 hts (gV w_487 w_125 w_126 w_2 w_127) rfl rfl rfl (by decide +kernel) ⟨Nat.le_of_ble_eq_true rfl, Nat.le_of_ble_eq_true rfl⟩) (PC_V hK hN hP hD [12, 13] rfl pk8 rfl rfl) rfl rfl hl.1 rfl (lv_room (Nat.le_of_ble_eq_true rfl)) dX5_levelByDays_66 ⟨Nat.le_of_ble_eq_true rfl, Nat.le_of_ble_eq_true rfl⟩) hS (fun _ _ h => False.elim h) (fun _ h => False.elim h) (fun r u t H locs ht hvm hw hB hz1 hk1 hS => ?_)
        subst hw
        have hP := P_kept hP hk1
        refine lv_aload_n hx hb dX5_levelByDays_69 rfl (lv_at hl 2 rfl) ?_
        refine my_get hx hb hts inAX5 hown hK hP 0 rfl rfl 4 (by decide) w_73 rfl rfl dX5_levelByDays_70 ?_
        refine lv_iload hx hb dX5_levelByDays_73 (lv_at hl 0 rfl) ?_
        have pk9 : picks [(kr, .inr (5, [.ref la, .ref ia, .ref na, .ref b4, .ref b6, .ref b8, .ref b10, .int (iI (((sh : Nat) : Int))), .int (iI (((it : Nat) : Int))), .int (iI (lc)), .int (iI (((dy : Nat) : Int))), .int (iI (pct)), .int (iI (lr)), .int (iI (sr))])), (la, arI cs 4 lf), (ia, arQ cs 2 5 itf), (na, arQ cs 3 20 lnf), (kn, .inr (3, [.ref hi, .int (iI (ld)), .int (iI (((fdn : Nat) : Int))), .int (iI (fk)), .int (iI (fv)), .ref kl, .ref ke, .ref kd, .ref ks, .ref ka, .int (iI (es)), .int (iI (sk)), .int (iI (so)), .int (iI (lo))])), (hi, .inr (1, [.int (iI (pk)), .int (iI (fs)), .ref ti, .ref go, .ref pr, .int (iI (st))])), (pr, .inr (0, [.ref upr])), (upr, arI cs 1005 fpr), (kd, .inr (0, [.ref ud])), (ud, arI cs 1005 dm), (b8, .inr (2, [.ref ur, .int (iI ((rpS fv fpr dm lrf srf fdn i).1))])), (ur, arI cs 7 ((rpS fv fpr dm lrf srf fdn i).2)), (b4, .inr (0, [.ref ulr])), (ulr, arI cs 1005 lrf), (b6, .inr (0, [.ref usr])), (usr, arI cs 1005 srf)] [14, 15] [(b6, .inr (0, [.ref usr])), (usr, arI cs 1005 srf)] := ⟨rfl, rfl, trivial⟩
        refine va_calli (va_runV (As := [.int (iI ((((fdn + i) : Nat) : Int)))]) (rest := [.int (iI (lrf (fdn + i))), .int (iI (dm (fdn + i))), .int (iI ((((fdn + i) : Nat) : Int))), .ref b8]) ⟨hx, hb, hml, hown, hts⟩ (m_X0_on l D cs b6 usr srf (fdn + i) (by omega)) (cwV 1 hts (gV w_487 w_125 w_126 w_2 w_127) rfl rfl rfl (by decide +kernel) ⟨Nat.le_of_ble_eq_true rfl, Nat.le_of_ble_eq_true rfl⟩) (PC_V hK hN hP hD [14, 15] rfl pk9 rfl rfl) rfl rfl hl.1 rfl (lv_room (Nat.le_of_ble_eq_true rfl)) dX5_levelByDays_75 ⟨Nat.le_of_ble_eq_true rfl, Nat.le_of_ble_eq_true rfl⟩) hS (fun _ _ h => False.elim h) (fun _ h => False.elim h) (fun r u t H locs ht hvm hw hB hz1 hk1 hS => ?_)
        subst hw
        have hP := P_kept hP hk1
        have pk10 : picks [(kr, .inr (5, [.ref la, .ref ia, .ref na, .ref b4, .ref b6, .ref b8, .ref b10, .int (iI (((sh : Nat) : Int))), .int (iI (((it : Nat) : Int))), .int (iI (lc)), .int (iI (((dy : Nat) : Int))), .int (iI (pct)), .int (iI (lr)), .int (iI (sr))])), (la, arI cs 4 lf), (ia, arQ cs 2 5 itf), (na, arQ cs 3 20 lnf), (kn, .inr (3, [.ref hi, .int (iI (ld)), .int (iI (((fdn : Nat) : Int))), .int (iI (fk)), .int (iI (fv)), .ref kl, .ref ke, .ref kd, .ref ks, .ref ka, .int (iI (es)), .int (iI (sk)), .int (iI (so)), .int (iI (lo))])), (hi, .inr (1, [.int (iI (pk)), .int (iI (fs)), .ref ti, .ref go, .ref pr, .int (iI (st))])), (pr, .inr (0, [.ref upr])), (upr, arI cs 1005 fpr), (kd, .inr (0, [.ref ud])), (ud, arI cs 1005 dm), (b8, .inr (2, [.ref ur, .int (iI ((rpS fv fpr dm lrf srf fdn i).1))])), (ur, arI cs 7 ((rpS fv fpr dm lrf srf fdn i).2)), (b4, .inr (0, [.ref ulr])), (ulr, arI cs 1005 lrf), (b6, .inr (0, [.ref usr])), (usr, arI cs 1005 srf)] [10, 11] [(b8, .inr (2, [.ref ur, .int (iI ((rpS fv fpr dm lrf srf fdn i).1))])), (ur, arI cs 7 ((rpS fv fpr dm lrf srf fdn i).2))] := ⟨rfl, rfl, trivial⟩
        refine va_callv (va_runV (As := [.int (iI ((((fdn + i) : Nat) : Int))), .int (iI (dm (fdn + i))), .int (iI (lrf (fdn + i))), .int (iI (srf (fdn + i)))]) (rest := []) ⟨hx, hb, hml, hown, hts⟩ (m_X2_learn l D cs b8 ur ((rpS fv fpr dm lrf srf fdn i).1) ((rpS fv fpr dm lrf srf fdn i).2) (fdn + i) (dm (fdn + i)) (lrf (fdn + i)) (srf (fdn + i)) (hrs.1) (hrs.2) (by omega) (hdm _) (hlrf _) (hsrf _)) (cwV 4 hts (gV w_768 w_545 w_546 w_3 w_547) rfl rfl rfl (by decide +kernel) ⟨Nat.le_of_ble_eq_true rfl, Nat.le_of_ble_eq_true rfl⟩) (PC_V hK hN hP hD [10, 11] rfl pk10 rfl rfl) rfl rfl hl.1 rfl (lv_room (Nat.le_of_ble_eq_true rfl)) dX5_levelByDays_78 ⟨Nat.le_of_ble_eq_true rfl, Nat.le_of_ble_eq_true rfl⟩) hS (fun q _ h => inW_sub hD [10, 11] pk10 q h) (fun q h => inW_sub hD [10, 11] pk10 q h) (fun u t H locs ht hvm hw hB hz1 hk1 hS => ?_)
        rw [ht] at hB
        obtain ⟨hP, hD⟩ := my_join (W1 := [(b8, .inr (2, [.ref ur, .int (iI (lvI ((rpS fv fpr dm lrf srf fdn i).1) (((rpS fv fpr dm lrf srf fdn i).2) ((fdn + i) % 7)) (dm (fdn + i)) (lrf (fdn + i))))])), (ur, arI cs 7 (snI (lvI ((rpS fv fpr dm lrf srf fdn i).1) (((rpS fv fpr dm lrf srf fdn i).2) ((fdn + i) % 7)) (dm (fdn + i)) (lrf (fdn + i))) ((rpS fv fpr dm lrf srf fdn i).2) ((fdn + i) % 7) (dm (fdn + i)) (srf (fdn + i))))]) hP hD [10, 11] rfl pk10 rfl hk1 hB
        have hP : va_P D vwCl [(kr, .inr (5, [.ref la, .ref ia, .ref na, .ref b4, .ref b6, .ref b8, .ref b10, .int (iI (((sh : Nat) : Int))), .int (iI (((it : Nat) : Int))), .int (iI (lc)), .int (iI (((dy : Nat) : Int))), .int (iI (pct)), .int (iI (lr)), .int (iI (sr))])), (la, arI cs 4 lf), (ia, arQ cs 2 5 itf), (na, arQ cs 3 20 lnf), (kn, .inr (3, [.ref hi, .int (iI (ld)), .int (iI (((fdn : Nat) : Int))), .int (iI (fk)), .int (iI (fv)), .ref kl, .ref ke, .ref kd, .ref ks, .ref ka, .int (iI (es)), .int (iI (sk)), .int (iI (so)), .int (iI (lo))])), (hi, .inr (1, [.int (iI (pk)), .int (iI (fs)), .ref ti, .ref go, .ref pr, .int (iI (st))])), (pr, .inr (0, [.ref upr])), (upr, arI cs 1005 fpr), (kd, .inr (0, [.ref ud])), (ud, arI cs 1005 dm), (b8, .inr (2, [.ref ur, .int (iI (lvI ((rpS fv fpr dm lrf srf fdn i).1) (((rpS fv fpr dm lrf srf fdn i).2) ((fdn + i) % 7)) (dm (fdn + i)) (lrf (fdn + i))))])), (ur, arI cs 7 (snI (lvI ((rpS fv fpr dm lrf srf fdn i).1) (((rpS fv fpr dm lrf srf fdn i).2) ((fdn + i) % 7)) (dm (fdn + i)) (lrf (fdn + i))) ((rpS fv fpr dm lrf srf fdn i).2) ((fdn + i) % 7) (dm (fdn + i)) (srf (fdn + i)))), (b4, .inr (0, [.ref ulr])), (ulr, arI cs 1005 lrf), (b6, .inr (0, [.ref usr])), (usr, arI cs 1005 srf)] H := hP
        have hD : va_D A [(kr, .inr (5, [.ref la, .ref ia, .ref na, .ref b4, .ref b6, .ref b8, .ref b10, .int (iI (((sh : Nat) : Int))), .int (iI (((it : Nat) : Int))), .int (iI (lc)), .int (iI (((dy : Nat) : Int))), .int (iI (pct)), .int (iI (lr)), .int (iI (sr))])), (la, arI cs 4 lf), (ia, arQ cs 2 5 itf), (na, arQ cs 3 20 lnf), (kn, .inr (3, [.ref hi, .int (iI (ld)), .int (iI (((fdn : Nat) : Int))), .int (iI (fk)), .int (iI (fv)), .ref kl, .ref ke, .ref kd, .ref ks, .ref ka, .int (iI (es)), .int (iI (sk)), .int (iI (so)), .int (iI (lo))])), (hi, .inr (1, [.int (iI (pk)), .int (iI (fs)), .ref ti, .ref go, .ref pr, .int (iI (st))])), (pr, .inr (0, [.ref upr])), (upr, arI cs 1005 fpr), (kd, .inr (0, [.ref ud])), (ud, arI cs 1005 dm), (b8, .inr (2, [.ref ur, .int (iI (lvI ((rpS fv fpr dm lrf srf fdn i).1) (((rpS fv fpr dm lrf srf fdn i).2) ((fdn + i) % 7)) (dm (fdn + i)) (lrf (fdn + i))))])), (ur, arI cs 7 (snI (lvI ((rpS fv fpr dm lrf srf fdn i).1) (((rpS fv fpr dm lrf srf fdn i).2) ((fdn + i) % 7)) (dm (fdn + i)) (lrf (fdn + i))) ((rpS fv fpr dm lrf srf fdn i).2) ((fdn + i) % 7) (dm (fdn + i)) (srf (fdn + i)))), (b4, .inr (0, [.ref ulr])), (ulr, arI cs 1005 lrf), (b6, .inr (0, [.ref usr])), (usr, arI cs 1005 srf)] := hD
        refine lv_iinc (v := iI ((((fdn + i) : Nat) : Int) + 1)) (lv' := [(4, .int (iI ((((fdn + i) : Nat) : Int) + 1))), (3, .ref kn), (0, .ref kr), (1, .int (iI (((sn : Nat) : Int)))), (2, .int (iI (((tn : Nat) : Int))))]) hx hb dX5_levelByDays_81 hl (k := 0) rfl (by rw [show ((((fdn + i) : Nat) : Int) + 1 : Int) = (((fdn + i) : Nat) : Int) + 1 from rfl]; exact iI_add _ _) (by decide) rfl (fun ls hl => ?_)
        refine lv_goto (tgt := 24) hx hb dX5_levelByDays_84 (by decide) ?_
        have e1 : ((fdn + i : Nat) : Int) + 1 = ((fdn + (i + 1) : Nat) : Int) := by omega
        rw [e1] at hl
        have e5 : (rpS fv fpr dm lrf srf fdn (i + 1)) = rpA dm lrf srf (fdn + i) (rpS fv fpr dm lrf srf fdn i) := by rw [rpS, if_pos (by omega)]
        exact ih (i + 1) (by omega) (by omega) _ _ _ (by rw [e5]; exact hP) (by rw [e5]; exact hD) hS (lv_sub hl [0, 1, 2, 3, 4] rfl)
