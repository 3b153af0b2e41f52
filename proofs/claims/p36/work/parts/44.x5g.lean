abbrev ws_X5_addItem : List Cond := Cond.code yX5_addItem cX5_addItem 3 (some .int) :: ALL
set_option maxHeartbeats 4000000 in
set_option maxRecDepth 100000 in
theorem m_X5_addItem_no (l : Launch) (hst : l.stackTraces = false) (D : va_G) (cs : Nat → ClassId) (kr la ia na b4 b6 b8 b10 sh it : Nat) (lc : Int) (dy : Nat) (pct lr sr : Int) (itf : Nat → Option Nat) (zp zs : Int) (hit : it ≤ 5) (hzp : -2147483648 ≤ zp ∧ zp < 2147483648) (hzs : -2147483648 ≤ zs ∧ zs < 2147483648) (hno : (if (zp < 1 ∨ 50 < zp) ∨ (zs < 0 ∨ 9999 < zs) then 3 else if 5 ≤ it then 4 else 0) ≠ 0) : vx_Met l yX5_addItem ws_X5_addItem ({ frames := 6, cells := 1, slots := 6, locals := 82 }) (va_Pc [.ref kr, .int (iI (zp)), .int (iI (zs))] (PE D cs [(kr, .inr (5, [.ref la, .ref ia, .ref na, .ref b4, .ref b6, .ref b8, .ref b10, .int (iI (((sh : Nat) : Int))), .int (iI (((it : Nat) : Int))), .int (iI (lc)), .int (iI (((dy : Nat) : Int))), .int (iI (pct)), .int (iI (lr)), .int (iI (sr))])), (ia, arQ cs 2 5 itf)] noA)) (va_Qi (fun r (_ : Unit) => (if (zp < 1 ∨ 50 < zp) ∨ (zs < 0 ∨ 9999 < zs) then 3 else if 5 ≤ it then 4 else 0) = 0 ∧ r = iI (0)) (fun _ _ => True) noA) (vx_X (fun (u : Nat) => u = (if (zp < 1 ∨ 50 < zp) ∨ (zs < 0 ∨ 9999 < zs) then 3 else if 5 ≤ it then 4 else 0) ∧ u ≠ 0) (fun E u _ => E = exN u) noA) 1 6 noA := by
  refine vx_ofW (cc := cX5_addItem) (maxL := 3) (ret := (some .int)) (by decide +kernel) rfl ?_
  intro p e s m args below meth c s₁ B hml hnt hv
  obtain ⟨rfl, ⟨hP, hK, hD, hN⟩, hE⟩ := hv
  have hx := B.exec
  have hb := B.bytes
  have hr := B.returns
  have hts : ∀ w ∈ ALL, w.before _ s = true := fun w h => atoms_spec (ws := ws_X5_addItem) B.pre w (List.mem_cons_of_mem _ h)
  have hown : s.vm.findClass RX5 = some m.cls := findClass_of_methodNamed B.named
  have hlocks := B.notSynchronized
  have hS : va_S noA s.heap s.heap [] := va_S.rf
  generalize inW [(kr, .inr (5, [.ref la, .ref ia, .ref na, .ref b4, .ref b6, .ref b8, .ref b10, .int (iI (((sh : Nat) : Int))), .int (iI (((it : Nat) : Int))), .int (iI (lc)), .int (iI (((dy : Nat) : Int))), .int (iI (pct)), .int (iI (lr)), .int (iI (sr))])), (ia, arQ cs 2 5 itf)] = A at hD
  have hl := lv_entry ([.ref kr, .int (iI (zp)), .int (iI (zs))]) (n := 3) (Nat.le_of_ble_eq_true rfl)
  rw [lg_entry_eq]
  generalize (lg_sl ([.ref kr, .int (iI (zp)), .int (iI (zs))]) ++ List.replicate (3 - (lg_sl ([.ref kr, .int (iI (zp)), .int (iI (zs))])).length) Slot.unset).toArray = ls at hl ⊢
  have hl : lv_has ls 3 [(0, .ref kr), (1, .int (iI (zp))), (2, .int (iI (zs)))] := hl
  have hH := rfl (a := s.heap)
  refine lv_iload_n hx hb dX5_addItem_0 rfl (lv_at hl 1 rfl) ?_
  refine lv_iconst (v := iI (1)) hx hb dX5_addItem_1 rfl ?_
  refine my_icmp_lt (tgt := 11) hx hb (by omega) dX5_addItem_2 (by decide) (fun bh1 => ?_) (fun bh1 => ?_)
  · refine my_throw3 hx hb hst hts hown hE hS (hml.trans hl.1.symm) w_144 (List.mem_of_getElem? (i := 2) rfl) hnt hlocks dX5_addItem_11 dX5_addItem_14 dX5_addItem_15 dX5_addItem_17 dX5_addItem_20 (Nat.le_of_ble_eq_true rfl) (Nat.le_of_ble_eq_true rfl) (Nat.le_of_ble_eq_true rfl) (Nat.le_of_ble_eq_true rfl) (fun t H1 ht hz1 hk1 hS1 => ?_) hS.2.2 (Nat.le_of_ble_eq_true rfl) (Nat.le_of_ble_eq_true rfl)
    have hcode : 3 = (if (zp < 1 ∨ 50 < zp) ∨ (zs < 0 ∨ 9999 < zs) then 3 else if 5 ≤ it then 4 else 0) := by
        first | rw [if_pos (by omega)] | rw [if_neg (by omega), if_pos (by omega)]
    exact ⟨3, ⟨hcode, by decide⟩, rfl, hS1.F ht⟩
  · refine lv_iload_n hx hb dX5_addItem_5 rfl (lv_at hl 1 rfl) ?_
    refine lv_bipush (v := iI (50)) hx hb dX5_addItem_6 (by decide) ?_
    refine my_icmp_le (tgt := 21) hx hb (by omega) dX5_addItem_8 (by decide) (fun bh2 => ?_) (fun bh2 => ?_)
    · refine lv_iload_n hx hb dX5_addItem_21 rfl (lv_at hl 2 rfl) ?_
      refine my_if_lt (tgt := 32) hx hb (by omega) dX5_addItem_22 (by decide) (fun bh3 => ?_) (fun bh3 => ?_)
      · refine my_throw3 hx hb hst hts hown hE hS (hml.trans hl.1.symm) w_144 (List.mem_of_getElem? (i := 3) rfl) hnt hlocks dX5_addItem_32 dX5_addItem_35 dX5_addItem_36 dX5_addItem_38 dX5_addItem_41 (Nat.le_of_ble_eq_true rfl) (Nat.le_of_ble_eq_true rfl) (Nat.le_of_ble_eq_true rfl) (Nat.le_of_ble_eq_true rfl) (fun t H1 ht hz1 hk1 hS1 => ?_) hS.2.2 (Nat.le_of_ble_eq_true rfl) (Nat.le_of_ble_eq_true rfl)
        have hcode : 3 = (if (zp < 1 ∨ 50 < zp) ∨ (zs < 0 ∨ 9999 < zs) then 3 else if 5 ≤ it then 4 else 0) := by
            first | rw [if_pos (by omega)] | rw [if_neg (by omega), if_pos (by omega)]
        exact ⟨3, ⟨hcode, by decide⟩, rfl, hS1.F ht⟩
      · refine lv_iload_n hx hb dX5_addItem_25 rfl (lv_at hl 2 rfl) ?_
        refine lv_sipush (v := iI (9999)) hx hb dX5_addItem_26 (by decide) ?_
        refine my_icmp_le (tgt := 42) hx hb (by omega) dX5_addItem_29 (by decide) (fun bh4 => ?_) (fun bh4 => ?_)
        · refine lv_aload_n hx hb dX5_addItem_42 rfl (lv_at hl 0 rfl) ?_
          refine my_get hx hb hts inAX5 hown hK hP 0 rfl rfl 8 (by decide) w_77 rfl rfl dX5_addItem_43 ?_
          refine lv_aload_n hx hb dX5_addItem_46 rfl (lv_at hl 0 rfl) ?_
          refine my_get hx hb hts inAX5 hown hK hP 0 rfl rfl 1 (by decide) w_70 rfl rfl dX5_addItem_47 ?_
          refine my_alenQ hx hb hK hP 1 2 rfl rfl dX5_addItem_50 ?_
          refine my_icmp_lt (tgt := 64) hx hb (by omega) dX5_addItem_51 (by decide) (fun bh5 => ?_) (fun bh5 => ?_)
          · exact absurd (by rw [if_neg (by omega), if_neg (by omega)]) hno
          · refine my_throw4 hx hb hst hts hown hE hS (hml.trans hl.1.symm) w_214 (List.mem_of_getElem? (i := 4) rfl) hnt hlocks dX5_addItem_54 dX5_addItem_57 dX5_addItem_58 dX5_addItem_60 dX5_addItem_63 (Nat.le_of_ble_eq_true rfl) (Nat.le_of_ble_eq_true rfl) (Nat.le_of_ble_eq_true rfl) (Nat.le_of_ble_eq_true rfl) (fun t H1 ht hz1 hk1 hS1 => ?_) hS.2.2 (Nat.le_of_ble_eq_true rfl) (Nat.le_of_ble_eq_true rfl)
            have hcode : 4 = (if (zp < 1 ∨ 50 < zp) ∨ (zs < 0 ∨ 9999 < zs) then 3 else if 5 ≤ it then 4 else 0) := by
                first | rw [if_pos (by omega)] | rw [if_neg (by omega), if_pos (by omega)]
            exact ⟨4, ⟨hcode, by decide⟩, rfl, hS1.F ht⟩
        · refine my_throw3 hx hb hst hts hown hE hS (hml.trans hl.1.symm) w_144 (List.mem_of_getElem? (i := 3) rfl) hnt hlocks dX5_addItem_32 dX5_addItem_35 dX5_addItem_36 dX5_addItem_38 dX5_addItem_41 (Nat.le_of_ble_eq_true rfl) (Nat.le_of_ble_eq_true rfl) (Nat.le_of_ble_eq_true rfl) (Nat.le_of_ble_eq_true rfl) (fun t H1 ht hz1 hk1 hS1 => ?_) hS.2.2 (Nat.le_of_ble_eq_true rfl) (Nat.le_of_ble_eq_true rfl)
          have hcode : 3 = (if (zp < 1 ∨ 50 < zp) ∨ (zs < 0 ∨ 9999 < zs) then 3 else if 5 ≤ it then 4 else 0) := by
              first | rw [if_pos (by omega)] | rw [if_neg (by omega), if_pos (by omega)]
          exact ⟨3, ⟨hcode, by decide⟩, rfl, hS1.F ht⟩
    · refine my_throw3 hx hb hst hts hown hE hS (hml.trans hl.1.symm) w_144 (List.mem_of_getElem? (i := 2) rfl) hnt hlocks dX5_addItem_11 dX5_addItem_14 dX5_addItem_15 dX5_addItem_17 dX5_addItem_20 (Nat.le_of_ble_eq_true rfl) (Nat.le_of_ble_eq_true rfl) (Nat.le_of_ble_eq_true rfl) (Nat.le_of_ble_eq_true rfl) (fun t H1 ht hz1 hk1 hS1 => ?_) hS.2.2 (Nat.le_of_ble_eq_true rfl) (Nat.le_of_ble_eq_true rfl)
      have hcode : 3 = (if (zp < 1 ∨ 50 < zp) ∨ (zs < 0 ∨ 9999 < zs) then 3 else if 5 ≤ it then 4 else 0) := by
          first | rw [if_pos (by omega)] | rw [if_neg (by omega), if_pos (by omega)]
      exact ⟨3, ⟨hcode, by decide⟩, rfl, hS1.F ht⟩

set_option maxHeartbeats 4000000 in
set_option maxRecDepth 100000 in
theorem m_X5_addItem_ok (l : Launch) (hst : l.stackTraces = false) (D : va_G) (cs : Nat → ClassId) (kr la ia na b4 b6 b8 b10 sh it : Nat) (lc : Int) (dy : Nat) (pct lr sr : Int) (itf : Nat → Option Nat) (zp zs : Int) (sz : Nat) (hzp : -2147483648 ≤ zp ∧ zp < 2147483648) (hzs : -2147483648 ≤ zs ∧ zs < 2147483648) (hok1 : 1 ≤ zp ∧ zp ≤ 50) (hok2 : 0 ≤ zs ∧ zs ≤ 9999) (hit : it < 5) : vx_Met l yX5_addItem ws_X5_addItem ({ frames := 3, cells := 7, slots := 3024, locals := 54 }) (va_Pc [.ref kr, .int (iI (zp)), .int (iI (zs))] (fun U => U.heap.size = sz ∧ PE D cs [(kr, .inr (5, [.ref la, .ref ia, .ref na, .ref b4, .ref b6, .ref b8, .ref b10, .int (iI (((sh : Nat) : Int))), .int (iI (((it : Nat) : Int))), .int (iI (lc)), .int (iI (((dy : Nat) : Int))), .int (iI (pct)), .int (iI (lr)), .int (iI (sr))])), (ia, arQ cs 2 5 itf)] (va_A [(kr, .inr (5, [.ref la, .ref ia, .ref na, .ref b4, .ref b6, .ref b8, .ref b10, .int (iI (((sh : Nat) : Int))), .int (iI (((it : Nat) : Int))), .int (iI (lc)), .int (iI (((dy : Nat) : Int))), .int (iI (pct)), .int (iI (lr)), .int (iI (sr))])), (ia, arQ cs 2 5 itf)] sz) U)) (va_Qi (fun r (_ : Nat → Nat) => 0 = 0 ∧ r = iI (((it : Nat) : Int))) (fun u t => va_P D vwCl [(kr, .inr (5, [.ref la, .ref ia, .ref na, .ref b4, .ref b6, .ref b8, .ref b10, .int (iI (((sh : Nat) : Int))), .int (iI ((((it + 1) : Nat) : Int))), .int (iI (lc)), .int (iI (((dy : Nat) : Int))), .int (iI (pct)), .int (iI (lr)), .int (iI (sr))])), (ia, arQ cs 2 5 (va_up itf it (some (u 0)))), (u 0, .inr (1, [.int (iI (zp)), .int (iI (zs)), .ref (u 1), .ref (u 3), .ref (u 5), .int (iI (zs))])), (u 1, .inr (0, [.ref (u 2)])), (u 2, arI cs 1005 (fun _ => 0)), (u 3, .inr (0, [.ref (u 4)])), (u 4, arI cs 1005 (fun _ => 0)), (u 5, .inr (0, [.ref (u 6)])), (u 6, arI cs 1005 (fun _ => 0))] t.heap ∧ va_D (va_A [(kr, .inr (5, [.ref la, .ref ia, .ref na, .ref b4, .ref b6, .ref b8, .ref b10, .int (iI (((sh : Nat) : Int))), .int (iI (((it : Nat) : Int))), .int (iI (lc)), .int (iI (((dy : Nat) : Int))), .int (iI (pct)), .int (iI (lr)), .int (iI (sr))])), (ia, arQ cs 2 5 itf)] sz) [(kr, .inr (5, [.ref la, .ref ia, .ref na, .ref b4, .ref b6, .ref b8, .ref b10, .int (iI (((sh : Nat) : Int))), .int (iI ((((it + 1) : Nat) : Int))), .int (iI (lc)), .int (iI (((dy : Nat) : Int))), .int (iI (pct)), .int (iI (lr)), .int (iI (sr))])), (ia, arQ cs 2 5 (va_up itf it (some (u 0)))), (u 0, .inr (1, [.int (iI (zp)), .int (iI (zs)), .ref (u 1), .ref (u 3), .ref (u 5), .int (iI (zs))])), (u 1, .inr (0, [.ref (u 2)])), (u 2, arI cs 1005 (fun _ => 0)), (u 3, .inr (0, [.ref (u 4)])), (u 4, arI cs 1005 (fun _ => 0)), (u 5, .inr (0, [.ref (u 6)])), (u 6, arI cs 1005 (fun _ => 0))]) (va_A [(kr, .inr (5, [.ref la, .ref ia, .ref na, .ref b4, .ref b6, .ref b8, .ref b10, .int (iI (((sh : Nat) : Int))), .int (iI (((it : Nat) : Int))), .int (iI (lc)), .int (iI (((dy : Nat) : Int))), .int (iI (pct)), .int (iI (lr)), .int (iI (sr))])), (ia, arQ cs 2 5 itf)] sz)) (vx_X (fun (u : Nat) => u = 0 ∧ u ≠ 0) (fun E u _ => E = exN u) (va_A [(kr, .inr (5, [.ref la, .ref ia, .ref na, .ref b4, .ref b6, .ref b8, .ref b10, .int (iI (((sh : Nat) : Int))), .int (iI (((it : Nat) : Int))), .int (iI (lc)), .int (iI (((dy : Nat) : Int))), .int (iI (pct)), .int (iI (lr)), .int (iI (sr))])), (ia, arQ cs 2 5 itf)] sz)) 7 3024 (va_A [(kr, .inr (5, [.ref la, .ref ia, .ref na, .ref b4, .ref b6, .ref b8, .ref b10, .int (iI (((sh : Nat) : Int))), .int (iI (((it : Nat) : Int))), .int (iI (lc)), .int (iI (((dy : Nat) : Int))), .int (iI (pct)), .int (iI (lr)), .int (iI (sr))])), (ia, arQ cs 2 5 itf)] sz) := by
  refine vx_ofW (cc := cX5_addItem) (maxL := 3) (ret := (some .int)) (by decide +kernel) rfl ?_
  intro p e s m args below meth c s₁ B hml hnt hv
  obtain ⟨rfl, hsz, ⟨hP, hK, hD, hN⟩, hE⟩ := hv
  subst hsz
  have hx := B.exec
  have hb := B.bytes
  have hr := B.returns
  have hts : ∀ w ∈ ALL, w.before _ s = true := fun w h => atoms_spec (ws := ws_X5_addItem) B.pre w (List.mem_cons_of_mem _ h)
  have hown : s.vm.findClass RX5 = some m.cls := findClass_of_methodNamed B.named
  have hlocks := B.notSynchronized
  have hD := hD.self (sz := s.heap.size)
  generalize hAe : va_A [(kr, .inr (5, [.ref la, .ref ia, .ref na, .ref b4, .ref b6, .ref b8, .ref b10, .int (iI (((sh : Nat) : Int))), .int (iI (((it : Nat) : Int))), .int (iI (lc)), .int (iI (((dy : Nat) : Int))), .int (iI (pct)), .int (iI (lr)), .int (iI (sr))])), (ia, arQ cs 2 5 itf)] s.heap.size = A at hD hE ⊢
  have hA : ∀ q : Nat, s.heap.size ≤ q → A q := fun q h => by rw [← hAe]; exact Or.inr h
  have hS : va_S A s.heap s.heap [] := va_S.rf
  have hl := lv_entry ([.ref kr, .int (iI (zp)), .int (iI (zs))]) (n := 3) (Nat.le_of_ble_eq_true rfl)
  rw [lg_entry_eq]
  generalize (lg_sl ([.ref kr, .int (iI (zp)), .int (iI (zs))]) ++ List.replicate (3 - (lg_sl ([.ref kr, .int (iI (zp)), .int (iI (zs))])).length) Slot.unset).toArray = ls at hl ⊢
  have hl : lv_has ls 3 [(0, .ref kr), (1, .int (iI (zp))), (2, .int (iI (zs)))] := hl
  have hH := rfl (a := s.heap)
  refine lv_iload_n hx hb dX5_addItem_0 rfl (lv_at hl 1 rfl) ?_
  refine lv_iconst (v := iI (1)) hx hb dX5_addItem_1 rfl ?_
  refine my_icmp_lt (tgt := 11) hx hb (by omega) dX5_addItem_2 (by decide) (fun bh1 => (by omega : False).elim) (fun bh1 => ?_)
  refine lv_iload_n hx hb dX5_addItem_5 rfl (lv_at hl 1 rfl) ?_
  refine lv_bipush (v := iI (50)) hx hb dX5_addItem_6 (by decide) ?_
  refine my_icmp_le (tgt := 21) hx hb (by omega) dX5_addItem_8 (by decide) (fun bh2 => ?_) (fun bh2 => (by omega : False).elim)
  refine lv_iload_n hx hb dX5_addItem_21 rfl (lv_at hl 2 rfl) ?_
  refine my_if_lt (tgt := 32) hx hb (by omega) dX5_addItem_22 (by decide) (fun bh3 => (by omega : False).elim) (fun bh3 => ?_)
  refine lv_iload_n hx hb dX5_addItem_25 rfl (lv_at hl 2 rfl) ?_
  refine lv_sipush (v := iI (9999)) hx hb dX5_addItem_26 (by decide) ?_
  refine my_icmp_le (tgt := 42) hx hb (by omega) dX5_addItem_29 (by decide) (fun bh4 => ?_) (fun bh4 => (by omega : False).elim)
  refine lv_aload_n hx hb dX5_addItem_42 rfl (lv_at hl 0 rfl) ?_
  refine my_get hx hb hts inAX5 hown hK hP 0 rfl rfl 8 (by decide) w_77 rfl rfl dX5_addItem_43 ?_
  refine lv_aload_n hx hb dX5_addItem_46 rfl (lv_at hl 0 rfl) ?_
  refine my_get hx hb hts inAX5 hown hK hP 0 rfl rfl 1 (by decide) w_70 rfl rfl dX5_addItem_47 ?_
  refine my_alenQ hx hb hK hP 1 2 rfl rfl dX5_addItem_50 ?_
  refine my_icmp_lt (tgt := 64) hx hb (by omega) dX5_addItem_51 (by decide) (fun bh5 => ?_) (fun bh5 => (by omega : False).elim)
  refine lv_aload_n hx hb dX5_addItem_64 rfl (lv_at hl 0 rfl) ?_
  refine my_get hx hb hts inAX5 hown hK hP 0 rfl rfl 1 (by decide) w_70 rfl rfl dX5_addItem_65 ?_
  refine lv_aload_n hx hb dX5_addItem_68 rfl (lv_at hl 0 rfl) ?_
  refine my_get hx hb hts inAX5 hown hK hP 0 rfl rfl 8 (by decide) w_77 rfl rfl dX5_addItem_69 ?_
  refine va_new (ci := 1) (fs := [.int (iI (0)), .int (iI (0)), .null, .null, .null, .int (iI (0))]) (C := RX1) (T := TX1) (N := 6) hx hb hts inAX1 tyX1 tyX1_ok hown (hts _ w_24) (hts _ w_240) (hts _ w_10) hK hP hD hS hA rfl (fun j hj => by rcases (show j = 0 ∨ j = 1 ∨ j = 2 ∨ j = 3 ∨ j = 4 ∨ j = 5 by omega) with rfl | rfl | rfl | rfl | rfl | rfl <;> rfl) (Nat.le_of_ble_eq_true rfl) (Nat.le_of_ble_eq_true rfl) dX5_addItem_72 (fun q6 H hP hD hS => ?_)
  have hP : va_P D vwCl [(kr, .inr (5, [.ref la, .ref ia, .ref na, .ref b4, .ref b6, .ref b8, .ref b10, .int (iI (((sh : Nat) : Int))), .int (iI (((it : Nat) : Int))), .int (iI (lc)), .int (iI (((dy : Nat) : Int))), .int (iI (pct)), .int (iI (lr)), .int (iI (sr))])), (ia, arQ cs 2 5 itf), (q6, .inr (1, [.int (iI (0)), .int (iI (0)), .null, .null, .null, .int (iI (0))]))] H := hP
  have hD : va_D A [(kr, .inr (5, [.ref la, .ref ia, .ref na, .ref b4, .ref b6, .ref b8, .ref b10, .int (iI (((sh : Nat) : Int))), .int (iI (((it : Nat) : Int))), .int (iI (lc)), .int (iI (((dy : Nat) : Int))), .int (iI (pct)), .int (iI (lr)), .int (iI (sr))])), (ia, arQ cs 2 5 itf), (q6, .inr (1, [.int (iI (0)), .int (iI (0)), .null, .null, .null, .int (iI (0))]))] := hD
  refine lv_dup hx hb dX5_addItem_75 rfl ?_
  refine lv_iload_n hx hb dX5_addItem_76 rfl (lv_at hl 1 rfl) ?_
  refine lv_iload_n hx hb dX5_addItem_77 rfl (lv_at hl 2 rfl) ?_
  have pk7 : picks [(kr, .inr (5, [.ref la, .ref ia, .ref na, .ref b4, .ref b6, .ref b8, .ref b10, .int (iI (((sh : Nat) : Int))), .int (iI (((it : Nat) : Int))), .int (iI (lc)), .int (iI (((dy : Nat) : Int))), .int (iI (pct)), .int (iI (lr)), .int (iI (sr))])), (ia, arQ cs 2 5 itf), (q6, .inr (1, [.int (iI (0)), .int (iI (0)), .null, .null, .null, .int (iI (0))]))] [2] [(q6, .inr (1, [.int (iI (0)), .int (iI (0)), .null, .null, .null, .int (iI (0))]))] := ⟨rfl, trivial⟩
  have hFA := fA_sub hD [2] pk7 hS hA
  refine va_callv (va_runI (As := [.int (iI (zp)), .int (iI (zs))]) (rest := [.ref q6, .int (iI (((it : Nat) : Int))), .ref ia]) ⟨hx, hb, hml, hown, hts⟩ (m_X1_init l D cs q6 zp zs _) (cwI 2 hts (gA w_243) rfl rfl rfl (hts _ w_10) (hts _ w_241) (hts _ w_242) rfl (by decide +kernel) ⟨Nat.le_of_ble_eq_true rfl, Nat.le_of_ble_eq_true rfl⟩) (PA_S hK hN hP hD [2] rfl pk7) rfl rfl hl.1 rfl (lv_room (Nat.le_of_ble_eq_true rfl)) dX5_addItem_78 ⟨Nat.le_of_ble_eq_true rfl, Nat.le_of_ble_eq_true rfl⟩) hS (fun q _ h => hFA q h) hFA (fun u8 t H1 locs ht hvm hw hB hz1 hk1 hS => ?_)
  rw [ht] at hB
  obtain ⟨hP, hD⟩ := my_joinA (W1 := [(q6, .inr (1, [.int (iI (zp)), .int (iI (zs)), .ref (u8 0), .ref (u8 2), .ref (u8 4), .int (iI (zs))]))]) (Wn := [(u8 0, .inr (0, [.ref (u8 1)])), (u8 1, arI cs 1005 (fun _ => 0)), (u8 2, .inr (0, [.ref (u8 3)])), (u8 3, arI cs 1005 (fun _ => 0)), (u8 4, .inr (0, [.ref (u8 5)])), (u8 5, arI cs 1005 (fun _ => 0))]) hP hD [2] rfl pk7 rfl hk1 hB hFA
  generalize H1 = H at hP hS ⊢
  have hP : va_P D vwCl [(kr, .inr (5, [.ref la, .ref ia, .ref na, .ref b4, .ref b6, .ref b8, .ref b10, .int (iI (((sh : Nat) : Int))), .int (iI (((it : Nat) : Int))), .int (iI (lc)), .int (iI (((dy : Nat) : Int))), .int (iI (pct)), .int (iI (lr)), .int (iI (sr))])), (ia, arQ cs 2 5 itf), (q6, .inr (1, [.int (iI (zp)), .int (iI (zs)), .ref (u8 0), .ref (u8 2), .ref (u8 4), .int (iI (zs))])), (u8 0, .inr (0, [.ref (u8 1)])), (u8 1, arI cs 1005 (fun _ => 0)), (u8 2, .inr (0, [.ref (u8 3)])), (u8 3, arI cs 1005 (fun _ => 0)), (u8 4, .inr (0, [.ref (u8 5)])), (u8 5, arI cs 1005 (fun _ => 0))] H := hP
  have hD : va_D A [(kr, .inr (5, [.ref la, .ref ia, .ref na, .ref b4, .ref b6, .ref b8, .ref b10, .int (iI (((sh : Nat) : Int))), .int (iI (((it : Nat) : Int))), .int (iI (lc)), .int (iI (((dy : Nat) : Int))), .int (iI (pct)), .int (iI (lr)), .int (iI (sr))])), (ia, arQ cs 2 5 itf), (q6, .inr (1, [.int (iI (zp)), .int (iI (zs)), .ref (u8 0), .ref (u8 2), .ref (u8 4), .int (iI (zs))])), (u8 0, .inr (0, [.ref (u8 1)])), (u8 1, arI cs 1005 (fun _ => 0)), (u8 2, .inr (0, [.ref (u8 3)])), (u8 3, arI cs 1005 (fun _ => 0)), (u8 4, .inr (0, [.ref (u8 5)])), (u8 5, arI cs 1005 (fun _ => 0))] := hD
  refine my_aast hx hb hK hP hD hS 1 2 2 1 rfl rfl rfl rfl (by omega) (k := it) (Int.toNat_natCast _) dX5_addItem_81 (fun H locs hP hD hS => ?_)
  have hP : va_P D vwCl [(kr, .inr (5, [.ref la, .ref ia, .ref na, .ref b4, .ref b6, .ref b8, .ref b10, .int (iI (((sh : Nat) : Int))), .int (iI (((it : Nat) : Int))), .int (iI (lc)), .int (iI (((dy : Nat) : Int))), .int (iI (pct)), .int (iI (lr)), .int (iI (sr))])), (ia, arQ cs 2 5 (va_up itf it (some q6))), (q6, .inr (1, [.int (iI (zp)), .int (iI (zs)), .ref (u8 0), .ref (u8 2), .ref (u8 4), .int (iI (zs))])), (u8 0, .inr (0, [.ref (u8 1)])), (u8 1, arI cs 1005 (fun _ => 0)), (u8 2, .inr (0, [.ref (u8 3)])), (u8 3, arI cs 1005 (fun _ => 0)), (u8 4, .inr (0, [.ref (u8 5)])), (u8 5, arI cs 1005 (fun _ => 0))] H := hP
  have hD : va_D A [(kr, .inr (5, [.ref la, .ref ia, .ref na, .ref b4, .ref b6, .ref b8, .ref b10, .int (iI (((sh : Nat) : Int))), .int (iI (((it : Nat) : Int))), .int (iI (lc)), .int (iI (((dy : Nat) : Int))), .int (iI (pct)), .int (iI (lr)), .int (iI (sr))])), (ia, arQ cs 2 5 (va_up itf it (some q6))), (q6, .inr (1, [.int (iI (zp)), .int (iI (zs)), .ref (u8 0), .ref (u8 2), .ref (u8 4), .int (iI (zs))])), (u8 0, .inr (0, [.ref (u8 1)])), (u8 1, arI cs 1005 (fun _ => 0)), (u8 2, .inr (0, [.ref (u8 3)])), (u8 3, arI cs 1005 (fun _ => 0)), (u8 4, .inr (0, [.ref (u8 5)])), (u8 5, arI cs 1005 (fun _ => 0))] := hD
  refine lv_aload_n hx hb dX5_addItem_82 rfl (lv_at hl 0 rfl) ?_
  refine lv_dup hx hb dX5_addItem_83 rfl ?_
  refine my_get hx hb hts inAX5 hown hK hP 0 rfl rfl 8 (by decide) w_77 rfl rfl dX5_addItem_84 ?_
  refine lv_iconst (v := iI (1)) hx hb dX5_addItem_87 rfl ?_
  refine my_iadd (z := ((it : Nat) : Int) + 1) hx hb dX5_addItem_88 (rfl) ?_
  refine my_cv0 (z := (((it + 1) : Nat) : Int)) (by omega) ?_
  refine my_put hx hb hts inAX5 tyX5_ok nmX5 hown hK hP hD hS 0 rfl rfl 8 (by decide) w_77 rfl rfl rfl (Nat.le_of_ble_eq_true rfl) dX5_addItem_89 (fun H locs hP hD hS => ?_)
  have hP : va_P D vwCl [(kr, .inr (5, [.ref la, .ref ia, .ref na, .ref b4, .ref b6, .ref b8, .ref b10, .int (iI (((sh : Nat) : Int))), .int (iI ((((it + 1) : Nat) : Int))), .int (iI (lc)), .int (iI (((dy : Nat) : Int))), .int (iI (pct)), .int (iI (lr)), .int (iI (sr))])), (ia, arQ cs 2 5 (va_up itf it (some q6))), (q6, .inr (1, [.int (iI (zp)), .int (iI (zs)), .ref (u8 0), .ref (u8 2), .ref (u8 4), .int (iI (zs))])), (u8 0, .inr (0, [.ref (u8 1)])), (u8 1, arI cs 1005 (fun _ => 0)), (u8 2, .inr (0, [.ref (u8 3)])), (u8 3, arI cs 1005 (fun _ => 0)), (u8 4, .inr (0, [.ref (u8 5)])), (u8 5, arI cs 1005 (fun _ => 0))] H := hP
  have hD : va_D A [(kr, .inr (5, [.ref la, .ref ia, .ref na, .ref b4, .ref b6, .ref b8, .ref b10, .int (iI (((sh : Nat) : Int))), .int (iI ((((it + 1) : Nat) : Int))), .int (iI (lc)), .int (iI (((dy : Nat) : Int))), .int (iI (pct)), .int (iI (lr)), .int (iI (sr))])), (ia, arQ cs 2 5 (va_up itf it (some q6))), (q6, .inr (1, [.int (iI (zp)), .int (iI (zs)), .ref (u8 0), .ref (u8 2), .ref (u8 4), .int (iI (zs))])), (u8 0, .inr (0, [.ref (u8 1)])), (u8 1, arI cs 1005 (fun _ => 0)), (u8 2, .inr (0, [.ref (u8 3)])), (u8 3, arI cs 1005 (fun _ => 0)), (u8 4, .inr (0, [.ref (u8 5)])), (u8 5, arI cs 1005 (fun _ => 0))] := hD
  refine lv_aload_n hx hb dX5_addItem_92 rfl (lv_at hl 0 rfl) ?_
  refine my_get hx hb hts inAX5 hown hK hP 0 rfl rfl 8 (by decide) w_77 rfl rfl dX5_addItem_93 ?_
  refine lv_iconst (v := iI (1)) hx hb dX5_addItem_96 rfl ?_
  refine my_isub (z := (((it + 1) : Nat) : Int) - 1) hx hb dX5_addItem_97 (rfl) ?_
  subst hAe
  refine vx_ret ?_
  refine W.widen (k := 7) (n := 3024) (by omega) (by omega) ?_
  have hres : iI ((((it + 1) : Nat) : Int) - 1) = iI (((it : Nat) : Int)) := congrArg iI (by
      omega)
  exact W.iret hx hb hr (fun t ht hW => ⟨⟨_, (fun k => ([q6, u8 0, u8 1, u8 2, u8 3, u8 4, u8 5] : List Nat).getD k 0), rfl, ⟨rfl, hres⟩, by show va_P D vwCl _ t.heap; rw [ht]; exact hP, hD⟩, hS.F ht⟩) hS.2.2 dX5_addItem_98

abbrev ws_X5_carry : List Cond := Cond.code yX5_carry cX5_carry 7 (some .int) :: ALL
set_option maxHeartbeats 4000000 in
set_option maxRecDepth 100000 in
theorem m_X5_carry_no (l : Launch) (hst : l.stackTraces = false) (D : va_G) (cs : Nat → ClassId) (kr la ia na b4 b6 b8 b10 sh it : Nat) (lc : Int) (dy : Nat) (pct lr sr : Int) (lf : Nat → Int) (itf : Nat → Option Nat) (lnf : Nat → Option Nat) (zs zi zk zl : Int) (hsh : sh ≤ 4) (hit : it ≤ 5) (hitf : ∀ j, j < it → itf j ≠ none) (hzs : -2147483648 ≤ zs ∧ zs < 2147483648) (hzi : -2147483648 ≤ zi ∧ zi < 2147483648) (hzk : -2147483648 ≤ zk ∧ zk < 2147483648) (hzl : -2147483648 ≤ zl ∧ zl < 2147483648) (hno : (cdC sh it lnf zs zi zk zl) ≠ 0) : vx_Met l yX5_carry ws_X5_carry ({ frames := 7, cells := 3, slots := 18, locals := 104 }) (va_Pc [.ref kr, .int (iI (zs)), .int (iI (zi)), .int (iI (zk)), .int (iI (zl))] (PE D cs [(kr, .inr (5, [.ref la, .ref ia, .ref na, .ref b4, .ref b6, .ref b8, .ref b10, .int (iI (((sh : Nat) : Int))), .int (iI (((it : Nat) : Int))), .int (iI (lc)), .int (iI (((dy : Nat) : Int))), .int (iI (pct)), .int (iI (lr)), .int (iI (sr))])), (la, arI cs 4 lf), (ia, arQ cs 2 5 itf), (na, arQ cs 3 20 lnf)] noA)) (va_Qi (fun r (_ : Unit) => (cdC sh it lnf zs zi zk zl) = 0 ∧ r = iI (0)) (fun _ _ => True) noA) (vx_X (fun (u : Nat) => u = (cdC sh it lnf zs zi zk zl) ∧ u ≠ 0) (fun E u _ => E = exN u) noA) 3 18 noA := by
  refine vx_ofW (cc := cX5_carry) (maxL := 7) (ret := (some .int)) (by decide +kernel) rfl ?_
  intro p e s m args below meth c s₁ B hml hnt hv
  obtain ⟨rfl, ⟨hP, hK, hD, hN⟩, hE⟩ := hv
  have hx := B.exec
  have hb := B.bytes
  have hr := B.returns
  have hts : ∀ w ∈ ALL, w.before _ s = true := fun w h => atoms_spec (ws := ws_X5_carry) B.pre w (List.mem_cons_of_mem _ h)
  have hown : s.vm.findClass RX5 = some m.cls := findClass_of_methodNamed B.named
  have hlocks := B.notSynchronized
  have hS : va_S noA s.heap s.heap [] := va_S.rf
  generalize inW [(kr, .inr (5, [.ref la, .ref ia, .ref na, .ref b4, .ref b6, .ref b8, .ref b10, .int (iI (((sh : Nat) : Int))), .int (iI (((it : Nat) : Int))), .int (iI (lc)), .int (iI (((dy : Nat) : Int))), .int (iI (pct)), .int (iI (lr)), .int (iI (sr))])), (la, arI cs 4 lf), (ia, arQ cs 2 5 itf), (na, arQ cs 3 20 lnf)] = A at hD
  have hl := lv_entry ([.ref kr, .int (iI (zs)), .int (iI (zi)), .int (iI (zk)), .int (iI (zl))]) (n := 7) (Nat.le_of_ble_eq_true rfl)
  rw [lg_entry_eq]
  generalize (lg_sl ([.ref kr, .int (iI (zs)), .int (iI (zi)), .int (iI (zk)), .int (iI (zl))]) ++ List.replicate (7 - (lg_sl ([.ref kr, .int (iI (zs)), .int (iI (zi)), .int (iI (zk)), .int (iI (zl))])).length) Slot.unset).toArray = ls at hl ⊢
  have hl : lv_has ls 7 [(0, .ref kr), (1, .int (iI (zs))), (2, .int (iI (zi))), (3, .int (iI (zk))), (4, .int (iI (zl)))] := hl
  have hH := rfl (a := s.heap)
  refine lv_aload_n hx hb dX5_carry_0 rfl (lv_at hl 0 rfl) ?_
  refine lv_iload_n hx hb dX5_carry_1 rfl (lv_at hl 1 rfl) ?_
  have pk1 : picks [(kr, .inr (5, [.ref la, .ref ia, .ref na, .ref b4, .ref b6, .ref b8, .ref b10, .int (iI (((sh : Nat) : Int))), .int (iI (((it : Nat) : Int))), .int (iI (lc)), .int (iI (((dy : Nat) : Int))), .int (iI (pct)), .int (iI (lr)), .int (iI (sr))])), (la, arI cs 4 lf), (ia, arQ cs 2 5 itf), (na, arQ cs 3 20 lnf)] [0, 1] [(kr, .inr (5, [.ref la, .ref ia, .ref na, .ref b4, .ref b6, .ref b8, .ref b10, .int (iI (((sh : Nat) : Int))), .int (iI (((it : Nat) : Int))), .int (iI (lc)), .int (iI (((dy : Nat) : Int))), .int (iI (pct)), .int (iI (lr)), .int (iI (sr))])), (la, arI cs 4 lf)] := ⟨rfl, rfl, trivial⟩
  refine vx_callv (vx_runV (As := [.int (iI (zs))]) (rest := []) ⟨hx, hb, hml, hown, hts⟩ (m_X5_requireShop l hst D cs kr la ia na b4 b6 b8 b10 sh it lc dy pct lr sr lf zs (by assumption) (by omega)) (cwV 1 hts (gV w_277 w_279 w_p1 w_1 w_280) rfl rfl rfl (by decide +kernel) ⟨Nat.le_of_ble_eq_true rfl, Nat.le_of_ble_eq_true rfl⟩) (PE_V hK hN hE hS (fun _ h => False.elim h) hP hD [0, 1] rfl pk1 rfl rfl) rfl rfl hl.1 rfl (lv_room (Nat.le_of_ble_eq_true rfl)) dX5_carry_2 ⟨Nat.le_of_ble_eq_true rfl, Nat.le_of_ble_eq_true rfl⟩) hS (fun _ _ h => False.elim h) (fun _ h => False.elim h) (fun _ _ h => False.elim h) (fun E ce q9 u t H1 locs1 ht hvm hpx hBX hz1 hk1 hS1 hce hcv hcl => ?_) (fun u t H locs ht hvm hw hB hz1 hk1 hS => ?_)
  · have hcode : u = (cdC sh it lnf zs zi zk zl) := by
        have h9 : u = cdS sh zs := hpx.1
        have h10 : u ≠ 0 := hpx.2
        have h11 := cdS_s sh zs
        unfold cdC; rw [if_neg (by omega)]; omega
    exact vx_out (fun x hx => (hnt x hx).elim) hlocks hce hcv hcl (fun t2 ht2 _ => ⟨u, ⟨hcode, hpx.2⟩, hBX, hS1.F ht2⟩) hS1.2.2 (Nat.le_of_ble_eq_true rfl) (Nat.le_of_ble_eq_true rfl)
  have hc2 := hw
  have hP := P_kept hP hk1
  have hcs := cdS_s sh zs
  refine lv_aload_n hx hb dX5_carry_5 rfl (lv_at hl 0 rfl) ?_
  refine lv_iload_n hx hb dX5_carry_6 rfl (lv_at hl 2 rfl) ?_
  have pk3 : picks [(kr, .inr (5, [.ref la, .ref ia, .ref na, .ref b4, .ref b6, .ref b8, .ref b10, .int (iI (((sh : Nat) : Int))), .int (iI (((it : Nat) : Int))), .int (iI (lc)), .int (iI (((dy : Nat) : Int))), .int (iI (pct)), .int (iI (lr)), .int (iI (sr))])), (la, arI cs 4 lf), (ia, arQ cs 2 5 itf), (na, arQ cs 3 20 lnf)] [0, 2] [(kr, .inr (5, [.ref la, .ref ia, .ref na, .ref b4, .ref b6, .ref b8, .ref b10, .int (iI (((sh : Nat) : Int))), .int (iI (((it : Nat) : Int))), .int (iI (lc)), .int (iI (((dy : Nat) : Int))), .int (iI (pct)), .int (iI (lr)), .int (iI (sr))])), (ia, arQ cs 2 5 itf)] := ⟨rfl, rfl, trivial⟩
  refine vx_callq (vx_runV (As := [.int (iI (zi))]) (rest := []) ⟨hx, hb, hml, hown, hts⟩ (m_X5_requireItem l hst D cs kr la ia na b4 b6 b8 b10 sh it lc dy pct lr sr itf zi (by assumption) (by assumption) (by omega)) (cwV 1 hts (gV w_301 w_303 w_p3 w_1 w_304) rfl rfl rfl (by decide +kernel) ⟨Nat.le_of_ble_eq_true rfl, Nat.le_of_ble_eq_true rfl⟩) (PE_V hK hN hE hS (fun _ h => False.elim h) hP hD [0, 2] rfl pk3 rfl rfl) rfl rfl hl.1 rfl (lv_room (Nat.le_of_ble_eq_true rfl)) dX5_carry_7 ⟨Nat.le_of_ble_eq_true rfl, Nat.le_of_ble_eq_true rfl⟩) hS (fun _ _ h => False.elim h) (fun _ h => False.elim h) (fun _ _ h => False.elim h) (fun E ce q9 u t H1 locs1 ht hvm hpx hBX hz1 hk1 hS1 hce hcv hcl => ?_) (fun r u t H locs ht hvm hw hB hz1 hk1 hS => ?_)
  · have hcode : u = (cdC sh it lnf zs zi zk zl) := by
        have h9 : u = cdS it zi := hpx.1
        have h10 : u ≠ 0 := hpx.2
        have h11 := cdS_s it zi
        unfold cdC; rw [if_neg (by omega)]; omega
    exact vx_out (fun x hx => (hnt x hx).elim) hlocks hce hcv hcl (fun t2 ht2 _ => ⟨u, ⟨hcode, hpx.2⟩, hBX, hS1.F ht2⟩) hS1.2.2 (Nat.le_of_ble_eq_true rfl) (Nat.le_of_ble_eq_true rfl)
  obtain ⟨hc4, hw⟩ := hw
  subst hw
  have hP := P_kept hP hk1
  have hci := cdS_s it zi
  rcases hq5 : (itf zi.toNat) with _ | qa6
  · refine lv_astoreN (lv' := [(5, .null), (0, .ref kr), (1, .int (iI (zs))), (2, .int (iI (zi))), (3, .int (iI (zk))), (4, .int (iI (zl)))]) hx hb dX5_carry_10 hl (by decide) rfl (fun ls hl => ?_)
    exact absurd hq5 (hitf _ (by omega))
  · refine lv_astore (lv' := [(5, .ref qa6), (0, .ref kr), (1, .int (iI (zs))), (2, .int (iI (zi))), (3, .int (iI (zk))), (4, .int (iI (zl)))]) hx hb dX5_carry_10 hl (by decide) rfl (fun ls hl => ?_)
    refine lv_iload_n hx hb dX5_carry_12 rfl (lv_at hl 4 rfl) ?_
    refine my_if_lt (tgt := 23) hx hb (by omega) dX5_carry_13 (by decide) (fun bh7 => ?_) (fun bh7 => ?_)
    · refine my_throw3 hx hb hst hts hown hE hS (hml.trans hl.1.symm) w_144 (List.mem_of_getElem? (i := 5) rfl) hnt hlocks dX5_carry_23 dX5_carry_26 dX5_carry_27 dX5_carry_29 dX5_carry_32 (Nat.le_of_ble_eq_true rfl) (Nat.le_of_ble_eq_true rfl) (Nat.le_of_ble_eq_true rfl) (Nat.le_of_ble_eq_true rfl) (fun t H1 ht hz1 hk1 hS1 => ?_) hS.2.2 (Nat.le_of_ble_eq_true rfl) (Nat.le_of_ble_eq_true rfl)
      have hcode : 3 = (cdC sh it lnf zs zi zk zl) := by
          unfold cdC; rw [if_pos (by omega), if_pos (by omega)]
      exact ⟨3, ⟨hcode, by decide⟩, rfl, hS1.F ht⟩
    · refine lv_iload_n hx hb dX5_carry_16 rfl (lv_at hl 4 rfl) ?_
      refine lv_sipush (v := iI (999)) hx hb dX5_carry_17 (by decide) ?_
      refine my_icmp_le (tgt := 33) hx hb (by omega) dX5_carry_20 (by decide) (fun bh8 => ?_) (fun bh8 => ?_)
      · refine lv_iload hx hb dX5_carry_33 (lv_at hl 5 rfl) ?_
        refine my_if_lt (tgt := 45) hx hb (by omega) dX5_carry_35 (by decide) (fun bh9 => ?_) (fun bh9 => ?_)
        · refine my_throw3 hx hb hst hts hown hE hS (hml.trans hl.1.symm) w_144 (List.mem_of_getElem? (i := 6) rfl) hnt hlocks dX5_carry_45 dX5_carry_48 dX5_carry_49 dX5_carry_51 dX5_carry_54 (Nat.le_of_ble_eq_true rfl) (Nat.le_of_ble_eq_true rfl) (Nat.le_of_ble_eq_true rfl) (Nat.le_of_ble_eq_true rfl) (fun t H1 ht hz1 hk1 hS1 => ?_) hS.2.2 (Nat.le_of_ble_eq_true rfl) (Nat.le_of_ble_eq_true rfl)
          have hcode : 3 = (cdC sh it lnf zs zi zk zl) := by
              unfold cdC; rw [if_pos (by omega), if_pos (by omega)]
          exact ⟨3, ⟨hcode, by decide⟩, rfl, hS1.F ht⟩
        · refine lv_iload hx hb dX5_carry_38 (lv_at hl 5 rfl) ?_
          refine lv_ldc (v := iI 99999) hx hb hown (hts _ w_315) dX5_carry_40 ?_
          refine my_icmp_le (tgt := 55) hx hb (by omega) dX5_carry_42 (by decide) (fun bh10 => ?_) (fun bh10 => ?_)
          · refine lv_aload_n hx hb dX5_carry_55 rfl (lv_at hl 1 rfl) ?_
            refine lv_iload_n hx hb dX5_carry_56 rfl (lv_at hl 2 rfl) ?_
            refine lv_iload_n hx hb dX5_carry_57 rfl (lv_at hl 3 rfl) ?_
            have pk11 : picks [(kr, .inr (5, [.ref la, .ref ia, .ref na, .ref b4, .ref b6, .ref b8, .ref b10, .int (iI (((sh : Nat) : Int))), .int (iI (((it : Nat) : Int))), .int (iI (lc)), .int (iI (((dy : Nat) : Int))), .int (iI (pct)), .int (iI (lr)), .int (iI (sr))])), (la, arI cs 4 lf), (ia, arQ cs 2 5 itf), (na, arQ cs 3 20 lnf)] [0, 1, 2] [(kr, .inr (5, [.ref la, .ref ia, .ref na, .ref b4, .ref b6, .ref b8, .ref b10, .int (iI (((sh : Nat) : Int))), .int (iI (((it : Nat) : Int))), .int (iI (lc)), .int (iI (((dy : Nat) : Int))), .int (iI (pct)), .int (iI (lr)), .int (iI (sr))])), (la, arI cs 4 lf), (ia, arQ cs 2 5 itf)] := ⟨rfl, rfl, rfl, trivial⟩
            refine va_calli (va_runV (As := [.int (iI (zs)), .int (iI (zi))]) (rest := []) ⟨hx, hb, hml, hown, hts⟩ (m_X5_placeOf l D cs kr la ia na b4 b6 b8 b10 sh it lc dy pct lr sr lf itf zs zi (by assumption) (by assumption) (by omega) (by omega)) (cwV 2 hts (gV w_317 w_319 w_p6 w_1 w_320) rfl rfl rfl (by decide +kernel) ⟨Nat.le_of_ble_eq_true rfl, Nat.le_of_ble_eq_true rfl⟩) (PC_V hK hN hP hD [0, 1, 2] rfl pk11 rfl rfl) rfl rfl hl.1 rfl (lv_room (Nat.le_of_ble_eq_true rfl)) dX5_carry_58 ⟨Nat.le_of_ble_eq_true rfl, Nat.le_of_ble_eq_true rfl⟩) hS (fun _ _ h => False.elim h) (fun _ h => False.elim h) (fun r u t H locs ht hvm hw hB hz1 hk1 hS => ?_)
            subst hw
            have hP := P_kept hP hk1
            have hpl := plI_s sh it zs zi
            refine lv_istore (lv' := [(6, .int (iI (plI sh it zs zi))), (5, .ref qa6), (0, .ref kr), (1, .int (iI (zs))), (2, .int (iI (zi))), (3, .int (iI (zk))), (4, .int (iI (zl)))]) hx hb dX5_carry_61 hl (by decide) rfl (fun ls hl => ?_)
            refine lv_iload hx hb dX5_carry_63 (lv_at hl 0 rfl) ?_
            refine my_if_lt (tgt := 88) hx hb (by omega) dX5_carry_65 (by decide) (fun bh12 => (by omega : False).elim) (fun bh12 => ?_)
            refine lv_iload hx hb dX5_carry_68 (lv_at hl 0 rfl) ?_
            refine lv_aload_n hx hb dX5_carry_70 rfl (lv_at hl 2 rfl) ?_
            refine my_get hx hb hts inAX5 hown hK hP 0 rfl rfl 2 (by decide) w_71 rfl rfl dX5_carry_71 ?_
            refine my_alenQ hx hb hK hP 3 3 rfl rfl dX5_carry_74 ?_
            refine my_icmp_ge (tgt := 88) hx hb (by omega) dX5_carry_75 (by decide) (fun bh13 => (by omega : False).elim) (fun bh13 => ?_)
            refine lv_aload_n hx hb dX5_carry_78 rfl (lv_at hl 2 rfl) ?_
            refine my_get hx hb hts inAX5 hown hK hP 0 rfl rfl 2 (by decide) w_71 rfl rfl dX5_carry_79 ?_
            refine lv_iload hx hb dX5_carry_82 (lv_at hl 0 rfl) ?_
            refine my_aald hx hb hK hP 3 3 rfl rfl (by omega) (k := (plI sh it zs zi).toNat) (rfl) dX5_carry_84 ?_
            rcases hq14 : (lnf ((plI sh it zs zi).toNat)) with _ | qa15
            · refine lv_ifnullN (tgt := 98) hx hb dX5_carry_85 (by decide) ?_
              exact absurd (show cdC sh it lnf zs zi zk zl = 0 from by unfold cdC; rw [if_pos (by omega), if_neg (by omega), if_pos (by rw [show (zs * 5 + zi).toNat = (plI sh it zs zi).toNat from by omega]; exact hq14)]) hno
            · refine lv_ifnull hx hb dX5_carry_85 ?_
              refine my_throw4 hx hb hst hts hown hE hS (hml.trans hl.1.symm) w_214 (List.mem_of_getElem? (i := 7) rfl) hnt hlocks dX5_carry_88 dX5_carry_91 dX5_carry_92 dX5_carry_94 dX5_carry_97 (Nat.le_of_ble_eq_true rfl) (Nat.le_of_ble_eq_true rfl) (Nat.le_of_ble_eq_true rfl) (Nat.le_of_ble_eq_true rfl) (fun t H1 ht hz1 hk1 hS1 => ?_) hS.2.2 (Nat.le_of_ble_eq_true rfl) (Nat.le_of_ble_eq_true rfl)
              have hcode : 4 = (cdC sh it lnf zs zi zk zl) := by
                  unfold cdC; rw [if_pos (by omega), if_neg (by omega), if_neg (by rw [show (zs * 5 + zi).toNat = (plI sh it zs zi).toNat from by omega, hq14]; simp)]
              exact ⟨4, ⟨hcode, by decide⟩, rfl, hS1.F ht⟩
          · refine my_throw3 hx hb hst hts hown hE hS (hml.trans hl.1.symm) w_144 (List.mem_of_getElem? (i := 6) rfl) hnt hlocks dX5_carry_45 dX5_carry_48 dX5_carry_49 dX5_carry_51 dX5_carry_54 (Nat.le_of_ble_eq_true rfl) (Nat.le_of_ble_eq_true rfl) (Nat.le_of_ble_eq_true rfl) (Nat.le_of_ble_eq_true rfl) (fun t H1 ht hz1 hk1 hS1 => ?_) hS.2.2 (Nat.le_of_ble_eq_true rfl) (Nat.le_of_ble_eq_true rfl)
            have hcode : 3 = (cdC sh it lnf zs zi zk zl) := by
                unfold cdC; rw [if_pos (by omega), if_pos (by omega)]
            exact ⟨3, ⟨hcode, by decide⟩, rfl, hS1.F ht⟩
      · refine my_throw3 hx hb hst hts hown hE hS (hml.trans hl.1.symm) w_144 (List.mem_of_getElem? (i := 5) rfl) hnt hlocks dX5_carry_23 dX5_carry_26 dX5_carry_27 dX5_carry_29 dX5_carry_32 (Nat.le_of_ble_eq_true rfl) (Nat.le_of_ble_eq_true rfl) (Nat.le_of_ble_eq_true rfl) (Nat.le_of_ble_eq_true rfl) (fun t H1 ht hz1 hk1 hS1 => ?_) hS.2.2 (Nat.le_of_ble_eq_true rfl) (Nat.le_of_ble_eq_true rfl)
        have hcode : 3 = (cdC sh it lnf zs zi zk zl) := by
            unfold cdC; rw [if_pos (by omega), if_pos (by omega)]
        exact ⟨3, ⟨hcode, by decide⟩, rfl, hS1.F ht⟩

set_option maxHeartbeats 4000000 in
set_option maxRecDepth 100000 in
theorem m_X5_carry_ok (l : Launch) (hst : l.stackTraces = false) (D : va_G) (cs : Nat → ClassId) (kr la ia na b4 b6 b8 b10 sh it : Nat) (lc : Int) (dy : Nat) (pct lr sr : Int) (lf : Nat → Int) (itf : Nat → Option Nat) (lnf : Nat → Option Nat) (sn tn hi : Nat) (zk zl : Int) (sz : Nat) (hsh : sh ≤ 4) (hit : it ≤ 5) (hitf : ∀ j, j < it → itf j ≠ none) (hsn : sn < sh) (htn : tn < it) (hitn : itf tn = some hi) (hln : lnf (sn * 5 + tn) = none) (hzk : 0 ≤ zk ∧ zk ≤ 999) (hzl : 0 ≤ zl ∧ zl ≤ 99999) : vx_Met l yX5_carry ws_X5_carry ({ frames := 7, cells := 12, slots := 3074, locals := 104 }) (va_Pc [.ref kr, .int (iI (((sn : Nat) : Int))), .int (iI (((tn : Nat) : Int))), .int (iI (zk)), .int (iI (zl))] (fun U => U.heap.size = sz ∧ PE D cs [(kr, .inr (5, [.ref la, .ref ia, .ref na, .ref b4, .ref b6, .ref b8, .ref b10, .int (iI (((sh : Nat) : Int))), .int (iI (((it : Nat) : Int))), .int (iI (lc)), .int (iI (((dy : Nat) : Int))), .int (iI (pct)), .int (iI (lr)), .int (iI (sr))])), (la, arI cs 4 lf), (ia, arQ cs 2 5 itf), (na, arQ cs 3 20 lnf)] (va_A [(kr, .inr (5, [.ref la, .ref ia, .ref na, .ref b4, .ref b6, .ref b8, .ref b10, .int (iI (((sh : Nat) : Int))), .int (iI (((it : Nat) : Int))), .int (iI (lc)), .int (iI (((dy : Nat) : Int))), .int (iI (pct)), .int (iI (lr)), .int (iI (sr))])), (la, arI cs 4 lf), (ia, arQ cs 2 5 itf), (na, arQ cs 3 20 lnf)] sz) U)) (va_Qi (fun r (_ : Nat → Nat) => 0 = 0 ∧ r = iI (lc + 1)) (fun u t => va_P D vwCl [(kr, .inr (5, [.ref la, .ref ia, .ref na, .ref b4, .ref b6, .ref b8, .ref b10, .int (iI (((sh : Nat) : Int))), .int (iI (((it : Nat) : Int))), .int (iI (lc + 1)), .int (iI (((dy : Nat) : Int))), .int (iI (pct)), .int (iI (lr)), .int (iI (sr))])), (la, arI cs 4 lf), (ia, arQ cs 2 5 itf), (na, arQ cs 3 20 (va_up lnf (sn * 5 + tn) (some (u 0)))), (u 0, .inr (3, [.ref hi, .int (iI (lf sn)), .int (iI (((dy : Nat) : Int))), .int (iI (zk)), .int (iI (zl)), .ref (u 1), .ref (u 3), .ref (u 4), .ref (u 6), .ref (u 8), .int (iI (0)), .int (iI (zk)), .int (iI (0)), .int (iI (0))])), (u 1, .inr (2, [.ref (u 2), .int (iI (zl))])), (u 2, arI cs 7 (fun _ => 1000)), (u 3, arI cs 21 (fun _ => 0)), (u 4, .inr (0, [.ref (u 5)])), (u 5, arI cs 1005 (fun _ => 0)), (u 6, .inr (0, [.ref (u 7)])), (u 7, arI cs 1005 (fun _ => 0)), (u 8, .inr (0, [.ref (u 9)])), (u 9, arI cs 1005 (fun _ => 0))] t.heap ∧ va_D (va_A [(kr, .inr (5, [.ref la, .ref ia, .ref na, .ref b4, .ref b6, .ref b8, .ref b10, .int (iI (((sh : Nat) : Int))), .int (iI (((it : Nat) : Int))), .int (iI (lc)), .int (iI (((dy : Nat) : Int))), .int (iI (pct)), .int (iI (lr)), .int (iI (sr))])), (la, arI cs 4 lf), (ia, arQ cs 2 5 itf), (na, arQ cs 3 20 lnf)] sz) [(kr, .inr (5, [.ref la, .ref ia, .ref na, .ref b4, .ref b6, .ref b8, .ref b10, .int (iI (((sh : Nat) : Int))), .int (iI (((it : Nat) : Int))), .int (iI (lc + 1)), .int (iI (((dy : Nat) : Int))), .int (iI (pct)), .int (iI (lr)), .int (iI (sr))])), (la, arI cs 4 lf), (ia, arQ cs 2 5 itf), (na, arQ cs 3 20 (va_up lnf (sn * 5 + tn) (some (u 0)))), (u 0, .inr (3, [.ref hi, .int (iI (lf sn)), .int (iI (((dy : Nat) : Int))), .int (iI (zk)), .int (iI (zl)), .ref (u 1), .ref (u 3), .ref (u 4), .ref (u 6), .ref (u 8), .int (iI (0)), .int (iI (zk)), .int (iI (0)), .int (iI (0))])), (u 1, .inr (2, [.ref (u 2), .int (iI (zl))])), (u 2, arI cs 7 (fun _ => 1000)), (u 3, arI cs 21 (fun _ => 0)), (u 4, .inr (0, [.ref (u 5)])), (u 5, arI cs 1005 (fun _ => 0)), (u 6, .inr (0, [.ref (u 7)])), (u 7, arI cs 1005 (fun _ => 0)), (u 8, .inr (0, [.ref (u 9)])), (u 9, arI cs 1005 (fun _ => 0))]) (va_A [(kr, .inr (5, [.ref la, .ref ia, .ref na, .ref b4, .ref b6, .ref b8, .ref b10, .int (iI (((sh : Nat) : Int))), .int (iI (((it : Nat) : Int))), .int (iI (lc)), .int (iI (((dy : Nat) : Int))), .int (iI (pct)), .int (iI (lr)), .int (iI (sr))])), (la, arI cs 4 lf), (ia, arQ cs 2 5 itf), (na, arQ cs 3 20 lnf)] sz)) (vx_X (fun (u : Nat) => u = 0 ∧ u ≠ 0) (fun E u _ => E = exN u) (va_A [(kr, .inr (5, [.ref la, .ref ia, .ref na, .ref b4, .ref b6, .ref b8, .ref b10, .int (iI (((sh : Nat) : Int))), .int (iI (((it : Nat) : Int))), .int (iI (lc)), .int (iI (((dy : Nat) : Int))), .int (iI (pct)), .int (iI (lr)), .int (iI (sr))])), (la, arI cs 4 lf), (ia, arQ cs 2 5 itf), (na, arQ cs 3 20 lnf)] sz)) 12 3074 (va_A [(kr, .inr (5, [.ref la, .ref ia, .ref na, .ref b4, .ref b6, .ref b8, .ref b10, .int (iI (((sh : Nat) : Int))), .int (iI (((it : Nat) : Int))), .int (iI (lc)), .int (iI (((dy : Nat) : Int))), .int (iI (pct)), .int (iI (lr)), .int (iI (sr))])), (la, arI cs 4 lf), (ia, arQ cs 2 5 itf), (na, arQ cs 3 20 lnf)] sz) := by
  refine vx_ofW (cc := cX5_carry) (maxL := 7) (ret := (some .int)) (by decide +kernel) rfl ?_
  intro p e s m args below meth c s₁ B hml hnt hv
  obtain ⟨rfl, hsz, ⟨hP, hK, hD, hN⟩, hE⟩ := hv
  subst hsz
  have hx := B.exec
  have hb := B.bytes
  have hr := B.returns
  have hts : ∀ w ∈ ALL, w.before _ s = true := fun w h => atoms_spec (ws := ws_X5_carry) B.pre w (List.mem_cons_of_mem _ h)
  have hown : s.vm.findClass RX5 = some m.cls := findClass_of_methodNamed B.named
  have hlocks := B.notSynchronized
  have hD := hD.self (sz := s.heap.size)
  generalize hAe : va_A [(kr, .inr (5, [.ref la, .ref ia, .ref na, .ref b4, .ref b6, .ref b8, .ref b10, .int (iI (((sh : Nat) : Int))), .int (iI (((it : Nat) : Int))), .int (iI (lc)), .int (iI (((dy : Nat) : Int))), .int (iI (pct)), .int (iI (lr)), .int (iI (sr))])), (la, arI cs 4 lf), (ia, arQ cs 2 5 itf), (na, arQ cs 3 20 lnf)] s.heap.size = A at hD hE ⊢
  have hA : ∀ q : Nat, s.heap.size ≤ q → A q := fun q h => by rw [← hAe]; exact Or.inr h
  have hS : va_S A s.heap s.heap [] := va_S.rf
  have hl := lv_entry ([.ref kr, .int (iI (((sn : Nat) : Int))), .int (iI (((tn : Nat) : Int))), .int (iI (zk)), .int (iI (zl))]) (n := 7) (Nat.le_of_ble_eq_true rfl)
  rw [lg_entry_eq]
  generalize (lg_sl ([.ref kr, .int (iI (((sn : Nat) : Int))), .int (iI (((tn : Nat) : Int))), .int (iI (zk)), .int (iI (zl))]) ++ List.replicate (7 - (lg_sl ([.ref kr, .int (iI (((sn : Nat) : Int))), .int (iI (((tn : Nat) : Int))), .int (iI (zk)), .int (iI (zl))])).length) Slot.unset).toArray = ls at hl ⊢
  have hl : lv_has ls 7 [(0, .ref kr), (1, .int (iI (((sn : Nat) : Int)))), (2, .int (iI (((tn : Nat) : Int)))), (3, .int (iI (zk))), (4, .int (iI (zl)))] := hl
  have hH := rfl (a := s.heap)
  refine lv_aload_n hx hb dX5_carry_0 rfl (lv_at hl 0 rfl) ?_
  refine lv_iload_n hx hb dX5_carry_1 rfl (lv_at hl 1 rfl) ?_
  have pk1 : picks [(kr, .inr (5, [.ref la, .ref ia, .ref na, .ref b4, .ref b6, .ref b8, .ref b10, .int (iI (((sh : Nat) : Int))), .int (iI (((it : Nat) : Int))), .int (iI (lc)), .int (iI (((dy : Nat) : Int))), .int (iI (pct)), .int (iI (lr)), .int (iI (sr))])), (la, arI cs 4 lf), (ia, arQ cs 2 5 itf), (na, arQ cs 3 20 lnf)] [0, 1] [(kr, .inr (5, [.ref la, .ref ia, .ref na, .ref b4, .ref b6, .ref b8, .ref b10, .int (iI (((sh : Nat) : Int))), .int (iI (((it : Nat) : Int))), .int (iI (lc)), .int (iI (((dy : Nat) : Int))), .int (iI (pct)), .int (iI (lr)), .int (iI (sr))])), (la, arI cs 4 lf)] := ⟨rfl, rfl, trivial⟩
  refine vx_callv (vx_runV (As := [.int (iI (((sn : Nat) : Int)))]) (rest := []) ⟨hx, hb, hml, hown, hts⟩ (m_X5_requireShop l hst D cs kr la ia na b4 b6 b8 b10 sh it lc dy pct lr sr lf ((sn : Nat) : Int) (by assumption) (by omega)) (cwV 1 hts (gV w_277 w_279 w_p1 w_1 w_280) rfl rfl rfl (by decide +kernel) ⟨Nat.le_of_ble_eq_true rfl, Nat.le_of_ble_eq_true rfl⟩) (PE_V hK hN hE hS (fun _ h => False.elim h) hP hD [0, 1] rfl pk1 rfl rfl) rfl rfl hl.1 rfl (lv_room (Nat.le_of_ble_eq_true rfl)) dX5_carry_2 ⟨Nat.le_of_ble_eq_true rfl, Nat.le_of_ble_eq_true rfl⟩) hS (fun _ _ h => False.elim h) (fun _ h => False.elim h) (fun _ _ h => False.elim h) (fun E ce q9 u t H1 locs1 ht hvm hpx hBX hz1 hk1 hS1 hce hcv hcl => ?_) (fun u t H locs ht hvm hw hB hz1 hk1 hS => ?_)
  · have hcode : u = 0 := by
        have h9 : u = cdS sh ((sn : Nat) : Int) := hpx.1
        have h10 : u ≠ 0 := hpx.2
        exact absurd (h9.trans (cdS_0 hsn)) h10
    exact vx_out (fun x hx => (hnt x hx).elim) hlocks hce hcv hcl (fun t2 ht2 _ => ⟨u, ⟨hcode, hpx.2⟩, hBX, hS1.F ht2⟩) hS1.2.2 (Nat.le_of_ble_eq_true rfl) (Nat.le_of_ble_eq_true rfl)
  have hc2 := hw
  have hP := P_kept hP hk1
  have hcs := cdS_s sh ((sn : Nat) : Int)
  refine lv_aload_n hx hb dX5_carry_5 rfl (lv_at hl 0 rfl) ?_
  refine lv_iload_n hx hb dX5_carry_6 rfl (lv_at hl 2 rfl) ?_
  have pk3 : picks [(kr, .inr (5, [.ref la, .ref ia, .ref na, .ref b4, .ref b6, .ref b8, .ref b10, .int (iI (((sh : Nat) : Int))), .int (iI (((it : Nat) : Int))), .int (iI (lc)), .int (iI (((dy : Nat) : Int))), .int (iI (pct)), .int (iI (lr)), .int (iI (sr))])), (la, arI cs 4 lf), (ia, arQ cs 2 5 itf), (na, arQ cs 3 20 lnf)] [0, 2] [(kr, .inr (5, [.ref la, .ref ia, .ref na, .ref b4, .ref b6, .ref b8, .ref b10, .int (iI (((sh : Nat) : Int))), .int (iI (((it : Nat) : Int))), .int (iI (lc)), .int (iI (((dy : Nat) : Int))), .int (iI (pct)), .int (iI (lr)), .int (iI (sr))])), (ia, arQ cs 2 5 itf)] := ⟨rfl, rfl, trivial⟩
  refine vx_callq (vx_runV (As := [.int (iI (((tn : Nat) : Int)))]) (rest := []) ⟨hx, hb, hml, hown, hts⟩ (m_X5_requireItem l hst D cs kr la ia na b4 b6 b8 b10 sh it lc dy pct lr sr itf ((tn : Nat) : Int) (by assumption) (by assumption) (by omega)) (cwV 1 hts (gV w_301 w_303 w_p3 w_1 w_304) rfl rfl rfl (by decide +kernel) ⟨Nat.le_of_ble_eq_true rfl, Nat.le_of_ble_eq_true rfl⟩) (PE_V hK hN hE hS (fun _ h => False.elim h) hP hD [0, 2] rfl pk3 rfl rfl) rfl rfl hl.1 rfl (lv_room (Nat.le_of_ble_eq_true rfl)) dX5_carry_7 ⟨Nat.le_of_ble_eq_true rfl, Nat.le_of_ble_eq_true rfl⟩) hS (fun _ _ h => False.elim h) (fun _ h => False.elim h) (fun _ _ h => False.elim h) (fun E ce q9 u t H1 locs1 ht hvm hpx hBX hz1 hk1 hS1 hce hcv hcl => ?_) (fun r u t H locs ht hvm hw hB hz1 hk1 hS => ?_)
  · have hcode : u = 0 := by
        have h9 : u = cdS it ((tn : Nat) : Int) := hpx.1
        have h10 : u ≠ 0 := hpx.2
        exact absurd (h9.trans (cdS_0 htn)) h10
    exact vx_out (fun x hx => (hnt x hx).elim) hlocks hce hcv hcl (fun t2 ht2 _ => ⟨u, ⟨hcode, hpx.2⟩, hBX, hS1.F ht2⟩) hS1.2.2 (Nat.le_of_ble_eq_true rfl) (Nat.le_of_ble_eq_true rfl)
  obtain ⟨hc4, hw⟩ := hw
  subst hw
  have hP := P_kept hP hk1
  have hci := cdS_s it ((tn : Nat) : Int)
  have hq0 : itf (((tn : Nat) : Int)).toNat = some hi := by rw [Int.toNat_natCast]; exact hitn
  refine my_cvq hq0 ?_
  refine lv_astore (lv' := [(5, .ref hi), (0, .ref kr), (1, .int (iI (((sn : Nat) : Int)))), (2, .int (iI (((tn : Nat) : Int)))), (3, .int (iI (zk))), (4, .int (iI (zl)))]) hx hb dX5_carry_10 hl (by decide) rfl (fun ls hl => ?_)
  refine lv_iload_n hx hb dX5_carry_12 rfl (lv_at hl 4 rfl) ?_
  refine my_if_lt (tgt := 23) hx hb (by omega) dX5_carry_13 (by decide) (fun bh5 => (by omega : False).elim) (fun bh5 => ?_)
  refine lv_iload_n hx hb dX5_carry_16 rfl (lv_at hl 4 rfl) ?_
  refine lv_sipush (v := iI (999)) hx hb dX5_carry_17 (by decide) ?_
  refine my_icmp_le (tgt := 33) hx hb (by omega) dX5_carry_20 (by decide) (fun bh6 => ?_) (fun bh6 => (by omega : False).elim)
  refine lv_iload hx hb dX5_carry_33 (lv_at hl 5 rfl) ?_
  refine my_if_lt (tgt := 45) hx hb (by omega) dX5_carry_35 (by decide) (fun bh7 => (by omega : False).elim) (fun bh7 => ?_)
  refine lv_iload hx hb dX5_carry_38 (lv_at hl 5 rfl) ?_
  refine lv_ldc (v := iI 99999) hx hb hown (hts _ w_315) dX5_carry_40 ?_
  refine my_icmp_le (tgt := 55) hx hb (by omega) dX5_carry_42 (by decide) (fun bh8 => ?_) (fun bh8 => (by omega : False).elim)
  refine lv_aload_n hx hb dX5_carry_55 rfl (lv_at hl 1 rfl) ?_
  refine lv_iload_n hx hb dX5_carry_56 rfl (lv_at hl 2 rfl) ?_
  refine lv_iload_n hx hb dX5_carry_57 rfl (lv_at hl 3 rfl) ?_
  have pk9 : picks [(kr, .inr (5, [.ref la, .ref ia, .ref na, .ref b4, .ref b6, .ref b8, .ref b10, .int (iI (((sh : Nat) : Int))), .int (iI (((it : Nat) : Int))), .int (iI (lc)), .int (iI (((dy : Nat) : Int))), .int (iI (pct)), .int (iI (lr)), .int (iI (sr))])), (la, arI cs 4 lf), (ia, arQ cs 2 5 itf), (na, arQ cs 3 20 lnf)] [0, 1, 2] [(kr, .inr (5, [.ref la, .ref ia, .ref na, .ref b4, .ref b6, .ref b8, .ref b10, .int (iI (((sh : Nat) : Int))), .int (iI (((it : Nat) : Int))), .int (iI (lc)), .int (iI (((dy : Nat) : Int))), .int (iI (pct)), .int (iI (lr)), .int (iI (sr))])), (la, arI cs 4 lf), (ia, arQ cs 2 5 itf)] := ⟨rfl, rfl, rfl, trivial⟩
  refine va_calli (va_runV (As := [.int (iI (((sn : Nat) : Int))), .int (iI (((tn : Nat) : Int)))]) (rest := []) ⟨hx, hb, hml, hown, hts⟩ (m_X5_placeOf l D cs kr la ia na b4 b6 b8 b10 sh it lc dy pct lr sr lf itf ((sn : Nat) : Int) ((tn : Nat) : Int) (by assumption) (by assumption) (by omega) (by omega)) (cwV 2 hts (gV w_317 w_319 w_p6 w_1 w_320) rfl rfl rfl (by decide +kernel) ⟨Nat.le_of_ble_eq_true rfl, Nat.le_of_ble_eq_true rfl⟩) (PC_V hK hN hP hD [0, 1, 2] rfl pk9 rfl rfl) rfl rfl hl.1 rfl (lv_room (Nat.le_of_ble_eq_true rfl)) dX5_carry_58 ⟨Nat.le_of_ble_eq_true rfl, Nat.le_of_ble_eq_true rfl⟩) hS (fun _ _ h => False.elim h) (fun _ h => False.elim h) (fun r u t H locs ht hvm hw hB hz1 hk1 hS => ?_)
  subst hw
  have hP := P_kept hP hk1
  have hpl := plI_s sh it ((sn : Nat) : Int) ((tn : Nat) : Int)
  refine my_cv0 (z := (((sn * 5 + tn) : Nat) : Int)) (by omega) ?_
  refine lv_istore (lv' := [(6, .int (iI ((((sn * 5 + tn) : Nat) : Int)))), (5, .ref hi), (0, .ref kr), (1, .int (iI (((sn : Nat) : Int)))), (2, .int (iI (((tn : Nat) : Int)))), (3, .int (iI (zk))), (4, .int (iI (zl)))]) hx hb dX5_carry_61 hl (by decide) rfl (fun ls hl => ?_)
  refine lv_iload hx hb dX5_carry_63 (lv_at hl 0 rfl) ?_
  refine my_if_lt (tgt := 88) hx hb (by omega) dX5_carry_65 (by decide) (fun bh10 => (by omega : False).elim) (fun bh10 => ?_)
  refine lv_iload hx hb dX5_carry_68 (lv_at hl 0 rfl) ?_
  refine lv_aload_n hx hb dX5_carry_70 rfl (lv_at hl 2 rfl) ?_
  refine my_get hx hb hts inAX5 hown hK hP 0 rfl rfl 2 (by decide) w_71 rfl rfl dX5_carry_71 ?_
  refine my_alenQ hx hb hK hP 3 3 rfl rfl dX5_carry_74 ?_
  refine my_icmp_ge (tgt := 88) hx hb (by omega) dX5_carry_75 (by decide) (fun bh11 => (by omega : False).elim) (fun bh11 => ?_)
  refine lv_aload_n hx hb dX5_carry_78 rfl (lv_at hl 2 rfl) ?_
  refine my_get hx hb hts inAX5 hown hK hP 0 rfl rfl 2 (by decide) w_71 rfl rfl dX5_carry_79 ?_
  refine lv_iload hx hb dX5_carry_82 (lv_at hl 0 rfl) ?_
  refine my_aald hx hb hK hP 3 3 rfl rfl (by omega) (k := sn * 5 + tn) (Int.toNat_natCast _) dX5_carry_84 ?_
  refine my_cvn hln ?_
  refine lv_ifnullN (tgt := 98) hx hb dX5_carry_85 (by decide) ?_
  refine lv_aload_n hx hb dX5_carry_98 rfl (lv_at hl 2 rfl) ?_
  refine my_get hx hb hts inAX5 hown hK hP 0 rfl rfl 2 (by decide) w_71 rfl rfl dX5_carry_99 ?_
  refine lv_iload hx hb dX5_carry_102 (lv_at hl 0 rfl) ?_
  refine va_new (ci := 3) (fs := [.null, .int (iI (0)), .int (iI (0)), .int (iI (0)), .int (iI (0)), .null, .null, .null, .null, .null, .int (iI (0)), .int (iI (0)), .int (iI (0)), .int (iI (0))]) (C := RX3) (T := TX3) (N := 14) hx hb hts inAX3 tyX3 tyX3_ok hown (hts _ w_26) (hts _ w_322) (hts _ w_13) hK hP hD hS hA rfl (fun j hj => by rcases (show j = 0 ∨ j = 1 ∨ j = 2 ∨ j = 3 ∨ j = 4 ∨ j = 5 ∨ j = 6 ∨ j = 7 ∨ j = 8 ∨ j = 9 ∨ j = 10 ∨ j = 11 ∨ j = 12 ∨ j = 13 by omega) with rfl | rfl | rfl | rfl | rfl | rfl | rfl | rfl | rfl | rfl | rfl | rfl | rfl | rfl <;> rfl) (Nat.le_of_ble_eq_true rfl) (Nat.le_of_ble_eq_true rfl) dX5_carry_104 (fun q12 H hP hD hS => ?_)
  have hP : va_P D vwCl [(kr, .inr (5, [.ref la, .ref ia, .ref na, .ref b4, .ref b6, .ref b8, .ref b10, .int (iI (((sh : Nat) : Int))), .int (iI (((it : Nat) : Int))), .int (iI (lc)), .int (iI (((dy : Nat) : Int))), .int (iI (pct)), .int (iI (lr)), .int (iI (sr))])), (la, arI cs 4 lf), (ia, arQ cs 2 5 itf), (na, arQ cs 3 20 lnf), (q12, .inr (3, [.null, .int (iI (0)), .int (iI (0)), .int (iI (0)), .int (iI (0)), .null, .null, .null, .null, .null, .int (iI (0)), .int (iI (0)), .int (iI (0)), .int (iI (0))]))] H := hP
  have hD : va_D A [(kr, .inr (5, [.ref la, .ref ia, .ref na, .ref b4, .ref b6, .ref b8, .ref b10, .int (iI (((sh : Nat) : Int))), .int (iI (((it : Nat) : Int))), .int (iI (lc)), .int (iI (((dy : Nat) : Int))), .int (iI (pct)), .int (iI (lr)), .int (iI (sr))])), (la, arI cs 4 lf), (ia, arQ cs 2 5 itf), (na, arQ cs 3 20 lnf), (q12, .inr (3, [.null, .int (iI (0)), .int (iI (0)), .int (iI (0)), .int (iI (0)), .null, .null, .null, .null, .null, .int (iI (0)), .int (iI (0)), .int (iI (0)), .int (iI (0))]))] := hD
  refine lv_dup hx hb dX5_carry_107 rfl ?_
  refine lv_aload hx hb dX5_carry_108 (lv_at hl 1 rfl) ?_
  refine lv_aload_n hx hb dX5_carry_110 rfl (lv_at hl 2 rfl) ?_
  refine lv_iload_n hx hb dX5_carry_111 rfl (lv_at hl 3 rfl) ?_
  have pk13 : picks [(kr, .inr (5, [.ref la, .ref ia, .ref na, .ref b4, .ref b6, .ref b8, .ref b10, .int (iI (((sh : Nat) : Int))), .int (iI (((it : Nat) : Int))), .int (iI (lc)), .int (iI (((dy : Nat) : Int))), .int (iI (pct)), .int (iI (lr)), .int (iI (sr))])), (la, arI cs 4 lf), (ia, arQ cs 2 5 itf), (na, arQ cs 3 20 lnf), (q12, .inr (3, [.null, .int (iI (0)), .int (iI (0)), .int (iI (0)), .int (iI (0)), .null, .null, .null, .null, .null, .int (iI (0)), .int (iI (0)), .int (iI (0)), .int (iI (0))]))] [0, 1] [(kr, .inr (5, [.ref la, .ref ia, .ref na, .ref b4, .ref b6, .ref b8, .ref b10, .int (iI (((sh : Nat) : Int))), .int (iI (((it : Nat) : Int))), .int (iI (lc)), .int (iI (((dy : Nat) : Int))), .int (iI (pct)), .int (iI (lr)), .int (iI (sr))])), (la, arI cs 4 lf)] := ⟨rfl, rfl, trivial⟩
  refine va_calli (va_runV (As := [.int (iI (((sn : Nat) : Int)))]) (rest := [.ref hi, .ref q12, .ref q12, .int (iI ((((sn * 5 + tn) : Nat) : Int))), .ref na]) ⟨hx, hb, hml, hown, hts⟩ (m_X5_leadOf l D cs kr la ia na b4 b6 b8 b10 sh it lc dy pct lr sr lf ((sn : Nat) : Int) (by assumption) (by omega)) (cwV 1 hts (gV w_323 w_325 w_p7 w_1 w_326) rfl rfl rfl (by decide +kernel) ⟨Nat.le_of_ble_eq_true rfl, Nat.le_of_ble_eq_true rfl⟩) (PC_V hK hN hP hD [0, 1] rfl pk13 rfl rfl) rfl rfl hl.1 rfl (lv_room (Nat.le_of_ble_eq_true rfl)) dX5_carry_112 ⟨Nat.le_of_ble_eq_true rfl, Nat.le_of_ble_eq_true rfl⟩) hS (fun _ _ h => False.elim h) (fun _ h => False.elim h) (fun r u t H locs ht hvm hw hB hz1 hk1 hS => ?_)
  subst hw
  have hP := P_kept hP hk1
  refine my_cv0 (z := lf sn) (by rw [if_pos (by omega), Int.toNat_natCast]) ?_
  refine lv_aload_n hx hb dX5_carry_115 rfl (lv_at hl 2 rfl) ?_
  refine my_get hx hb hts inAX5 hown hK hP 0 rfl rfl 10 (by decide) w_79 rfl rfl dX5_carry_116 ?_
  refine lv_iload_n hx hb dX5_carry_119 rfl (lv_at hl 5 rfl) ?_
  refine lv_iload hx hb dX5_carry_120 (lv_at hl 6 rfl) ?_
  have pk14 : picks [(kr, .inr (5, [.ref la, .ref ia, .ref na, .ref b4, .ref b6, .ref b8, .ref b10, .int (iI (((sh : Nat) : Int))), .int (iI (((it : Nat) : Int))), .int (iI (lc)), .int (iI (((dy : Nat) : Int))), .int (iI (pct)), .int (iI (lr)), .int (iI (sr))])), (la, arI cs 4 lf), (ia, arQ cs 2 5 itf), (na, arQ cs 3 20 lnf), (q12, .inr (3, [.null, .int (iI (0)), .int (iI (0)), .int (iI (0)), .int (iI (0)), .null, .null, .null, .null, .null, .int (iI (0)), .int (iI (0)), .int (iI (0)), .int (iI (0))]))] [4] [(q12, .inr (3, [.null, .int (iI (0)), .int (iI (0)), .int (iI (0)), .int (iI (0)), .null, .null, .null, .null, .null, .int (iI (0)), .int (iI (0)), .int (iI (0)), .int (iI (0))]))] := ⟨rfl, trivial⟩
  have hFA := fA_sub hD [4] pk14 hS hA
  refine va_callv (va_runI (As := [.ref hi, .int (iI (lf sn)), .int (iI (((dy : Nat) : Int))), .int (iI (zk)), .int (iI (zl))]) (rest := [.ref q12, .int (iI ((((sn * 5 + tn) : Nat) : Int))), .ref na]) ⟨hx, hb, hml, hown, hts⟩ (m_X3_init l D cs q12 hi (lf sn) ((dy : Nat) : Int) zk zl _) (cwI 5 hts (gA w_329) rfl rfl rfl (hts _ w_13) (hts _ w_327) (hts _ w_328) rfl (by decide +kernel) ⟨Nat.le_of_ble_eq_true rfl, Nat.le_of_ble_eq_true rfl⟩) (PA_S hK hN hP hD [4] rfl pk14) rfl rfl hl.1 rfl (lv_room (Nat.le_of_ble_eq_true rfl)) dX5_carry_122 ⟨Nat.le_of_ble_eq_true rfl, Nat.le_of_ble_eq_true rfl⟩) hS (fun q _ h => hFA q h) hFA (fun u15 t H1 locs ht hvm hw hB hz1 hk1 hS => ?_)
  rw [ht] at hB
  obtain ⟨hP, hD⟩ := my_joinA (W1 := [(q12, .inr (3, [.ref hi, .int (iI (lf sn)), .int (iI (((dy : Nat) : Int))), .int (iI (zk)), .int (iI (zl)), .ref (u15 0), .ref (u15 2), .ref (u15 3), .ref (u15 5), .ref (u15 7), .int (iI (0)), .int (iI (zk)), .int (iI (0)), .int (iI (0))]))]) (Wn := [(u15 0, .inr (2, [.ref (u15 1), .int (iI (zl))])), (u15 1, arI cs 7 (fun _ => 1000)), (u15 2, arI cs 21 (fun _ => 0)), (u15 3, .inr (0, [.ref (u15 4)])), (u15 4, arI cs 1005 (fun _ => 0)), (u15 5, .inr (0, [.ref (u15 6)])), (u15 6, arI cs 1005 (fun _ => 0)), (u15 7, .inr (0, [.ref (u15 8)])), (u15 8, arI cs 1005 (fun _ => 0))]) hP hD [4] rfl pk14 rfl hk1 hB hFA
  generalize H1 = H at hP hS ⊢
  have hP : va_P D vwCl [(kr, .inr (5, [.ref la, .ref ia, .ref na, .ref b4, .ref b6, .ref b8, .ref b10, .int (iI (((sh : Nat) : Int))), .int (iI (((it : Nat) : Int))), .int (iI (lc)), .int (iI (((dy : Nat) : Int))), .int (iI (pct)), .int (iI (lr)), .int (iI (sr))])), (la, arI cs 4 lf), (ia, arQ cs 2 5 itf), (na, arQ cs 3 20 lnf), (q12, .inr (3, [.ref hi, .int (iI (lf sn)), .int (iI (((dy : Nat) : Int))), .int (iI (zk)), .int (iI (zl)), .ref (u15 0), .ref (u15 2), .ref (u15 3), .ref (u15 5), .ref (u15 7), .int (iI (0)), .int (iI (zk)), .int (iI (0)), .int (iI (0))])), (u15 0, .inr (2, [.ref (u15 1), .int (iI (zl))])), (u15 1, arI cs 7 (fun _ => 1000)), (u15 2, arI cs 21 (fun _ => 0)), (u15 3, .inr (0, [.ref (u15 4)])), (u15 4, arI cs 1005 (fun _ => 0)), (u15 5, .inr (0, [.ref (u15 6)])), (u15 6, arI cs 1005 (fun _ => 0)), (u15 7, .inr (0, [.ref (u15 8)])), (u15 8, arI cs 1005 (fun _ => 0))] H := hP
  have hD : va_D A [(kr, .inr (5, [.ref la, .ref ia, .ref na, .ref b4, .ref b6, .ref b8, .ref b10, .int (iI (((sh : Nat) : Int))), .int (iI (((it : Nat) : Int))), .int (iI (lc)), .int (iI (((dy : Nat) : Int))), .int (iI (pct)), .int (iI (lr)), .int (iI (sr))])), (la, arI cs 4 lf), (ia, arQ cs 2 5 itf), (na, arQ cs 3 20 lnf), (q12, .inr (3, [.ref hi, .int (iI (lf sn)), .int (iI (((dy : Nat) : Int))), .int (iI (zk)), .int (iI (zl)), .ref (u15 0), .ref (u15 2), .ref (u15 3), .ref (u15 5), .ref (u15 7), .int (iI (0)), .int (iI (zk)), .int (iI (0)), .int (iI (0))])), (u15 0, .inr (2, [.ref (u15 1), .int (iI (zl))])), (u15 1, arI cs 7 (fun _ => 1000)), (u15 2, arI cs 21 (fun _ => 0)), (u15 3, .inr (0, [.ref (u15 4)])), (u15 4, arI cs 1005 (fun _ => 0)), (u15 5, .inr (0, [.ref (u15 6)])), (u15 6, arI cs 1005 (fun _ => 0)), (u15 7, .inr (0, [.ref (u15 8)])), (u15 8, arI cs 1005 (fun _ => 0))] := hD
  refine my_aast hx hb hK hP hD hS 3 3 4 3 rfl rfl rfl rfl (by omega) (k := sn * 5 + tn) (Int.toNat_natCast _) dX5_carry_125 (fun H locs hP hD hS => ?_)
  have hP : va_P D vwCl [(kr, .inr (5, [.ref la, .ref ia, .ref na, .ref b4, .ref b6, .ref b8, .ref b10, .int (iI (((sh : Nat) : Int))), .int (iI (((it : Nat) : Int))), .int (iI (lc)), .int (iI (((dy : Nat) : Int))), .int (iI (pct)), .int (iI (lr)), .int (iI (sr))])), (la, arI cs 4 lf), (ia, arQ cs 2 5 itf), (na, arQ cs 3 20 (va_up lnf (sn * 5 + tn) (some q12))), (q12, .inr (3, [.ref hi, .int (iI (lf sn)), .int (iI (((dy : Nat) : Int))), .int (iI (zk)), .int (iI (zl)), .ref (u15 0), .ref (u15 2), .ref (u15 3), .ref (u15 5), .ref (u15 7), .int (iI (0)), .int (iI (zk)), .int (iI (0)), .int (iI (0))])), (u15 0, .inr (2, [.ref (u15 1), .int (iI (zl))])), (u15 1, arI cs 7 (fun _ => 1000)), (u15 2, arI cs 21 (fun _ => 0)), (u15 3, .inr (0, [.ref (u15 4)])), (u15 4, arI cs 1005 (fun _ => 0)), (u15 5, .inr (0, [.ref (u15 6)])), (u15 6, arI cs 1005 (fun _ => 0)), (u15 7, .inr (0, [.ref (u15 8)])), (u15 8, arI cs 1005 (fun _ => 0))] H := hP
  have hD : va_D A [(kr, .inr (5, [.ref la, .ref ia, .ref na, .ref b4, .ref b6, .ref b8, .ref b10, .int (iI (((sh : Nat) : Int))), .int (iI (((it : Nat) : Int))), .int (iI (lc)), .int (iI (((dy : Nat) : Int))), .int (iI (pct)), .int (iI (lr)), .int (iI (sr))])), (la, arI cs 4 lf), (ia, arQ cs 2 5 itf), (na, arQ cs 3 20 (va_up lnf (sn * 5 + tn) (some q12))), (q12, .inr (3, [.ref hi, .int (iI (lf sn)), .int (iI (((dy : Nat) : Int))), .int (iI (zk)), .int (iI (zl)), .ref (u15 0), .ref (u15 2), .ref (u15 3), .ref (u15 5), .ref (u15 7), .int (iI (0)), .int (iI (zk)), .int (iI (0)), .int (iI (0))])), (u15 0, .inr (2, [.ref (u15 1), .int (iI (zl))])), (u15 1, arI cs 7 (fun _ => 1000)), (u15 2, arI cs 21 (fun _ => 0)), (u15 3, .inr (0, [.ref (u15 4)])), (u15 4, arI cs 1005 (fun _ => 0)), (u15 5, .inr (0, [.ref (u15 6)])), (u15 6, arI cs 1005 (fun _ => 0)), (u15 7, .inr (0, [.ref (u15 8)])), (u15 8, arI cs 1005 (fun _ => 0))] := hD
  refine lv_aload_n hx hb dX5_carry_126 rfl (lv_at hl 2 rfl) ?_
  refine lv_dup hx hb dX5_carry_127 rfl ?_
  refine my_get hx hb hts inAX5 hown hK hP 0 rfl rfl 9 (by decide) w_78 rfl rfl dX5_carry_128 ?_
  refine lv_iconst (v := iI (1)) hx hb dX5_carry_131 rfl ?_
  refine my_iadd (z := lc + 1) hx hb dX5_carry_132 (rfl) ?_
  refine my_put hx hb hts inAX5 tyX5_ok nmX5 hown hK hP hD hS 0 rfl rfl 9 (by decide) w_78 rfl rfl rfl (Nat.le_of_ble_eq_true rfl) dX5_carry_133 (fun H locs hP hD hS => ?_)
  have hP : va_P D vwCl [(kr, .inr (5, [.ref la, .ref ia, .ref na, .ref b4, .ref b6, .ref b8, .ref b10, .int (iI (((sh : Nat) : Int))), .int (iI (((it : Nat) : Int))), .int (iI (lc + 1)), .int (iI (((dy : Nat) : Int))), .int (iI (pct)), .int (iI (lr)), .int (iI (sr))])), (la, arI cs 4 lf), (ia, arQ cs 2 5 itf), (na, arQ cs 3 20 (va_up lnf (sn * 5 + tn) (some q12))), (q12, .inr (3, [.ref hi, .int (iI (lf sn)), .int (iI (((dy : Nat) : Int))), .int (iI (zk)), .int (iI (zl)), .ref (u15 0), .ref (u15 2), .ref (u15 3), .ref (u15 5), .ref (u15 7), .int (iI (0)), .int (iI (zk)), .int (iI (0)), .int (iI (0))])), (u15 0, .inr (2, [.ref (u15 1), .int (iI (zl))])), (u15 1, arI cs 7 (fun _ => 1000)), (u15 2, arI cs 21 (fun _ => 0)), (u15 3, .inr (0, [.ref (u15 4)])), (u15 4, arI cs 1005 (fun _ => 0)), (u15 5, .inr (0, [.ref (u15 6)])), (u15 6, arI cs 1005 (fun _ => 0)), (u15 7, .inr (0, [.ref (u15 8)])), (u15 8, arI cs 1005 (fun _ => 0))] H := hP
  have hD : va_D A [(kr, .inr (5, [.ref la, .ref ia, .ref na, .ref b4, .ref b6, .ref b8, .ref b10, .int (iI (((sh : Nat) : Int))), .int (iI (((it : Nat) : Int))), .int (iI (lc + 1)), .int (iI (((dy : Nat) : Int))), .int (iI (pct)), .int (iI (lr)), .int (iI (sr))])), (la, arI cs 4 lf), (ia, arQ cs 2 5 itf), (na, arQ cs 3 20 (va_up lnf (sn * 5 + tn) (some q12))), (q12, .inr (3, [.ref hi, .int (iI (lf sn)), .int (iI (((dy : Nat) : Int))), .int (iI (zk)), .int (iI (zl)), .ref (u15 0), .ref (u15 2), .ref (u15 3), .ref (u15 5), .ref (u15 7), .int (iI (0)), .int (iI (zk)), .int (iI (0)), .int (iI (0))])), (u15 0, .inr (2, [.ref (u15 1), .int (iI (zl))])), (u15 1, arI cs 7 (fun _ => 1000)), (u15 2, arI cs 21 (fun _ => 0)), (u15 3, .inr (0, [.ref (u15 4)])), (u15 4, arI cs 1005 (fun _ => 0)), (u15 5, .inr (0, [.ref (u15 6)])), (u15 6, arI cs 1005 (fun _ => 0)), (u15 7, .inr (0, [.ref (u15 8)])), (u15 8, arI cs 1005 (fun _ => 0))] := hD
  refine lv_aload_n hx hb dX5_carry_136 rfl (lv_at hl 2 rfl) ?_
  refine my_get hx hb hts inAX5 hown hK hP 0 rfl rfl 9 (by decide) w_78 rfl rfl dX5_carry_137 ?_
  subst hAe
  refine vx_ret ?_
  refine W.widen (k := 12) (n := 3074) (by omega) (by omega) ?_
  have hres : iI (lc + 1) = iI (lc + 1) := congrArg iI (by
      rfl)
  exact W.iret hx hb hr (fun t ht hW => ⟨⟨_, (fun k => ([q12, u15 0, u15 1, u15 2, u15 3, u15 4, u15 5, u15 6, u15 7, u15 8] : List Nat).getD k 0), rfl, ⟨rfl, hres⟩, by show va_P D vwCl _ t.heap; rw [ht]; exact hP, hD⟩, hS.F ht⟩) hS.2.2 dX5_carry_140
