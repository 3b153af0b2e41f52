abbrev ws_X5_isShop : List Cond := Cond.code yX5_isShop cX5_isShop 2 (some .boolean) :: ALL
set_option maxHeartbeats 4000000 in
set_option maxRecDepth 100000 in
theorem m_X5_isShop (l : Launch) (D : va_G) (cs : Nat → ClassId) (kr la ia na b4 b6 b8 b10 sh it : Nat) (lc : Int) (dy : Nat) (pct lr sr : Int) (lf : Nat → Int) (zs : Int) (hsh : sh ≤ 4) (hzs : -2147483648 ≤ zs ∧ zs < 2147483648) : Met l yX5_isShop ws_X5_isShop ({ frames := 0, cells := 0, slots := 0, locals := 0 }) (va_Pc [.ref kr, .int (iI (zs))] (PC D cs [(kr, .inr (5, [.ref la, .ref ia, .ref na, .ref b4, .ref b6, .ref b8, .ref b10, .int (iI (((sh : Nat) : Int))), .int (iI (((it : Nat) : Int))), .int (iI (lc)), .int (iI (((dy : Nat) : Int))), .int (iI (pct)), .int (iI (lr)), .int (iI (sr))])), (la, arI cs 4 lf)])) (va_Qi (fun r (_ : Unit) => r = iI (okI sh zs)) (fun _ _ => True) noA) 0 0 noA := by
  refine Met.ofW (cc := cX5_isShop) (maxL := 2) (ret := (some .boolean)) (by decide +kernel) rfl ?_
  intro p e s m args below meth c s₁ B hml hv
  obtain ⟨rfl, hP, hK, hD, hN⟩ := hv
  have hx := B.exec
  have hb := B.bytes
  have hr := B.returns
  have hts : ∀ w ∈ ALL, w.before _ s = true := fun w h => atoms_spec (ws := ws_X5_isShop) B.pre w (List.mem_cons_of_mem _ h)
  have hown : s.vm.findClass RX5 = some m.cls := findClass_of_methodNamed B.named
  have hlocks := B.notSynchronized
  have hS : va_S noA s.heap s.heap [] := va_S.rf
  generalize inW [(kr, .inr (5, [.ref la, .ref ia, .ref na, .ref b4, .ref b6, .ref b8, .ref b10, .int (iI (((sh : Nat) : Int))), .int (iI (((it : Nat) : Int))), .int (iI (lc)), .int (iI (((dy : Nat) : Int))), .int (iI (pct)), .int (iI (lr)), .int (iI (sr))])), (la, arI cs 4 lf)] = A at hD
  have hl := lv_entry ([.ref kr, .int (iI (zs))]) (n := 2) (Nat.le_of_ble_eq_true rfl)
  rw [lg_entry_eq]
  generalize (lg_sl ([.ref kr, .int (iI (zs))]) ++ List.replicate (2 - (lg_sl ([.ref kr, .int (iI (zs))])).length) Slot.unset).toArray = ls at hl ⊢
  have hl : lv_has ls 2 [(0, .ref kr), (1, .int (iI (zs)))] := hl
  have hH := rfl (a := s.heap)
  refine lv_iload_n hx hb dX5_isShop_0 rfl (lv_at hl 1 rfl) ?_
  refine my_if_lt (tgt := 25) hx hb (by omega) dX5_isShop_1 (by decide) (fun bh1 => ?_) (fun bh1 => ?_)
  · refine lv_iconst (v := iI (0)) hx hb dX5_isShop_25 rfl ?_
    have hres : iI (0) = iI (okI sh zs) := congrArg iI (by
        unfold okI; split <;> omega)
    exact W.zret hx hb hr (by decide) (fun t ht hW => ⟨⟨_, (), rfl, hres, trivial⟩, hS.F ht⟩) hS.2.2 dX5_isShop_26
  · refine lv_iload_n hx hb dX5_isShop_4 rfl (lv_at hl 1 rfl) ?_
    refine lv_aload_n hx hb dX5_isShop_5 rfl (lv_at hl 0 rfl) ?_
    refine my_get hx hb hts inAX5 hown hK hP 0 rfl rfl 7 (by decide) w_76 rfl rfl dX5_isShop_6 ?_
    refine my_icmp_ge (tgt := 25) hx hb (by omega) dX5_isShop_9 (by decide) (fun bh2 => ?_) (fun bh2 => ?_)
    · refine lv_iconst (v := iI (0)) hx hb dX5_isShop_25 rfl ?_
      have hres : iI (0) = iI (okI sh zs) := congrArg iI (by
          unfold okI; split <;> omega)
      exact W.zret hx hb hr (by decide) (fun t ht hW => ⟨⟨_, (), rfl, hres, trivial⟩, hS.F ht⟩) hS.2.2 dX5_isShop_26
    · refine lv_iload_n hx hb dX5_isShop_12 rfl (lv_at hl 1 rfl) ?_
      refine lv_aload_n hx hb dX5_isShop_13 rfl (lv_at hl 0 rfl) ?_
      refine my_get hx hb hts inAX5 hown hK hP 0 rfl rfl 0 (by decide) w_69 rfl rfl dX5_isShop_14 ?_
      refine my_alenI hx hb hK hP 1 rfl dX5_isShop_17 ?_
      refine my_icmp_ge (tgt := 25) hx hb (by omega) dX5_isShop_18 (by decide) (fun bh3 => (by omega : False).elim) (fun bh3 => ?_)
      refine lv_iconst (v := iI (1)) hx hb dX5_isShop_21 rfl ?_
      refine lv_goto (tgt := 26) hx hb dX5_isShop_22 (by decide) ?_
      have hres : iI (1) = iI (okI sh zs) := congrArg iI (by
          unfold okI; split <;> omega)
      exact W.zret hx hb hr (by decide) (fun t ht hW => ⟨⟨_, (), rfl, hres, trivial⟩, hS.F ht⟩) hS.2.2 dX5_isShop_26

abbrev ws_X5_isItem : List Cond := Cond.code yX5_isItem cX5_isItem 2 (some .boolean) :: ALL
set_option maxHeartbeats 4000000 in
set_option maxRecDepth 100000 in
theorem m_X5_isItem (l : Launch) (D : va_G) (cs : Nat → ClassId) (kr la ia na b4 b6 b8 b10 sh it : Nat) (lc : Int) (dy : Nat) (pct lr sr : Int) (itf : Nat → Option Nat) (zi : Int) (hit : it ≤ 5) (hzi : -2147483648 ≤ zi ∧ zi < 2147483648) : Met l yX5_isItem ws_X5_isItem ({ frames := 0, cells := 0, slots := 0, locals := 0 }) (va_Pc [.ref kr, .int (iI (zi))] (PC D cs [(kr, .inr (5, [.ref la, .ref ia, .ref na, .ref b4, .ref b6, .ref b8, .ref b10, .int (iI (((sh : Nat) : Int))), .int (iI (((it : Nat) : Int))), .int (iI (lc)), .int (iI (((dy : Nat) : Int))), .int (iI (pct)), .int (iI (lr)), .int (iI (sr))])), (ia, arQ cs 2 5 itf)])) (va_Qi (fun r (_ : Unit) => r = iI (okI it zi)) (fun _ _ => True) noA) 0 0 noA := by
  refine Met.ofW (cc := cX5_isItem) (maxL := 2) (ret := (some .boolean)) (by decide +kernel) rfl ?_
  intro p e s m args below meth c s₁ B hml hv
  obtain ⟨rfl, hP, hK, hD, hN⟩ := hv
  have hx := B.exec
  have hb := B.bytes
  have hr := B.returns
  have hts : ∀ w ∈ ALL, w.before _ s = true := fun w h => atoms_spec (ws := ws_X5_isItem) B.pre w (List.mem_cons_of_mem _ h)
  have hown : s.vm.findClass RX5 = some m.cls := findClass_of_methodNamed B.named
  have hlocks := B.notSynchronized
  have hS : va_S noA s.heap s.heap [] := va_S.rf
  generalize inW [(kr, .inr (5, [.ref la, .ref ia, .ref na, .ref b4, .ref b6, .ref b8, .ref b10, .int (iI (((sh : Nat) : Int))), .int (iI (((it : Nat) : Int))), .int (iI (lc)), .int (iI (((dy : Nat) : Int))), .int (iI (pct)), .int (iI (lr)), .int (iI (sr))])), (ia, arQ cs 2 5 itf)] = A at hD
  have hl := lv_entry ([.ref kr, .int (iI (zi))]) (n := 2) (Nat.le_of_ble_eq_true rfl)
  rw [lg_entry_eq]
  generalize (lg_sl ([.ref kr, .int (iI (zi))]) ++ List.replicate (2 - (lg_sl ([.ref kr, .int (iI (zi))])).length) Slot.unset).toArray = ls at hl ⊢
  have hl : lv_has ls 2 [(0, .ref kr), (1, .int (iI (zi)))] := hl
  have hH := rfl (a := s.heap)
  refine lv_iload_n hx hb dX5_isItem_0 rfl (lv_at hl 1 rfl) ?_
  refine my_if_lt (tgt := 25) hx hb (by omega) dX5_isItem_1 (by decide) (fun bh1 => ?_) (fun bh1 => ?_)
  · refine lv_iconst (v := iI (0)) hx hb dX5_isItem_25 rfl ?_
    have hres : iI (0) = iI (okI it zi) := congrArg iI (by
        unfold okI; split <;> omega)
    exact W.zret hx hb hr (by decide) (fun t ht hW => ⟨⟨_, (), rfl, hres, trivial⟩, hS.F ht⟩) hS.2.2 dX5_isItem_26
  · refine lv_iload_n hx hb dX5_isItem_4 rfl (lv_at hl 1 rfl) ?_
    refine lv_aload_n hx hb dX5_isItem_5 rfl (lv_at hl 0 rfl) ?_
    refine my_get hx hb hts inAX5 hown hK hP 0 rfl rfl 8 (by decide) w_77 rfl rfl dX5_isItem_6 ?_
    refine my_icmp_ge (tgt := 25) hx hb (by omega) dX5_isItem_9 (by decide) (fun bh2 => ?_) (fun bh2 => ?_)
    · refine lv_iconst (v := iI (0)) hx hb dX5_isItem_25 rfl ?_
      have hres : iI (0) = iI (okI it zi) := congrArg iI (by
          unfold okI; split <;> omega)
      exact W.zret hx hb hr (by decide) (fun t ht hW => ⟨⟨_, (), rfl, hres, trivial⟩, hS.F ht⟩) hS.2.2 dX5_isItem_26
    · refine lv_iload_n hx hb dX5_isItem_12 rfl (lv_at hl 1 rfl) ?_
      refine lv_aload_n hx hb dX5_isItem_13 rfl (lv_at hl 0 rfl) ?_
      refine my_get hx hb hts inAX5 hown hK hP 0 rfl rfl 1 (by decide) w_70 rfl rfl dX5_isItem_14 ?_
      refine my_alenQ hx hb hK hP 1 2 rfl rfl dX5_isItem_17 ?_
      refine my_icmp_ge (tgt := 25) hx hb (by omega) dX5_isItem_18 (by decide) (fun bh3 => (by omega : False).elim) (fun bh3 => ?_)
      refine lv_iconst (v := iI (1)) hx hb dX5_isItem_21 rfl ?_
      refine lv_goto (tgt := 26) hx hb dX5_isItem_22 (by decide) ?_
      have hres : iI (1) = iI (okI it zi) := congrArg iI (by
          unfold okI; split <;> omega)
      exact W.zret hx hb hr (by decide) (fun t ht hW => ⟨⟨_, (), rfl, hres, trivial⟩, hS.F ht⟩) hS.2.2 dX5_isItem_26

abbrev ws_X5_requireShop : List Cond := Cond.code yX5_requireShop cX5_requireShop 2 (none : Option FieldType) :: ALL
set_option maxHeartbeats 4000000 in
set_option maxRecDepth 100000 in
theorem m_X5_requireShop (l : Launch) (hst : l.stackTraces = false) (D : va_G) (cs : Nat → ClassId) (kr la ia na b4 b6 b8 b10 sh it : Nat) (lc : Int) (dy : Nat) (pct lr sr : Int) (lf : Nat → Int) (zs : Int) (hsh : sh ≤ 4) (hzs : -2147483648 ≤ zs ∧ zs < 2147483648) : vx_Met l yX5_requireShop ws_X5_requireShop ({ frames := 6, cells := 1, slots := 6, locals := 82 }) (va_Pc [.ref kr, .int (iI (zs))] (PE D cs [(kr, .inr (5, [.ref la, .ref ia, .ref na, .ref b4, .ref b6, .ref b8, .ref b10, .int (iI (((sh : Nat) : Int))), .int (iI (((it : Nat) : Int))), .int (iI (lc)), .int (iI (((dy : Nat) : Int))), .int (iI (pct)), .int (iI (lr)), .int (iI (sr))])), (la, arI cs 4 lf)] noA)) (va_Qv (fun (_ : Unit) => cdS sh zs = 0) (fun _ _ => True) noA) (vx_X (fun (u : Nat) => u = cdS sh zs ∧ u ≠ 0) (fun E u _ => E = exN u) noA) 1 6 noA := by
  refine vx_ofW (cc := cX5_requireShop) (maxL := 2) (ret := ((none : Option FieldType))) (by decide +kernel) rfl ?_
  intro p e s m args below meth c s₁ B hml hnt hv
  obtain ⟨rfl, ⟨hP, hK, hD, hN⟩, hE⟩ := hv
  have hx := B.exec
  have hb := B.bytes
  have hr := B.returns
  have hts : ∀ w ∈ ALL, w.before _ s = true := fun w h => atoms_spec (ws := ws_X5_requireShop) B.pre w (List.mem_cons_of_mem _ h)
  have hown : s.vm.findClass RX5 = some m.cls := findClass_of_methodNamed B.named
  have hlocks := B.notSynchronized
  have hS : va_S noA s.heap s.heap [] := va_S.rf
  generalize inW [(kr, .inr (5, [.ref la, .ref ia, .ref na, .ref b4, .ref b6, .ref b8, .ref b10, .int (iI (((sh : Nat) : Int))), .int (iI (((it : Nat) : Int))), .int (iI (lc)), .int (iI (((dy : Nat) : Int))), .int (iI (pct)), .int (iI (lr)), .int (iI (sr))])), (la, arI cs 4 lf)] = A at hD
  have hl := lv_entry ([.ref kr, .int (iI (zs))]) (n := 2) (Nat.le_of_ble_eq_true rfl)
  rw [lg_entry_eq]
  generalize (lg_sl ([.ref kr, .int (iI (zs))]) ++ List.replicate (2 - (lg_sl ([.ref kr, .int (iI (zs))])).length) Slot.unset).toArray = ls at hl ⊢
  have hl : lv_has ls 2 [(0, .ref kr), (1, .int (iI (zs)))] := hl
  have hH := rfl (a := s.heap)
  refine lv_aload_n hx hb dX5_requireShop_0 rfl (lv_at hl 0 rfl) ?_
  refine lv_iload_n hx hb dX5_requireShop_1 rfl (lv_at hl 1 rfl) ?_
  have pk1 : picks [(kr, .inr (5, [.ref la, .ref ia, .ref na, .ref b4, .ref b6, .ref b8, .ref b10, .int (iI (((sh : Nat) : Int))), .int (iI (((it : Nat) : Int))), .int (iI (lc)), .int (iI (((dy : Nat) : Int))), .int (iI (pct)), .int (iI (lr)), .int (iI (sr))])), (la, arI cs 4 lf)] [0, 1] [(kr, .inr (5, [.ref la, .ref ia, .ref na, .ref b4, .ref b6, .ref b8, .ref b10, .int (iI (((sh : Nat) : Int))), .int (iI (((it : Nat) : Int))), .int (iI (lc)), .int (iI (((dy : Nat) : Int))), .int (iI (pct)), .int (iI (lr)), .int (iI (sr))])), (la, arI cs 4 lf)] := ⟨rfl, rfl, trivial⟩
  refine va_calli (va_runV (As := [.int (iI (zs))]) (rest := []) ⟨hx, hb, hml, hown, hts⟩ (m_X5_isShop l D cs kr la ia na b4 b6 b8 b10 sh it lc dy pct lr sr lf zs (by assumption) (by omega)) (cwV 1 hts (gV w_281 w_283 w_p2 w_1 w_284) rfl rfl rfl (by decide +kernel) ⟨Nat.le_of_ble_eq_true rfl, Nat.le_of_ble_eq_true rfl⟩) (PC_V hK hN hP hD [0, 1] rfl pk1 rfl rfl) rfl rfl hl.1 rfl (lv_room (Nat.le_of_ble_eq_true rfl)) dX5_requireShop_2 ⟨Nat.le_of_ble_eq_true rfl, Nat.le_of_ble_eq_true rfl⟩) hS (fun _ _ h => False.elim h) (fun _ h => False.elim h) (fun r u t H locs ht hvm hw hB hz1 hk1 hS => ?_)
  subst hw
  have hP := P_kept hP hk1
  have hok := okI_s sh zs
  refine my_if_ne (tgt := 19) hx hb (by omega) dX5_requireShop_5 (by decide) (fun bh2 => ?_) (fun bh2 => ?_)
  · refine vx_ret ?_
    refine W.widen (k := 1) (n := 6) (by omega) (by omega) ?_
    have hcode : cdS sh zs = 0 := by
        unfold cdS; rw [if_pos (by omega)]
    exact W.vret hx hb hr (fun t ht hW => ⟨⟨(), rfl, hcode, trivial⟩, hS.F ht⟩) hS.2.2 dX5_requireShop_19
  · refine my_throwW1 hx hb hst hts hown hE hS (hml.trans hl.1.symm) w_285 (List.mem_of_getElem? (i := 22) rfl) hnt hlocks dX5_requireShop_8 dX5_requireShop_11 dX5_requireShop_12 dX5_requireShop_15 dX5_requireShop_18 (Nat.le_of_ble_eq_true rfl) (Nat.le_of_ble_eq_true rfl) (Nat.le_of_ble_eq_true rfl) (Nat.le_of_ble_eq_true rfl) (fun t H1 ht hz1 hk1 hS1 => ?_) hS.2.2 (Nat.le_of_ble_eq_true rfl) (Nat.le_of_ble_eq_true rfl)
    have hcode : 1 = cdS sh zs := by
        unfold cdS; rw [if_neg (by omega)]
    exact ⟨1, ⟨hcode, by decide⟩, rfl, hS1.F ht⟩

abbrev ws_X5_itemOrNull : List Cond := Cond.code yX5_itemOrNull cX5_itemOrNull 2 (some (.object "Replen$Item")) :: ALL
set_option maxHeartbeats 4000000 in
set_option maxRecDepth 100000 in
theorem m_X5_itemOrNull (l : Launch) (D : va_G) (cs : Nat → ClassId) (kr la ia na b4 b6 b8 b10 sh it : Nat) (lc : Int) (dy : Nat) (pct lr sr : Int) (itf : Nat → Option Nat) (zi : Int) (hit : it ≤ 5) (hzi : -2147483648 ≤ zi ∧ zi < 2147483648) : Met l yX5_itemOrNull ws_X5_itemOrNull ({ frames := 1, cells := 0, slots := 0, locals := 21 }) (va_Pc [.ref kr, .int (iI (zi))] (PC D cs [(kr, .inr (5, [.ref la, .ref ia, .ref na, .ref b4, .ref b6, .ref b8, .ref b10, .int (iI (((sh : Nat) : Int))), .int (iI (((it : Nat) : Int))), .int (iI (lc)), .int (iI (((dy : Nat) : Int))), .int (iI (pct)), .int (iI (lr)), .int (iI (sr))])), (ia, arQ cs 2 5 itf)])) (va_Qq (fun r (_ : Unit) => r = itO it itf zi) (fun _ _ => True) noA) 0 0 noA := by
  refine Met.ofW (cc := cX5_itemOrNull) (maxL := 2) (ret := ((some (.object "Replen$Item")))) (by decide +kernel) rfl ?_
  intro p e s m args below meth c s₁ B hml hv
  obtain ⟨rfl, hP, hK, hD, hN⟩ := hv
  have hx := B.exec
  have hb := B.bytes
  have hr := B.returns
  have hts : ∀ w ∈ ALL, w.before _ s = true := fun w h => atoms_spec (ws := ws_X5_itemOrNull) B.pre w (List.mem_cons_of_mem _ h)
  have hown : s.vm.findClass RX5 = some m.cls := findClass_of_methodNamed B.named
  have hlocks := B.notSynchronized
  have hS : va_S noA s.heap s.heap [] := va_S.rf
  generalize inW [(kr, .inr (5, [.ref la, .ref ia, .ref na, .ref b4, .ref b6, .ref b8, .ref b10, .int (iI (((sh : Nat) : Int))), .int (iI (((it : Nat) : Int))), .int (iI (lc)), .int (iI (((dy : Nat) : Int))), .int (iI (pct)), .int (iI (lr)), .int (iI (sr))])), (ia, arQ cs 2 5 itf)] = A at hD
  have hl := lv_entry ([.ref kr, .int (iI (zi))]) (n := 2) (Nat.le_of_ble_eq_true rfl)
  rw [lg_entry_eq]
  generalize (lg_sl ([.ref kr, .int (iI (zi))]) ++ List.replicate (2 - (lg_sl ([.ref kr, .int (iI (zi))])).length) Slot.unset).toArray = ls at hl ⊢
  have hl : lv_has ls 2 [(0, .ref kr), (1, .int (iI (zi)))] := hl
  have hH := rfl (a := s.heap)
  refine lv_aload_n hx hb dX5_itemOrNull_0 rfl (lv_at hl 0 rfl) ?_
  refine lv_iload_n hx hb dX5_itemOrNull_1 rfl (lv_at hl 1 rfl) ?_
  have pk1 : picks [(kr, .inr (5, [.ref la, .ref ia, .ref na, .ref b4, .ref b6, .ref b8, .ref b10, .int (iI (((sh : Nat) : Int))), .int (iI (((it : Nat) : Int))), .int (iI (lc)), .int (iI (((dy : Nat) : Int))), .int (iI (pct)), .int (iI (lr)), .int (iI (sr))])), (ia, arQ cs 2 5 itf)] [0, 1] [(kr, .inr (5, [.ref la, .ref ia, .ref na, .ref b4, .ref b6, .ref b8, .ref b10, .int (iI (((sh : Nat) : Int))), .int (iI (((it : Nat) : Int))), .int (iI (lc)), .int (iI (((dy : Nat) : Int))), .int (iI (pct)), .int (iI (lr)), .int (iI (sr))])), (ia, arQ cs 2 5 itf)] := ⟨rfl, rfl, trivial⟩
  refine va_calli (va_runV (As := [.int (iI (zi))]) (rest := []) ⟨hx, hb, hml, hown, hts⟩ (m_X5_isItem l D cs kr la ia na b4 b6 b8 b10 sh it lc dy pct lr sr itf zi (by assumption) (by omega)) (cwV 1 hts (gV w_309 w_311 w_p5 w_1 w_312) rfl rfl rfl (by decide +kernel) ⟨Nat.le_of_ble_eq_true rfl, Nat.le_of_ble_eq_true rfl⟩) (PC_V hK hN hP hD [0, 1] rfl pk1 rfl rfl) rfl rfl hl.1 rfl (lv_room (Nat.le_of_ble_eq_true rfl)) dX5_itemOrNull_2 ⟨Nat.le_of_ble_eq_true rfl, Nat.le_of_ble_eq_true rfl⟩) hS (fun _ _ h => False.elim h) (fun _ h => False.elim h) (fun r u t H locs ht hvm hw hB hz1 hk1 hS => ?_)
  subst hw
  have hP := P_kept hP hk1
  have hok := okI_s it zi
  refine my_if_eq (tgt := 17) hx hb (by omega) dX5_itemOrNull_5 (by decide) (fun bh2 => ?_) (fun bh2 => ?_)
  · refine lv_null hx hb dX5_itemOrNull_17 ?_
    have hres : (Value.null : Value) = va_rf (itO it itf zi) := by
        unfold itO; first | rw [if_pos (by omega)] | rw [if_neg (by omega)]; rfl
    exact W.aret hx hb hr (Or.inl ⟨_, rfl⟩) (Or.inl rfl) (fun t ht hW => ⟨⟨_, (), by rw [hres], rfl, trivial⟩, hS.F ht⟩) hS.2.2 dX5_itemOrNull_18
  · refine lv_aload_n hx hb dX5_itemOrNull_8 rfl (lv_at hl 0 rfl) ?_
    refine my_get hx hb hts inAX5 hown hK hP 0 rfl rfl 1 (by decide) w_70 rfl rfl dX5_itemOrNull_9 ?_
    refine lv_iload_n hx hb dX5_itemOrNull_12 rfl (lv_at hl 1 rfl) ?_
    refine my_aald hx hb hK hP 1 2 rfl rfl (by omega) (k := zi.toNat) (rfl) dX5_itemOrNull_13 ?_
    refine lv_goto (tgt := 18) hx hb dX5_itemOrNull_14 (by decide) ?_
    have hres : (va_rf (itf zi.toNat) : Value) = va_rf (itO it itf zi) := by
        unfold itO; first | rw [if_pos (by omega)] | rw [if_neg (by omega)]; rfl
    exact W.aret hx hb hr (Or.inl ⟨_, rfl⟩) (va_rf_or _) (fun t ht hW => ⟨⟨_, (), by rw [hres], rfl, trivial⟩, hS.F ht⟩) hS.2.2 dX5_itemOrNull_18

abbrev ws_X5_requireItem : List Cond := Cond.code yX5_requireItem cX5_requireItem 3 (some (.object "Replen$Item")) :: ALL
set_option maxHeartbeats 4000000 in
set_option maxRecDepth 100000 in
theorem m_X5_requireItem (l : Launch) (hst : l.stackTraces = false) (D : va_G) (cs : Nat → ClassId) (kr la ia na b4 b6 b8 b10 sh it : Nat) (lc : Int) (dy : Nat) (pct lr sr : Int) (itf : Nat → Option Nat) (zi : Int) (hit : it ≤ 5) (hitf : ∀ j, j < it → itf j ≠ none) (hzi : -2147483648 ≤ zi ∧ zi < 2147483648) : vx_Met l yX5_requireItem ws_X5_requireItem ({ frames := 6, cells := 1, slots := 6, locals := 82 }) (va_Pc [.ref kr, .int (iI (zi))] (PE D cs [(kr, .inr (5, [.ref la, .ref ia, .ref na, .ref b4, .ref b6, .ref b8, .ref b10, .int (iI (((sh : Nat) : Int))), .int (iI (((it : Nat) : Int))), .int (iI (lc)), .int (iI (((dy : Nat) : Int))), .int (iI (pct)), .int (iI (lr)), .int (iI (sr))])), (ia, arQ cs 2 5 itf)] noA)) (va_Qq (fun r (_ : Unit) => cdS it zi = 0 ∧ r = itf zi.toNat) (fun _ _ => True) noA) (vx_X (fun (u : Nat) => u = cdS it zi ∧ u ≠ 0) (fun E u _ => E = exN u) noA) 1 6 noA := by
  refine vx_ofW (cc := cX5_requireItem) (maxL := 3) (ret := ((some (.object "Replen$Item")))) (by decide +kernel) rfl ?_
  intro p e s m args below meth c s₁ B hml hnt hv
  obtain ⟨rfl, ⟨hP, hK, hD, hN⟩, hE⟩ := hv
  have hx := B.exec
  have hb := B.bytes
  have hr := B.returns
  have hts : ∀ w ∈ ALL, w.before _ s = true := fun w h => atoms_spec (ws := ws_X5_requireItem) B.pre w (List.mem_cons_of_mem _ h)
  have hown : s.vm.findClass RX5 = some m.cls := findClass_of_methodNamed B.named
  have hlocks := B.notSynchronized
  have hS : va_S noA s.heap s.heap [] := va_S.rf
  generalize inW [(kr, .inr (5, [.ref la, .ref ia, .ref na, .ref b4, .ref b6, .ref b8, .ref b10, .int (iI (((sh : Nat) : Int))), .int (iI (((it : Nat) : Int))), .int (iI (lc)), .int (iI (((dy : Nat) : Int))), .int (iI (pct)), .int (iI (lr)), .int (iI (sr))])), (ia, arQ cs 2 5 itf)] = A at hD
  have hl := lv_entry ([.ref kr, .int (iI (zi))]) (n := 3) (Nat.le_of_ble_eq_true rfl)
  rw [lg_entry_eq]
  generalize (lg_sl ([.ref kr, .int (iI (zi))]) ++ List.replicate (3 - (lg_sl ([.ref kr, .int (iI (zi))])).length) Slot.unset).toArray = ls at hl ⊢
  have hl : lv_has ls 3 [(0, .ref kr), (1, .int (iI (zi)))] := hl
  have hH := rfl (a := s.heap)
  refine lv_aload_n hx hb dX5_requireItem_0 rfl (lv_at hl 0 rfl) ?_
  refine lv_iload_n hx hb dX5_requireItem_1 rfl (lv_at hl 1 rfl) ?_
  have pk1 : picks [(kr, .inr (5, [.ref la, .ref ia, .ref na, .ref b4, .ref b6, .ref b8, .ref b10, .int (iI (((sh : Nat) : Int))), .int (iI (((it : Nat) : Int))), .int (iI (lc)), .int (iI (((dy : Nat) : Int))), .int (iI (pct)), .int (iI (lr)), .int (iI (sr))])), (ia, arQ cs 2 5 itf)] [0, 1] [(kr, .inr (5, [.ref la, .ref ia, .ref na, .ref b4, .ref b6, .ref b8, .ref b10, .int (iI (((sh : Nat) : Int))), .int (iI (((it : Nat) : Int))), .int (iI (lc)), .int (iI (((dy : Nat) : Int))), .int (iI (pct)), .int (iI (lr)), .int (iI (sr))])), (ia, arQ cs 2 5 itf)] := ⟨rfl, rfl, trivial⟩
  refine va_callq (va_runV (As := [.int (iI (zi))]) (rest := []) ⟨hx, hb, hml, hown, hts⟩ (m_X5_itemOrNull l D cs kr la ia na b4 b6 b8 b10 sh it lc dy pct lr sr itf zi (by assumption) (by omega)) (cwV 1 hts (gV w_305 w_307 w_p4 w_1 w_308) rfl rfl rfl (by decide +kernel) ⟨Nat.le_of_ble_eq_true rfl, Nat.le_of_ble_eq_true rfl⟩) (PC_V hK hN hP hD [0, 1] rfl pk1 rfl rfl) rfl rfl hl.1 rfl (lv_room (Nat.le_of_ble_eq_true rfl)) dX5_requireItem_2 ⟨Nat.le_of_ble_eq_true rfl, Nat.le_of_ble_eq_true rfl⟩) hS (fun _ _ h => False.elim h) (fun _ h => False.elim h) (fun r u t H locs ht hvm hw hB hz1 hk1 hS => ?_)
  subst hw
  have hP := P_kept hP hk1
  rcases hq2 : (itO it itf zi) with _ | qa3
  · refine lv_astore_nN (lv' := [(2, .null), (0, .ref kr), (1, .int (iI (zi)))]) hx hb dX5_requireItem_5 rfl hl (by decide) rfl (fun ls hl => ?_)
    refine lv_aload_nN hx hb dX5_requireItem_6 rfl (lv_at hl 0 rfl) ?_
    refine lv_ifnonnullN hx hb dX5_requireItem_7 ?_
    refine my_throwW1 hx hb hst hts hown hE hS (hml.trans hl.1.symm) w_285 (List.mem_of_getElem? (i := 23) rfl) hnt hlocks dX5_requireItem_10 dX5_requireItem_13 dX5_requireItem_14 dX5_requireItem_17 dX5_requireItem_20 (Nat.le_of_ble_eq_true rfl) (Nat.le_of_ble_eq_true rfl) (Nat.le_of_ble_eq_true rfl) (Nat.le_of_ble_eq_true rfl) (fun t H1 ht hz1 hk1 hS1 => ?_) hS.2.2 (Nat.le_of_ble_eq_true rfl) (Nat.le_of_ble_eq_true rfl)
    have hcode : 1 = cdS it zi := by
        by_cases h9 : 0 ≤ zi ∧ zi < (it : Int)
        · unfold itO at hq2; rw [if_pos h9] at hq2; exact absurd hq2 (hitf _ (by omega))
        · unfold cdS; rw [if_neg h9]
    exact ⟨1, ⟨hcode, by decide⟩, rfl, hS1.F ht⟩
  · refine lv_astore_n (lv' := [(2, .ref qa3), (0, .ref kr), (1, .int (iI (zi)))]) hx hb dX5_requireItem_5 rfl hl (by decide) rfl (fun ls hl => ?_)
    refine lv_aload_n hx hb dX5_requireItem_6 rfl (lv_at hl 0 rfl) ?_
    refine lv_ifnonnull (tgt := 21) hx hb dX5_requireItem_7 (by decide) ?_
    refine lv_aload_n hx hb dX5_requireItem_21 rfl (lv_at hl 0 rfl) ?_
    refine vx_ret ?_
    refine W.widen (k := 1) (n := 6) (by omega) (by omega) ?_
    have hcode : cdS it zi = 0 := by
        by_cases h9 : 0 ≤ zi ∧ zi < (it : Int)
        · unfold cdS; rw [if_pos h9]
        · unfold itO at hq2; rw [if_neg h9] at hq2; exact absurd hq2 (by simp)
    have hres : (Value.ref qa3 : Value) = va_rf (itf zi.toNat) := by
        by_cases h9 : 0 ≤ zi ∧ zi < (it : Int)
        · unfold itO at hq2; rw [if_pos h9] at hq2; rw [hq2]; rfl
        · unfold itO at hq2; rw [if_neg h9] at hq2; exact absurd hq2 (by simp)
    exact W.aret hx hb hr (Or.inl ⟨_, rfl⟩) (Or.inr ⟨_, rfl⟩) (fun t ht hW => ⟨⟨_, (), by rw [hres], ⟨hcode, rfl⟩, trivial⟩, hS.F ht⟩) hS.2.2 dX5_requireItem_22

abbrev ws_X5_placeOf : List Cond := Cond.code yX5_placeOf cX5_placeOf 3 (some .int) :: ALL
set_option maxHeartbeats 4000000 in
set_option maxRecDepth 100000 in
theorem m_X5_placeOf (l : Launch) (D : va_G) (cs : Nat → ClassId) (kr la ia na b4 b6 b8 b10 sh it : Nat) (lc : Int) (dy : Nat) (pct lr sr : Int) (lf : Nat → Int) (itf : Nat → Option Nat) (zs zi : Int) (hsh : sh ≤ 4) (hit : it ≤ 5) (hzs : -2147483648 ≤ zs ∧ zs < 2147483648) (hzi : -2147483648 ≤ zi ∧ zi < 2147483648) : Met l yX5_placeOf ws_X5_placeOf ({ frames := 1, cells := 0, slots := 0, locals := 21 }) (va_Pc [.ref kr, .int (iI (zs)), .int (iI (zi))] (PC D cs [(kr, .inr (5, [.ref la, .ref ia, .ref na, .ref b4, .ref b6, .ref b8, .ref b10, .int (iI (((sh : Nat) : Int))), .int (iI (((it : Nat) : Int))), .int (iI (lc)), .int (iI (((dy : Nat) : Int))), .int (iI (pct)), .int (iI (lr)), .int (iI (sr))])), (la, arI cs 4 lf), (ia, arQ cs 2 5 itf)])) (va_Qi (fun r (_ : Unit) => r = iI (plI sh it zs zi)) (fun _ _ => True) noA) 0 0 noA := by
  refine Met.ofW (cc := cX5_placeOf) (maxL := 3) (ret := (some .int)) (by decide +kernel) rfl ?_
  intro p e s m args below meth c s₁ B hml hv
  obtain ⟨rfl, hP, hK, hD, hN⟩ := hv
  have hx := B.exec
  have hb := B.bytes
  have hr := B.returns
  have hts : ∀ w ∈ ALL, w.before _ s = true := fun w h => atoms_spec (ws := ws_X5_placeOf) B.pre w (List.mem_cons_of_mem _ h)
  have hown : s.vm.findClass RX5 = some m.cls := findClass_of_methodNamed B.named
  have hlocks := B.notSynchronized
  have hS : va_S noA s.heap s.heap [] := va_S.rf
  generalize inW [(kr, .inr (5, [.ref la, .ref ia, .ref na, .ref b4, .ref b6, .ref b8, .ref b10, .int (iI (((sh : Nat) : Int))), .int (iI (((it : Nat) : Int))), .int (iI (lc)), .int (iI (((dy : Nat) : Int))), .int (iI (pct)), .int (iI (lr)), .int (iI (sr))])), (la, arI cs 4 lf), (ia, arQ cs 2 5 itf)] = A at hD
  have hl := lv_entry ([.ref kr, .int (iI (zs)), .int (iI (zi))]) (n := 3) (Nat.le_of_ble_eq_true rfl)
  rw [lg_entry_eq]
  generalize (lg_sl ([.ref kr, .int (iI (zs)), .int (iI (zi))]) ++ List.replicate (3 - (lg_sl ([.ref kr, .int (iI (zs)), .int (iI (zi))])).length) Slot.unset).toArray = ls at hl ⊢
  have hl : lv_has ls 3 [(0, .ref kr), (1, .int (iI (zs))), (2, .int (iI (zi)))] := hl
  have hH := rfl (a := s.heap)
  refine lv_aload_n hx hb dX5_placeOf_0 rfl (lv_at hl 0 rfl) ?_
  refine lv_iload_n hx hb dX5_placeOf_1 rfl (lv_at hl 1 rfl) ?_
  have pk1 : picks [(kr, .inr (5, [.ref la, .ref ia, .ref na, .ref b4, .ref b6, .ref b8, .ref b10, .int (iI (((sh : Nat) : Int))), .int (iI (((it : Nat) : Int))), .int (iI (lc)), .int (iI (((dy : Nat) : Int))), .int (iI (pct)), .int (iI (lr)), .int (iI (sr))])), (la, arI cs 4 lf), (ia, arQ cs 2 5 itf)] [0, 1] [(kr, .inr (5, [.ref la, .ref ia, .ref na, .ref b4, .ref b6, .ref b8, .ref b10, .int (iI (((sh : Nat) : Int))), .int (iI (((it : Nat) : Int))), .int (iI (lc)), .int (iI (((dy : Nat) : Int))), .int (iI (pct)), .int (iI (lr)), .int (iI (sr))])), (la, arI cs 4 lf)] := ⟨rfl, rfl, trivial⟩
  refine va_calli (va_runV (As := [.int (iI (zs))]) (rest := []) ⟨hx, hb, hml, hown, hts⟩ (m_X5_isShop l D cs kr la ia na b4 b6 b8 b10 sh it lc dy pct lr sr lf zs (by assumption) (by omega)) (cwV 1 hts (gV w_281 w_283 w_p2 w_1 w_284) rfl rfl rfl (by decide +kernel) ⟨Nat.le_of_ble_eq_true rfl, Nat.le_of_ble_eq_true rfl⟩) (PC_V hK hN hP hD [0, 1] rfl pk1 rfl rfl) rfl rfl hl.1 rfl (lv_room (Nat.le_of_ble_eq_true rfl)) dX5_placeOf_2 ⟨Nat.le_of_ble_eq_true rfl, Nat.le_of_ble_eq_true rfl⟩) hS (fun _ _ h => False.elim h) (fun _ h => False.elim h) (fun r u t H locs ht hvm hw hB hz1 hk1 hS => ?_)
  subst hw
  have hP := P_kept hP hk1
  have hok := okI_s sh zs
  refine my_if_eq (tgt := 24) hx hb (by omega) dX5_placeOf_5 (by decide) (fun bh2 => ?_) (fun bh2 => ?_)
  · refine lv_iconst (v := iI (-1)) hx hb dX5_placeOf_24 rfl ?_
    have hres : iI (-1) = iI (plI sh it zs zi) := congrArg iI (by
        unfold plI; split <;> omega)
    exact W.iret hx hb hr (fun t ht hW => ⟨⟨_, (), rfl, hres, trivial⟩, hS.F ht⟩) hS.2.2 dX5_placeOf_25
  · refine lv_aload_n hx hb dX5_placeOf_8 rfl (lv_at hl 0 rfl) ?_
    refine lv_iload_n hx hb dX5_placeOf_9 rfl (lv_at hl 2 rfl) ?_
    have pk3 : picks [(kr, .inr (5, [.ref la, .ref ia, .ref na, .ref b4, .ref b6, .ref b8, .ref b10, .int (iI (((sh : Nat) : Int))), .int (iI (((it : Nat) : Int))), .int (iI (lc)), .int (iI (((dy : Nat) : Int))), .int (iI (pct)), .int (iI (lr)), .int (iI (sr))])), (la, arI cs 4 lf), (ia, arQ cs 2 5 itf)] [0, 2] [(kr, .inr (5, [.ref la, .ref ia, .ref na, .ref b4, .ref b6, .ref b8, .ref b10, .int (iI (((sh : Nat) : Int))), .int (iI (((it : Nat) : Int))), .int (iI (lc)), .int (iI (((dy : Nat) : Int))), .int (iI (pct)), .int (iI (lr)), .int (iI (sr))])), (ia, arQ cs 2 5 itf)] := ⟨rfl, rfl, trivial⟩
    refine va_calli (va_runV (As := [.int (iI (zi))]) (rest := []) ⟨hx, hb, hml, hown, hts⟩ (m_X5_isItem l D cs kr la ia na b4 b6 b8 b10 sh it lc dy pct lr sr itf zi (by assumption) (by omega)) (cwV 1 hts (gV w_309 w_311 w_p5 w_1 w_312) rfl rfl rfl (by decide +kernel) ⟨Nat.le_of_ble_eq_true rfl, Nat.le_of_ble_eq_true rfl⟩) (PC_V hK hN hP hD [0, 2] rfl pk3 rfl rfl) rfl rfl hl.1 rfl (lv_room (Nat.le_of_ble_eq_true rfl)) dX5_placeOf_10 ⟨Nat.le_of_ble_eq_true rfl, Nat.le_of_ble_eq_true rfl⟩) hS (fun _ _ h => False.elim h) (fun _ h => False.elim h) (fun r u t H locs ht hvm hw hB hz1 hk1 hS => ?_)
    subst hw
    have hP := P_kept hP hk1
    have hok := okI_s it zi
    refine my_if_eq (tgt := 24) hx hb (by omega) dX5_placeOf_13 (by decide) (fun bh4 => ?_) (fun bh4 => ?_)
    · refine lv_iconst (v := iI (-1)) hx hb dX5_placeOf_24 rfl ?_
      have hres : iI (-1) = iI (plI sh it zs zi) := congrArg iI (by
          unfold plI; split <;> omega)
      exact W.iret hx hb hr (fun t ht hW => ⟨⟨_, (), rfl, hres, trivial⟩, hS.F ht⟩) hS.2.2 dX5_placeOf_25
    · refine lv_iload_n hx hb dX5_placeOf_16 rfl (lv_at hl 1 rfl) ?_
      refine lv_iconst (v := iI (5)) hx hb dX5_placeOf_17 rfl ?_
      refine my_imul (z := zs * 5) hx hb dX5_placeOf_18 (rfl) ?_
      refine lv_iload_n hx hb dX5_placeOf_19 rfl (lv_at hl 2 rfl) ?_
      refine my_iadd (z := (zs * 5) + zi) hx hb dX5_placeOf_20 (rfl) ?_
      refine lv_goto (tgt := 25) hx hb dX5_placeOf_21 (by decide) ?_
      have hres : iI ((zs * 5) + zi) = iI (plI sh it zs zi) := congrArg iI (by
          unfold plI; split <;> omega)
      exact W.iret hx hb hr (fun t ht hW => ⟨⟨_, (), rfl, hres, trivial⟩, hS.F ht⟩) hS.2.2 dX5_placeOf_25

abbrev ws_X5_lineOrNull : List Cond := Cond.code yX5_lineOrNull cX5_lineOrNull 4 (some (.object "Replen$Line")) :: ALL
set_option maxHeartbeats 4000000 in
set_option maxRecDepth 100000 in
theorem m_X5_lineOrNull (l : Launch) (D : va_G) (cs : Nat → ClassId) (kr la ia na b4 b6 b8 b10 sh it : Nat) (lc : Int) (dy : Nat) (pct lr sr : Int) (lf : Nat → Int) (itf : Nat → Option Nat) (lnf : Nat → Option Nat) (zs zi : Int) (hsh : sh ≤ 4) (hit : it ≤ 5) (hzs : -2147483648 ≤ zs ∧ zs < 2147483648) (hzi : -2147483648 ≤ zi ∧ zi < 2147483648) : Met l yX5_lineOrNull ws_X5_lineOrNull ({ frames := 2, cells := 0, slots := 0, locals := 43 }) (va_Pc [.ref kr, .int (iI (zs)), .int (iI (zi))] (PC D cs [(kr, .inr (5, [.ref la, .ref ia, .ref na, .ref b4, .ref b6, .ref b8, .ref b10, .int (iI (((sh : Nat) : Int))), .int (iI (((it : Nat) : Int))), .int (iI (lc)), .int (iI (((dy : Nat) : Int))), .int (iI (pct)), .int (iI (lr)), .int (iI (sr))])), (la, arI cs 4 lf), (ia, arQ cs 2 5 itf), (na, arQ cs 3 20 lnf)])) (va_Qq (fun r (_ : Unit) => r = lnO sh it lnf zs zi) (fun _ _ => True) noA) 0 0 noA := by
  refine Met.ofW (cc := cX5_lineOrNull) (maxL := 4) (ret := ((some (.object "Replen$Line")))) (by decide +kernel) rfl ?_
  intro p e s m args below meth c s₁ B hml hv
  obtain ⟨rfl, hP, hK, hD, hN⟩ := hv
  have hx := B.exec
  have hb := B.bytes
  have hr := B.returns
  have hts : ∀ w ∈ ALL, w.before _ s = true := fun w h => atoms_spec (ws := ws_X5_lineOrNull) B.pre w (List.mem_cons_of_mem _ h)
  have hown : s.vm.findClass RX5 = some m.cls := findClass_of_methodNamed B.named
  have hlocks := B.notSynchronized
  have hS : va_S noA s.heap s.heap [] := va_S.rf
  generalize inW [(kr, .inr (5, [.ref la, .ref ia, .ref na, .ref b4, .ref b6, .ref b8, .ref b10, .int (iI (((sh : Nat) : Int))), .int (iI (((it : Nat) : Int))), .int (iI (lc)), .int (iI (((dy : Nat) : Int))), .int (iI (pct)), .int (iI (lr)), .int (iI (sr))])), (la, arI cs 4 lf), (ia, arQ cs 2 5 itf), (na, arQ cs 3 20 lnf)] = A at hD
  have hl := lv_entry ([.ref kr, .int (iI (zs)), .int (iI (zi))]) (n := 4) (Nat.le_of_ble_eq_true rfl)
  rw [lg_entry_eq]
  generalize (lg_sl ([.ref kr, .int (iI (zs)), .int (iI (zi))]) ++ List.replicate (4 - (lg_sl ([.ref kr, .int (iI (zs)), .int (iI (zi))])).length) Slot.unset).toArray = ls at hl ⊢
  have hl : lv_has ls 4 [(0, .ref kr), (1, .int (iI (zs))), (2, .int (iI (zi)))] := hl
  have hH := rfl (a := s.heap)
  refine lv_aload_n hx hb dX5_lineOrNull_0 rfl (lv_at hl 0 rfl) ?_
  refine lv_iload_n hx hb dX5_lineOrNull_1 rfl (lv_at hl 1 rfl) ?_
  refine lv_iload_n hx hb dX5_lineOrNull_2 rfl (lv_at hl 2 rfl) ?_
  have pk1 : picks [(kr, .inr (5, [.ref la, .ref ia, .ref na, .ref b4, .ref b6, .ref b8, .ref b10, .int (iI (((sh : Nat) : Int))), .int (iI (((it : Nat) : Int))), .int (iI (lc)), .int (iI (((dy : Nat) : Int))), .int (iI (pct)), .int (iI (lr)), .int (iI (sr))])), (la, arI cs 4 lf), (ia, arQ cs 2 5 itf), (na, arQ cs 3 20 lnf)] [0, 1, 2] [(kr, .inr (5, [.ref la, .ref ia, .ref na, .ref b4, .ref b6, .ref b8, .ref b10, .int (iI (((sh : Nat) : Int))), .int (iI (((it : Nat) : Int))), .int (iI (lc)), .int (iI (((dy : Nat) : Int))), .int (iI (pct)), .int (iI (lr)), .int (iI (sr))])), (la, arI cs 4 lf), (ia, arQ cs 2 5 itf)] := ⟨rfl, rfl, rfl, trivial⟩
  refine va_calli (va_runV (As := [.int (iI (zs)), .int (iI (zi))]) (rest := []) ⟨hx, hb, hml, hown, hts⟩ (m_X5_placeOf l D cs kr la ia na b4 b6 b8 b10 sh it lc dy pct lr sr lf itf zs zi (by assumption) (by assumption) (by omega) (by omega)) (cwV 2 hts (gV w_317 w_319 w_p6 w_1 w_320) rfl rfl rfl (by decide +kernel) ⟨Nat.le_of_ble_eq_true rfl, Nat.le_of_ble_eq_true rfl⟩) (PC_V hK hN hP hD [0, 1, 2] rfl pk1 rfl rfl) rfl rfl hl.1 rfl (lv_room (Nat.le_of_ble_eq_true rfl)) dX5_lineOrNull_3 ⟨Nat.le_of_ble_eq_true rfl, Nat.le_of_ble_eq_true rfl⟩) hS (fun _ _ h => False.elim h) (fun _ h => False.elim h) (fun r u t H locs ht hvm hw hB hz1 hk1 hS => ?_)
  subst hw
  have hP := P_kept hP hk1
  have hpl := plI_s sh it zs zi
  refine lv_istore_n (lv' := [(3, .int (iI (plI sh it zs zi))), (0, .ref kr), (1, .int (iI (zs))), (2, .int (iI (zi)))]) hx hb dX5_lineOrNull_6 rfl hl (by decide) rfl (fun ls hl => ?_)
  refine lv_iload_n hx hb dX5_lineOrNull_7 rfl (lv_at hl 0 rfl) ?_
  refine my_if_lt (tgt := 29) hx hb (by omega) dX5_lineOrNull_8 (by decide) (fun bh2 => ?_) (fun bh2 => ?_)
  · refine lv_null hx hb dX5_lineOrNull_29 ?_
    have hres : (Value.null : Value) = va_rf (lnO sh it lnf zs zi) := by
        unfold lnO; rw [if_neg (by omega)]; rfl
    exact W.aret hx hb hr (Or.inl ⟨_, rfl⟩) (Or.inl rfl) (fun t ht hW => ⟨⟨_, (), by rw [hres], rfl, trivial⟩, hS.F ht⟩) hS.2.2 dX5_lineOrNull_30
  · refine lv_iload_n hx hb dX5_lineOrNull_11 rfl (lv_at hl 0 rfl) ?_
    refine lv_aload_n hx hb dX5_lineOrNull_12 rfl (lv_at hl 1 rfl) ?_
    refine my_get hx hb hts inAX5 hown hK hP 0 rfl rfl 2 (by decide) w_71 rfl rfl dX5_lineOrNull_13 ?_
    refine my_alenQ hx hb hK hP 3 3 rfl rfl dX5_lineOrNull_16 ?_
    refine my_icmp_ge (tgt := 29) hx hb (by omega) dX5_lineOrNull_17 (by decide) (fun bh3 => (by omega : False).elim) (fun bh3 => ?_)
    refine lv_aload_n hx hb dX5_lineOrNull_20 rfl (lv_at hl 1 rfl) ?_
    refine my_get hx hb hts inAX5 hown hK hP 0 rfl rfl 2 (by decide) w_71 rfl rfl dX5_lineOrNull_21 ?_
    refine lv_iload_n hx hb dX5_lineOrNull_24 rfl (lv_at hl 0 rfl) ?_
    refine my_aald hx hb hK hP 3 3 rfl rfl (by omega) (k := (plI sh it zs zi).toNat) (rfl) dX5_lineOrNull_25 ?_
    refine lv_goto (tgt := 30) hx hb dX5_lineOrNull_26 (by decide) ?_
    have hres : (va_rf (lnf ((plI sh it zs zi).toNat)) : Value) = va_rf (lnO sh it lnf zs zi) := by
        unfold lnO; rw [if_pos (by omega), show plI sh it zs zi = zs * 5 + zi from by omega]
    exact W.aret hx hb hr (Or.inl ⟨_, rfl⟩) (va_rf_or _) (fun t ht hW => ⟨⟨_, (), by rw [hres], rfl, trivial⟩, hS.F ht⟩) hS.2.2 dX5_lineOrNull_30

abbrev ws_X5_requireLine : List Cond := Cond.code yX5_requireLine cX5_requireLine 4 (some (.object "Replen$Line")) :: ALL
set_option maxHeartbeats 4000000 in
set_option maxRecDepth 100000 in
theorem m_X5_requireLine (l : Launch) (hst : l.stackTraces = false) (D : va_G) (cs : Nat → ClassId) (kr la ia na b4 b6 b8 b10 sh it : Nat) (lc : Int) (dy : Nat) (pct lr sr : Int) (lf : Nat → Int) (itf : Nat → Option Nat) (lnf : Nat → Option Nat) (zs zi : Int) (hsh : sh ≤ 4) (hit : it ≤ 5) (hitf : ∀ j, j < it → itf j ≠ none) (hzs : -2147483648 ≤ zs ∧ zs < 2147483648) (hzi : -2147483648 ≤ zi ∧ zi < 2147483648) : vx_Met l yX5_requireLine ws_X5_requireLine ({ frames := 7, cells := 3, slots := 18, locals := 104 }) (va_Pc [.ref kr, .int (iI (zs)), .int (iI (zi))] (PE D cs [(kr, .inr (5, [.ref la, .ref ia, .ref na, .ref b4, .ref b6, .ref b8, .ref b10, .int (iI (((sh : Nat) : Int))), .int (iI (((it : Nat) : Int))), .int (iI (lc)), .int (iI (((dy : Nat) : Int))), .int (iI (pct)), .int (iI (lr)), .int (iI (sr))])), (la, arI cs 4 lf), (ia, arQ cs 2 5 itf), (na, arQ cs 3 20 lnf)] noA)) (va_Qq (fun r (_ : Unit) => cdL sh it lnf zs zi = 0 ∧ r = lnf (zs * 5 + zi).toNat) (fun _ _ => True) noA) (vx_X (fun (u : Nat) => u = cdL sh it lnf zs zi ∧ u ≠ 0) (fun E u _ => E = exN u) noA) 3 18 noA := by
  refine vx_ofW (cc := cX5_requireLine) (maxL := 4) (ret := ((some (.object "Replen$Line")))) (by decide +kernel) rfl ?_
  intro p e s m args below meth c s₁ B hml hnt hv
  obtain ⟨rfl, ⟨hP, hK, hD, hN⟩, hE⟩ := hv
  have hx := B.exec
  have hb := B.bytes
  have hr := B.returns
  have hts : ∀ w ∈ ALL, w.before _ s = true := fun w h => atoms_spec (ws := ws_X5_requireLine) B.pre w (List.mem_cons_of_mem _ h)
  have hown : s.vm.findClass RX5 = some m.cls := findClass_of_methodNamed B.named
  have hlocks := B.notSynchronized
  have hS : va_S noA s.heap s.heap [] := va_S.rf
  generalize inW [(kr, .inr (5, [.ref la, .ref ia, .ref na, .ref b4, .ref b6, .ref b8, .ref b10, .int (iI (((sh : Nat) : Int))), .int (iI (((it : Nat) : Int))), .int (iI (lc)), .int (iI (((dy : Nat) : Int))), .int (iI (pct)), .int (iI (lr)), .int (iI (sr))])), (la, arI cs 4 lf), (ia, arQ cs 2 5 itf), (na, arQ cs 3 20 lnf)] = A at hD
  have hl := lv_entry ([.ref kr, .int (iI (zs)), .int (iI (zi))]) (n := 4) (Nat.le_of_ble_eq_true rfl)
  rw [lg_entry_eq]
  generalize (lg_sl ([.ref kr, .int (iI (zs)), .int (iI (zi))]) ++ List.replicate (4 - (lg_sl ([.ref kr, .int (iI (zs)), .int (iI (zi))])).length) Slot.unset).toArray = ls at hl ⊢
  have hl : lv_has ls 4 [(0, .ref kr), (1, .int (iI (zs))), (2, .int (iI (zi)))] := hl
  have hH := rfl (a := s.heap)
  refine lv_aload_n hx hb dX5_requireLine_0 rfl (lv_at hl 0 rfl) ?_
  refine lv_iload_n hx hb dX5_requireLine_1 rfl (lv_at hl 1 rfl) ?_
  have pk1 : picks [(kr, .inr (5, [.ref la, .ref ia, .ref na, .ref b4, .ref b6, .ref b8, .ref b10, .int (iI (((sh : Nat) : Int))), .int (iI (((it : Nat) : Int))), .int (iI (lc)), .int (iI (((dy : Nat) : Int))), .int (iI (pct)), .int (iI (lr)), .int (iI (sr))])), (la, arI cs 4 lf), (ia, arQ cs 2 5 itf), (na, arQ cs 3 20 lnf)] [0, 1] [(kr, .inr (5, [.ref la, .ref ia, .ref na, .ref b4, .ref b6, .ref b8, .ref b10, .int (iI (((sh : Nat) : Int))), .int (iI (((it : Nat) : Int))), .int (iI (lc)), .int (iI (((dy : Nat) : Int))), .int (iI (pct)), .int (iI (lr)), .int (iI (sr))])), (la, arI cs 4 lf)] := ⟨rfl, rfl, trivial⟩
  refine vx_callv (vx_runV (As := [.int (iI (zs))]) (rest := []) ⟨hx, hb, hml, hown, hts⟩ (m_X5_requireShop l hst D cs kr la ia na b4 b6 b8 b10 sh it lc dy pct lr sr lf zs (by assumption) (by omega)) (cwV 1 hts (gV w_277 w_279 w_p1 w_1 w_280) rfl rfl rfl (by decide +kernel) ⟨Nat.le_of_ble_eq_true rfl, Nat.le_of_ble_eq_true rfl⟩) (PE_V hK hN hE hS (fun _ h => False.elim h) hP hD [0, 1] rfl pk1 rfl rfl) rfl rfl hl.1 rfl (lv_room (Nat.le_of_ble_eq_true rfl)) dX5_requireLine_2 ⟨Nat.le_of_ble_eq_true rfl, Nat.le_of_ble_eq_true rfl⟩) hS (fun _ _ h => False.elim h) (fun _ h => False.elim h) (fun _ _ h => False.elim h) (fun E ce q9 u t H1 locs1 ht hvm hpx hBX hz1 hk1 hS1 hce hcv hcl => ?_) (fun u t H locs ht hvm hw hB hz1 hk1 hS => ?_)
  · have hcode : u = cdL sh it lnf zs zi := by
        have h9 : u = cdS sh zs := hpx.1
        have h10 : u ≠ 0 := hpx.2
        have h11 := cdS_s sh zs
        unfold cdL; rw [if_neg (by omega)]; omega
    exact vx_out (fun x hx => (hnt x hx).elim) hlocks hce hcv hcl (fun t2 ht2 _ => ⟨u, ⟨hcode, hpx.2⟩, hBX, hS1.F ht2⟩) hS1.2.2 (Nat.le_of_ble_eq_true rfl) (Nat.le_of_ble_eq_true rfl)
  have hc2 := hw
  have hP := P_kept hP hk1
  have hcs := cdS_s sh zs
  refine lv_aload_n hx hb dX5_requireLine_5 rfl (lv_at hl 0 rfl) ?_
  refine lv_iload_n hx hb dX5_requireLine_6 rfl (lv_at hl 2 rfl) ?_
  have pk3 : picks [(kr, .inr (5, [.ref la, .ref ia, .ref na, .ref b4, .ref b6, .ref b8, .ref b10, .int (iI (((sh : Nat) : Int))), .int (iI (((it : Nat) : Int))), .int (iI (lc)), .int (iI (((dy : Nat) : Int))), .int (iI (pct)), .int (iI (lr)), .int (iI (sr))])), (la, arI cs 4 lf), (ia, arQ cs 2 5 itf), (na, arQ cs 3 20 lnf)] [0, 2] [(kr, .inr (5, [.ref la, .ref ia, .ref na, .ref b4, .ref b6, .ref b8, .ref b10, .int (iI (((sh : Nat) : Int))), .int (iI (((it : Nat) : Int))), .int (iI (lc)), .int (iI (((dy : Nat) : Int))), .int (iI (pct)), .int (iI (lr)), .int (iI (sr))])), (ia, arQ cs 2 5 itf)] := ⟨rfl, rfl, trivial⟩
  refine vx_callq (vx_runV (As := [.int (iI (zi))]) (rest := []) ⟨hx, hb, hml, hown, hts⟩ (m_X5_requireItem l hst D cs kr la ia na b4 b6 b8 b10 sh it lc dy pct lr sr itf zi (by assumption) (by assumption) (by omega)) (cwV 1 hts (gV w_301 w_303 w_p3 w_1 w_304) rfl rfl rfl (by decide +kernel) ⟨Nat.le_of_ble_eq_true rfl, Nat.le_of_ble_eq_true rfl⟩) (PE_V hK hN hE hS (fun _ h => False.elim h) hP hD [0, 2] rfl pk3 rfl rfl) rfl rfl hl.1 rfl (lv_room (Nat.le_of_ble_eq_true rfl)) dX5_requireLine_7 ⟨Nat.le_of_ble_eq_true rfl, Nat.le_of_ble_eq_true rfl⟩) hS (fun _ _ h => False.elim h) (fun _ h => False.elim h) (fun _ _ h => False.elim h) (fun E ce q9 u t H1 locs1 ht hvm hpx hBX hz1 hk1 hS1 hce hcv hcl => ?_) (fun r u t H locs ht hvm hw hB hz1 hk1 hS => ?_)
  · have hcode : u = cdL sh it lnf zs zi := by
        have h9 : u = cdS it zi := hpx.1
        have h10 : u ≠ 0 := hpx.2
        have h11 := cdS_s it zi
        unfold cdL; rw [if_neg (by omega)]; omega
    exact vx_out (fun x hx => (hnt x hx).elim) hlocks hce hcv hcl (fun t2 ht2 _ => ⟨u, ⟨hcode, hpx.2⟩, hBX, hS1.F ht2⟩) hS1.2.2 (Nat.le_of_ble_eq_true rfl) (Nat.le_of_ble_eq_true rfl)
  obtain ⟨hc4, hw⟩ := hw
  subst hw
  have hP := P_kept hP hk1
  have hci := cdS_s it zi
  refine lv_pop hx hb dX5_requireLine_10 (rf_cat _) ?_
  refine lv_aload_n hx hb dX5_requireLine_11 rfl (lv_at hl 0 rfl) ?_
  refine lv_iload_n hx hb dX5_requireLine_12 rfl (lv_at hl 1 rfl) ?_
  refine lv_iload_n hx hb dX5_requireLine_13 rfl (lv_at hl 2 rfl) ?_
  have pk5 : picks [(kr, .inr (5, [.ref la, .ref ia, .ref na, .ref b4, .ref b6, .ref b8, .ref b10, .int (iI (((sh : Nat) : Int))), .int (iI (((it : Nat) : Int))), .int (iI (lc)), .int (iI (((dy : Nat) : Int))), .int (iI (pct)), .int (iI (lr)), .int (iI (sr))])), (la, arI cs 4 lf), (ia, arQ cs 2 5 itf), (na, arQ cs 3 20 lnf)] [0, 1, 2, 3] [(kr, .inr (5, [.ref la, .ref ia, .ref na, .ref b4, .ref b6, .ref b8, .ref b10, .int (iI (((sh : Nat) : Int))), .int (iI (((it : Nat) : Int))), .int (iI (lc)), .int (iI (((dy : Nat) : Int))), .int (iI (pct)), .int (iI (lr)), .int (iI (sr))])), (la, arI cs 4 lf), (ia, arQ cs 2 5 itf), (na, arQ cs 3 20 lnf)] := ⟨rfl, rfl, rfl, rfl, trivial⟩
  refine va_callq (va_runV (As := [.int (iI (zs)), .int (iI (zi))]) (rest := []) ⟨hx, hb, hml, hown, hts⟩ (m_X5_lineOrNull l D cs kr la ia na b4 b6 b8 b10 sh it lc dy pct lr sr lf itf lnf zs zi (by assumption) (by assumption) (by omega) (by omega)) (cwV 2 hts (gV w_397 w_399 w_p8 w_1 w_400) rfl rfl rfl (by decide +kernel) ⟨Nat.le_of_ble_eq_true rfl, Nat.le_of_ble_eq_true rfl⟩) (PC_V hK hN hP hD [0, 1, 2, 3] rfl pk5 rfl rfl) rfl rfl hl.1 rfl (lv_room (Nat.le_of_ble_eq_true rfl)) dX5_requireLine_14 ⟨Nat.le_of_ble_eq_true rfl, Nat.le_of_ble_eq_true rfl⟩) hS (fun _ _ h => False.elim h) (fun _ h => False.elim h) (fun r u t H locs ht hvm hw hB hz1 hk1 hS => ?_)
  subst hw
  have hP := P_kept hP hk1
  rcases hq6 : (lnO sh it lnf zs zi) with _ | qa7
  · refine lv_astore_nN (lv' := [(3, .null), (0, .ref kr), (1, .int (iI (zs))), (2, .int (iI (zi)))]) hx hb dX5_requireLine_17 rfl hl (by decide) rfl (fun ls hl => ?_)
    refine lv_aload_nN hx hb dX5_requireLine_18 rfl (lv_at hl 0 rfl) ?_
    refine lv_ifnonnullN hx hb dX5_requireLine_19 ?_
    refine my_throwW2 hx hb hst hts hown hE hS (hml.trans hl.1.symm) w_470 (List.mem_of_getElem? (i := 24) rfl) hnt hlocks dX5_requireLine_22 dX5_requireLine_25 dX5_requireLine_26 dX5_requireLine_29 dX5_requireLine_32 (Nat.le_of_ble_eq_true rfl) (Nat.le_of_ble_eq_true rfl) (Nat.le_of_ble_eq_true rfl) (Nat.le_of_ble_eq_true rfl) (fun t H1 ht hz1 hk1 hS1 => ?_) hS.2.2 (Nat.le_of_ble_eq_true rfl) (Nat.le_of_ble_eq_true rfl)
    have hcode : 2 = cdL sh it lnf zs zi := by
        unfold lnO at hq6; rw [if_pos (by omega)] at hq6
        unfold cdL; rw [if_pos (by omega), if_pos hq6]
    exact ⟨2, ⟨hcode, by decide⟩, rfl, hS1.F ht⟩
  · refine lv_astore_n (lv' := [(3, .ref qa7), (0, .ref kr), (1, .int (iI (zs))), (2, .int (iI (zi)))]) hx hb dX5_requireLine_17 rfl hl (by decide) rfl (fun ls hl => ?_)
    refine lv_aload_n hx hb dX5_requireLine_18 rfl (lv_at hl 0 rfl) ?_
    refine lv_ifnonnull (tgt := 33) hx hb dX5_requireLine_19 (by decide) ?_
    refine lv_aload_n hx hb dX5_requireLine_33 rfl (lv_at hl 0 rfl) ?_
    refine vx_ret ?_
    refine W.widen (k := 3) (n := 18) (by omega) (by omega) ?_
    have hcode : cdL sh it lnf zs zi = 0 := by
        unfold lnO at hq6; rw [if_pos (by omega)] at hq6
        unfold cdL; rw [if_pos (by omega), if_neg (by rw [hq6]; simp)]
    have hres : (Value.ref qa7 : Value) = va_rf (lnf (zs * 5 + zi).toNat) := by
        unfold lnO at hq6; rw [if_pos (by omega)] at hq6; rw [hq6]; rfl
    exact W.aret hx hb hr (Or.inl ⟨_, rfl⟩) (Or.inr ⟨_, rfl⟩) (fun t ht hW => ⟨⟨_, (), by rw [hres], ⟨hcode, rfl⟩, trivial⟩, hS.F ht⟩) hS.2.2 dX5_requireLine_34

abbrev ws_X5_leadOf : List Cond := Cond.code yX5_leadOf cX5_leadOf 2 (some .int) :: ALL
set_option maxHeartbeats 4000000 in
set_option maxRecDepth 100000 in
theorem m_X5_leadOf (l : Launch) (D : va_G) (cs : Nat → ClassId) (kr la ia na b4 b6 b8 b10 sh it : Nat) (lc : Int) (dy : Nat) (pct lr sr : Int) (lf : Nat → Int) (zs : Int) (hsh : sh ≤ 4) (hzs : -2147483648 ≤ zs ∧ zs < 2147483648) : Met l yX5_leadOf ws_X5_leadOf ({ frames := 1, cells := 0, slots := 0, locals := 21 }) (va_Pc [.ref kr, .int (iI (zs))] (PC D cs [(kr, .inr (5, [.ref la, .ref ia, .ref na, .ref b4, .ref b6, .ref b8, .ref b10, .int (iI (((sh : Nat) : Int))), .int (iI (((it : Nat) : Int))), .int (iI (lc)), .int (iI (((dy : Nat) : Int))), .int (iI (pct)), .int (iI (lr)), .int (iI (sr))])), (la, arI cs 4 lf)])) (va_Qi (fun r (_ : Unit) => r = iI (if 0 ≤ zs ∧ zs < (sh : Int) then lf zs.toNat else 1)) (fun _ _ => True) noA) 0 0 noA := by
  refine Met.ofW (cc := cX5_leadOf) (maxL := 2) (ret := (some .int)) (by decide +kernel) rfl ?_
  intro p e s m args below meth c s₁ B hml hv
  obtain ⟨rfl, hP, hK, hD, hN⟩ := hv
  have hx := B.exec
  have hb := B.bytes
  have hr := B.returns
  have hts : ∀ w ∈ ALL, w.before _ s = true := fun w h => atoms_spec (ws := ws_X5_leadOf) B.pre w (List.mem_cons_of_mem _ h)
  have hown : s.vm.findClass RX5 = some m.cls := findClass_of_methodNamed B.named
  have hlocks := B.notSynchronized
  have hS : va_S noA s.heap s.heap [] := va_S.rf
  generalize inW [(kr, .inr (5, [.ref la, .ref ia, .ref na, .ref b4, .ref b6, .ref b8, .ref b10, .int (iI (((sh : Nat) : Int))), .int (iI (((it : Nat) : Int))), .int (iI (lc)), .int (iI (((dy : Nat) : Int))), .int (iI (pct)), .int (iI (lr)), .int (iI (sr))])), (la, arI cs 4 lf)] = A at hD
  have hl := lv_entry ([.ref kr, .int (iI (zs))]) (n := 2) (Nat.le_of_ble_eq_true rfl)
  rw [lg_entry_eq]
  generalize (lg_sl ([.ref kr, .int (iI (zs))]) ++ List.replicate (2 - (lg_sl ([.ref kr, .int (iI (zs))])).length) Slot.unset).toArray = ls at hl ⊢
  have hl : lv_has ls 2 [(0, .ref kr), (1, .int (iI (zs)))] := hl
  have hH := rfl (a := s.heap)
  refine lv_aload_n hx hb dX5_leadOf_0 rfl (lv_at hl 0 rfl) ?_
  refine lv_iload_n hx hb dX5_leadOf_1 rfl (lv_at hl 1 rfl) ?_
  have pk1 : picks [(kr, .inr (5, [.ref la, .ref ia, .ref na, .ref b4, .ref b6, .ref b8, .ref b10, .int (iI (((sh : Nat) : Int))), .int (iI (((it : Nat) : Int))), .int (iI (lc)), .int (iI (((dy : Nat) : Int))), .int (iI (pct)), .int (iI (lr)), .int (iI (sr))])), (la, arI cs 4 lf)] [0, 1] [(kr, .inr (5, [.ref la, .ref ia, .ref na, .ref b4, .ref b6, .ref b8, .ref b10, .int (iI (((sh : Nat) : Int))), .int (iI (((it : Nat) : Int))), .int (iI (lc)), .int (iI (((dy : Nat) : Int))), .int (iI (pct)), .int (iI (lr)), .int (iI (sr))])), (la, arI cs 4 lf)] := ⟨rfl, rfl, trivial⟩
  refine va_calli (va_runV (As := [.int (iI (zs))]) (rest := []) ⟨hx, hb, hml, hown, hts⟩ (m_X5_isShop l D cs kr la ia na b4 b6 b8 b10 sh it lc dy pct lr sr lf zs (by assumption) (by omega)) (cwV 1 hts (gV w_281 w_283 w_p2 w_1 w_284) rfl rfl rfl (by decide +kernel) ⟨Nat.le_of_ble_eq_true rfl, Nat.le_of_ble_eq_true rfl⟩) (PC_V hK hN hP hD [0, 1] rfl pk1 rfl rfl) rfl rfl hl.1 rfl (lv_room (Nat.le_of_ble_eq_true rfl)) dX5_leadOf_2 ⟨Nat.le_of_ble_eq_true rfl, Nat.le_of_ble_eq_true rfl⟩) hS (fun _ _ h => False.elim h) (fun _ h => False.elim h) (fun r u t H locs ht hvm hw hB hz1 hk1 hS => ?_)
  subst hw
  have hP := P_kept hP hk1
  have hok := okI_s sh zs
  refine my_if_eq (tgt := 17) hx hb (by omega) dX5_leadOf_5 (by decide) (fun bh2 => ?_) (fun bh2 => ?_)
  · refine lv_iconst (v := iI (1)) hx hb dX5_leadOf_17 rfl ?_
    have hres : iI (1) = iI (if 0 ≤ zs ∧ zs < (sh : Int) then lf zs.toNat else 1) := congrArg iI (by
        first | rw [if_pos (by omega)] | rw [if_neg (by omega)])
    exact W.iret hx hb hr (fun t ht hW => ⟨⟨_, (), rfl, hres, trivial⟩, hS.F ht⟩) hS.2.2 dX5_leadOf_18
  · refine lv_aload_n hx hb dX5_leadOf_8 rfl (lv_at hl 0 rfl) ?_
    refine my_get hx hb hts inAX5 hown hK hP 0 rfl rfl 0 (by decide) w_69 rfl rfl dX5_leadOf_9 ?_
    refine lv_iload_n hx hb dX5_leadOf_12 rfl (lv_at hl 1 rfl) ?_
    refine my_iald hx hb hK hP 1 rfl (by omega) (k := zs.toNat) (rfl) dX5_leadOf_13 ?_
    refine lv_goto (tgt := 18) hx hb dX5_leadOf_14 (by decide) ?_
    have hres : iI (lf zs.toNat) = iI (if 0 ≤ zs ∧ zs < (sh : Int) then lf zs.toNat else 1) := congrArg iI (by
        first | rw [if_pos (by omega)] | rw [if_neg (by omega)])
    exact W.iret hx hb hr (fun t ht hW => ⟨⟨_, (), rfl, hres, trivial⟩, hS.F ht⟩) hS.2.2 dX5_leadOf_18
