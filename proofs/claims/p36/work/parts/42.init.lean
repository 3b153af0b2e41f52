abbrev ws_X0_init : List Cond := Cond.code yX0_init cX0_init 1 (none : Option FieldType) :: ALL
set_option maxHeartbeats 4000000 in
set_option maxRecDepth 100000 in
theorem m_X0_init (l : Launch) (D : va_G) (cs : Nat → ClassId) (kb : Nat) (sz : Nat) : Met l yX0_init ws_X0_init ({ frames := 1, cells := 1, slots := 1005, locals := 12 }) (va_Pc [.ref kb] (PA D cs [(kb, .inr (0, [.null]))] sz)) (va_Qv (fun (_ : Nat → Nat) => True) (fun u t => va_P D vwCl [(kb, .inr (0, [.ref (u 0)])), (u 0, arI cs 1005 (fun _ => 0))] t.heap ∧ va_D (va_A [(kb, .inr (0, [.null]))] sz) [(kb, .inr (0, [.ref (u 0)])), (u 0, arI cs 1005 (fun _ => 0))]) (va_A [(kb, .inr (0, [.null]))] sz)) 1 1005 (va_A [(kb, .inr (0, [.null]))] sz) := by
  refine Met.ofW (cc := cX0_init) (maxL := 1) (ret := ((none : Option FieldType))) (by decide +kernel) rfl ?_
  intro p e s m args below meth c s₁ B hml hv
  obtain ⟨rfl, hsz, hP, hK, hD, hN⟩ := hv
  subst hsz
  have hx := B.exec
  have hb := B.bytes
  have hr := B.returns
  have hts : ∀ w ∈ ALL, w.before _ s = true := fun w h => atoms_spec (ws := ws_X0_init) B.pre w (List.mem_cons_of_mem _ h)
  have hown : s.vm.findClass RX0 = some m.cls := findClass_of_methodNamed B.named
  have hlocks := B.notSynchronized
  have hin2 : meth.name = "<init>" := (name_of_methodNamed B.named B.method).1
  have hD := hD.self (sz := s.heap.size)
  generalize hAe : va_A [(kb, .inr (0, [.null]))] s.heap.size = A at hD ⊢
  have hA : ∀ q : Nat, s.heap.size ≤ q → A q := fun q h => by rw [← hAe]; exact Or.inr h
  have hS : va_S A s.heap s.heap [] := va_S.rf
  have hl := lv_entry ([.ref kb]) (n := 1) (Nat.le_of_ble_eq_true rfl)
  rw [lg_entry_eq]
  generalize (lg_sl ([.ref kb]) ++ List.replicate (1 - (lg_sl ([.ref kb])).length) Slot.unset).toArray = ls at hl ⊢
  have hl : lv_has ls 1 [(0, .ref kb)] := hl
  have hH := rfl (a := s.heap)
  refine lv_aload_n hx hb dX0_init_0 rfl (lv_at hl 0 rfl) ?_
  refine W.objInit hx hb hown (hts _ w_33) (hts _ w_22) (hts _ w_23) rfl (hml.trans hl.1.symm).symm rfl dX0_init_1 (Nat.le_of_ble_eq_true rfl) (Nat.le_of_ble_eq_true rfl) ?_
  refine W.eq (g2 := F0 m 4 ls []) rfl ?_
  refine lv_aload_n hx hb dX0_init_4 rfl (lv_at hl 0 rfl) ?_
  refine lv_sipush (v := iI (1005)) hx hb dX0_init_5 (by decide) ?_
  refine my_newI hx hb hts hK hP hD hS hA 1005 (by omega) (Nat.le_of_ble_eq_true rfl) (Nat.le_of_ble_eq_true rfl) dX0_init_8 (fun q1 H hP hD hS => ?_)
  have hP : va_P D vwCl [(kb, .inr (0, [.null])), (q1, arI cs 1005 (fun _ => 0))] H := hP
  have hD : va_D A [(kb, .inr (0, [.null])), (q1, arI cs 1005 (fun _ => 0))] := hD
  refine my_putF hx hb hts inAX0 tyX0_ok nmX0 hown hK hP hD hS 0 rfl rfl 0 (by decide) w_34 rfl rfl rfl hin2 rfl rfl (Nat.le_of_ble_eq_true rfl) dX0_init_10 (fun H locs hP hD hS => ?_)
  have hP : va_P D vwCl [(kb, .inr (0, [.ref q1])), (q1, arI cs 1005 (fun _ => 0))] H := hP
  have hD : va_D A [(kb, .inr (0, [.ref q1])), (q1, arI cs 1005 (fun _ => 0))] := hD
  subst hAe
  refine W.widen (k := 1) (n := 1005) (by omega) (by omega) ?_
  exact W.vret hx hb hr (fun t ht hW => ⟨⟨(fun k => ([q1] : List Nat).getD k 0), rfl, trivial, by show va_P D vwCl _ t.heap; rw [ht]; exact hP, hD⟩, hS.F ht⟩) hS.2.2 dX0_init_13

abbrev ws_X2_init : List Cond := Cond.code yX2_init cX2_init 1 (none : Option FieldType) :: ALL
set_option maxHeartbeats 4000000 in
set_option maxRecDepth 100000 in
theorem m_X2_init (l : Launch) (D : va_G) (cs : Nat → ClassId) (kl : Nat) (sz : Nat) : Met l yX2_init ws_X2_init ({ frames := 1, cells := 1, slots := 7, locals := 12 }) (va_Pc [.ref kl] (PA D cs [(kl, .inr (2, [.null, .int (iI (0))]))] sz)) (va_Qv (fun (_ : Nat → Nat) => True) (fun u t => va_P D vwCl [(kl, .inr (2, [.ref (u 0), .int (iI (0))])), (u 0, arI cs 7 (fun _ => 0))] t.heap ∧ va_D (va_A [(kl, .inr (2, [.null, .int (iI (0))]))] sz) [(kl, .inr (2, [.ref (u 0), .int (iI (0))])), (u 0, arI cs 7 (fun _ => 0))]) (va_A [(kl, .inr (2, [.null, .int (iI (0))]))] sz)) 1 7 (va_A [(kl, .inr (2, [.null, .int (iI (0))]))] sz) := by
  refine Met.ofW (cc := cX2_init) (maxL := 1) (ret := ((none : Option FieldType))) (by decide +kernel) rfl ?_
  intro p e s m args below meth c s₁ B hml hv
  obtain ⟨rfl, hsz, hP, hK, hD, hN⟩ := hv
  subst hsz
  have hx := B.exec
  have hb := B.bytes
  have hr := B.returns
  have hts : ∀ w ∈ ALL, w.before _ s = true := fun w h => atoms_spec (ws := ws_X2_init) B.pre w (List.mem_cons_of_mem _ h)
  have hown : s.vm.findClass RX2 = some m.cls := findClass_of_methodNamed B.named
  have hlocks := B.notSynchronized
  have hin2 : meth.name = "<init>" := (name_of_methodNamed B.named B.method).1
  have hD := hD.self (sz := s.heap.size)
  generalize hAe : va_A [(kl, .inr (2, [.null, .int (iI (0))]))] s.heap.size = A at hD ⊢
  have hA : ∀ q : Nat, s.heap.size ≤ q → A q := fun q h => by rw [← hAe]; exact Or.inr h
  have hS : va_S A s.heap s.heap [] := va_S.rf
  have hl := lv_entry ([.ref kl]) (n := 1) (Nat.le_of_ble_eq_true rfl)
  rw [lg_entry_eq]
  generalize (lg_sl ([.ref kl]) ++ List.replicate (1 - (lg_sl ([.ref kl])).length) Slot.unset).toArray = ls at hl ⊢
  have hl : lv_has ls 1 [(0, .ref kl)] := hl
  have hH := rfl (a := s.heap)
  refine lv_aload_n hx hb dX2_init_0 rfl (lv_at hl 0 rfl) ?_
  refine W.objInit hx hb hown (hts _ w_44) (hts _ w_22) (hts _ w_23) rfl (hml.trans hl.1.symm).symm rfl dX2_init_1 (Nat.le_of_ble_eq_true rfl) (Nat.le_of_ble_eq_true rfl) ?_
  refine W.eq (g2 := F0 m 4 ls []) rfl ?_
  refine lv_aload_n hx hb dX2_init_4 rfl (lv_at hl 0 rfl) ?_
  refine lv_bipush (v := iI (7)) hx hb dX2_init_5 (by decide) ?_
  refine my_newI hx hb hts hK hP hD hS hA 7 (by omega) (Nat.le_of_ble_eq_true rfl) (Nat.le_of_ble_eq_true rfl) dX2_init_7 (fun q1 H hP hD hS => ?_)
  have hP : va_P D vwCl [(kl, .inr (2, [.null, .int (iI (0))])), (q1, arI cs 7 (fun _ => 0))] H := hP
  have hD : va_D A [(kl, .inr (2, [.null, .int (iI (0))])), (q1, arI cs 7 (fun _ => 0))] := hD
  refine my_putF hx hb hts inAX2 tyX2_ok nmX2 hown hK hP hD hS 0 rfl rfl 0 (by decide) w_45 rfl rfl rfl hin2 rfl rfl (Nat.le_of_ble_eq_true rfl) dX2_init_9 (fun H locs hP hD hS => ?_)
  have hP : va_P D vwCl [(kl, .inr (2, [.ref q1, .int (iI (0))])), (q1, arI cs 7 (fun _ => 0))] H := hP
  have hD : va_D A [(kl, .inr (2, [.ref q1, .int (iI (0))])), (q1, arI cs 7 (fun _ => 0))] := hD
  refine lv_aload_n hx hb dX2_init_12 rfl (lv_at hl 0 rfl) ?_
  refine lv_iconst (v := iI (0)) hx hb dX2_init_13 rfl ?_
  refine my_put hx hb hts inAX2 tyX2_ok nmX2 hown hK hP hD hS 0 rfl rfl 1 (by decide) w_46 rfl rfl rfl (Nat.le_of_ble_eq_true rfl) dX2_init_14 (fun H locs hP hD hS => ?_)
  have hP : va_P D vwCl [(kl, .inr (2, [.ref q1, .int (iI (0))])), (q1, arI cs 7 (fun _ => 0))] H := hP
  have hD : va_D A [(kl, .inr (2, [.ref q1, .int (iI (0))])), (q1, arI cs 7 (fun _ => 0))] := hD
  subst hAe
  refine W.widen (k := 1) (n := 7) (by omega) (by omega) ?_
  exact W.vret hx hb hr (fun t ht hW => ⟨⟨(fun k => ([q1] : List Nat).getD k 0), rfl, trivial, by show va_P D vwCl _ t.heap; rw [ht]; exact hP, hD⟩, hS.F ht⟩) hS.2.2 dX2_init_17

abbrev ws_X4_init : List Cond := Cond.code yX4_init cX4_init 1 (none : Option FieldType) :: ALL
set_option maxHeartbeats 4000000 in
set_option maxRecDepth 100000 in
theorem m_X4_init (l : Launch) (D : va_G) (cs : Nat → ClassId) (kh : Nat) (sz : Nat) : Met l yX4_init ws_X4_init ({ frames := 1, cells := 2, slots := 8, locals := 12 }) (va_Pc [.ref kh] (PA D cs [(kh, .inr (4, [.null, .null, .int (iI (0))]))] sz)) (va_Qv (fun (_ : Nat → Nat) => True) (fun u t => va_P D vwCl [(kh, .inr (4, [.ref (u 0), .ref (u 1), .int (iI (0))])), (u 0, arI cs 4 (fun _ => 0)), (u 1, arI cs 4 (fun _ => 0))] t.heap ∧ va_D (va_A [(kh, .inr (4, [.null, .null, .int (iI (0))]))] sz) [(kh, .inr (4, [.ref (u 0), .ref (u 1), .int (iI (0))])), (u 0, arI cs 4 (fun _ => 0)), (u 1, arI cs 4 (fun _ => 0))]) (va_A [(kh, .inr (4, [.null, .null, .int (iI (0))]))] sz)) 2 8 (va_A [(kh, .inr (4, [.null, .null, .int (iI (0))]))] sz) := by
  refine Met.ofW (cc := cX4_init) (maxL := 1) (ret := ((none : Option FieldType))) (by decide +kernel) rfl ?_
  intro p e s m args below meth c s₁ B hml hv
  obtain ⟨rfl, hsz, hP, hK, hD, hN⟩ := hv
  subst hsz
  have hx := B.exec
  have hb := B.bytes
  have hr := B.returns
  have hts : ∀ w ∈ ALL, w.before _ s = true := fun w h => atoms_spec (ws := ws_X4_init) B.pre w (List.mem_cons_of_mem _ h)
  have hown : s.vm.findClass RX4 = some m.cls := findClass_of_methodNamed B.named
  have hlocks := B.notSynchronized
  have hin2 : meth.name = "<init>" := (name_of_methodNamed B.named B.method).1
  have hD := hD.self (sz := s.heap.size)
  generalize hAe : va_A [(kh, .inr (4, [.null, .null, .int (iI (0))]))] s.heap.size = A at hD ⊢
  have hA : ∀ q : Nat, s.heap.size ≤ q → A q := fun q h => by rw [← hAe]; exact Or.inr h
  have hS : va_S A s.heap s.heap [] := va_S.rf
  have hl := lv_entry ([.ref kh]) (n := 1) (Nat.le_of_ble_eq_true rfl)
  rw [lg_entry_eq]
  generalize (lg_sl ([.ref kh]) ++ List.replicate (1 - (lg_sl ([.ref kh])).length) Slot.unset).toArray = ls at hl ⊢
  have hl : lv_has ls 1 [(0, .ref kh)] := hl
  have hH := rfl (a := s.heap)
  refine lv_aload_n hx hb dX4_init_0 rfl (lv_at hl 0 rfl) ?_
  refine W.objInit hx hb hown (hts _ w_58) (hts _ w_22) (hts _ w_23) rfl (hml.trans hl.1.symm).symm rfl dX4_init_1 (Nat.le_of_ble_eq_true rfl) (Nat.le_of_ble_eq_true rfl) ?_
  refine W.eq (g2 := F0 m 4 ls []) rfl ?_
  refine lv_aload_n hx hb dX4_init_4 rfl (lv_at hl 0 rfl) ?_
  refine lv_iconst (v := iI (4)) hx hb dX4_init_5 rfl ?_
  refine my_newI hx hb hts hK hP hD hS hA 4 (by omega) (Nat.le_of_ble_eq_true rfl) (Nat.le_of_ble_eq_true rfl) dX4_init_6 (fun q1 H hP hD hS => ?_)
  have hP : va_P D vwCl [(kh, .inr (4, [.null, .null, .int (iI (0))])), (q1, arI cs 4 (fun _ => 0))] H := hP
  have hD : va_D A [(kh, .inr (4, [.null, .null, .int (iI (0))])), (q1, arI cs 4 (fun _ => 0))] := hD
  refine my_putF hx hb hts inAX4 tyX4_ok nmX4 hown hK hP hD hS 0 rfl rfl 0 (by decide) w_59 rfl rfl rfl hin2 rfl rfl (Nat.le_of_ble_eq_true rfl) dX4_init_8 (fun H locs hP hD hS => ?_)
  have hP : va_P D vwCl [(kh, .inr (4, [.ref q1, .null, .int (iI (0))])), (q1, arI cs 4 (fun _ => 0))] H := hP
  have hD : va_D A [(kh, .inr (4, [.ref q1, .null, .int (iI (0))])), (q1, arI cs 4 (fun _ => 0))] := hD
  refine lv_aload_n hx hb dX4_init_11 rfl (lv_at hl 0 rfl) ?_
  refine lv_iconst (v := iI (4)) hx hb dX4_init_12 rfl ?_
  refine my_newI hx hb hts hK hP hD hS hA 4 (by omega) (Nat.le_of_ble_eq_true rfl) (Nat.le_of_ble_eq_true rfl) dX4_init_13 (fun q2 H hP hD hS => ?_)
  have hP : va_P D vwCl [(kh, .inr (4, [.ref q1, .null, .int (iI (0))])), (q1, arI cs 4 (fun _ => 0)), (q2, arI cs 4 (fun _ => 0))] H := hP
  have hD : va_D A [(kh, .inr (4, [.ref q1, .null, .int (iI (0))])), (q1, arI cs 4 (fun _ => 0)), (q2, arI cs 4 (fun _ => 0))] := hD
  refine my_putF hx hb hts inAX4 tyX4_ok nmX4 hown hK hP hD hS 0 rfl rfl 1 (by decide) w_60 rfl rfl rfl hin2 rfl rfl (Nat.le_of_ble_eq_true rfl) dX4_init_15 (fun H locs hP hD hS => ?_)
  have hP : va_P D vwCl [(kh, .inr (4, [.ref q1, .ref q2, .int (iI (0))])), (q1, arI cs 4 (fun _ => 0)), (q2, arI cs 4 (fun _ => 0))] H := hP
  have hD : va_D A [(kh, .inr (4, [.ref q1, .ref q2, .int (iI (0))])), (q1, arI cs 4 (fun _ => 0)), (q2, arI cs 4 (fun _ => 0))] := hD
  refine lv_aload_n hx hb dX4_init_18 rfl (lv_at hl 0 rfl) ?_
  refine lv_iconst (v := iI (0)) hx hb dX4_init_19 rfl ?_
  refine my_put hx hb hts inAX4 tyX4_ok nmX4 hown hK hP hD hS 0 rfl rfl 2 (by decide) w_61 rfl rfl rfl (Nat.le_of_ble_eq_true rfl) dX4_init_20 (fun H locs hP hD hS => ?_)
  have hP : va_P D vwCl [(kh, .inr (4, [.ref q1, .ref q2, .int (iI (0))])), (q1, arI cs 4 (fun _ => 0)), (q2, arI cs 4 (fun _ => 0))] H := hP
  have hD : va_D A [(kh, .inr (4, [.ref q1, .ref q2, .int (iI (0))])), (q1, arI cs 4 (fun _ => 0)), (q2, arI cs 4 (fun _ => 0))] := hD
  subst hAe
  refine W.widen (k := 2) (n := 8) (by omega) (by omega) ?_
  exact W.vret hx hb hr (fun t ht hW => ⟨⟨(fun k => ([q1, q2] : List Nat).getD k 0), rfl, trivial, by show va_P D vwCl _ t.heap; rw [ht]; exact hP, hD⟩, hS.F ht⟩) hS.2.2 dX4_init_23

abbrev ws_X1_init : List Cond := Cond.code yX1_init cX1_init 3 (none : Option FieldType) :: ALL
set_option maxHeartbeats 4000000 in
set_option maxRecDepth 100000 in
theorem m_X1_init (l : Launch) (D : va_G) (cs : Nat → ClassId) (hi : Nat) (pk fs : Int) (sz : Nat) : Met l yX1_init ws_X1_init ({ frames := 2, cells := 6, slots := 3018, locals := 32 }) (va_Pc [.ref hi, .int (iI (pk)), .int (iI (fs))] (PA D cs [(hi, .inr (1, [.int (iI (0)), .int (iI (0)), .null, .null, .null, .int (iI (0))]))] sz)) (va_Qv (fun (_ : Nat → Nat) => True) (fun u t => va_P D vwCl [(hi, .inr (1, [.int (iI (pk)), .int (iI (fs)), .ref (u 0), .ref (u 2), .ref (u 4), .int (iI (fs))])), (u 0, .inr (0, [.ref (u 1)])), (u 1, arI cs 1005 (fun _ => 0)), (u 2, .inr (0, [.ref (u 3)])), (u 3, arI cs 1005 (fun _ => 0)), (u 4, .inr (0, [.ref (u 5)])), (u 5, arI cs 1005 (fun _ => 0))] t.heap ∧ va_D (va_A [(hi, .inr (1, [.int (iI (0)), .int (iI (0)), .null, .null, .null, .int (iI (0))]))] sz) [(hi, .inr (1, [.int (iI (pk)), .int (iI (fs)), .ref (u 0), .ref (u 2), .ref (u 4), .int (iI (fs))])), (u 0, .inr (0, [.ref (u 1)])), (u 1, arI cs 1005 (fun _ => 0)), (u 2, .inr (0, [.ref (u 3)])), (u 3, arI cs 1005 (fun _ => 0)), (u 4, .inr (0, [.ref (u 5)])), (u 5, arI cs 1005 (fun _ => 0))]) (va_A [(hi, .inr (1, [.int (iI (0)), .int (iI (0)), .null, .null, .null, .int (iI (0))]))] sz)) 6 3018 (va_A [(hi, .inr (1, [.int (iI (0)), .int (iI (0)), .null, .null, .null, .int (iI (0))]))] sz) := by
  refine Met.ofW (cc := cX1_init) (maxL := 3) (ret := ((none : Option FieldType))) (by decide +kernel) rfl ?_
  intro p e s m args below meth c s₁ B hml hv
  obtain ⟨rfl, hsz, hP, hK, hD, hN⟩ := hv
  subst hsz
  have hx := B.exec
  have hb := B.bytes
  have hr := B.returns
  have hts : ∀ w ∈ ALL, w.before _ s = true := fun w h => atoms_spec (ws := ws_X1_init) B.pre w (List.mem_cons_of_mem _ h)
  have hown : s.vm.findClass RX1 = some m.cls := findClass_of_methodNamed B.named
  have hlocks := B.notSynchronized
  have hin2 : meth.name = "<init>" := (name_of_methodNamed B.named B.method).1
  have hD := hD.self (sz := s.heap.size)
  generalize hAe : va_A [(hi, .inr (1, [.int (iI (0)), .int (iI (0)), .null, .null, .null, .int (iI (0))]))] s.heap.size = A at hD ⊢
  have hA : ∀ q : Nat, s.heap.size ≤ q → A q := fun q h => by rw [← hAe]; exact Or.inr h
  have hS : va_S A s.heap s.heap [] := va_S.rf
  have hl := lv_entry ([.ref hi, .int (iI (pk)), .int (iI (fs))]) (n := 3) (Nat.le_of_ble_eq_true rfl)
  rw [lg_entry_eq]
  generalize (lg_sl ([.ref hi, .int (iI (pk)), .int (iI (fs))]) ++ List.replicate (3 - (lg_sl ([.ref hi, .int (iI (pk)), .int (iI (fs))])).length) Slot.unset).toArray = ls at hl ⊢
  have hl : lv_has ls 3 [(0, .ref hi), (1, .int (iI (pk))), (2, .int (iI (fs)))] := hl
  have hH := rfl (a := s.heap)
  refine lv_aload_n hx hb dX1_init_0 rfl (lv_at hl 0 rfl) ?_
  refine W.objInit hx hb hown (hts _ w_244) (hts _ w_22) (hts _ w_23) rfl (hml.trans hl.1.symm).symm rfl dX1_init_1 (Nat.le_of_ble_eq_true rfl) (Nat.le_of_ble_eq_true rfl) ?_
  refine W.eq (g2 := F0 m 4 ls []) rfl ?_
  refine lv_aload_n hx hb dX1_init_4 rfl (lv_at hl 0 rfl) ?_
  refine va_new (ci := 0) (fs := [.null]) (C := RX0) (T := TX0) (N := 1) hx hb hts inAX0 tyX0 tyX0_ok hown (hts _ w_245) (hts _ w_29) (hts _ w_2) hK hP hD hS hA rfl (fun j hj => by rcases (show j = 0 by omega) with rfl <;> rfl) (Nat.le_of_ble_eq_true rfl) (Nat.le_of_ble_eq_true rfl) dX1_init_5 (fun q1 H hP hD hS => ?_)
  have hP : va_P D vwCl [(hi, .inr (1, [.int (iI (0)), .int (iI (0)), .null, .null, .null, .int (iI (0))])), (q1, .inr (0, [.null]))] H := hP
  have hD : va_D A [(hi, .inr (1, [.int (iI (0)), .int (iI (0)), .null, .null, .null, .int (iI (0))])), (q1, .inr (0, [.null]))] := hD
  refine lv_dup hx hb dX1_init_8 rfl ?_
  have pk2 : picks [(hi, .inr (1, [.int (iI (0)), .int (iI (0)), .null, .null, .null, .int (iI (0))])), (q1, .inr (0, [.null]))] [1] [(q1, .inr (0, [.null]))] := ⟨rfl, trivial⟩
  have hFA := fA_sub hD [1] pk2 hS hA
  refine va_callv (va_runIN (As := []) (rest := [.ref q1, .ref hi]) ⟨hx, hb, hml, hown, hts⟩ (m_X0_init l D cs q1 _) (⟨va_cnB 0 hts (gA w_32) rfl rfl rfl (hN.2 _ (List.mem_of_getElem? (i := 3) rfl)) (hts _ w_2) (by decide +kernel) ⟨Nat.le_of_ble_eq_true rfl, Nat.le_of_ble_eq_true rfl⟩, rfl, hts _ w_31⟩) (PA_S hK hN hP hD [1] rfl pk2) rfl rfl hl.1 rfl (lv_room (Nat.le_of_ble_eq_true rfl)) dX1_init_9 ⟨Nat.le_of_ble_eq_true rfl, Nat.le_of_ble_eq_true rfl⟩) hS (fun q _ h => hFA q h) hFA (fun u3 t H1 locs ht hvm hw hB hz1 hk1 hS => ?_)
  rw [ht] at hB
  obtain ⟨hP, hD⟩ := my_joinA (W1 := [(q1, .inr (0, [.ref (u3 0)]))]) (Wn := [(u3 0, arI cs 1005 (fun _ => 0))]) hP hD [1] rfl pk2 rfl hk1 hB hFA
  generalize H1 = H at hP hS ⊢
  have hP : va_P D vwCl [(hi, .inr (1, [.int (iI (0)), .int (iI (0)), .null, .null, .null, .int (iI (0))])), (q1, .inr (0, [.ref (u3 0)])), (u3 0, arI cs 1005 (fun _ => 0))] H := hP
  have hD : va_D A [(hi, .inr (1, [.int (iI (0)), .int (iI (0)), .null, .null, .null, .int (iI (0))])), (q1, .inr (0, [.ref (u3 0)])), (u3 0, arI cs 1005 (fun _ => 0))] := hD
  refine my_putF hx hb hts inAX1 tyX1_ok nmX1 hown hK hP hD hS 0 rfl rfl 2 (by decide) w_250 rfl rfl rfl hin2 rfl rfl (Nat.le_of_ble_eq_true rfl) dX1_init_12 (fun H locs hP hD hS => ?_)
  have hP : va_P D vwCl [(hi, .inr (1, [.int (iI (0)), .int (iI (0)), .ref q1, .null, .null, .int (iI (0))])), (q1, .inr (0, [.ref (u3 0)])), (u3 0, arI cs 1005 (fun _ => 0))] H := hP
  have hD : va_D A [(hi, .inr (1, [.int (iI (0)), .int (iI (0)), .ref q1, .null, .null, .int (iI (0))])), (q1, .inr (0, [.ref (u3 0)])), (u3 0, arI cs 1005 (fun _ => 0))] := hD
  refine lv_aload_n hx hb dX1_init_15 rfl (lv_at hl 0 rfl) ?_
  refine va_new (ci := 0) (fs := [.null]) (C := RX0) (T := TX0) (N := 1) hx hb hts inAX0 tyX0 tyX0_ok hown (hts _ w_245) (hts _ w_29) (hts _ w_2) hK hP hD hS hA rfl (fun j hj => by rcases (show j = 0 by omega) with rfl <;> rfl) (Nat.le_of_ble_eq_true rfl) (Nat.le_of_ble_eq_true rfl) dX1_init_16 (fun q4 H hP hD hS => ?_)
  have hP : va_P D vwCl [(hi, .inr (1, [.int (iI (0)), .int (iI (0)), .ref q1, .null, .null, .int (iI (0))])), (q1, .inr (0, [.ref (u3 0)])), (u3 0, arI cs 1005 (fun _ => 0)), (q4, .inr (0, [.null]))] H := hP
  have hD : va_D A [(hi, .inr (1, [.int (iI (0)), .int (iI (0)), .ref q1, .null, .null, .int (iI (0))])), (q1, .inr (0, [.ref (u3 0)])), (u3 0, arI cs 1005 (fun _ => 0)), (q4, .inr (0, [.null]))] := hD
  refine lv_dup hx hb dX1_init_19 rfl ?_
  have pk5 : picks [(hi, .inr (1, [.int (iI (0)), .int (iI (0)), .ref q1, .null, .null, .int (iI (0))])), (q1, .inr (0, [.ref (u3 0)])), (u3 0, arI cs 1005 (fun _ => 0)), (q4, .inr (0, [.null]))] [3] [(q4, .inr (0, [.null]))] := ⟨rfl, trivial⟩
  have hFA := fA_sub hD [3] pk5 hS hA
  refine va_callv (va_runIN (As := []) (rest := [.ref q4, .ref hi]) ⟨hx, hb, hml, hown, hts⟩ (m_X0_init l D cs q4 _) (⟨va_cnB 0 hts (gA w_32) rfl rfl rfl (hN.2 _ (List.mem_of_getElem? (i := 3) rfl)) (hts _ w_2) (by decide +kernel) ⟨Nat.le_of_ble_eq_true rfl, Nat.le_of_ble_eq_true rfl⟩, rfl, hts _ w_31⟩) (PA_S hK hN hP hD [3] rfl pk5) rfl rfl hl.1 rfl (lv_room (Nat.le_of_ble_eq_true rfl)) dX1_init_20 ⟨Nat.le_of_ble_eq_true rfl, Nat.le_of_ble_eq_true rfl⟩) hS (fun q _ h => hFA q h) hFA (fun u6 t H1 locs ht hvm hw hB hz1 hk1 hS => ?_)
  rw [ht] at hB
  obtain ⟨hP, hD⟩ := my_joinA (W1 := [(q4, .inr (0, [.ref (u6 0)]))]) (Wn := [(u6 0, arI cs 1005 (fun _ => 0))]) hP hD [3] rfl pk5 rfl hk1 hB hFA
  generalize H1 = H at hP hS ⊢
  have hP : va_P D vwCl [(hi, .inr (1, [.int (iI (0)), .int (iI (0)), .ref q1, .null, .null, .int (iI (0))])), (q1, .inr (0, [.ref (u3 0)])), (u3 0, arI cs 1005 (fun _ => 0)), (q4, .inr (0, [.ref (u6 0)])), (u6 0, arI cs 1005 (fun _ => 0))] H := hP
  have hD : va_D A [(hi, .inr (1, [.int (iI (0)), .int (iI (0)), .ref q1, .null, .null, .int (iI (0))])), (q1, .inr (0, [.ref (u3 0)])), (u3 0, arI cs 1005 (fun _ => 0)), (q4, .inr (0, [.ref (u6 0)])), (u6 0, arI cs 1005 (fun _ => 0))] := hD
  refine my_putF hx hb hts inAX1 tyX1_ok nmX1 hown hK hP hD hS 0 rfl rfl 3 (by decide) w_251 rfl rfl rfl hin2 rfl rfl (Nat.le_of_ble_eq_true rfl) dX1_init_23 (fun H locs hP hD hS => ?_)
  have hP : va_P D vwCl [(hi, .inr (1, [.int (iI (0)), .int (iI (0)), .ref q1, .ref q4, .null, .int (iI (0))])), (q1, .inr (0, [.ref (u3 0)])), (u3 0, arI cs 1005 (fun _ => 0)), (q4, .inr (0, [.ref (u6 0)])), (u6 0, arI cs 1005 (fun _ => 0))] H := hP
  have hD : va_D A [(hi, .inr (1, [.int (iI (0)), .int (iI (0)), .ref q1, .ref q4, .null, .int (iI (0))])), (q1, .inr (0, [.ref (u3 0)])), (u3 0, arI cs 1005 (fun _ => 0)), (q4, .inr (0, [.ref (u6 0)])), (u6 0, arI cs 1005 (fun _ => 0))] := hD
  refine lv_aload_n hx hb dX1_init_26 rfl (lv_at hl 0 rfl) ?_
  refine va_new (ci := 0) (fs := [.null]) (C := RX0) (T := TX0) (N := 1) hx hb hts inAX0 tyX0 tyX0_ok hown (hts _ w_245) (hts _ w_29) (hts _ w_2) hK hP hD hS hA rfl (fun j hj => by rcases (show j = 0 by omega) with rfl <;> rfl) (Nat.le_of_ble_eq_true rfl) (Nat.le_of_ble_eq_true rfl) dX1_init_27 (fun q7 H hP hD hS => ?_)
  have hP : va_P D vwCl [(hi, .inr (1, [.int (iI (0)), .int (iI (0)), .ref q1, .ref q4, .null, .int (iI (0))])), (q1, .inr (0, [.ref (u3 0)])), (u3 0, arI cs 1005 (fun _ => 0)), (q4, .inr (0, [.ref (u6 0)])), (u6 0, arI cs 1005 (fun _ => 0)), (q7, .inr (0, [.null]))] H := hP
  have hD : va_D A [(hi, .inr (1, [.int (iI (0)), .int (iI (0)), .ref q1, .ref q4, .null, .int (iI (0))])), (q1, .inr (0, [.ref (u3 0)])), (u3 0, arI cs 1005 (fun _ => 0)), (q4, .inr (0, [.ref (u6 0)])), (u6 0, arI cs 1005 (fun _ => 0)), (q7, .inr (0, [.null]))] := hD
  refine lv_dup hx hb dX1_init_30 rfl ?_
  have pk8 : picks [(hi, .inr (1, [.int (iI (0)), .int (iI (0)), .ref q1, .ref q4, .null, .int (iI (0))])), (q1, .inr (0, [.ref (u3 0)])), (u3 0, arI cs 1005 (fun _ => 0)), (q4, .inr (0, [.ref (u6 0)])), (u6 0, arI cs 1005 (fun _ => 0)), (q7, .inr (0, [.null]))] [5] [(q7, .inr (0, [.null]))] := ⟨rfl, trivial⟩
  have hFA := fA_sub hD [5] pk8 hS hA
  refine va_callv (va_runIN (As := []) (rest := [.ref q7, .ref hi]) ⟨hx, hb, hml, hown, hts⟩ (m_X0_init l D cs q7 _) (⟨va_cnB 0 hts (gA w_32) rfl rfl rfl (hN.2 _ (List.mem_of_getElem? (i := 3) rfl)) (hts _ w_2) (by decide +kernel) ⟨Nat.le_of_ble_eq_true rfl, Nat.le_of_ble_eq_true rfl⟩, rfl, hts _ w_31⟩) (PA_S hK hN hP hD [5] rfl pk8) rfl rfl hl.1 rfl (lv_room (Nat.le_of_ble_eq_true rfl)) dX1_init_31 ⟨Nat.le_of_ble_eq_true rfl, Nat.le_of_ble_eq_true rfl⟩) hS (fun q _ h => hFA q h) hFA (fun u9 t H1 locs ht hvm hw hB hz1 hk1 hS => ?_)
  rw [ht] at hB
  obtain ⟨hP, hD⟩ := my_joinA (W1 := [(q7, .inr (0, [.ref (u9 0)]))]) (Wn := [(u9 0, arI cs 1005 (fun _ => 0))]) hP hD [5] rfl pk8 rfl hk1 hB hFA
  generalize H1 = H at hP hS ⊢
  have hP : va_P D vwCl [(hi, .inr (1, [.int (iI (0)), .int (iI (0)), .ref q1, .ref q4, .null, .int (iI (0))])), (q1, .inr (0, [.ref (u3 0)])), (u3 0, arI cs 1005 (fun _ => 0)), (q4, .inr (0, [.ref (u6 0)])), (u6 0, arI cs 1005 (fun _ => 0)), (q7, .inr (0, [.ref (u9 0)])), (u9 0, arI cs 1005 (fun _ => 0))] H := hP
  have hD : va_D A [(hi, .inr (1, [.int (iI (0)), .int (iI (0)), .ref q1, .ref q4, .null, .int (iI (0))])), (q1, .inr (0, [.ref (u3 0)])), (u3 0, arI cs 1005 (fun _ => 0)), (q4, .inr (0, [.ref (u6 0)])), (u6 0, arI cs 1005 (fun _ => 0)), (q7, .inr (0, [.ref (u9 0)])), (u9 0, arI cs 1005 (fun _ => 0))] := hD
  refine my_putF hx hb hts inAX1 tyX1_ok nmX1 hown hK hP hD hS 0 rfl rfl 4 (by decide) w_252 rfl rfl rfl hin2 rfl rfl (Nat.le_of_ble_eq_true rfl) dX1_init_34 (fun H locs hP hD hS => ?_)
  have hP : va_P D vwCl [(hi, .inr (1, [.int (iI (0)), .int (iI (0)), .ref q1, .ref q4, .ref q7, .int (iI (0))])), (q1, .inr (0, [.ref (u3 0)])), (u3 0, arI cs 1005 (fun _ => 0)), (q4, .inr (0, [.ref (u6 0)])), (u6 0, arI cs 1005 (fun _ => 0)), (q7, .inr (0, [.ref (u9 0)])), (u9 0, arI cs 1005 (fun _ => 0))] H := hP
  have hD : va_D A [(hi, .inr (1, [.int (iI (0)), .int (iI (0)), .ref q1, .ref q4, .ref q7, .int (iI (0))])), (q1, .inr (0, [.ref (u3 0)])), (u3 0, arI cs 1005 (fun _ => 0)), (q4, .inr (0, [.ref (u6 0)])), (u6 0, arI cs 1005 (fun _ => 0)), (q7, .inr (0, [.ref (u9 0)])), (u9 0, arI cs 1005 (fun _ => 0))] := hD
  refine lv_aload_n hx hb dX1_init_37 rfl (lv_at hl 0 rfl) ?_
  refine lv_iload_n hx hb dX1_init_38 rfl (lv_at hl 1 rfl) ?_
  refine my_putF hx hb hts inAX1 tyX1_ok nmX1 hown hK hP hD hS 0 rfl rfl 0 (by decide) w_247 rfl rfl rfl hin2 rfl rfl (Nat.le_of_ble_eq_true rfl) dX1_init_39 (fun H locs hP hD hS => ?_)
  have hP : va_P D vwCl [(hi, .inr (1, [.int (iI (pk)), .int (iI (0)), .ref q1, .ref q4, .ref q7, .int (iI (0))])), (q1, .inr (0, [.ref (u3 0)])), (u3 0, arI cs 1005 (fun _ => 0)), (q4, .inr (0, [.ref (u6 0)])), (u6 0, arI cs 1005 (fun _ => 0)), (q7, .inr (0, [.ref (u9 0)])), (u9 0, arI cs 1005 (fun _ => 0))] H := hP
  have hD : va_D A [(hi, .inr (1, [.int (iI (pk)), .int (iI (0)), .ref q1, .ref q4, .ref q7, .int (iI (0))])), (q1, .inr (0, [.ref (u3 0)])), (u3 0, arI cs 1005 (fun _ => 0)), (q4, .inr (0, [.ref (u6 0)])), (u6 0, arI cs 1005 (fun _ => 0)), (q7, .inr (0, [.ref (u9 0)])), (u9 0, arI cs 1005 (fun _ => 0))] := hD
  refine lv_aload_n hx hb dX1_init_42 rfl (lv_at hl 0 rfl) ?_
  refine lv_iload_n hx hb dX1_init_43 rfl (lv_at hl 2 rfl) ?_
  refine my_putF hx hb hts inAX1 tyX1_ok nmX1 hown hK hP hD hS 0 rfl rfl 1 (by decide) w_249 rfl rfl rfl hin2 rfl rfl (Nat.le_of_ble_eq_true rfl) dX1_init_44 (fun H locs hP hD hS => ?_)
  have hP : va_P D vwCl [(hi, .inr (1, [.int (iI (pk)), .int (iI (fs)), .ref q1, .ref q4, .ref q7, .int (iI (0))])), (q1, .inr (0, [.ref (u3 0)])), (u3 0, arI cs 1005 (fun _ => 0)), (q4, .inr (0, [.ref (u6 0)])), (u6 0, arI cs 1005 (fun _ => 0)), (q7, .inr (0, [.ref (u9 0)])), (u9 0, arI cs 1005 (fun _ => 0))] H := hP
  have hD : va_D A [(hi, .inr (1, [.int (iI (pk)), .int (iI (fs)), .ref q1, .ref q4, .ref q7, .int (iI (0))])), (q1, .inr (0, [.ref (u3 0)])), (u3 0, arI cs 1005 (fun _ => 0)), (q4, .inr (0, [.ref (u6 0)])), (u6 0, arI cs 1005 (fun _ => 0)), (q7, .inr (0, [.ref (u9 0)])), (u9 0, arI cs 1005 (fun _ => 0))] := hD
  refine lv_aload_n hx hb dX1_init_47 rfl (lv_at hl 0 rfl) ?_
  refine lv_iload_n hx hb dX1_init_48 rfl (lv_at hl 2 rfl) ?_
  refine my_put hx hb hts inAX1 tyX1_ok nmX1 hown hK hP hD hS 0 rfl rfl 5 (by decide) w_254 rfl rfl rfl (Nat.le_of_ble_eq_true rfl) dX1_init_49 (fun H locs hP hD hS => ?_)
  have hP : va_P D vwCl [(hi, .inr (1, [.int (iI (pk)), .int (iI (fs)), .ref q1, .ref q4, .ref q7, .int (iI (fs))])), (q1, .inr (0, [.ref (u3 0)])), (u3 0, arI cs 1005 (fun _ => 0)), (q4, .inr (0, [.ref (u6 0)])), (u6 0, arI cs 1005 (fun _ => 0)), (q7, .inr (0, [.ref (u9 0)])), (u9 0, arI cs 1005 (fun _ => 0))] H := hP
  have hD : va_D A [(hi, .inr (1, [.int (iI (pk)), .int (iI (fs)), .ref q1, .ref q4, .ref q7, .int (iI (fs))])), (q1, .inr (0, [.ref (u3 0)])), (u3 0, arI cs 1005 (fun _ => 0)), (q4, .inr (0, [.ref (u6 0)])), (u6 0, arI cs 1005 (fun _ => 0)), (q7, .inr (0, [.ref (u9 0)])), (u9 0, arI cs 1005 (fun _ => 0))] := hD
  subst hAe
  refine W.widen (k := 6) (n := 3018) (by omega) (by omega) ?_
  exact W.vret hx hb hr (fun t ht hW => ⟨⟨(fun k => ([q1, u3 0, q4, u6 0, q7, u9 0] : List Nat).getD k 0), rfl, trivial, by show va_P D vwCl _ t.heap; rw [ht]; exact hP, hD⟩, hS.F ht⟩) hS.2.2 dX1_init_52

abbrev ws_X3_init : List Cond := Cond.code yX3_init cX3_init 6 (none : Option FieldType) :: ALL
set_option maxHeartbeats 4000000 in
set_option maxRecDepth 100000 in
theorem m_X3_init (l : Launch) (D : va_G) (cs : Nat → ClassId) (kn hi : Nat) (ld fd fk fv : Int) (sz : Nat) : Met l yX3_init ws_X3_init ({ frames := 2, cells := 9, slots := 3048, locals := 32 }) (va_Pc [.ref kn, .ref hi, .int (iI (ld)), .int (iI (fd)), .int (iI (fk)), .int (iI (fv))] (PA D cs [(kn, .inr (3, [.null, .int (iI (0)), .int (iI (0)), .int (iI (0)), .int (iI (0)), .null, .null, .null, .null, .null, .int (iI (0)), .int (iI (0)), .int (iI (0)), .int (iI (0))]))] sz)) (va_Qv (fun (_ : Nat → Nat) => True) (fun u t => va_P D vwCl [(kn, .inr (3, [.ref hi, .int (iI (ld)), .int (iI (fd)), .int (iI (fk)), .int (iI (fv)), .ref (u 0), .ref (u 2), .ref (u 3), .ref (u 5), .ref (u 7), .int (iI (0)), .int (iI (fk)), .int (iI (0)), .int (iI (0))])), (u 0, .inr (2, [.ref (u 1), .int (iI (fv))])), (u 1, arI cs 7 (fun _ => 1000)), (u 2, arI cs 21 (fun _ => 0)), (u 3, .inr (0, [.ref (u 4)])), (u 4, arI cs 1005 (fun _ => 0)), (u 5, .inr (0, [.ref (u 6)])), (u 6, arI cs 1005 (fun _ => 0)), (u 7, .inr (0, [.ref (u 8)])), (u 8, arI cs 1005 (fun _ => 0))] t.heap ∧ va_D (va_A [(kn, .inr (3, [.null, .int (iI (0)), .int (iI (0)), .int (iI (0)), .int (iI (0)), .null, .null, .null, .null, .null, .int (iI (0)), .int (iI (0)), .int (iI (0)), .int (iI (0))]))] sz) [(kn, .inr (3, [.ref hi, .int (iI (ld)), .int (iI (fd)), .int (iI (fk)), .int (iI (fv)), .ref (u 0), .ref (u 2), .ref (u 3), .ref (u 5), .ref (u 7), .int (iI (0)), .int (iI (fk)), .int (iI (0)), .int (iI (0))])), (u 0, .inr (2, [.ref (u 1), .int (iI (fv))])), (u 1, arI cs 7 (fun _ => 1000)), (u 2, arI cs 21 (fun _ => 0)), (u 3, .inr (0, [.ref (u 4)])), (u 4, arI cs 1005 (fun _ => 0)), (u 5, .inr (0, [.ref (u 6)])), (u 6, arI cs 1005 (fun _ => 0)), (u 7, .inr (0, [.ref (u 8)])), (u 8, arI cs 1005 (fun _ => 0))]) (va_A [(kn, .inr (3, [.null, .int (iI (0)), .int (iI (0)), .int (iI (0)), .int (iI (0)), .null, .null, .null, .null, .null, .int (iI (0)), .int (iI (0)), .int (iI (0)), .int (iI (0))]))] sz)) 9 3048 (va_A [(kn, .inr (3, [.null, .int (iI (0)), .int (iI (0)), .int (iI (0)), .int (iI (0)), .null, .null, .null, .null, .null, .int (iI (0)), .int (iI (0)), .int (iI (0)), .int (iI (0))]))] sz) := by
  refine Met.ofW (cc := cX3_init) (maxL := 6) (ret := ((none : Option FieldType))) (by decide +kernel) rfl ?_
  intro p e s m args below meth c s₁ B hml hv
  obtain ⟨rfl, hsz, hP, hK, hD, hN⟩ := hv
  subst hsz
  have hx := B.exec
  have hb := B.bytes
  have hr := B.returns
  have hts : ∀ w ∈ ALL, w.before _ s = true := fun w h => atoms_spec (ws := ws_X3_init) B.pre w (List.mem_cons_of_mem _ h)
  have hown : s.vm.findClass RX3 = some m.cls := findClass_of_methodNamed B.named
  have hlocks := B.notSynchronized
  have hin2 : meth.name = "<init>" := (name_of_methodNamed B.named B.method).1
  have hD := hD.self (sz := s.heap.size)
  generalize hAe : va_A [(kn, .inr (3, [.null, .int (iI (0)), .int (iI (0)), .int (iI (0)), .int (iI (0)), .null, .null, .null, .null, .null, .int (iI (0)), .int (iI (0)), .int (iI (0)), .int (iI (0))]))] s.heap.size = A at hD ⊢
  have hA : ∀ q : Nat, s.heap.size ≤ q → A q := fun q h => by rw [← hAe]; exact Or.inr h
  have hS : va_S A s.heap s.heap [] := va_S.rf
  have hl := lv_entry ([.ref kn, .ref hi, .int (iI (ld)), .int (iI (fd)), .int (iI (fk)), .int (iI (fv))]) (n := 6) (Nat.le_of_ble_eq_true rfl)
  rw [lg_entry_eq]
  generalize (lg_sl ([.ref kn, .ref hi, .int (iI (ld)), .int (iI (fd)), .int (iI (fk)), .int (iI (fv))]) ++ List.replicate (6 - (lg_sl ([.ref kn, .ref hi, .int (iI (ld)), .int (iI (fd)), .int (iI (fk)), .int (iI (fv))])).length) Slot.unset).toArray = ls at hl ⊢
  have hl : lv_has ls 6 [(0, .ref kn), (1, .ref hi), (2, .int (iI (ld))), (3, .int (iI (fd))), (4, .int (iI (fk))), (5, .int (iI (fv)))] := hl
  have hH := rfl (a := s.heap)
  refine lv_aload_n hx hb dX3_init_0 rfl (lv_at hl 0 rfl) ?_
  refine W.objInit hx hb hown (hts _ w_330) (hts _ w_22) (hts _ w_23) rfl (hml.trans hl.1.symm).symm rfl dX3_init_1 (Nat.le_of_ble_eq_true rfl) (Nat.le_of_ble_eq_true rfl) ?_
  refine W.eq (g2 := F0 m 4 ls []) rfl ?_
  refine lv_aload_n hx hb dX3_init_4 rfl (lv_at hl 0 rfl) ?_
  refine va_new (ci := 2) (fs := [.null, .int (iI (0))]) (C := RX2) (T := TX2) (N := 2) hx hb hts inAX2 tyX2 tyX2_ok hown (hts _ w_331) (hts _ w_40) (hts _ w_3) hK hP hD hS hA rfl (fun j hj => by rcases (show j = 0 ∨ j = 1 by omega) with rfl | rfl <;> rfl) (Nat.le_of_ble_eq_true rfl) (Nat.le_of_ble_eq_true rfl) dX3_init_5 (fun q1 H hP hD hS => ?_)
  have hP : va_P D vwCl [(kn, .inr (3, [.null, .int (iI (0)), .int (iI (0)), .int (iI (0)), .int (iI (0)), .null, .null, .null, .null, .null, .int (iI (0)), .int (iI (0)), .int (iI (0)), .int (iI (0))])), (q1, .inr (2, [.null, .int (iI (0))]))] H := hP
  have hD : va_D A [(kn, .inr (3, [.null, .int (iI (0)), .int (iI (0)), .int (iI (0)), .int (iI (0)), .null, .null, .null, .null, .null, .int (iI (0)), .int (iI (0)), .int (iI (0)), .int (iI (0))])), (q1, .inr (2, [.null, .int (iI (0))]))] := hD
  refine lv_dup hx hb dX3_init_8 rfl ?_
  have pk2 : picks [(kn, .inr (3, [.null, .int (iI (0)), .int (iI (0)), .int (iI (0)), .int (iI (0)), .null, .null, .null, .null, .null, .int (iI (0)), .int (iI (0)), .int (iI (0)), .int (iI (0))])), (q1, .inr (2, [.null, .int (iI (0))]))] [1] [(q1, .inr (2, [.null, .int (iI (0))]))] := ⟨rfl, trivial⟩
  have hFA := fA_sub hD [1] pk2 hS hA
  refine va_callv (va_runIN (As := []) (rest := [.ref q1, .ref kn]) ⟨hx, hb, hml, hown, hts⟩ (m_X2_init l D cs q1 _) (⟨va_cnB 0 hts (gA w_43) rfl rfl rfl (hN.2 _ (List.mem_of_getElem? (i := 4) rfl)) (hts _ w_3) (by decide +kernel) ⟨Nat.le_of_ble_eq_true rfl, Nat.le_of_ble_eq_true rfl⟩, rfl, hts _ w_42⟩) (PA_S hK hN hP hD [1] rfl pk2) rfl rfl hl.1 rfl (lv_room (Nat.le_of_ble_eq_true rfl)) dX3_init_9 ⟨Nat.le_of_ble_eq_true rfl, Nat.le_of_ble_eq_true rfl⟩) hS (fun q _ h => hFA q h) hFA (fun u3 t H1 locs ht hvm hw hB hz1 hk1 hS => ?_)
  rw [ht] at hB
  obtain ⟨hP, hD⟩ := my_joinA (W1 := [(q1, .inr (2, [.ref (u3 0), .int (iI (0))]))]) (Wn := [(u3 0, arI cs 7 (fun _ => 0))]) hP hD [1] rfl pk2 rfl hk1 hB hFA
  generalize H1 = H at hP hS ⊢
  have hP : va_P D vwCl [(kn, .inr (3, [.null, .int (iI (0)), .int (iI (0)), .int (iI (0)), .int (iI (0)), .null, .null, .null, .null, .null, .int (iI (0)), .int (iI (0)), .int (iI (0)), .int (iI (0))])), (q1, .inr (2, [.ref (u3 0), .int (iI (0))])), (u3 0, arI cs 7 (fun _ => 0))] H := hP
  have hD : va_D A [(kn, .inr (3, [.null, .int (iI (0)), .int (iI (0)), .int (iI (0)), .int (iI (0)), .null, .null, .null, .null, .null, .int (iI (0)), .int (iI (0)), .int (iI (0)), .int (iI (0))])), (q1, .inr (2, [.ref (u3 0), .int (iI (0))])), (u3 0, arI cs 7 (fun _ => 0))] := hD
  refine my_putF hx hb hts inAX3 tyX3_ok nmX3 hown hK hP hD hS 0 rfl rfl 5 (by decide) w_347 rfl rfl rfl hin2 rfl rfl (Nat.le_of_ble_eq_true rfl) dX3_init_12 (fun H locs hP hD hS => ?_)
  have hP : va_P D vwCl [(kn, .inr (3, [.null, .int (iI (0)), .int (iI (0)), .int (iI (0)), .int (iI (0)), .ref q1, .null, .null, .null, .null, .int (iI (0)), .int (iI (0)), .int (iI (0)), .int (iI (0))])), (q1, .inr (2, [.ref (u3 0), .int (iI (0))])), (u3 0, arI cs 7 (fun _ => 0))] H := hP
  have hD : va_D A [(kn, .inr (3, [.null, .int (iI (0)), .int (iI (0)), .int (iI (0)), .int (iI (0)), .ref q1, .null, .null, .null, .null, .int (iI (0)), .int (iI (0)), .int (iI (0)), .int (iI (0))])), (q1, .inr (2, [.ref (u3 0), .int (iI (0))])), (u3 0, arI cs 7 (fun _ => 0))] := hD
  refine lv_aload_n hx hb dX3_init_15 rfl (lv_at hl 0 rfl) ?_
  refine lv_bipush (v := iI (21)) hx hb dX3_init_16 (by decide) ?_
  refine my_newI hx hb hts hK hP hD hS hA 21 (by omega) (Nat.le_of_ble_eq_true rfl) (Nat.le_of_ble_eq_true rfl) dX3_init_18 (fun q4 H hP hD hS => ?_)
  have hP : va_P D vwCl [(kn, .inr (3, [.null, .int (iI (0)), .int (iI (0)), .int (iI (0)), .int (iI (0)), .ref q1, .null, .null, .null, .null, .int (iI (0)), .int (iI (0)), .int (iI (0)), .int (iI (0))])), (q1, .inr (2, [.ref (u3 0), .int (iI (0))])), (u3 0, arI cs 7 (fun _ => 0)), (q4, arI cs 21 (fun _ => 0))] H := hP
  have hD : va_D A [(kn, .inr (3, [.null, .int (iI (0)), .int (iI (0)), .int (iI (0)), .int (iI (0)), .ref q1, .null, .null, .null, .null, .int (iI (0)), .int (iI (0)), .int (iI (0)), .int (iI (0))])), (q1, .inr (2, [.ref (u3 0), .int (iI (0))])), (u3 0, arI cs 7 (fun _ => 0)), (q4, arI cs 21 (fun _ => 0))] := hD
  refine my_putF hx hb hts inAX3 tyX3_ok nmX3 hown hK hP hD hS 0 rfl rfl 6 (by decide) w_349 rfl rfl rfl hin2 rfl rfl (Nat.le_of_ble_eq_true rfl) dX3_init_20 (fun H locs hP hD hS => ?_)
  have hP : va_P D vwCl [(kn, .inr (3, [.null, .int (iI (0)), .int (iI (0)), .int (iI (0)), .int (iI (0)), .ref q1, .ref q4, .null, .null, .null, .int (iI (0)), .int (iI (0)), .int (iI (0)), .int (iI (0))])), (q1, .inr (2, [.ref (u3 0), .int (iI (0))])), (u3 0, arI cs 7 (fun _ => 0)), (q4, arI cs 21 (fun _ => 0))] H := hP
  have hD : va_D A [(kn, .inr (3, [.null, .int (iI (0)), .int (iI (0)), .int (iI (0)), .int (iI (0)), .ref q1, .ref q4, .null, .null, .null, .int (iI (0)), .int (iI (0)), .int (iI (0)), .int (iI (0))])), (q1, .inr (2, [.ref (u3 0), .int (iI (0))])), (u3 0, arI cs 7 (fun _ => 0)), (q4, arI cs 21 (fun _ => 0))] := hD
  refine lv_aload_n hx hb dX3_init_23 rfl (lv_at hl 0 rfl) ?_
  refine va_new (ci := 0) (fs := [.null]) (C := RX0) (T := TX0) (N := 1) hx hb hts inAX0 tyX0 tyX0_ok hown (hts _ w_333) (hts _ w_29) (hts _ w_2) hK hP hD hS hA rfl (fun j hj => by rcases (show j = 0 by omega) with rfl <;> rfl) (Nat.le_of_ble_eq_true rfl) (Nat.le_of_ble_eq_true rfl) dX3_init_24 (fun q5 H hP hD hS => ?_)
  have hP : va_P D vwCl [(kn, .inr (3, [.null, .int (iI (0)), .int (iI (0)), .int (iI (0)), .int (iI (0)), .ref q1, .ref q4, .null, .null, .null, .int (iI (0)), .int (iI (0)), .int (iI (0)), .int (iI (0))])), (q1, .inr (2, [.ref (u3 0), .int (iI (0))])), (u3 0, arI cs 7 (fun _ => 0)), (q4, arI cs 21 (fun _ => 0)), (q5, .inr (0, [.null]))] H := hP
  have hD : va_D A [(kn, .inr (3, [.null, .int (iI (0)), .int (iI (0)), .int (iI (0)), .int (iI (0)), .ref q1, .ref q4, .null, .null, .null, .int (iI (0)), .int (iI (0)), .int (iI (0)), .int (iI (0))])), (q1, .inr (2, [.ref (u3 0), .int (iI (0))])), (u3 0, arI cs 7 (fun _ => 0)), (q4, arI cs 21 (fun _ => 0)), (q5, .inr (0, [.null]))] := hD
  refine lv_dup hx hb dX3_init_27 rfl ?_
  have pk6 : picks [(kn, .inr (3, [.null, .int (iI (0)), .int (iI (0)), .int (iI (0)), .int (iI (0)), .ref q1, .ref q4, .null, .null, .null, .int (iI (0)), .int (iI (0)), .int (iI (0)), .int (iI (0))])), (q1, .inr (2, [.ref (u3 0), .int (iI (0))])), (u3 0, arI cs 7 (fun _ => 0)), (q4, arI cs 21 (fun _ => 0)), (q5, .inr (0, [.null]))] [4] [(q5, .inr (0, [.null]))] := ⟨rfl, trivial⟩
  have hFA := fA_sub hD [4] pk6 hS hA
  refine va_callv (va_runIN (As := []) (rest := [.ref q5, .ref kn]) ⟨hx, hb, hml, hown, hts⟩ (m_X0_init l D cs q5 _) (⟨va_cnB 0 hts (gA w_32) rfl rfl rfl (hN.2 _ (List.mem_of_getElem? (i := 5) rfl)) (hts _ w_2) (by decide +kernel) ⟨Nat.le_of_ble_eq_true rfl, Nat.le_of_ble_eq_true rfl⟩, rfl, hts _ w_31⟩) (PA_S hK hN hP hD [4] rfl pk6) rfl rfl hl.1 rfl (lv_room (Nat.le_of_ble_eq_true rfl)) dX3_init_28 ⟨Nat.le_of_ble_eq_true rfl, Nat.le_of_ble_eq_true rfl⟩) hS (fun q _ h => hFA q h) hFA (fun u7 t H1 locs ht hvm hw hB hz1 hk1 hS => ?_)
  rw [ht] at hB
  obtain ⟨hP, hD⟩ := my_joinA (W1 := [(q5, .inr (0, [.ref (u7 0)]))]) (Wn := [(u7 0, arI cs 1005 (fun _ => 0))]) hP hD [4] rfl pk6 rfl hk1 hB hFA
  generalize H1 = H at hP hS ⊢
  have hP : va_P D vwCl [(kn, .inr (3, [.null, .int (iI (0)), .int (iI (0)), .int (iI (0)), .int (iI (0)), .ref q1, .ref q4, .null, .null, .null, .int (iI (0)), .int (iI (0)), .int (iI (0)), .int (iI (0))])), (q1, .inr (2, [.ref (u3 0), .int (iI (0))])), (u3 0, arI cs 7 (fun _ => 0)), (q4, arI cs 21 (fun _ => 0)), (q5, .inr (0, [.ref (u7 0)])), (u7 0, arI cs 1005 (fun _ => 0))] H := hP
  have hD : va_D A [(kn, .inr (3, [.null, .int (iI (0)), .int (iI (0)), .int (iI (0)), .int (iI (0)), .ref q1, .ref q4, .null, .null, .null, .int (iI (0)), .int (iI (0)), .int (iI (0)), .int (iI (0))])), (q1, .inr (2, [.ref (u3 0), .int (iI (0))])), (u3 0, arI cs 7 (fun _ => 0)), (q4, arI cs 21 (fun _ => 0)), (q5, .inr (0, [.ref (u7 0)])), (u7 0, arI cs 1005 (fun _ => 0))] := hD
  refine my_putF hx hb hts inAX3 tyX3_ok nmX3 hown hK hP hD hS 0 rfl rfl 7 (by decide) w_350 rfl rfl rfl hin2 rfl rfl (Nat.le_of_ble_eq_true rfl) dX3_init_31 (fun H locs hP hD hS => ?_)
  have hP : va_P D vwCl [(kn, .inr (3, [.null, .int (iI (0)), .int (iI (0)), .int (iI (0)), .int (iI (0)), .ref q1, .ref q4, .ref q5, .null, .null, .int (iI (0)), .int (iI (0)), .int (iI (0)), .int (iI (0))])), (q1, .inr (2, [.ref (u3 0), .int (iI (0))])), (u3 0, arI cs 7 (fun _ => 0)), (q4, arI cs 21 (fun _ => 0)), (q5, .inr (0, [.ref (u7 0)])), (u7 0, arI cs 1005 (fun _ => 0))] H := hP
  have hD : va_D A [(kn, .inr (3, [.null, .int (iI (0)), .int (iI (0)), .int (iI (0)), .int (iI (0)), .ref q1, .ref q4, .ref q5, .null, .null, .int (iI (0)), .int (iI (0)), .int (iI (0)), .int (iI (0))])), (q1, .inr (2, [.ref (u3 0), .int (iI (0))])), (u3 0, arI cs 7 (fun _ => 0)), (q4, arI cs 21 (fun _ => 0)), (q5, .inr (0, [.ref (u7 0)])), (u7 0, arI cs 1005 (fun _ => 0))] := hD
  refine lv_aload_n hx hb dX3_init_34 rfl (lv_at hl 0 rfl) ?_
  refine va_new (ci := 0) (fs := [.null]) (C := RX0) (T := TX0) (N := 1) hx hb hts inAX0 tyX0 tyX0_ok hown (hts _ w_333) (hts _ w_29) (hts _ w_2) hK hP hD hS hA rfl (fun j hj => by rcases (show j = 0 by omega) with rfl <;> rfl) (Nat.le_of_ble_eq_true rfl) (Nat.le_of_ble_eq_true rfl) dX3_init_35 (fun q8 H hP hD hS => ?_)
  have hP : va_P D vwCl [(kn, .inr (3, [.null, .int (iI (0)), .int (iI (0)), .int (iI (0)), .int (iI (0)), .ref q1, .ref q4, .ref q5, .null, .null, .int (iI (0)), .int (iI (0)), .int (iI (0)), .int (iI (0))])), (q1, .inr (2, [.ref (u3 0), .int (iI (0))])), (u3 0, arI cs 7 (fun _ => 0)), (q4, arI cs 21 (fun _ => 0)), (q5, .inr (0, [.ref (u7 0)])), (u7 0, arI cs 1005 (fun _ => 0)), (q8, .inr (0, [.null]))] H := hP
  have hD : va_D A [(kn, .inr (3, [.null, .int (iI (0)), .int (iI (0)), .int (iI (0)), .int (iI (0)), .ref q1, .ref q4, .ref q5, .null, .null, .int (iI (0)), .int (iI (0)), .int (iI (0)), .int (iI (0))])), (q1, .inr (2, [.ref (u3 0), .int (iI (0))])), (u3 0, arI cs 7 (fun _ => 0)), (q4, arI cs 21 (fun _ => 0)), (q5, .inr (0, [.ref (u7 0)])), (u7 0, arI cs 1005 (fun _ => 0)), (q8, .inr (0, [.null]))] := hD
  refine lv_dup hx hb dX3_init_38 rfl ?_
  have pk9 : picks [(kn, .inr (3, [.null, .int (iI (0)), .int (iI (0)), .int (iI (0)), .int (iI (0)), .ref q1, .ref q4, .ref q5, .null, .null, .int (iI (0)), .int (iI (0)), .int (iI (0)), .int (iI (0))])), (q1, .inr (2, [.ref (u3 0), .int (iI (0))])), (u3 0, arI cs 7 (fun _ => 0)), (q4, arI cs 21 (fun _ => 0)), (q5, .inr (0, [.ref (u7 0)])), (u7 0, arI cs 1005 (fun _ => 0)), (q8, .inr (0, [.null]))] [6] [(q8, .inr (0, [.null]))] := ⟨rfl, trivial⟩
  have hFA := fA_sub hD [6] pk9 hS hA
  refine va_callv (va_runIN (As := []) (rest := [.ref q8, .ref kn]) ⟨hx, hb, hml, hown, hts⟩ (m_X0_init l D cs q8 _) (⟨va_cnB 0 hts (gA w_32) rfl rfl rfl (hN.2 _ (List.mem_of_getElem? (i := 5) rfl)) (hts _ w_2) (by decide +kernel) ⟨Nat.le_of_ble_eq_true rfl, Nat.le_of_ble_eq_true rfl⟩, rfl, hts _ w_31⟩) (PA_S hK hN hP hD [6] rfl pk9) rfl rfl hl.1 rfl (lv_room (Nat.le_of_ble_eq_true rfl)) dX3_init_39 ⟨Nat.le_of_ble_eq_true rfl, Nat.le_of_ble_eq_true rfl⟩) hS (fun q _ h => hFA q h) hFA (fun u10 t H1 locs ht hvm hw hB hz1 hk1 hS => ?_)
  rw [ht] at hB
  obtain ⟨hP, hD⟩ := my_joinA (W1 := [(q8, .inr (0, [.ref (u10 0)]))]) (Wn := [(u10 0, arI cs 1005 (fun _ => 0))]) hP hD [6] rfl pk9 rfl hk1 hB hFA
  generalize H1 = H at hP hS ⊢
  have hP : va_P D vwCl [(kn, .inr (3, [.null, .int (iI (0)), .int (iI (0)), .int (iI (0)), .int (iI (0)), .ref q1, .ref q4, .ref q5, .null, .null, .int (iI (0)), .int (iI (0)), .int (iI (0)), .int (iI (0))])), (q1, .inr (2, [.ref (u3 0), .int (iI (0))])), (u3 0, arI cs 7 (fun _ => 0)), (q4, arI cs 21 (fun _ => 0)), (q5, .inr (0, [.ref (u7 0)])), (u7 0, arI cs 1005 (fun _ => 0)), (q8, .inr (0, [.ref (u10 0)])), (u10 0, arI cs 1005 (fun _ => 0))] H := hP
  have hD : va_D A [(kn, .inr (3, [.null, .int (iI (0)), .int (iI (0)), .int (iI (0)), .int (iI (0)), .ref q1, .ref q4, .ref q5, .null, .null, .int (iI (0)), .int (iI (0)), .int (iI (0)), .int (iI (0))])), (q1, .inr (2, [.ref (u3 0), .int (iI (0))])), (u3 0, arI cs 7 (fun _ => 0)), (q4, arI cs 21 (fun _ => 0)), (q5, .inr (0, [.ref (u7 0)])), (u7 0, arI cs 1005 (fun _ => 0)), (q8, .inr (0, [.ref (u10 0)])), (u10 0, arI cs 1005 (fun _ => 0))] := hD
  refine my_putF hx hb hts inAX3 tyX3_ok nmX3 hown hK hP hD hS 0 rfl rfl 8 (by decide) w_352 rfl rfl rfl hin2 rfl rfl (Nat.le_of_ble_eq_true rfl) dX3_init_42 (fun H locs hP hD hS => ?_)
  have hP : va_P D vwCl [(kn, .inr (3, [.null, .int (iI (0)), .int (iI (0)), .int (iI (0)), .int (iI (0)), .ref q1, .ref q4, .ref q5, .ref q8, .null, .int (iI (0)), .int (iI (0)), .int (iI (0)), .int (iI (0))])), (q1, .inr (2, [.ref (u3 0), .int (iI (0))])), (u3 0, arI cs 7 (fun _ => 0)), (q4, arI cs 21 (fun _ => 0)), (q5, .inr (0, [.ref (u7 0)])), (u7 0, arI cs 1005 (fun _ => 0)), (q8, .inr (0, [.ref (u10 0)])), (u10 0, arI cs 1005 (fun _ => 0))] H := hP
  have hD : va_D A [(kn, .inr (3, [.null, .int (iI (0)), .int (iI (0)), .int (iI (0)), .int (iI (0)), .ref q1, .ref q4, .ref q5, .ref q8, .null, .int (iI (0)), .int (iI (0)), .int (iI (0)), .int (iI (0))])), (q1, .inr (2, [.ref (u3 0), .int (iI (0))])), (u3 0, arI cs 7 (fun _ => 0)), (q4, arI cs 21 (fun _ => 0)), (q5, .inr (0, [.ref (u7 0)])), (u7 0, arI cs 1005 (fun _ => 0)), (q8, .inr (0, [.ref (u10 0)])), (u10 0, arI cs 1005 (fun _ => 0))] := hD
  refine lv_aload_n hx hb dX3_init_45 rfl (lv_at hl 0 rfl) ?_
  refine va_new (ci := 0) (fs := [.null]) (C := RX0) (T := TX0) (N := 1) hx hb hts inAX0 tyX0 tyX0_ok hown (hts _ w_333) (hts _ w_29) (hts _ w_2) hK hP hD hS hA rfl (fun j hj => by rcases (show j = 0 by omega) with rfl <;> rfl) (Nat.le_of_ble_eq_true rfl) (Nat.le_of_ble_eq_true rfl) dX3_init_46 (fun q11 H hP hD hS => ?_)
  have hP : va_P D vwCl [(kn, .inr (3, [.null, .int (iI (0)), .int (iI (0)), .int (iI (0)), .int (iI (0)), .ref q1, .ref q4, .ref q5, .ref q8, .null, .int (iI (0)), .int (iI (0)), .int (iI (0)), .int (iI (0))])), (q1, .inr (2, [.ref (u3 0), .int (iI (0))])), (u3 0, arI cs 7 (fun _ => 0)), (q4, arI cs 21 (fun _ => 0)), (q5, .inr (0, [.ref (u7 0)])), (u7 0, arI cs 1005 (fun _ => 0)), (q8, .inr (0, [.ref (u10 0)])), (u10 0, arI cs 1005 (fun _ => 0)), (q11, .inr (0, [.null]))] H := hP
  have hD : va_D A [(kn, .inr (3, [.null, .int (iI (0)), .int (iI (0)), .int (iI (0)), .int (iI (0)), .ref q1, .ref q4, .ref q5, .ref q8, .null, .int (iI (0)), .int (iI (0)), .int (iI (0)), .int (iI (0))])), (q1, .inr (2, [.ref (u3 0), .int (iI (0))])), (u3 0, arI cs 7 (fun _ => 0)), (q4, arI cs 21 (fun _ => 0)), (q5, .inr (0, [.ref (u7 0)])), (u7 0, arI cs 1005 (fun _ => 0)), (q8, .inr (0, [.ref (u10 0)])), (u10 0, arI cs 1005 (fun _ => 0)), (q11, .inr (0, [.null]))] := hD
  refine lv_dup hx hb dX3_init_49 rfl ?_
  have pk12 : picks [(kn, .inr (3, [.null, .int (iI (0)), .int (iI (0)), .int (iI (0)), .int (iI (0)), .ref q1, .ref q4, .ref q5, .ref q8, .null, .int (iI (0)), .int (iI (0)), .int (iI (0)), .int (iI (0))])), (q1, .inr (2, [.ref (u3 0), .int (iI (0))])), (u3 0, arI cs 7 (fun _ => 0)), (q4, arI cs 21 (fun _ => 0)), (q5, .inr (0, [.ref (u7 0)])), (u7 0, arI cs 1005 (fun _ => 0)), (q8, .inr (0, [.ref (u10 0)])), (u10 0, arI cs 1005 (fun _ => 0)), (q11, .inr (0, [.null]))] [8] [(q11, .inr (0, [.null]))] := ⟨rfl, trivial⟩
  have hFA := fA_sub hD [8] pk12 hS hA
  refine va_callv (va_runIN (As := []) (rest := [.ref q11, .ref kn]) ⟨hx, hb, hml, hown, hts⟩ (m_X0_init l D cs q11 _) (⟨va_cnB 0 hts (gA w_32) rfl rfl rfl (hN.2 _ (List.mem_of_getElem? (i := 5) rfl)) (hts _ w_2) (by decide +kernel) ⟨Nat.le_of_ble_eq_true rfl, Nat.le_of_ble_eq_true rfl⟩, rfl, hts _ w_31⟩) (PA_S hK hN hP hD [8] rfl pk12) rfl rfl hl.1 rfl (lv_room (Nat.le_of_ble_eq_true rfl)) dX3_init_50 ⟨Nat.le_of_ble_eq_true rfl, Nat.le_of_ble_eq_true rfl⟩) hS (fun q _ h => hFA q h) hFA (fun u13 t H1 locs ht hvm hw hB hz1 hk1 hS => ?_)
  rw [ht] at hB
  obtain ⟨hP, hD⟩ := my_joinA (W1 := [(q11, .inr (0, [.ref (u13 0)]))]) (Wn := [(u13 0, arI cs 1005 (fun _ => 0))]) hP hD [8] rfl pk12 rfl hk1 hB hFA
  generalize H1 = H at hP hS ⊢
  have hP : va_P D vwCl [(kn, .inr (3, [.null, .int (iI (0)), .int (iI (0)), .int (iI (0)), .int (iI (0)), .ref q1, .ref q4, .ref q5, .ref q8, .null, .int (iI (0)), .int (iI (0)), .int (iI (0)), .int (iI (0))])), (q1, .inr (2, [.ref (u3 0), .int (iI (0))])), (u3 0, arI cs 7 (fun _ => 0)), (q4, arI cs 21 (fun _ => 0)), (q5, .inr (0, [.ref (u7 0)])), (u7 0, arI cs 1005 (fun _ => 0)), (q8, .inr (0, [.ref (u10 0)])), (u10 0, arI cs 1005 (fun _ => 0)), (q11, .inr (0, [.ref (u13 0)])), (u13 0, arI cs 1005 (fun _ => 0))] H := hP
  have hD : va_D A [(kn, .inr (3, [.null, .int (iI (0)), .int (iI (0)), .int (iI (0)), .int (iI (0)), .ref q1, .ref q4, .ref q5, .ref q8, .null, .int (iI (0)), .int (iI (0)), .int (iI (0)), .int (iI (0))])), (q1, .inr (2, [.ref (u3 0), .int (iI (0))])), (u3 0, arI cs 7 (fun _ => 0)), (q4, arI cs 21 (fun _ => 0)), (q5, .inr (0, [.ref (u7 0)])), (u7 0, arI cs 1005 (fun _ => 0)), (q8, .inr (0, [.ref (u10 0)])), (u10 0, arI cs 1005 (fun _ => 0)), (q11, .inr (0, [.ref (u13 0)])), (u13 0, arI cs 1005 (fun _ => 0))] := hD
  refine my_putF hx hb hts inAX3 tyX3_ok nmX3 hown hK hP hD hS 0 rfl rfl 9 (by decide) w_353 rfl rfl rfl hin2 rfl rfl (Nat.le_of_ble_eq_true rfl) dX3_init_53 (fun H locs hP hD hS => ?_)
  have hP : va_P D vwCl [(kn, .inr (3, [.null, .int (iI (0)), .int (iI (0)), .int (iI (0)), .int (iI (0)), .ref q1, .ref q4, .ref q5, .ref q8, .ref q11, .int (iI (0)), .int (iI (0)), .int (iI (0)), .int (iI (0))])), (q1, .inr (2, [.ref (u3 0), .int (iI (0))])), (u3 0, arI cs 7 (fun _ => 0)), (q4, arI cs 21 (fun _ => 0)), (q5, .inr (0, [.ref (u7 0)])), (u7 0, arI cs 1005 (fun _ => 0)), (q8, .inr (0, [.ref (u10 0)])), (u10 0, arI cs 1005 (fun _ => 0)), (q11, .inr (0, [.ref (u13 0)])), (u13 0, arI cs 1005 (fun _ => 0))] H := hP
  have hD : va_D A [(kn, .inr (3, [.null, .int (iI (0)), .int (iI (0)), .int (iI (0)), .int (iI (0)), .ref q1, .ref q4, .ref q5, .ref q8, .ref q11, .int (iI (0)), .int (iI (0)), .int (iI (0)), .int (iI (0))])), (q1, .inr (2, [.ref (u3 0), .int (iI (0))])), (u3 0, arI cs 7 (fun _ => 0)), (q4, arI cs 21 (fun _ => 0)), (q5, .inr (0, [.ref (u7 0)])), (u7 0, arI cs 1005 (fun _ => 0)), (q8, .inr (0, [.ref (u10 0)])), (u10 0, arI cs 1005 (fun _ => 0)), (q11, .inr (0, [.ref (u13 0)])), (u13 0, arI cs 1005 (fun _ => 0))] := hD
  refine lv_aload_n hx hb dX3_init_56 rfl (lv_at hl 0 rfl) ?_
  refine lv_iconst (v := iI (0)) hx hb dX3_init_57 rfl ?_
  refine my_put hx hb hts inAX3 tyX3_ok nmX3 hown hK hP hD hS 0 rfl rfl 10 (by decide) w_355 rfl rfl rfl (Nat.le_of_ble_eq_true rfl) dX3_init_58 (fun H locs hP hD hS => ?_)
  have hP : va_P D vwCl [(kn, .inr (3, [.null, .int (iI (0)), .int (iI (0)), .int (iI (0)), .int (iI (0)), .ref q1, .ref q4, .ref q5, .ref q8, .ref q11, .int (iI (0)), .int (iI (0)), .int (iI (0)), .int (iI (0))])), (q1, .inr (2, [.ref (u3 0), .int (iI (0))])), (u3 0, arI cs 7 (fun _ => 0)), (q4, arI cs 21 (fun _ => 0)), (q5, .inr (0, [.ref (u7 0)])), (u7 0, arI cs 1005 (fun _ => 0)), (q8, .inr (0, [.ref (u10 0)])), (u10 0, arI cs 1005 (fun _ => 0)), (q11, .inr (0, [.ref (u13 0)])), (u13 0, arI cs 1005 (fun _ => 0))] H := hP
  have hD : va_D A [(kn, .inr (3, [.null, .int (iI (0)), .int (iI (0)), .int (iI (0)), .int (iI (0)), .ref q1, .ref q4, .ref q5, .ref q8, .ref q11, .int (iI (0)), .int (iI (0)), .int (iI (0)), .int (iI (0))])), (q1, .inr (2, [.ref (u3 0), .int (iI (0))])), (u3 0, arI cs 7 (fun _ => 0)), (q4, arI cs 21 (fun _ => 0)), (q5, .inr (0, [.ref (u7 0)])), (u7 0, arI cs 1005 (fun _ => 0)), (q8, .inr (0, [.ref (u10 0)])), (u10 0, arI cs 1005 (fun _ => 0)), (q11, .inr (0, [.ref (u13 0)])), (u13 0, arI cs 1005 (fun _ => 0))] := hD
  refine lv_aload_n hx hb dX3_init_61 rfl (lv_at hl 0 rfl) ?_
  refine lv_iconst (v := iI (0)) hx hb dX3_init_62 rfl ?_
  refine my_put hx hb hts inAX3 tyX3_ok nmX3 hown hK hP hD hS 0 rfl rfl 12 (by decide) w_358 rfl rfl rfl (Nat.le_of_ble_eq_true rfl) dX3_init_63 (fun H locs hP hD hS => ?_)
  have hP : va_P D vwCl [(kn, .inr (3, [.null, .int (iI (0)), .int (iI (0)), .int (iI (0)), .int (iI (0)), .ref q1, .ref q4, .ref q5, .ref q8, .ref q11, .int (iI (0)), .int (iI (0)), .int (iI (0)), .int (iI (0))])), (q1, .inr (2, [.ref (u3 0), .int (iI (0))])), (u3 0, arI cs 7 (fun _ => 0)), (q4, arI cs 21 (fun _ => 0)), (q5, .inr (0, [.ref (u7 0)])), (u7 0, arI cs 1005 (fun _ => 0)), (q8, .inr (0, [.ref (u10 0)])), (u10 0, arI cs 1005 (fun _ => 0)), (q11, .inr (0, [.ref (u13 0)])), (u13 0, arI cs 1005 (fun _ => 0))] H := hP
  have hD : va_D A [(kn, .inr (3, [.null, .int (iI (0)), .int (iI (0)), .int (iI (0)), .int (iI (0)), .ref q1, .ref q4, .ref q5, .ref q8, .ref q11, .int (iI (0)), .int (iI (0)), .int (iI (0)), .int (iI (0))])), (q1, .inr (2, [.ref (u3 0), .int (iI (0))])), (u3 0, arI cs 7 (fun _ => 0)), (q4, arI cs 21 (fun _ => 0)), (q5, .inr (0, [.ref (u7 0)])), (u7 0, arI cs 1005 (fun _ => 0)), (q8, .inr (0, [.ref (u10 0)])), (u10 0, arI cs 1005 (fun _ => 0)), (q11, .inr (0, [.ref (u13 0)])), (u13 0, arI cs 1005 (fun _ => 0))] := hD
  refine lv_aload_n hx hb dX3_init_66 rfl (lv_at hl 0 rfl) ?_
  refine lv_iconst (v := iI (0)) hx hb dX3_init_67 rfl ?_
  refine my_put hx hb hts inAX3 tyX3_ok nmX3 hown hK hP hD hS 0 rfl rfl 13 (by decide) w_359 rfl rfl rfl (Nat.le_of_ble_eq_true rfl) dX3_init_68 (fun H locs hP hD hS => ?_)
  have hP : va_P D vwCl [(kn, .inr (3, [.null, .int (iI (0)), .int (iI (0)), .int (iI (0)), .int (iI (0)), .ref q1, .ref q4, .ref q5, .ref q8, .ref q11, .int (iI (0)), .int (iI (0)), .int (iI (0)), .int (iI (0))])), (q1, .inr (2, [.ref (u3 0), .int (iI (0))])), (u3 0, arI cs 7 (fun _ => 0)), (q4, arI cs 21 (fun _ => 0)), (q5, .inr (0, [.ref (u7 0)])), (u7 0, arI cs 1005 (fun _ => 0)), (q8, .inr (0, [.ref (u10 0)])), (u10 0, arI cs 1005 (fun _ => 0)), (q11, .inr (0, [.ref (u13 0)])), (u13 0, arI cs 1005 (fun _ => 0))] H := hP
  have hD : va_D A [(kn, .inr (3, [.null, .int (iI (0)), .int (iI (0)), .int (iI (0)), .int (iI (0)), .ref q1, .ref q4, .ref q5, .ref q8, .ref q11, .int (iI (0)), .int (iI (0)), .int (iI (0)), .int (iI (0))])), (q1, .inr (2, [.ref (u3 0), .int (iI (0))])), (u3 0, arI cs 7 (fun _ => 0)), (q4, arI cs 21 (fun _ => 0)), (q5, .inr (0, [.ref (u7 0)])), (u7 0, arI cs 1005 (fun _ => 0)), (q8, .inr (0, [.ref (u10 0)])), (u10 0, arI cs 1005 (fun _ => 0)), (q11, .inr (0, [.ref (u13 0)])), (u13 0, arI cs 1005 (fun _ => 0))] := hD
  refine lv_aload_n hx hb dX3_init_71 rfl (lv_at hl 0 rfl) ?_
  refine lv_aload_n hx hb dX3_init_72 rfl (lv_at hl 1 rfl) ?_
  refine my_putF hx hb hts inAX3 tyX3_ok nmX3 hown hK hP hD hS 0 rfl rfl 0 (by decide) w_339 rfl rfl rfl hin2 rfl rfl (Nat.le_of_ble_eq_true rfl) dX3_init_73 (fun H locs hP hD hS => ?_)
  have hP : va_P D vwCl [(kn, .inr (3, [.ref hi, .int (iI (0)), .int (iI (0)), .int (iI (0)), .int (iI (0)), .ref q1, .ref q4, .ref q5, .ref q8, .ref q11, .int (iI (0)), .int (iI (0)), .int (iI (0)), .int (iI (0))])), (q1, .inr (2, [.ref (u3 0), .int (iI (0))])), (u3 0, arI cs 7 (fun _ => 0)), (q4, arI cs 21 (fun _ => 0)), (q5, .inr (0, [.ref (u7 0)])), (u7 0, arI cs 1005 (fun _ => 0)), (q8, .inr (0, [.ref (u10 0)])), (u10 0, arI cs 1005 (fun _ => 0)), (q11, .inr (0, [.ref (u13 0)])), (u13 0, arI cs 1005 (fun _ => 0))] H := hP
  have hD : va_D A [(kn, .inr (3, [.ref hi, .int (iI (0)), .int (iI (0)), .int (iI (0)), .int (iI (0)), .ref q1, .ref q4, .ref q5, .ref q8, .ref q11, .int (iI (0)), .int (iI (0)), .int (iI (0)), .int (iI (0))])), (q1, .inr (2, [.ref (u3 0), .int (iI (0))])), (u3 0, arI cs 7 (fun _ => 0)), (q4, arI cs 21 (fun _ => 0)), (q5, .inr (0, [.ref (u7 0)])), (u7 0, arI cs 1005 (fun _ => 0)), (q8, .inr (0, [.ref (u10 0)])), (u10 0, arI cs 1005 (fun _ => 0)), (q11, .inr (0, [.ref (u13 0)])), (u13 0, arI cs 1005 (fun _ => 0))] := hD
  refine lv_aload_n hx hb dX3_init_76 rfl (lv_at hl 0 rfl) ?_
  refine lv_iload_n hx hb dX3_init_77 rfl (lv_at hl 2 rfl) ?_
  refine my_putF hx hb hts inAX3 tyX3_ok nmX3 hown hK hP hD hS 0 rfl rfl 1 (by decide) w_341 rfl rfl rfl hin2 rfl rfl (Nat.le_of_ble_eq_true rfl) dX3_init_78 (fun H locs hP hD hS => ?_)
  have hP : va_P D vwCl [(kn, .inr (3, [.ref hi, .int (iI (ld)), .int (iI (0)), .int (iI (0)), .int (iI (0)), .ref q1, .ref q4, .ref q5, .ref q8, .ref q11, .int (iI (0)), .int (iI (0)), .int (iI (0)), .int (iI (0))])), (q1, .inr (2, [.ref (u3 0), .int (iI (0))])), (u3 0, arI cs 7 (fun _ => 0)), (q4, arI cs 21 (fun _ => 0)), (q5, .inr (0, [.ref (u7 0)])), (u7 0, arI cs 1005 (fun _ => 0)), (q8, .inr (0, [.ref (u10 0)])), (u10 0, arI cs 1005 (fun _ => 0)), (q11, .inr (0, [.ref (u13 0)])), (u13 0, arI cs 1005 (fun _ => 0))] H := hP
  have hD : va_D A [(kn, .inr (3, [.ref hi, .int (iI (ld)), .int (iI (0)), .int (iI (0)), .int (iI (0)), .ref q1, .ref q4, .ref q5, .ref q8, .ref q11, .int (iI (0)), .int (iI (0)), .int (iI (0)), .int (iI (0))])), (q1, .inr (2, [.ref (u3 0), .int (iI (0))])), (u3 0, arI cs 7 (fun _ => 0)), (q4, arI cs 21 (fun _ => 0)), (q5, .inr (0, [.ref (u7 0)])), (u7 0, arI cs 1005 (fun _ => 0)), (q8, .inr (0, [.ref (u10 0)])), (u10 0, arI cs 1005 (fun _ => 0)), (q11, .inr (0, [.ref (u13 0)])), (u13 0, arI cs 1005 (fun _ => 0))] := hD
  refine lv_aload_n hx hb dX3_init_81 rfl (lv_at hl 0 rfl) ?_
  refine lv_iload_n hx hb dX3_init_82 rfl (lv_at hl 3 rfl) ?_
  refine my_putF hx hb hts inAX3 tyX3_ok nmX3 hown hK hP hD hS 0 rfl rfl 2 (by decide) w_342 rfl rfl rfl hin2 rfl rfl (Nat.le_of_ble_eq_true rfl) dX3_init_83 (fun H locs hP hD hS => ?_)
  have hP : va_P D vwCl [(kn, .inr (3, [.ref hi, .int (iI (ld)), .int (iI (fd)), .int (iI (0)), .int (iI (0)), .ref q1, .ref q4, .ref q5, .ref q8, .ref q11, .int (iI (0)), .int (iI (0)), .int (iI (0)), .int (iI (0))])), (q1, .inr (2, [.ref (u3 0), .int (iI (0))])), (u3 0, arI cs 7 (fun _ => 0)), (q4, arI cs 21 (fun _ => 0)), (q5, .inr (0, [.ref (u7 0)])), (u7 0, arI cs 1005 (fun _ => 0)), (q8, .inr (0, [.ref (u10 0)])), (u10 0, arI cs 1005 (fun _ => 0)), (q11, .inr (0, [.ref (u13 0)])), (u13 0, arI cs 1005 (fun _ => 0))] H := hP
  have hD : va_D A [(kn, .inr (3, [.ref hi, .int (iI (ld)), .int (iI (fd)), .int (iI (0)), .int (iI (0)), .ref q1, .ref q4, .ref q5, .ref q8, .ref q11, .int (iI (0)), .int (iI (0)), .int (iI (0)), .int (iI (0))])), (q1, .inr (2, [.ref (u3 0), .int (iI (0))])), (u3 0, arI cs 7 (fun _ => 0)), (q4, arI cs 21 (fun _ => 0)), (q5, .inr (0, [.ref (u7 0)])), (u7 0, arI cs 1005 (fun _ => 0)), (q8, .inr (0, [.ref (u10 0)])), (u10 0, arI cs 1005 (fun _ => 0)), (q11, .inr (0, [.ref (u13 0)])), (u13 0, arI cs 1005 (fun _ => 0))] := hD
  refine lv_aload_n hx hb dX3_init_86 rfl (lv_at hl 0 rfl) ?_
  refine lv_iload hx hb dX3_init_87 (lv_at hl 4 rfl) ?_
  refine my_putF hx hb hts inAX3 tyX3_ok nmX3 hown hK hP hD hS 0 rfl rfl 3 (by decide) w_344 rfl rfl rfl hin2 rfl rfl (Nat.le_of_ble_eq_true rfl) dX3_init_89 (fun H locs hP hD hS => ?_)
  have hP : va_P D vwCl [(kn, .inr (3, [.ref hi, .int (iI (ld)), .int (iI (fd)), .int (iI (fk)), .int (iI (0)), .ref q1, .ref q4, .ref q5, .ref q8, .ref q11, .int (iI (0)), .int (iI (0)), .int (iI (0)), .int (iI (0))])), (q1, .inr (2, [.ref (u3 0), .int (iI (0))])), (u3 0, arI cs 7 (fun _ => 0)), (q4, arI cs 21 (fun _ => 0)), (q5, .inr (0, [.ref (u7 0)])), (u7 0, arI cs 1005 (fun _ => 0)), (q8, .inr (0, [.ref (u10 0)])), (u10 0, arI cs 1005 (fun _ => 0)), (q11, .inr (0, [.ref (u13 0)])), (u13 0, arI cs 1005 (fun _ => 0))] H := hP
  have hD : va_D A [(kn, .inr (3, [.ref hi, .int (iI (ld)), .int (iI (fd)), .int (iI (fk)), .int (iI (0)), .ref q1, .ref q4, .ref q5, .ref q8, .ref q11, .int (iI (0)), .int (iI (0)), .int (iI (0)), .int (iI (0))])), (q1, .inr (2, [.ref (u3 0), .int (iI (0))])), (u3 0, arI cs 7 (fun _ => 0)), (q4, arI cs 21 (fun _ => 0)), (q5, .inr (0, [.ref (u7 0)])), (u7 0, arI cs 1005 (fun _ => 0)), (q8, .inr (0, [.ref (u10 0)])), (u10 0, arI cs 1005 (fun _ => 0)), (q11, .inr (0, [.ref (u13 0)])), (u13 0, arI cs 1005 (fun _ => 0))] := hD
  refine lv_aload_n hx hb dX3_init_92 rfl (lv_at hl 0 rfl) ?_
  refine lv_iload hx hb dX3_init_93 (lv_at hl 5 rfl) ?_
  refine my_putF hx hb hts inAX3 tyX3_ok nmX3 hown hK hP hD hS 0 rfl rfl 4 (by decide) w_345 rfl rfl rfl hin2 rfl rfl (Nat.le_of_ble_eq_true rfl) dX3_init_95 (fun H locs hP hD hS => ?_)
  have hP : va_P D vwCl [(kn, .inr (3, [.ref hi, .int (iI (ld)), .int (iI (fd)), .int (iI (fk)), .int (iI (fv)), .ref q1, .ref q4, .ref q5, .ref q8, .ref q11, .int (iI (0)), .int (iI (0)), .int (iI (0)), .int (iI (0))])), (q1, .inr (2, [.ref (u3 0), .int (iI (0))])), (u3 0, arI cs 7 (fun _ => 0)), (q4, arI cs 21 (fun _ => 0)), (q5, .inr (0, [.ref (u7 0)])), (u7 0, arI cs 1005 (fun _ => 0)), (q8, .inr (0, [.ref (u10 0)])), (u10 0, arI cs 1005 (fun _ => 0)), (q11, .inr (0, [.ref (u13 0)])), (u13 0, arI cs 1005 (fun _ => 0))] H := hP
  have hD : va_D A [(kn, .inr (3, [.ref hi, .int (iI (ld)), .int (iI (fd)), .int (iI (fk)), .int (iI (fv)), .ref q1, .ref q4, .ref q5, .ref q8, .ref q11, .int (iI (0)), .int (iI (0)), .int (iI (0)), .int (iI (0))])), (q1, .inr (2, [.ref (u3 0), .int (iI (0))])), (u3 0, arI cs 7 (fun _ => 0)), (q4, arI cs 21 (fun _ => 0)), (q5, .inr (0, [.ref (u7 0)])), (u7 0, arI cs 1005 (fun _ => 0)), (q8, .inr (0, [.ref (u10 0)])), (u10 0, arI cs 1005 (fun _ => 0)), (q11, .inr (0, [.ref (u13 0)])), (u13 0, arI cs 1005 (fun _ => 0))] := hD
  refine lv_aload_n hx hb dX3_init_98 rfl (lv_at hl 0 rfl) ?_
  refine lv_iload hx hb dX3_init_99 (lv_at hl 4 rfl) ?_
  refine my_put hx hb hts inAX3 tyX3_ok nmX3 hown hK hP hD hS 0 rfl rfl 11 (by decide) w_356 rfl rfl rfl (Nat.le_of_ble_eq_true rfl) dX3_init_101 (fun H locs hP hD hS => ?_)
  have hP : va_P D vwCl [(kn, .inr (3, [.ref hi, .int (iI (ld)), .int (iI (fd)), .int (iI (fk)), .int (iI (fv)), .ref q1, .ref q4, .ref q5, .ref q8, .ref q11, .int (iI (0)), .int (iI (fk)), .int (iI (0)), .int (iI (0))])), (q1, .inr (2, [.ref (u3 0), .int (iI (0))])), (u3 0, arI cs 7 (fun _ => 0)), (q4, arI cs 21 (fun _ => 0)), (q5, .inr (0, [.ref (u7 0)])), (u7 0, arI cs 1005 (fun _ => 0)), (q8, .inr (0, [.ref (u10 0)])), (u10 0, arI cs 1005 (fun _ => 0)), (q11, .inr (0, [.ref (u13 0)])), (u13 0, arI cs 1005 (fun _ => 0))] H := hP
  have hD : va_D A [(kn, .inr (3, [.ref hi, .int (iI (ld)), .int (iI (fd)), .int (iI (fk)), .int (iI (fv)), .ref q1, .ref q4, .ref q5, .ref q8, .ref q11, .int (iI (0)), .int (iI (fk)), .int (iI (0)), .int (iI (0))])), (q1, .inr (2, [.ref (u3 0), .int (iI (0))])), (u3 0, arI cs 7 (fun _ => 0)), (q4, arI cs 21 (fun _ => 0)), (q5, .inr (0, [.ref (u7 0)])), (u7 0, arI cs 1005 (fun _ => 0)), (q8, .inr (0, [.ref (u10 0)])), (u10 0, arI cs 1005 (fun _ => 0)), (q11, .inr (0, [.ref (u13 0)])), (u13 0, arI cs 1005 (fun _ => 0))] := hD
  refine lv_aload_n hx hb dX3_init_104 rfl (lv_at hl 0 rfl) ?_
  refine my_get hx hb hts inAX3 hown hK hP 0 rfl rfl 5 (by decide) w_347 rfl rfl dX3_init_105 ?_
  refine lv_iload hx hb dX3_init_108 (lv_at hl 5 rfl) ?_
  have pk14 : picks [(kn, .inr (3, [.ref hi, .int (iI (ld)), .int (iI (fd)), .int (iI (fk)), .int (iI (fv)), .ref q1, .ref q4, .ref q5, .ref q8, .ref q11, .int (iI (0)), .int (iI (fk)), .int (iI (0)), .int (iI (0))])), (q1, .inr (2, [.ref (u3 0), .int (iI (0))])), (u3 0, arI cs 7 (fun _ => 0)), (q4, arI cs 21 (fun _ => 0)), (q5, .inr (0, [.ref (u7 0)])), (u7 0, arI cs 1005 (fun _ => 0)), (q8, .inr (0, [.ref (u10 0)])), (u10 0, arI cs 1005 (fun _ => 0)), (q11, .inr (0, [.ref (u13 0)])), (u13 0, arI cs 1005 (fun _ => 0))] [1, 2] [(q1, .inr (2, [.ref (u3 0), .int (iI (0))])), (u3 0, arI cs 7 (fun _ => 0))] := ⟨rfl, rfl, trivial⟩
  refine va_callv (va_runV (As := [.int (iI (fv))]) (rest := []) ⟨hx, hb, hml, hown, hts⟩ (m_X2_start l D cs q1 (u3 0) 0 (fun _ => 0) fv) (cwV 1 hts (gV w_335 w_336 w_337 w_3 w_338) rfl rfl rfl (by decide +kernel) ⟨Nat.le_of_ble_eq_true rfl, Nat.le_of_ble_eq_true rfl⟩) (PC_V hK hN hP hD [1, 2] rfl pk14 rfl rfl) rfl rfl hl.1 rfl (lv_room (Nat.le_of_ble_eq_true rfl)) dX3_init_110 ⟨Nat.le_of_ble_eq_true rfl, Nat.le_of_ble_eq_true rfl⟩) hS (fun q _ h => inW_sub hD [1, 2] pk14 q h) (fun q h => inW_sub hD [1, 2] pk14 q h) (fun u t H locs ht hvm hw hB hz1 hk1 hS => ?_)
  rw [ht] at hB
  obtain ⟨hP, hD⟩ := my_join (W1 := [(q1, .inr (2, [.ref (u3 0), .int (iI (fv))])), (u3 0, arI cs 7 (fun _ => 1000))]) hP hD [1, 2] rfl pk14 rfl hk1 hB
  have hP : va_P D vwCl [(kn, .inr (3, [.ref hi, .int (iI (ld)), .int (iI (fd)), .int (iI (fk)), .int (iI (fv)), .ref q1, .ref q4, .ref q5, .ref q8, .ref q11, .int (iI (0)), .int (iI (fk)), .int (iI (0)), .int (iI (0))])), (q1, .inr (2, [.ref (u3 0), .int (iI (fv))])), (u3 0, arI cs 7 (fun _ => 1000)), (q4, arI cs 21 (fun _ => 0)), (q5, .inr (0, [.ref (u7 0)])), (u7 0, arI cs 1005 (fun _ => 0)), (q8, .inr (0, [.ref (u10 0)])), (u10 0, arI cs 1005 (fun _ => 0)), (q11, .inr (0, [.ref (u13 0)])), (u13 0, arI cs 1005 (fun _ => 0))] H := hP
  have hD : va_D A [(kn, .inr (3, [.ref hi, .int (iI (ld)), .int (iI (fd)), .int (iI (fk)), .int (iI (fv)), .ref q1, .ref q4, .ref q5, .ref q8, .ref q11, .int (iI (0)), .int (iI (fk)), .int (iI (0)), .int (iI (0))])), (q1, .inr (2, [.ref (u3 0), .int (iI (fv))])), (u3 0, arI cs 7 (fun _ => 1000)), (q4, arI cs 21 (fun _ => 0)), (q5, .inr (0, [.ref (u7 0)])), (u7 0, arI cs 1005 (fun _ => 0)), (q8, .inr (0, [.ref (u10 0)])), (u10 0, arI cs 1005 (fun _ => 0)), (q11, .inr (0, [.ref (u13 0)])), (u13 0, arI cs 1005 (fun _ => 0))] := hD
  subst hAe
  refine W.widen (k := 9) (n := 3048) (by omega) (by omega) ?_
  exact W.vret hx hb hr (fun t ht hW => ⟨⟨(fun k => ([q1, u3 0, q4, q5, u7 0, q8, u10 0, q11, u13 0] : List Nat).getD k 0), rfl, trivial, by show va_P D vwCl _ t.heap; rw [ht]; exact hP, hD⟩, hS.F ht⟩) hS.2.2 dX3_init_113

abbrev ws_X5_init : List Cond := Cond.code yX5_init cX5_init 1 (none : Option FieldType) :: ALL
set_option maxHeartbeats 4000000 in
set_option maxRecDepth 100000 in
theorem m_X5_init (l : Launch) (D : va_G) (cs : Nat → ClassId) (kr : Nat) (sz : Nat) : Met l yX5_init ws_X5_init ({ frames := 2, cells := 12, slots := 2061, locals := 32 }) (va_Pc [.ref kr] (fun U => PA D cs [(kr, .inr (5, [.null, .null, .null, .null, .null, .null, .null, .int (iI (0)), .int (iI (0)), .int (iI (0)), .int (iI (0)), .int (iI (0)), .int (iI (0)), .int (iI (0))]))] sz U ∧ va_AO "Replen$Item" U ∧ va_AO "Replen$Line" U)) (va_Qv (fun (_ : Nat → Nat) => True) (fun u t => va_P D vwCl [(kr, .inr (5, [.ref (u 0), .ref (u 1), .ref (u 2), .ref (u 3), .ref (u 5), .ref (u 7), .ref (u 9), .int (iI (0)), .int (iI (0)), .int (iI (0)), .int (iI (0)), .int (iI (90)), .int (iI (20)), .int (iI (10))])), (u 0, arI cs 4 (fun _ => 0)), (u 1, arQ cs 2 5 (fun _ => none)), (u 2, arQ cs 3 20 (fun _ => none)), (u 3, .inr (0, [.ref (u 4)])), (u 4, arI cs 1005 (fun _ => 0)), (u 5, .inr (0, [.ref (u 6)])), (u 6, arI cs 1005 (fun _ => 0)), (u 7, .inr (2, [.ref (u 8), .int (iI (0))])), (u 8, arI cs 7 (fun _ => 0)), (u 9, .inr (4, [.ref (u 10), .ref (u 11), .int (iI (0))])), (u 10, arI cs 4 (fun _ => 0)), (u 11, arI cs 4 (fun _ => 0))] t.heap ∧ va_D (va_A [(kr, .inr (5, [.null, .null, .null, .null, .null, .null, .null, .int (iI (0)), .int (iI (0)), .int (iI (0)), .int (iI (0)), .int (iI (0)), .int (iI (0)), .int (iI (0))]))] sz) [(kr, .inr (5, [.ref (u 0), .ref (u 1), .ref (u 2), .ref (u 3), .ref (u 5), .ref (u 7), .ref (u 9), .int (iI (0)), .int (iI (0)), .int (iI (0)), .int (iI (0)), .int (iI (90)), .int (iI (20)), .int (iI (10))])), (u 0, arI cs 4 (fun _ => 0)), (u 1, arQ cs 2 5 (fun _ => none)), (u 2, arQ cs 3 20 (fun _ => none)), (u 3, .inr (0, [.ref (u 4)])), (u 4, arI cs 1005 (fun _ => 0)), (u 5, .inr (0, [.ref (u 6)])), (u 6, arI cs 1005 (fun _ => 0)), (u 7, .inr (2, [.ref (u 8), .int (iI (0))])), (u 8, arI cs 7 (fun _ => 0)), (u 9, .inr (4, [.ref (u 10), .ref (u 11), .int (iI (0))])), (u 10, arI cs 4 (fun _ => 0)), (u 11, arI cs 4 (fun _ => 0))]) (va_A [(kr, .inr (5, [.null, .null, .null, .null, .null, .null, .null, .int (iI (0)), .int (iI (0)), .int (iI (0)), .int (iI (0)), .int (iI (0)), .int (iI (0)), .int (iI (0))]))] sz)) 12 2061 (va_A [(kr, .inr (5, [.null, .null, .null, .null, .null, .null, .null, .int (iI (0)), .int (iI (0)), .int (iI (0)), .int (iI (0)), .int (iI (0)), .int (iI (0)), .int (iI (0))]))] sz) := by
  refine Met.ofW (cc := cX5_init) (maxL := 1) (ret := ((none : Option FieldType))) (by decide +kernel) rfl ?_
  intro p e s m args below meth c s₁ B hml hv
  obtain ⟨rfl, ⟨hsz, hP, hK, hD, hN⟩, hao1, hao2⟩ := hv
  subst hsz
  have hx := B.exec
  have hb := B.bytes
  have hr := B.returns
  have hts : ∀ w ∈ ALL, w.before _ s = true := fun w h => atoms_spec (ws := ws_X5_init) B.pre w (List.mem_cons_of_mem _ h)
  have hown : s.vm.findClass RX5 = some m.cls := findClass_of_methodNamed B.named
  have hlocks := B.notSynchronized
  have hin2 : meth.name = "<init>" := (name_of_methodNamed B.named B.method).1
  have hD := hD.self (sz := s.heap.size)
  generalize hAe : va_A [(kr, .inr (5, [.null, .null, .null, .null, .null, .null, .null, .int (iI (0)), .int (iI (0)), .int (iI (0)), .int (iI (0)), .int (iI (0)), .int (iI (0)), .int (iI (0))]))] s.heap.size = A at hD ⊢
  have hA : ∀ q : Nat, s.heap.size ≤ q → A q := fun q h => by rw [← hAe]; exact Or.inr h
  have hS : va_S A s.heap s.heap [] := va_S.rf
  have hl := lv_entry ([.ref kr]) (n := 1) (Nat.le_of_ble_eq_true rfl)
  rw [lg_entry_eq]
  generalize (lg_sl ([.ref kr]) ++ List.replicate (1 - (lg_sl ([.ref kr])).length) Slot.unset).toArray = ls at hl ⊢
  have hl : lv_has ls 1 [(0, .ref kr)] := hl
  have hH := rfl (a := s.heap)
  refine lv_aload_n hx hb dX5_init_0 rfl (lv_at hl 0 rfl) ?_
  refine W.objInit hx hb hown (hts _ w_21) (hts _ w_22) (hts _ w_23) rfl (hml.trans hl.1.symm).symm rfl dX5_init_1 (Nat.le_of_ble_eq_true rfl) (Nat.le_of_ble_eq_true rfl) ?_
  refine W.eq (g2 := F0 m 4 ls []) rfl ?_
  refine lv_aload_n hx hb dX5_init_4 rfl (lv_at hl 0 rfl) ?_
  refine lv_iconst (v := iI (4)) hx hb dX5_init_5 rfl ?_
  refine my_newI hx hb hts hK hP hD hS hA 4 (by omega) (Nat.le_of_ble_eq_true rfl) (Nat.le_of_ble_eq_true rfl) dX5_init_6 (fun q1 H hP hD hS => ?_)
  have hP : va_P D vwCl [(kr, .inr (5, [.null, .null, .null, .null, .null, .null, .null, .int (iI (0)), .int (iI (0)), .int (iI (0)), .int (iI (0)), .int (iI (0)), .int (iI (0)), .int (iI (0))])), (q1, arI cs 4 (fun _ => 0))] H := hP
  have hD : va_D A [(kr, .inr (5, [.null, .null, .null, .null, .null, .null, .null, .int (iI (0)), .int (iI (0)), .int (iI (0)), .int (iI (0)), .int (iI (0)), .int (iI (0)), .int (iI (0))])), (q1, arI cs 4 (fun _ => 0))] := hD
  refine my_putF hx hb hts inAX5 tyX5_ok nmX5 hown hK hP hD hS 0 rfl rfl 0 (by decide) w_69 rfl rfl rfl hin2 rfl rfl (Nat.le_of_ble_eq_true rfl) dX5_init_8 (fun H locs hP hD hS => ?_)
  have hP : va_P D vwCl [(kr, .inr (5, [.ref q1, .null, .null, .null, .null, .null, .null, .int (iI (0)), .int (iI (0)), .int (iI (0)), .int (iI (0)), .int (iI (0)), .int (iI (0)), .int (iI (0))])), (q1, arI cs 4 (fun _ => 0))] H := hP
  have hD : va_D A [(kr, .inr (5, [.ref q1, .null, .null, .null, .null, .null, .null, .int (iI (0)), .int (iI (0)), .int (iI (0)), .int (iI (0)), .int (iI (0)), .int (iI (0)), .int (iI (0))])), (q1, arI cs 4 (fun _ => 0))] := hD
  refine lv_aload_n hx hb dX5_init_11 rfl (lv_at hl 0 rfl) ?_
  refine lv_iconst (v := iI (5)) hx hb dX5_init_12 rfl ?_
  refine my_newQ hx hb hown hts w_24 hao1 hK hP hD hS hA 2 rfl (by omega) 5 (by omega) (Nat.le_of_ble_eq_true rfl) (Nat.le_of_ble_eq_true rfl) dX5_init_13 (fun q2 H hP hD hS => ?_)
  have hP : va_P D vwCl [(kr, .inr (5, [.ref q1, .null, .null, .null, .null, .null, .null, .int (iI (0)), .int (iI (0)), .int (iI (0)), .int (iI (0)), .int (iI (0)), .int (iI (0)), .int (iI (0))])), (q1, arI cs 4 (fun _ => 0)), (q2, arQ cs 2 5 (fun _ => none))] H := hP
  have hD : va_D A [(kr, .inr (5, [.ref q1, .null, .null, .null, .null, .null, .null, .int (iI (0)), .int (iI (0)), .int (iI (0)), .int (iI (0)), .int (iI (0)), .int (iI (0)), .int (iI (0))])), (q1, arI cs 4 (fun _ => 0)), (q2, arQ cs 2 5 (fun _ => none))] := hD
  refine my_putF hx hb hts inAX5 tyX5_ok nmX5 hown hK hP hD hS 0 rfl rfl 1 (by decide) w_70 rfl rfl rfl hin2 rfl rfl (Nat.le_of_ble_eq_true rfl) dX5_init_16 (fun H locs hP hD hS => ?_)
  have hP : va_P D vwCl [(kr, .inr (5, [.ref q1, .ref q2, .null, .null, .null, .null, .null, .int (iI (0)), .int (iI (0)), .int (iI (0)), .int (iI (0)), .int (iI (0)), .int (iI (0)), .int (iI (0))])), (q1, arI cs 4 (fun _ => 0)), (q2, arQ cs 2 5 (fun _ => none))] H := hP
  have hD : va_D A [(kr, .inr (5, [.ref q1, .ref q2, .null, .null, .null, .null, .null, .int (iI (0)), .int (iI (0)), .int (iI (0)), .int (iI (0)), .int (iI (0)), .int (iI (0)), .int (iI (0))])), (q1, arI cs 4 (fun _ => 0)), (q2, arQ cs 2 5 (fun _ => none))] := hD
  refine lv_aload_n hx hb dX5_init_19 rfl (lv_at hl 0 rfl) ?_
  refine lv_bipush (v := iI (20)) hx hb dX5_init_20 (by decide) ?_
  refine my_newQ hx hb hown hts w_26 hao2 hK hP hD hS hA 3 rfl (by omega) 20 (by omega) (Nat.le_of_ble_eq_true rfl) (Nat.le_of_ble_eq_true rfl) dX5_init_22 (fun q3 H hP hD hS => ?_)
  have hP : va_P D vwCl [(kr, .inr (5, [.ref q1, .ref q2, .null, .null, .null, .null, .null, .int (iI (0)), .int (iI (0)), .int (iI (0)), .int (iI (0)), .int (iI (0)), .int (iI (0)), .int (iI (0))])), (q1, arI cs 4 (fun _ => 0)), (q2, arQ cs 2 5 (fun _ => none)), (q3, arQ cs 3 20 (fun _ => none))] H := hP
  have hD : va_D A [(kr, .inr (5, [.ref q1, .ref q2, .null, .null, .null, .null, .null, .int (iI (0)), .int (iI (0)), .int (iI (0)), .int (iI (0)), .int (iI (0)), .int (iI (0)), .int (iI (0))])), (q1, arI cs 4 (fun _ => 0)), (q2, arQ cs 2 5 (fun _ => none)), (q3, arQ cs 3 20 (fun _ => none))] := hD
  refine my_putF hx hb hts inAX5 tyX5_ok nmX5 hown hK hP hD hS 0 rfl rfl 2 (by decide) w_71 rfl rfl rfl hin2 rfl rfl (Nat.le_of_ble_eq_true rfl) dX5_init_25 (fun H locs hP hD hS => ?_)
  have hP : va_P D vwCl [(kr, .inr (5, [.ref q1, .ref q2, .ref q3, .null, .null, .null, .null, .int (iI (0)), .int (iI (0)), .int (iI (0)), .int (iI (0)), .int (iI (0)), .int (iI (0)), .int (iI (0))])), (q1, arI cs 4 (fun _ => 0)), (q2, arQ cs 2 5 (fun _ => none)), (q3, arQ cs 3 20 (fun _ => none))] H := hP
  have hD : va_D A [(kr, .inr (5, [.ref q1, .ref q2, .ref q3, .null, .null, .null, .null, .int (iI (0)), .int (iI (0)), .int (iI (0)), .int (iI (0)), .int (iI (0)), .int (iI (0)), .int (iI (0))])), (q1, arI cs 4 (fun _ => 0)), (q2, arQ cs 2 5 (fun _ => none)), (q3, arQ cs 3 20 (fun _ => none))] := hD
  refine lv_aload_n hx hb dX5_init_28 rfl (lv_at hl 0 rfl) ?_
  refine va_new (ci := 0) (fs := [.null]) (C := RX0) (T := TX0) (N := 1) hx hb hts inAX0 tyX0 tyX0_ok hown (hts _ w_28) (hts _ w_29) (hts _ w_2) hK hP hD hS hA rfl (fun j hj => by rcases (show j = 0 by omega) with rfl <;> rfl) (Nat.le_of_ble_eq_true rfl) (Nat.le_of_ble_eq_true rfl) dX5_init_29 (fun q4 H hP hD hS => ?_)
  have hP : va_P D vwCl [(kr, .inr (5, [.ref q1, .ref q2, .ref q3, .null, .null, .null, .null, .int (iI (0)), .int (iI (0)), .int (iI (0)), .int (iI (0)), .int (iI (0)), .int (iI (0)), .int (iI (0))])), (q1, arI cs 4 (fun _ => 0)), (q2, arQ cs 2 5 (fun _ => none)), (q3, arQ cs 3 20 (fun _ => none)), (q4, .inr (0, [.null]))] H := hP
  have hD : va_D A [(kr, .inr (5, [.ref q1, .ref q2, .ref q3, .null, .null, .null, .null, .int (iI (0)), .int (iI (0)), .int (iI (0)), .int (iI (0)), .int (iI (0)), .int (iI (0)), .int (iI (0))])), (q1, arI cs 4 (fun _ => 0)), (q2, arQ cs 2 5 (fun _ => none)), (q3, arQ cs 3 20 (fun _ => none)), (q4, .inr (0, [.null]))] := hD
  refine lv_dup hx hb dX5_init_32 rfl ?_
  have pk5 : picks [(kr, .inr (5, [.ref q1, .ref q2, .ref q3, .null, .null, .null, .null, .int (iI (0)), .int (iI (0)), .int (iI (0)), .int (iI (0)), .int (iI (0)), .int (iI (0)), .int (iI (0))])), (q1, arI cs 4 (fun _ => 0)), (q2, arQ cs 2 5 (fun _ => none)), (q3, arQ cs 3 20 (fun _ => none)), (q4, .inr (0, [.null]))] [4] [(q4, .inr (0, [.null]))] := ⟨rfl, trivial⟩
  have hFA := fA_sub hD [4] pk5 hS hA
  refine va_callv (va_runIN (As := []) (rest := [.ref q4, .ref kr]) ⟨hx, hb, hml, hown, hts⟩ (m_X0_init l D cs q4 _) (⟨va_cnB 0 hts (gA w_32) rfl rfl rfl (hN.2 _ (List.mem_of_getElem? (i := 0) rfl)) (hts _ w_2) (by decide +kernel) ⟨Nat.le_of_ble_eq_true rfl, Nat.le_of_ble_eq_true rfl⟩, rfl, hts _ w_31⟩) (PA_S hK hN hP hD [4] rfl pk5) rfl rfl hl.1 rfl (lv_room (Nat.le_of_ble_eq_true rfl)) dX5_init_33 ⟨Nat.le_of_ble_eq_true rfl, Nat.le_of_ble_eq_true rfl⟩) hS (fun q _ h => hFA q h) hFA (fun u6 t H1 locs ht hvm hw hB hz1 hk1 hS => ?_)
  rw [ht] at hB
  obtain ⟨hP, hD⟩ := my_joinA (W1 := [(q4, .inr (0, [.ref (u6 0)]))]) (Wn := [(u6 0, arI cs 1005 (fun _ => 0))]) hP hD [4] rfl pk5 rfl hk1 hB hFA
  generalize H1 = H at hP hS ⊢
  have hP : va_P D vwCl [(kr, .inr (5, [.ref q1, .ref q2, .ref q3, .null, .null, .null, .null, .int (iI (0)), .int (iI (0)), .int (iI (0)), .int (iI (0)), .int (iI (0)), .int (iI (0)), .int (iI (0))])), (q1, arI cs 4 (fun _ => 0)), (q2, arQ cs 2 5 (fun _ => none)), (q3, arQ cs 3 20 (fun _ => none)), (q4, .inr (0, [.ref (u6 0)])), (u6 0, arI cs 1005 (fun _ => 0))] H := hP
  have hD : va_D A [(kr, .inr (5, [.ref q1, .ref q2, .ref q3, .null, .null, .null, .null, .int (iI (0)), .int (iI (0)), .int (iI (0)), .int (iI (0)), .int (iI (0)), .int (iI (0)), .int (iI (0))])), (q1, arI cs 4 (fun _ => 0)), (q2, arQ cs 2 5 (fun _ => none)), (q3, arQ cs 3 20 (fun _ => none)), (q4, .inr (0, [.ref (u6 0)])), (u6 0, arI cs 1005 (fun _ => 0))] := hD
  refine my_putF hx hb hts inAX5 tyX5_ok nmX5 hown hK hP hD hS 0 rfl rfl 3 (by decide) w_72 rfl rfl rfl hin2 rfl rfl (Nat.le_of_ble_eq_true rfl) dX5_init_36 (fun H locs hP hD hS => ?_)
  have hP : va_P D vwCl [(kr, .inr (5, [.ref q1, .ref q2, .ref q3, .ref q4, .null, .null, .null, .int (iI (0)), .int (iI (0)), .int (iI (0)), .int (iI (0)), .int (iI (0)), .int (iI (0)), .int (iI (0))])), (q1, arI cs 4 (fun _ => 0)), (q2, arQ cs 2 5 (fun _ => none)), (q3, arQ cs 3 20 (fun _ => none)), (q4, .inr (0, [.ref (u6 0)])), (u6 0, arI cs 1005 (fun _ => 0))] H := hP
  have hD : va_D A [(kr, .inr (5, [.ref q1, .ref q2, .ref q3, .ref q4, .null, .null, .null, .int (iI (0)), .int (iI (0)), .int (iI (0)), .int (iI (0)), .int (iI (0)), .int (iI (0)), .int (iI (0))])), (q1, arI cs 4 (fun _ => 0)), (q2, arQ cs 2 5 (fun _ => none)), (q3, arQ cs 3 20 (fun _ => none)), (q4, .inr (0, [.ref (u6 0)])), (u6 0, arI cs 1005 (fun _ => 0))] := hD
  refine lv_aload_n hx hb dX5_init_39 rfl (lv_at hl 0 rfl) ?_
  refine va_new (ci := 0) (fs := [.null]) (C := RX0) (T := TX0) (N := 1) hx hb hts inAX0 tyX0 tyX0_ok hown (hts _ w_28) (hts _ w_29) (hts _ w_2) hK hP hD hS hA rfl (fun j hj => by rcases (show j = 0 by omega) with rfl <;> rfl) (Nat.le_of_ble_eq_true rfl) (Nat.le_of_ble_eq_true rfl) dX5_init_40 (fun q7 H hP hD hS => ?_)
  have hP : va_P D vwCl [(kr, .inr (5, [.ref q1, .ref q2, .ref q3, .ref q4, .null, .null, .null, .int (iI (0)), .int (iI (0)), .int (iI (0)), .int (iI (0)), .int (iI (0)), .int (iI (0)), .int (iI (0))])), (q1, arI cs 4 (fun _ => 0)), (q2, arQ cs 2 5 (fun _ => none)), (q3, arQ cs 3 20 (fun _ => none)), (q4, .inr (0, [.ref (u6 0)])), (u6 0, arI cs 1005 (fun _ => 0)), (q7, .inr (0, [.null]))] H := hP
  have hD : va_D A [(kr, .inr (5, [.ref q1, .ref q2, .ref q3, .ref q4, .null, .null, .null, .int (iI (0)), .int (iI (0)), .int (iI (0)), .int (iI (0)), .int (iI (0)), .int (iI (0)), .int (iI (0))])), (q1, arI cs 4 (fun _ => 0)), (q2, arQ cs 2 5 (fun _ => none)), (q3, arQ cs 3 20 (fun _ => none)), (q4, .inr (0, [.ref (u6 0)])), (u6 0, arI cs 1005 (fun _ => 0)), (q7, .inr (0, [.null]))] := hD
  refine lv_dup hx hb dX5_init_43 rfl ?_
  have pk8 : picks [(kr, .inr (5, [.ref q1, .ref q2, .ref q3, .ref q4, .null, .null, .null, .int (iI (0)), .int (iI (0)), .int (iI (0)), .int (iI (0)), .int (iI (0)), .int (iI (0)), .int (iI (0))])), (q1, arI cs 4 (fun _ => 0)), (q2, arQ cs 2 5 (fun _ => none)), (q3, arQ cs 3 20 (fun _ => none)), (q4, .inr (0, [.ref (u6 0)])), (u6 0, arI cs 1005 (fun _ => 0)), (q7, .inr (0, [.null]))] [6] [(q7, .inr (0, [.null]))] := ⟨rfl, trivial⟩
  have hFA := fA_sub hD [6] pk8 hS hA
  refine va_callv (va_runIN (As := []) (rest := [.ref q7, .ref kr]) ⟨hx, hb, hml, hown, hts⟩ (m_X0_init l D cs q7 _) (⟨va_cnB 0 hts (gA w_32) rfl rfl rfl (hN.2 _ (List.mem_of_getElem? (i := 0) rfl)) (hts _ w_2) (by decide +kernel) ⟨Nat.le_of_ble_eq_true rfl, Nat.le_of_ble_eq_true rfl⟩, rfl, hts _ w_31⟩) (PA_S hK hN hP hD [6] rfl pk8) rfl rfl hl.1 rfl (lv_room (Nat.le_of_ble_eq_true rfl)) dX5_init_44 ⟨Nat.le_of_ble_eq_true rfl, Nat.le_of_ble_eq_true rfl⟩) hS (fun q _ h => hFA q h) hFA (fun u9 t H1 locs ht hvm hw hB hz1 hk1 hS => ?_)
  rw [ht] at hB
  obtain ⟨hP, hD⟩ := my_joinA (W1 := [(q7, .inr (0, [.ref (u9 0)]))]) (Wn := [(u9 0, arI cs 1005 (fun _ => 0))]) hP hD [6] rfl pk8 rfl hk1 hB hFA
  generalize H1 = H at hP hS ⊢
  have hP : va_P D vwCl [(kr, .inr (5, [.ref q1, .ref q2, .ref q3, .ref q4, .null, .null, .null, .int (iI (0)), .int (iI (0)), .int (iI (0)), .int (iI (0)), .int (iI (0)), .int (iI (0)), .int (iI (0))])), (q1, arI cs 4 (fun _ => 0)), (q2, arQ cs 2 5 (fun _ => none)), (q3, arQ cs 3 20 (fun _ => none)), (q4, .inr (0, [.ref (u6 0)])), (u6 0, arI cs 1005 (fun _ => 0)), (q7, .inr (0, [.ref (u9 0)])), (u9 0, arI cs 1005 (fun _ => 0))] H := hP
  have hD : va_D A [(kr, .inr (5, [.ref q1, .ref q2, .ref q3, .ref q4, .null, .null, .null, .int (iI (0)), .int (iI (0)), .int (iI (0)), .int (iI (0)), .int (iI (0)), .int (iI (0)), .int (iI (0))])), (q1, arI cs 4 (fun _ => 0)), (q2, arQ cs 2 5 (fun _ => none)), (q3, arQ cs 3 20 (fun _ => none)), (q4, .inr (0, [.ref (u6 0)])), (u6 0, arI cs 1005 (fun _ => 0)), (q7, .inr (0, [.ref (u9 0)])), (u9 0, arI cs 1005 (fun _ => 0))] := hD
  refine my_putF hx hb hts inAX5 tyX5_ok nmX5 hown hK hP hD hS 0 rfl rfl 4 (by decide) w_73 rfl rfl rfl hin2 rfl rfl (Nat.le_of_ble_eq_true rfl) dX5_init_47 (fun H locs hP hD hS => ?_)
  have hP : va_P D vwCl [(kr, .inr (5, [.ref q1, .ref q2, .ref q3, .ref q4, .ref q7, .null, .null, .int (iI (0)), .int (iI (0)), .int (iI (0)), .int (iI (0)), .int (iI (0)), .int (iI (0)), .int (iI (0))])), (q1, arI cs 4 (fun _ => 0)), (q2, arQ cs 2 5 (fun _ => none)), (q3, arQ cs 3 20 (fun _ => none)), (q4, .inr (0, [.ref (u6 0)])), (u6 0, arI cs 1005 (fun _ => 0)), (q7, .inr (0, [.ref (u9 0)])), (u9 0, arI cs 1005 (fun _ => 0))] H := hP
  have hD : va_D A [(kr, .inr (5, [.ref q1, .ref q2, .ref q3, .ref q4, .ref q7, .null, .null, .int (iI (0)), .int (iI (0)), .int (iI (0)), .int (iI (0)), .int (iI (0)), .int (iI (0)), .int (iI (0))])), (q1, arI cs 4 (fun _ => 0)), (q2, arQ cs 2 5 (fun _ => none)), (q3, arQ cs 3 20 (fun _ => none)), (q4, .inr (0, [.ref (u6 0)])), (u6 0, arI cs 1005 (fun _ => 0)), (q7, .inr (0, [.ref (u9 0)])), (u9 0, arI cs 1005 (fun _ => 0))] := hD
  refine lv_aload_n hx hb dX5_init_50 rfl (lv_at hl 0 rfl) ?_
  refine va_new (ci := 2) (fs := [.null, .int (iI (0))]) (C := RX2) (T := TX2) (N := 2) hx hb hts inAX2 tyX2 tyX2_ok hown (hts _ w_39) (hts _ w_40) (hts _ w_3) hK hP hD hS hA rfl (fun j hj => by rcases (show j = 0 ∨ j = 1 by omega) with rfl | rfl <;> rfl) (Nat.le_of_ble_eq_true rfl) (Nat.le_of_ble_eq_true rfl) dX5_init_51 (fun q10 H hP hD hS => ?_)
  have hP : va_P D vwCl [(kr, .inr (5, [.ref q1, .ref q2, .ref q3, .ref q4, .ref q7, .null, .null, .int (iI (0)), .int (iI (0)), .int (iI (0)), .int (iI (0)), .int (iI (0)), .int (iI (0)), .int (iI (0))])), (q1, arI cs 4 (fun _ => 0)), (q2, arQ cs 2 5 (fun _ => none)), (q3, arQ cs 3 20 (fun _ => none)), (q4, .inr (0, [.ref (u6 0)])), (u6 0, arI cs 1005 (fun _ => 0)), (q7, .inr (0, [.ref (u9 0)])), (u9 0, arI cs 1005 (fun _ => 0)), (q10, .inr (2, [.null, .int (iI (0))]))] H := hP
  have hD : va_D A [(kr, .inr (5, [.ref q1, .ref q2, .ref q3, .ref q4, .ref q7, .null, .null, .int (iI (0)), .int (iI (0)), .int (iI (0)), .int (iI (0)), .int (iI (0)), .int (iI (0)), .int (iI (0))])), (q1, arI cs 4 (fun _ => 0)), (q2, arQ cs 2 5 (fun _ => none)), (q3, arQ cs 3 20 (fun _ => none)), (q4, .inr (0, [.ref (u6 0)])), (u6 0, arI cs 1005 (fun _ => 0)), (q7, .inr (0, [.ref (u9 0)])), (u9 0, arI cs 1005 (fun _ => 0)), (q10, .inr (2, [.null, .int (iI (0))]))] := hD
  refine lv_dup hx hb dX5_init_54 rfl ?_
  have pk11 : picks [(kr, .inr (5, [.ref q1, .ref q2, .ref q3, .ref q4, .ref q7, .null, .null, .int (iI (0)), .int (iI (0)), .int (iI (0)), .int (iI (0)), .int (iI (0)), .int (iI (0)), .int (iI (0))])), (q1, arI cs 4 (fun _ => 0)), (q2, arQ cs 2 5 (fun _ => none)), (q3, arQ cs 3 20 (fun _ => none)), (q4, .inr (0, [.ref (u6 0)])), (u6 0, arI cs 1005 (fun _ => 0)), (q7, .inr (0, [.ref (u9 0)])), (u9 0, arI cs 1005 (fun _ => 0)), (q10, .inr (2, [.null, .int (iI (0))]))] [8] [(q10, .inr (2, [.null, .int (iI (0))]))] := ⟨rfl, trivial⟩
  have hFA := fA_sub hD [8] pk11 hS hA
  refine va_callv (va_runIN (As := []) (rest := [.ref q10, .ref kr]) ⟨hx, hb, hml, hown, hts⟩ (m_X2_init l D cs q10 _) (⟨va_cnB 0 hts (gA w_43) rfl rfl rfl (hN.2 _ (List.mem_of_getElem? (i := 1) rfl)) (hts _ w_3) (by decide +kernel) ⟨Nat.le_of_ble_eq_true rfl, Nat.le_of_ble_eq_true rfl⟩, rfl, hts _ w_42⟩) (PA_S hK hN hP hD [8] rfl pk11) rfl rfl hl.1 rfl (lv_room (Nat.le_of_ble_eq_true rfl)) dX5_init_55 ⟨Nat.le_of_ble_eq_true rfl, Nat.le_of_ble_eq_true rfl⟩) hS (fun q _ h => hFA q h) hFA (fun u12 t H1 locs ht hvm hw hB hz1 hk1 hS => ?_)
  rw [ht] at hB
  obtain ⟨hP, hD⟩ := my_joinA (W1 := [(q10, .inr (2, [.ref (u12 0), .int (iI (0))]))]) (Wn := [(u12 0, arI cs 7 (fun _ => 0))]) hP hD [8] rfl pk11 rfl hk1 hB hFA
  generalize H1 = H at hP hS ⊢
  have hP : va_P D vwCl [(kr, .inr (5, [.ref q1, .ref q2, .ref q3, .ref q4, .ref q7, .null, .null, .int (iI (0)), .int (iI (0)), .int (iI (0)), .int (iI (0)), .int (iI (0)), .int (iI (0)), .int (iI (0))])), (q1, arI cs 4 (fun _ => 0)), (q2, arQ cs 2 5 (fun _ => none)), (q3, arQ cs 3 20 (fun _ => none)), (q4, .inr (0, [.ref (u6 0)])), (u6 0, arI cs 1005 (fun _ => 0)), (q7, .inr (0, [.ref (u9 0)])), (u9 0, arI cs 1005 (fun _ => 0)), (q10, .inr (2, [.ref (u12 0), .int (iI (0))])), (u12 0, arI cs 7 (fun _ => 0))] H := hP
  have hD : va_D A [(kr, .inr (5, [.ref q1, .ref q2, .ref q3, .ref q4, .ref q7, .null, .null, .int (iI (0)), .int (iI (0)), .int (iI (0)), .int (iI (0)), .int (iI (0)), .int (iI (0)), .int (iI (0))])), (q1, arI cs 4 (fun _ => 0)), (q2, arQ cs 2 5 (fun _ => none)), (q3, arQ cs 3 20 (fun _ => none)), (q4, .inr (0, [.ref (u6 0)])), (u6 0, arI cs 1005 (fun _ => 0)), (q7, .inr (0, [.ref (u9 0)])), (u9 0, arI cs 1005 (fun _ => 0)), (q10, .inr (2, [.ref (u12 0), .int (iI (0))])), (u12 0, arI cs 7 (fun _ => 0))] := hD
  refine my_putF hx hb hts inAX5 tyX5_ok nmX5 hown hK hP hD hS 0 rfl rfl 5 (by decide) w_74 rfl rfl rfl hin2 rfl rfl (Nat.le_of_ble_eq_true rfl) dX5_init_58 (fun H locs hP hD hS => ?_)
  have hP : va_P D vwCl [(kr, .inr (5, [.ref q1, .ref q2, .ref q3, .ref q4, .ref q7, .ref q10, .null, .int (iI (0)), .int (iI (0)), .int (iI (0)), .int (iI (0)), .int (iI (0)), .int (iI (0)), .int (iI (0))])), (q1, arI cs 4 (fun _ => 0)), (q2, arQ cs 2 5 (fun _ => none)), (q3, arQ cs 3 20 (fun _ => none)), (q4, .inr (0, [.ref (u6 0)])), (u6 0, arI cs 1005 (fun _ => 0)), (q7, .inr (0, [.ref (u9 0)])), (u9 0, arI cs 1005 (fun _ => 0)), (q10, .inr (2, [.ref (u12 0), .int (iI (0))])), (u12 0, arI cs 7 (fun _ => 0))] H := hP
  have hD : va_D A [(kr, .inr (5, [.ref q1, .ref q2, .ref q3, .ref q4, .ref q7, .ref q10, .null, .int (iI (0)), .int (iI (0)), .int (iI (0)), .int (iI (0)), .int (iI (0)), .int (iI (0)), .int (iI (0))])), (q1, arI cs 4 (fun _ => 0)), (q2, arQ cs 2 5 (fun _ => none)), (q3, arQ cs 3 20 (fun _ => none)), (q4, .inr (0, [.ref (u6 0)])), (u6 0, arI cs 1005 (fun _ => 0)), (q7, .inr (0, [.ref (u9 0)])), (u9 0, arI cs 1005 (fun _ => 0)), (q10, .inr (2, [.ref (u12 0), .int (iI (0))])), (u12 0, arI cs 7 (fun _ => 0))] := hD
  refine lv_aload_n hx hb dX5_init_61 rfl (lv_at hl 0 rfl) ?_
  refine va_new (ci := 4) (fs := [.null, .null, .int (iI (0))]) (C := RX4) (T := TX4) (N := 3) hx hb hts inAX4 tyX4 tyX4_ok hown (hts _ w_53) (hts _ w_54) (hts _ w_4) hK hP hD hS hA rfl (fun j hj => by rcases (show j = 0 ∨ j = 1 ∨ j = 2 by omega) with rfl | rfl | rfl <;> rfl) (Nat.le_of_ble_eq_true rfl) (Nat.le_of_ble_eq_true rfl) dX5_init_62 (fun q13 H hP hD hS => ?_)
  have hP : va_P D vwCl [(kr, .inr (5, [.ref q1, .ref q2, .ref q3, .ref q4, .ref q7, .ref q10, .null, .int (iI (0)), .int (iI (0)), .int (iI (0)), .int (iI (0)), .int (iI (0)), .int (iI (0)), .int (iI (0))])), (q1, arI cs 4 (fun _ => 0)), (q2, arQ cs 2 5 (fun _ => none)), (q3, arQ cs 3 20 (fun _ => none)), (q4, .inr (0, [.ref (u6 0)])), (u6 0, arI cs 1005 (fun _ => 0)), (q7, .inr (0, [.ref (u9 0)])), (u9 0, arI cs 1005 (fun _ => 0)), (q10, .inr (2, [.ref (u12 0), .int (iI (0))])), (u12 0, arI cs 7 (fun _ => 0)), (q13, .inr (4, [.null, .null, .int (iI (0))]))] H := hP
  have hD : va_D A [(kr, .inr (5, [.ref q1, .ref q2, .ref q3, .ref q4, .ref q7, .ref q10, .null, .int (iI (0)), .int (iI (0)), .int (iI (0)), .int (iI (0)), .int (iI (0)), .int (iI (0)), .int (iI (0))])), (q1, arI cs 4 (fun _ => 0)), (q2, arQ cs 2 5 (fun _ => none)), (q3, arQ cs 3 20 (fun _ => none)), (q4, .inr (0, [.ref (u6 0)])), (u6 0, arI cs 1005 (fun _ => 0)), (q7, .inr (0, [.ref (u9 0)])), (u9 0, arI cs 1005 (fun _ => 0)), (q10, .inr (2, [.ref (u12 0), .int (iI (0))])), (u12 0, arI cs 7 (fun _ => 0)), (q13, .inr (4, [.null, .null, .int (iI (0))]))] := hD
  refine lv_dup hx hb dX5_init_65 rfl ?_
  have pk14 : picks [(kr, .inr (5, [.ref q1, .ref q2, .ref q3, .ref q4, .ref q7, .ref q10, .null, .int (iI (0)), .int (iI (0)), .int (iI (0)), .int (iI (0)), .int (iI (0)), .int (iI (0)), .int (iI (0))])), (q1, arI cs 4 (fun _ => 0)), (q2, arQ cs 2 5 (fun _ => none)), (q3, arQ cs 3 20 (fun _ => none)), (q4, .inr (0, [.ref (u6 0)])), (u6 0, arI cs 1005 (fun _ => 0)), (q7, .inr (0, [.ref (u9 0)])), (u9 0, arI cs 1005 (fun _ => 0)), (q10, .inr (2, [.ref (u12 0), .int (iI (0))])), (u12 0, arI cs 7 (fun _ => 0)), (q13, .inr (4, [.null, .null, .int (iI (0))]))] [10] [(q13, .inr (4, [.null, .null, .int (iI (0))]))] := ⟨rfl, trivial⟩
  have hFA := fA_sub hD [10] pk14 hS hA
  refine va_callv (va_runIN (As := []) (rest := [.ref q13, .ref kr]) ⟨hx, hb, hml, hown, hts⟩ (m_X4_init l D cs q13 _) (⟨va_cnB 0 hts (gA w_57) rfl rfl rfl (hN.2 _ (List.mem_of_getElem? (i := 2) rfl)) (hts _ w_4) (by decide +kernel) ⟨Nat.le_of_ble_eq_true rfl, Nat.le_of_ble_eq_true rfl⟩, rfl, hts _ w_56⟩) (PA_S hK hN hP hD [10] rfl pk14) rfl rfl hl.1 rfl (lv_room (Nat.le_of_ble_eq_true rfl)) dX5_init_66 ⟨Nat.le_of_ble_eq_true rfl, Nat.le_of_ble_eq_true rfl⟩) hS (fun q _ h => hFA q h) hFA (fun u15 t H1 locs ht hvm hw hB hz1 hk1 hS => ?_)
  rw [ht] at hB
  obtain ⟨hP, hD⟩ := my_joinA (W1 := [(q13, .inr (4, [.ref (u15 0), .ref (u15 1), .int (iI (0))]))]) (Wn := [(u15 0, arI cs 4 (fun _ => 0)), (u15 1, arI cs 4 (fun _ => 0))]) hP hD [10] rfl pk14 rfl hk1 hB hFA
  generalize H1 = H at hP hS ⊢
  have hP : va_P D vwCl [(kr, .inr (5, [.ref q1, .ref q2, .ref q3, .ref q4, .ref q7, .ref q10, .null, .int (iI (0)), .int (iI (0)), .int (iI (0)), .int (iI (0)), .int (iI (0)), .int (iI (0)), .int (iI (0))])), (q1, arI cs 4 (fun _ => 0)), (q2, arQ cs 2 5 (fun _ => none)), (q3, arQ cs 3 20 (fun _ => none)), (q4, .inr (0, [.ref (u6 0)])), (u6 0, arI cs 1005 (fun _ => 0)), (q7, .inr (0, [.ref (u9 0)])), (u9 0, arI cs 1005 (fun _ => 0)), (q10, .inr (2, [.ref (u12 0), .int (iI (0))])), (u12 0, arI cs 7 (fun _ => 0)), (q13, .inr (4, [.ref (u15 0), .ref (u15 1), .int (iI (0))])), (u15 0, arI cs 4 (fun _ => 0)), (u15 1, arI cs 4 (fun _ => 0))] H := hP
  have hD : va_D A [(kr, .inr (5, [.ref q1, .ref q2, .ref q3, .ref q4, .ref q7, .ref q10, .null, .int (iI (0)), .int (iI (0)), .int (iI (0)), .int (iI (0)), .int (iI (0)), .int (iI (0)), .int (iI (0))])), (q1, arI cs 4 (fun _ => 0)), (q2, arQ cs 2 5 (fun _ => none)), (q3, arQ cs 3 20 (fun _ => none)), (q4, .inr (0, [.ref (u6 0)])), (u6 0, arI cs 1005 (fun _ => 0)), (q7, .inr (0, [.ref (u9 0)])), (u9 0, arI cs 1005 (fun _ => 0)), (q10, .inr (2, [.ref (u12 0), .int (iI (0))])), (u12 0, arI cs 7 (fun _ => 0)), (q13, .inr (4, [.ref (u15 0), .ref (u15 1), .int (iI (0))])), (u15 0, arI cs 4 (fun _ => 0)), (u15 1, arI cs 4 (fun _ => 0))] := hD
  refine my_putF hx hb hts inAX5 tyX5_ok nmX5 hown hK hP hD hS 0 rfl rfl 6 (by decide) w_75 rfl rfl rfl hin2 rfl rfl (Nat.le_of_ble_eq_true rfl) dX5_init_69 (fun H locs hP hD hS => ?_)
  have hP : va_P D vwCl [(kr, .inr (5, [.ref q1, .ref q2, .ref q3, .ref q4, .ref q7, .ref q10, .ref q13, .int (iI (0)), .int (iI (0)), .int (iI (0)), .int (iI (0)), .int (iI (0)), .int (iI (0)), .int (iI (0))])), (q1, arI cs 4 (fun _ => 0)), (q2, arQ cs 2 5 (fun _ => none)), (q3, arQ cs 3 20 (fun _ => none)), (q4, .inr (0, [.ref (u6 0)])), (u6 0, arI cs 1005 (fun _ => 0)), (q7, .inr (0, [.ref (u9 0)])), (u9 0, arI cs 1005 (fun _ => 0)), (q10, .inr (2, [.ref (u12 0), .int (iI (0))])), (u12 0, arI cs 7 (fun _ => 0)), (q13, .inr (4, [.ref (u15 0), .ref (u15 1), .int (iI (0))])), (u15 0, arI cs 4 (fun _ => 0)), (u15 1, arI cs 4 (fun _ => 0))] H := hP
  have hD : va_D A [(kr, .inr (5, [.ref q1, .ref q2, .ref q3, .ref q4, .ref q7, .ref q10, .ref q13, .int (iI (0)), .int (iI (0)), .int (iI (0)), .int (iI (0)), .int (iI (0)), .int (iI (0)), .int (iI (0))])), (q1, arI cs 4 (fun _ => 0)), (q2, arQ cs 2 5 (fun _ => none)), (q3, arQ cs 3 20 (fun _ => none)), (q4, .inr (0, [.ref (u6 0)])), (u6 0, arI cs 1005 (fun _ => 0)), (q7, .inr (0, [.ref (u9 0)])), (u9 0, arI cs 1005 (fun _ => 0)), (q10, .inr (2, [.ref (u12 0), .int (iI (0))])), (u12 0, arI cs 7 (fun _ => 0)), (q13, .inr (4, [.ref (u15 0), .ref (u15 1), .int (iI (0))])), (u15 0, arI cs 4 (fun _ => 0)), (u15 1, arI cs 4 (fun _ => 0))] := hD
  refine lv_aload_n hx hb dX5_init_72 rfl (lv_at hl 0 rfl) ?_
  refine lv_iconst (v := iI (0)) hx hb dX5_init_73 rfl ?_
  refine my_put hx hb hts inAX5 tyX5_ok nmX5 hown hK hP hD hS 0 rfl rfl 7 (by decide) w_76 rfl rfl rfl (Nat.le_of_ble_eq_true rfl) dX5_init_74 (fun H locs hP hD hS => ?_)
  have hP : va_P D vwCl [(kr, .inr (5, [.ref q1, .ref q2, .ref q3, .ref q4, .ref q7, .ref q10, .ref q13, .int (iI (0)), .int (iI (0)), .int (iI (0)), .int (iI (0)), .int (iI (0)), .int (iI (0)), .int (iI (0))])), (q1, arI cs 4 (fun _ => 0)), (q2, arQ cs 2 5 (fun _ => none)), (q3, arQ cs 3 20 (fun _ => none)), (q4, .inr (0, [.ref (u6 0)])), (u6 0, arI cs 1005 (fun _ => 0)), (q7, .inr (0, [.ref (u9 0)])), (u9 0, arI cs 1005 (fun _ => 0)), (q10, .inr (2, [.ref (u12 0), .int (iI (0))])), (u12 0, arI cs 7 (fun _ => 0)), (q13, .inr (4, [.ref (u15 0), .ref (u15 1), .int (iI (0))])), (u15 0, arI cs 4 (fun _ => 0)), (u15 1, arI cs 4 (fun _ => 0))] H := hP
  have hD : va_D A [(kr, .inr (5, [.ref q1, .ref q2, .ref q3, .ref q4, .ref q7, .ref q10, .ref q13, .int (iI (0)), .int (iI (0)), .int (iI (0)), .int (iI (0)), .int (iI (0)), .int (iI (0)), .int (iI (0))])), (q1, arI cs 4 (fun _ => 0)), (q2, arQ cs 2 5 (fun _ => none)), (q3, arQ cs 3 20 (fun _ => none)), (q4, .inr (0, [.ref (u6 0)])), (u6 0, arI cs 1005 (fun _ => 0)), (q7, .inr (0, [.ref (u9 0)])), (u9 0, arI cs 1005 (fun _ => 0)), (q10, .inr (2, [.ref (u12 0), .int (iI (0))])), (u12 0, arI cs 7 (fun _ => 0)), (q13, .inr (4, [.ref (u15 0), .ref (u15 1), .int (iI (0))])), (u15 0, arI cs 4 (fun _ => 0)), (u15 1, arI cs 4 (fun _ => 0))] := hD
  refine lv_aload_n hx hb dX5_init_77 rfl (lv_at hl 0 rfl) ?_
  refine lv_iconst (v := iI (0)) hx hb dX5_init_78 rfl ?_
  refine my_put hx hb hts inAX5 tyX5_ok nmX5 hown hK hP hD hS 0 rfl rfl 8 (by decide) w_77 rfl rfl rfl (Nat.le_of_ble_eq_true rfl) dX5_init_79 (fun H locs hP hD hS => ?_)
  have hP : va_P D vwCl [(kr, .inr (5, [.ref q1, .ref q2, .ref q3, .ref q4, .ref q7, .ref q10, .ref q13, .int (iI (0)), .int (iI (0)), .int (iI (0)), .int (iI (0)), .int (iI (0)), .int (iI (0)), .int (iI (0))])), (q1, arI cs 4 (fun _ => 0)), (q2, arQ cs 2 5 (fun _ => none)), (q3, arQ cs 3 20 (fun _ => none)), (q4, .inr (0, [.ref (u6 0)])), (u6 0, arI cs 1005 (fun _ => 0)), (q7, .inr (0, [.ref (u9 0)])), (u9 0, arI cs 1005 (fun _ => 0)), (q10, .inr (2, [.ref (u12 0), .int (iI (0))])), (u12 0, arI cs 7 (fun _ => 0)), (q13, .inr (4, [.ref (u15 0), .ref (u15 1), .int (iI (0))])), (u15 0, arI cs 4 (fun _ => 0)), (u15 1, arI cs 4 (fun _ => 0))] H := hP
  have hD : va_D A [(kr, .inr (5, [.ref q1, .ref q2, .ref q3, .ref q4, .ref q7, .ref q10, .ref q13, .int (iI (0)), .int (iI (0)), .int (iI (0)), .int (iI (0)), .int (iI (0)), .int (iI (0)), .int (iI (0))])), (q1, arI cs 4 (fun _ => 0)), (q2, arQ cs 2 5 (fun _ => none)), (q3, arQ cs 3 20 (fun _ => none)), (q4, .inr (0, [.ref (u6 0)])), (u6 0, arI cs 1005 (fun _ => 0)), (q7, .inr (0, [.ref (u9 0)])), (u9 0, arI cs 1005 (fun _ => 0)), (q10, .inr (2, [.ref (u12 0), .int (iI (0))])), (u12 0, arI cs 7 (fun _ => 0)), (q13, .inr (4, [.ref (u15 0), .ref (u15 1), .int (iI (0))])), (u15 0, arI cs 4 (fun _ => 0)), (u15 1, arI cs 4 (fun _ => 0))] := hD
  refine lv_aload_n hx hb dX5_init_82 rfl (lv_at hl 0 rfl) ?_
  refine lv_iconst (v := iI (0)) hx hb dX5_init_83 rfl ?_
  refine my_put hx hb hts inAX5 tyX5_ok nmX5 hown hK hP hD hS 0 rfl rfl 9 (by decide) w_78 rfl rfl rfl (Nat.le_of_ble_eq_true rfl) dX5_init_84 (fun H locs hP hD hS => ?_)
  have hP : va_P D vwCl [(kr, .inr (5, [.ref q1, .ref q2, .ref q3, .ref q4, .ref q7, .ref q10, .ref q13, .int (iI (0)), .int (iI (0)), .int (iI (0)), .int (iI (0)), .int (iI (0)), .int (iI (0)), .int (iI (0))])), (q1, arI cs 4 (fun _ => 0)), (q2, arQ cs 2 5 (fun _ => none)), (q3, arQ cs 3 20 (fun _ => none)), (q4, .inr (0, [.ref (u6 0)])), (u6 0, arI cs 1005 (fun _ => 0)), (q7, .inr (0, [.ref (u9 0)])), (u9 0, arI cs 1005 (fun _ => 0)), (q10, .inr (2, [.ref (u12 0), .int (iI (0))])), (u12 0, arI cs 7 (fun _ => 0)), (q13, .inr (4, [.ref (u15 0), .ref (u15 1), .int (iI (0))])), (u15 0, arI cs 4 (fun _ => 0)), (u15 1, arI cs 4 (fun _ => 0))] H := hP
  have hD : va_D A [(kr, .inr (5, [.ref q1, .ref q2, .ref q3, .ref q4, .ref q7, .ref q10, .ref q13, .int (iI (0)), .int (iI (0)), .int (iI (0)), .int (iI (0)), .int (iI (0)), .int (iI (0)), .int (iI (0))])), (q1, arI cs 4 (fun _ => 0)), (q2, arQ cs 2 5 (fun _ => none)), (q3, arQ cs 3 20 (fun _ => none)), (q4, .inr (0, [.ref (u6 0)])), (u6 0, arI cs 1005 (fun _ => 0)), (q7, .inr (0, [.ref (u9 0)])), (u9 0, arI cs 1005 (fun _ => 0)), (q10, .inr (2, [.ref (u12 0), .int (iI (0))])), (u12 0, arI cs 7 (fun _ => 0)), (q13, .inr (4, [.ref (u15 0), .ref (u15 1), .int (iI (0))])), (u15 0, arI cs 4 (fun _ => 0)), (u15 1, arI cs 4 (fun _ => 0))] := hD
  refine lv_aload_n hx hb dX5_init_87 rfl (lv_at hl 0 rfl) ?_
  refine lv_iconst (v := iI (0)) hx hb dX5_init_88 rfl ?_
  refine my_put hx hb hts inAX5 tyX5_ok nmX5 hown hK hP hD hS 0 rfl rfl 10 (by decide) w_79 rfl rfl rfl (Nat.le_of_ble_eq_true rfl) dX5_init_89 (fun H locs hP hD hS => ?_)
  have hP : va_P D vwCl [(kr, .inr (5, [.ref q1, .ref q2, .ref q3, .ref q4, .ref q7, .ref q10, .ref q13, .int (iI (0)), .int (iI (0)), .int (iI (0)), .int (iI (0)), .int (iI (0)), .int (iI (0)), .int (iI (0))])), (q1, arI cs 4 (fun _ => 0)), (q2, arQ cs 2 5 (fun _ => none)), (q3, arQ cs 3 20 (fun _ => none)), (q4, .inr (0, [.ref (u6 0)])), (u6 0, arI cs 1005 (fun _ => 0)), (q7, .inr (0, [.ref (u9 0)])), (u9 0, arI cs 1005 (fun _ => 0)), (q10, .inr (2, [.ref (u12 0), .int (iI (0))])), (u12 0, arI cs 7 (fun _ => 0)), (q13, .inr (4, [.ref (u15 0), .ref (u15 1), .int (iI (0))])), (u15 0, arI cs 4 (fun _ => 0)), (u15 1, arI cs 4 (fun _ => 0))] H := hP
  have hD : va_D A [(kr, .inr (5, [.ref q1, .ref q2, .ref q3, .ref q4, .ref q7, .ref q10, .ref q13, .int (iI (0)), .int (iI (0)), .int (iI (0)), .int (iI (0)), .int (iI (0)), .int (iI (0)), .int (iI (0))])), (q1, arI cs 4 (fun _ => 0)), (q2, arQ cs 2 5 (fun _ => none)), (q3, arQ cs 3 20 (fun _ => none)), (q4, .inr (0, [.ref (u6 0)])), (u6 0, arI cs 1005 (fun _ => 0)), (q7, .inr (0, [.ref (u9 0)])), (u9 0, arI cs 1005 (fun _ => 0)), (q10, .inr (2, [.ref (u12 0), .int (iI (0))])), (u12 0, arI cs 7 (fun _ => 0)), (q13, .inr (4, [.ref (u15 0), .ref (u15 1), .int (iI (0))])), (u15 0, arI cs 4 (fun _ => 0)), (u15 1, arI cs 4 (fun _ => 0))] := hD
  refine lv_aload_n hx hb dX5_init_92 rfl (lv_at hl 0 rfl) ?_
  refine lv_bipush (v := iI (90)) hx hb dX5_init_93 (by decide) ?_
  refine my_put hx hb hts inAX5 tyX5_ok nmX5 hown hK hP hD hS 0 rfl rfl 11 (by decide) w_80 rfl rfl rfl (Nat.le_of_ble_eq_true rfl) dX5_init_95 (fun H locs hP hD hS => ?_)
  have hP : va_P D vwCl [(kr, .inr (5, [.ref q1, .ref q2, .ref q3, .ref q4, .ref q7, .ref q10, .ref q13, .int (iI (0)), .int (iI (0)), .int (iI (0)), .int (iI (0)), .int (iI (90)), .int (iI (0)), .int (iI (0))])), (q1, arI cs 4 (fun _ => 0)), (q2, arQ cs 2 5 (fun _ => none)), (q3, arQ cs 3 20 (fun _ => none)), (q4, .inr (0, [.ref (u6 0)])), (u6 0, arI cs 1005 (fun _ => 0)), (q7, .inr (0, [.ref (u9 0)])), (u9 0, arI cs 1005 (fun _ => 0)), (q10, .inr (2, [.ref (u12 0), .int (iI (0))])), (u12 0, arI cs 7 (fun _ => 0)), (q13, .inr (4, [.ref (u15 0), .ref (u15 1), .int (iI (0))])), (u15 0, arI cs 4 (fun _ => 0)), (u15 1, arI cs 4 (fun _ => 0))] H := hP
  have hD : va_D A [(kr, .inr (5, [.ref q1, .ref q2, .ref q3, .ref q4, .ref q7, .ref q10, .ref q13, .int (iI (0)), .int (iI (0)), .int (iI (0)), .int (iI (0)), .int (iI (90)), .int (iI (0)), .int (iI (0))])), (q1, arI cs 4 (fun _ => 0)), (q2, arQ cs 2 5 (fun _ => none)), (q3, arQ cs 3 20 (fun _ => none)), (q4, .inr (0, [.ref (u6 0)])), (u6 0, arI cs 1005 (fun _ => 0)), (q7, .inr (0, [.ref (u9 0)])), (u9 0, arI cs 1005 (fun _ => 0)), (q10, .inr (2, [.ref (u12 0), .int (iI (0))])), (u12 0, arI cs 7 (fun _ => 0)), (q13, .inr (4, [.ref (u15 0), .ref (u15 1), .int (iI (0))])), (u15 0, arI cs 4 (fun _ => 0)), (u15 1, arI cs 4 (fun _ => 0))] := hD
  refine lv_aload_n hx hb dX5_init_98 rfl (lv_at hl 0 rfl) ?_
  refine lv_bipush (v := iI (20)) hx hb dX5_init_99 (by decide) ?_
  refine my_put hx hb hts inAX5 tyX5_ok nmX5 hown hK hP hD hS 0 rfl rfl 12 (by decide) w_81 rfl rfl rfl (Nat.le_of_ble_eq_true rfl) dX5_init_101 (fun H locs hP hD hS => ?_)
  have hP : va_P D vwCl [(kr, .inr (5, [.ref q1, .ref q2, .ref q3, .ref q4, .ref q7, .ref q10, .ref q13, .int (iI (0)), .int (iI (0)), .int (iI (0)), .int (iI (0)), .int (iI (90)), .int (iI (20)), .int (iI (0))])), (q1, arI cs 4 (fun _ => 0)), (q2, arQ cs 2 5 (fun _ => none)), (q3, arQ cs 3 20 (fun _ => none)), (q4, .inr (0, [.ref (u6 0)])), (u6 0, arI cs 1005 (fun _ => 0)), (q7, .inr (0, [.ref (u9 0)])), (u9 0, arI cs 1005 (fun _ => 0)), (q10, .inr (2, [.ref (u12 0), .int (iI (0))])), (u12 0, arI cs 7 (fun _ => 0)), (q13, .inr (4, [.ref (u15 0), .ref (u15 1), .int (iI (0))])), (u15 0, arI cs 4 (fun _ => 0)), (u15 1, arI cs 4 (fun _ => 0))] H := hP
  have hD : va_D A [(kr, .inr (5, [.ref q1, .ref q2, .ref q3, .ref q4, .ref q7, .ref q10, .ref q13, .int (iI (0)), .int (iI (0)), .int (iI (0)), .int (iI (0)), .int (iI (90)), .int (iI (20)), .int (iI (0))])), (q1, arI cs 4 (fun _ => 0)), (q2, arQ cs 2 5 (fun _ => none)), (q3, arQ cs 3 20 (fun _ => none)), (q4, .inr (0, [.ref (u6 0)])), (u6 0, arI cs 1005 (fun _ => 0)), (q7, .inr (0, [.ref (u9 0)])), (u9 0, arI cs 1005 (fun _ => 0)), (q10, .inr (2, [.ref (u12 0), .int (iI (0))])), (u12 0, arI cs 7 (fun _ => 0)), (q13, .inr (4, [.ref (u15 0), .ref (u15 1), .int (iI (0))])), (u15 0, arI cs 4 (fun _ => 0)), (u15 1, arI cs 4 (fun _ => 0))] := hD
  refine lv_aload_n hx hb dX5_init_104 rfl (lv_at hl 0 rfl) ?_
  refine lv_bipush (v := iI (10)) hx hb dX5_init_105 (by decide) ?_
  refine my_put hx hb hts inAX5 tyX5_ok nmX5 hown hK hP hD hS 0 rfl rfl 13 (by decide) w_82 rfl rfl rfl (Nat.le_of_ble_eq_true rfl) dX5_init_107 (fun H locs hP hD hS => ?_)
  have hP : va_P D vwCl [(kr, .inr (5, [.ref q1, .ref q2, .ref q3, .ref q4, .ref q7, .ref q10, .ref q13, .int (iI (0)), .int (iI (0)), .int (iI (0)), .int (iI (0)), .int (iI (90)), .int (iI (20)), .int (iI (10))])), (q1, arI cs 4 (fun _ => 0)), (q2, arQ cs 2 5 (fun _ => none)), (q3, arQ cs 3 20 (fun _ => none)), (q4, .inr (0, [.ref (u6 0)])), (u6 0, arI cs 1005 (fun _ => 0)), (q7, .inr (0, [.ref (u9 0)])), (u9 0, arI cs 1005 (fun _ => 0)), (q10, .inr (2, [.ref (u12 0), .int (iI (0))])), (u12 0, arI cs 7 (fun _ => 0)), (q13, .inr (4, [.ref (u15 0), .ref (u15 1), .int (iI (0))])), (u15 0, arI cs 4 (fun _ => 0)), (u15 1, arI cs 4 (fun _ => 0))] H := hP
  have hD : va_D A [(kr, .inr (5, [.ref q1, .ref q2, .ref q3, .ref q4, .ref q7, .ref q10, .ref q13, .int (iI (0)), .int (iI (0)), .int (iI (0)), .int (iI (0)), .int (iI (90)), .int (iI (20)), .int (iI (10))])), (q1, arI cs 4 (fun _ => 0)), (q2, arQ cs 2 5 (fun _ => none)), (q3, arQ cs 3 20 (fun _ => none)), (q4, .inr (0, [.ref (u6 0)])), (u6 0, arI cs 1005 (fun _ => 0)), (q7, .inr (0, [.ref (u9 0)])), (u9 0, arI cs 1005 (fun _ => 0)), (q10, .inr (2, [.ref (u12 0), .int (iI (0))])), (u12 0, arI cs 7 (fun _ => 0)), (q13, .inr (4, [.ref (u15 0), .ref (u15 1), .int (iI (0))])), (u15 0, arI cs 4 (fun _ => 0)), (u15 1, arI cs 4 (fun _ => 0))] := hD
  subst hAe
  refine W.widen (k := 12) (n := 2061) (by omega) (by omega) ?_
  exact W.vret hx hb hr (fun t ht hW => ⟨⟨(fun k => ([q1, q2, q3, q4, u6 0, q7, u9 0, q10, u12 0, q13, u15 0, u15 1] : List Nat).getD k 0), rfl, trivial, by show va_P D vwCl _ t.heap; rw [ht]; exact hP, hD⟩, hS.F ht⟩) hS.2.2 dX5_init_110
