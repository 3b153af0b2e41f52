abbrev ws_X0_on : List Cond := Cond.code yX0_on cX0_on 2 (some .int) :: ALL
set_option maxHeartbeats 4000000 in
set_option maxRecDepth 100000 in
/-- units booked at a day -/
theorem m_X0_on (l : Launch) (D : va_G) (cs : Nat → ClassId) (kb ub : Nat) (fb : Nat → Int) (dz : Nat) (hd : dz < 1005) : Met l yX0_on ws_X0_on ({ frames := 0, cells := 0, slots := 0, locals := 0 }) (va_Pc [.ref kb, .int (iI (((dz : Nat) : Int)))] (PC D cs [(kb, .inr (0, [.ref ub])), (ub, arI cs 1005 fb)])) (va_Qi (fun r (_ : Unit) => r = iI (fb dz)) (fun _ _ => True) noA) 0 0 noA := by
  refine Met.ofW (cc := cX0_on) (maxL := 2) (ret := (some .int)) (by decide +kernel) rfl ?_
  intro p e s m args below meth c s₁ B hml hv
  obtain ⟨rfl, hP, hK, hD, hN⟩ := hv
  have hx := B.exec
  have hb := B.bytes
  have hr := B.returns
  have hts : ∀ w ∈ ALL, w.before _ s = true := fun w h => atoms_spec (ws := ws_X0_on) B.pre w (List.mem_cons_of_mem _ h)
  have hown : s.vm.findClass RX0 = some m.cls := findClass_of_methodNamed B.named
  have hlocks := B.notSynchronized
  have hS : va_S noA s.heap s.heap [] := va_S.rf
  generalize inW [(kb, .inr (0, [.ref ub])), (ub, arI cs 1005 fb)] = A at hD
  have hl := lv_entry ([.ref kb, .int (iI (((dz : Nat) : Int)))]) (n := 2) (Nat.le_of_ble_eq_true rfl)
  rw [lg_entry_eq]
  generalize (lg_sl ([.ref kb, .int (iI (((dz : Nat) : Int)))]) ++ List.replicate (2 - (lg_sl ([.ref kb, .int (iI (((dz : Nat) : Int)))])).length) Slot.unset).toArray = ls at hl ⊢
  have hl : lv_has ls 2 [(0, .ref kb), (1, .int (iI (((dz : Nat) : Int))))] := hl
  have hH := rfl (a := s.heap)
  refine lv_iload_n hx hb dX0_on_0 rfl (lv_at hl 1 rfl) ?_
  refine my_if_lt (tgt := 22) hx hb (by omega) dX0_on_1 (by decide) (fun bh1 => (by omega : False).elim) (fun bh1 => ?_)
  refine lv_iload_n hx hb dX0_on_4 rfl (lv_at hl 1 rfl) ?_
  refine lv_aload_n hx hb dX0_on_5 rfl (lv_at hl 0 rfl) ?_
  refine my_get hx hb hts inAX0 hown hK hP 0 rfl rfl 0 (by decide) w_34 rfl rfl dX0_on_6 ?_
  refine my_alenI hx hb hK hP 1 rfl dX0_on_9 ?_
  refine my_icmp_ge (tgt := 22) hx hb (by omega) dX0_on_10 (by decide) (fun bh2 => (by omega : False).elim) (fun bh2 => ?_)
  refine lv_aload_n hx hb dX0_on_13 rfl (lv_at hl 0 rfl) ?_
  refine my_get hx hb hts inAX0 hown hK hP 0 rfl rfl 0 (by decide) w_34 rfl rfl dX0_on_14 ?_
  refine lv_iload_n hx hb dX0_on_17 rfl (lv_at hl 1 rfl) ?_
  refine my_iald hx hb hK hP 1 rfl (by omega) (k := dz) (Int.toNat_natCast _) dX0_on_18 ?_
  refine lv_goto (tgt := 23) hx hb dX0_on_19 (by decide) ?_
  have hres : iI (fb dz) = iI (fb dz) := congrArg iI (by
      first | rfl | omega)
  exact W.iret hx hb hr (fun t ht hW => ⟨⟨_, (), rfl, hres, trivial⟩, hS.F ht⟩) hS.2.2 dX0_on_23

abbrev ws_X0_add : List Cond := Cond.code yX0_add cX0_add 3 (none : Option FieldType) :: ALL
set_option maxHeartbeats 4000000 in
set_option maxRecDepth 100000 in
/-- books more units at a day -/
theorem m_X0_add (l : Launch) (D : va_G) (cs : Nat → ClassId) (kb ub : Nat) (fb : Nat → Int) (dz : Nat) (vz : Int) (hd : dz < 1005) : Met l yX0_add ws_X0_add ({ frames := 0, cells := 0, slots := 0, locals := 0 }) (va_Pc [.ref kb, .int (iI (((dz : Nat) : Int))), .int (iI (vz))] (PC D cs [(kb, .inr (0, [.ref ub])), (ub, arI cs 1005 fb)])) (va_Qv (fun (_ : Unit) => True) (fun _ t => va_P D vwCl [(kb, .inr (0, [.ref ub])), (ub, arI cs 1005 (upI fb dz (fb dz + vz)))] t.heap) (inW [(kb, .inr (0, [.ref ub])), (ub, arI cs 1005 fb)])) 0 0 (inW [(kb, .inr (0, [.ref ub])), (ub, arI cs 1005 fb)]) := by
  refine Met.ofW (cc := cX0_add) (maxL := 3) (ret := ((none : Option FieldType))) (by decide +kernel) rfl ?_
  intro p e s m args below meth c s₁ B hml hv
  obtain ⟨rfl, hP, hK, hD, hN⟩ := hv
  have hx := B.exec
  have hb := B.bytes
  have hr := B.returns
  have hts : ∀ w ∈ ALL, w.before _ s = true := fun w h => atoms_spec (ws := ws_X0_add) B.pre w (List.mem_cons_of_mem _ h)
  have hown : s.vm.findClass RX0 = some m.cls := findClass_of_methodNamed B.named
  have hlocks := B.notSynchronized
  generalize hAe : inW [(kb, .inr (0, [.ref ub])), (ub, arI cs 1005 fb)] = A at hD ⊢
  have hS : va_S A s.heap s.heap [] := va_S.rf
  have hl := lv_entry ([.ref kb, .int (iI (((dz : Nat) : Int))), .int (iI (vz))]) (n := 3) (Nat.le_of_ble_eq_true rfl)
  rw [lg_entry_eq]
  generalize (lg_sl ([.ref kb, .int (iI (((dz : Nat) : Int))), .int (iI (vz))]) ++ List.replicate (3 - (lg_sl ([.ref kb, .int (iI (((dz : Nat) : Int))), .int (iI (vz))])).length) Slot.unset).toArray = ls at hl ⊢
  have hl : lv_has ls 3 [(0, .ref kb), (1, .int (iI (((dz : Nat) : Int)))), (2, .int (iI (vz)))] := hl
  have hH := rfl (a := s.heap)
  refine lv_iload_n hx hb dX0_add_0 rfl (lv_at hl 1 rfl) ?_
  refine my_if_lt (tgt := 23) hx hb (by omega) dX0_add_1 (by decide) (fun bh1 => (by omega : False).elim) (fun bh1 => ?_)
  refine lv_iload_n hx hb dX0_add_4 rfl (lv_at hl 1 rfl) ?_
  refine lv_aload_n hx hb dX0_add_5 rfl (lv_at hl 0 rfl) ?_
  refine my_get hx hb hts inAX0 hown hK hP 0 rfl rfl 0 (by decide) w_34 rfl rfl dX0_add_6 ?_
  refine my_alenI hx hb hK hP 1 rfl dX0_add_9 ?_
  refine my_icmp_ge (tgt := 23) hx hb (by omega) dX0_add_10 (by decide) (fun bh2 => (by omega : False).elim) (fun bh2 => ?_)
  refine lv_aload_n hx hb dX0_add_13 rfl (lv_at hl 0 rfl) ?_
  refine my_get hx hb hts inAX0 hown hK hP 0 rfl rfl 0 (by decide) w_34 rfl rfl dX0_add_14 ?_
  refine lv_iload_n hx hb dX0_add_17 rfl (lv_at hl 1 rfl) ?_
  refine lv_dup2_11 hx hb dX0_add_18 rfl rfl ?_
  refine my_iald hx hb hK hP 1 rfl (by omega) (k := dz) (Int.toNat_natCast _) dX0_add_19 ?_
  refine lv_iload_n hx hb dX0_add_20 rfl (lv_at hl 2 rfl) ?_
  refine my_iadd (z := (fb dz) + vz) hx hb dX0_add_21 (rfl) ?_
  refine my_iast hx hb hK hP hD hS 1 rfl (by omega) (k := dz) (Int.toNat_natCast _) dX0_add_22 (fun H locs hP hD hS => ?_)
  have hP : va_P D vwCl [(kb, .inr (0, [.ref ub])), (ub, arI cs 1005 (upI fb dz ((fb dz) + vz)))] H := hP
  have hD : va_D A [(kb, .inr (0, [.ref ub])), (ub, arI cs 1005 (upI fb dz ((fb dz) + vz)))] := hD
  have hWe : ([(kb, .inr (0, [.ref ub])), (ub, arI cs 1005 (upI fb dz ((fb dz) + vz)))] : va_W) = [(kb, .inr (0, [.ref ub])), (ub, arI cs 1005 (upI fb dz (fb dz + vz)))] := by
    first | rfl | (congr 1; omega)
  rw [hWe] at hP
  subst hAe
  exact W.vret hx hb hr (fun t ht hW => ⟨⟨(), rfl, trivial, by show va_P D vwCl _ t.heap; rw [ht]; exact hP⟩, hS.F ht⟩) hS.2.2 dX0_add_23

abbrev ws_X0_sumUpTo : List Cond := Cond.code yX0_sumUpTo cX0_sumUpTo 4 (some .int) :: ALL
set_option maxHeartbeats 4000000 in
set_option maxRecDepth 100000 in
/-- the sum of the units up to a day -/
theorem m_X0_sumUpTo (l : Launch) (D : va_G) (cs : Nat → ClassId) (kb ub : Nat) (fb : Nat → Int) (dz : Nat) (hd : dz < 1005) : Met l yX0_sumUpTo ws_X0_sumUpTo ({ frames := 0, cells := 0, slots := 0, locals := 0 }) (va_Pc [.ref kb, .int (iI (((dz : Nat) : Int)))] (PC D cs [(kb, .inr (0, [.ref ub])), (ub, arI cs 1005 fb)])) (va_Qi (fun r (_ : Unit) => r = iI (smI fb (dz + 1))) (fun _ _ => True) noA) 0 0 noA := by
  refine Met.ofW (cc := cX0_sumUpTo) (maxL := 4) (ret := (some .int)) (by decide +kernel) rfl ?_
  intro p e s m args below meth c s₁ B hml hv
  obtain ⟨rfl, hP, hK, hD, hN⟩ := hv
  have hx := B.exec
  have hb := B.bytes
  have hr := B.returns
  have hts : ∀ w ∈ ALL, w.before _ s = true := fun w h => atoms_spec (ws := ws_X0_sumUpTo) B.pre w (List.mem_cons_of_mem _ h)
  have hown : s.vm.findClass RX0 = some m.cls := findClass_of_methodNamed B.named
  have hlocks := B.notSynchronized
  have hS : va_S noA s.heap s.heap [] := va_S.rf
  generalize inW [(kb, .inr (0, [.ref ub])), (ub, arI cs 1005 fb)] = A at hD
  have hl := lv_entry ([.ref kb, .int (iI (((dz : Nat) : Int)))]) (n := 4) (Nat.le_of_ble_eq_true rfl)
  rw [lg_entry_eq]
  generalize (lg_sl ([.ref kb, .int (iI (((dz : Nat) : Int)))]) ++ List.replicate (4 - (lg_sl ([.ref kb, .int (iI (((dz : Nat) : Int)))])).length) Slot.unset).toArray = ls at hl ⊢
  have hl : lv_has ls 4 [(0, .ref kb), (1, .int (iI (((dz : Nat) : Int))))] := hl
  have hH := rfl (a := s.heap)
  refine lv_iconst (v := iI (0)) hx hb dX0_sumUpTo_0 rfl ?_
  refine lv_istore_n (lv' := [(2, .int (iI (0))), (0, .ref kb), (1, .int (iI (((dz : Nat) : Int))))]) hx hb dX0_sumUpTo_1 rfl hl (by decide) rfl (fun ls hl => ?_)
  refine lv_iconst (v := iI (0)) hx hb dX0_sumUpTo_2 rfl ?_
  refine lv_istore_n (lv' := [(3, .int (iI (0))), (2, .int (iI (0))), (0, .ref kb), (1, .int (iI (((dz : Nat) : Int))))]) hx hb dX0_sumUpTo_3 rfl hl (by decide) rfl (fun ls hl => ?_)
  suffices KL : ∀ (n : Nat) (i : Nat), i ≤ dz + 1 → dz + 1 - i < n → ∀ (H : Heap) (locs : List Loc) (ls : Array Slot), va_P D vwCl [(kb, .inr (0, [.ref ub])), (ub, arI cs 1005 fb)] H → va_S noA s.heap H locs → lv_has ls 4 [(3, .int (iI (((i : Nat) : Int)))), (2, .int (iI (smI fb i))), (0, .ref kb), (1, .int (iI (((dz : Nat) : Int))))] → W p l e _ s m _ below meth c H locs 0 0 _ (F0 m 4 ls []) from
    KL _ 0 (Nat.zero_le _) (Nat.lt_succ_self _) _ _ _ hP hS (lv_sub hl [0, 1, 2, 3] rfl)
  intro n
  induction n with
  | zero => intro i hi h0; exact absurd h0 (Nat.not_lt_zero _)
  | succ n ih =>
    intro i hi hmu H locs ls hP hS hl
    refine lv_iload_n hx hb dX0_sumUpTo_4 rfl (lv_at hl 0 rfl) ?_
    refine lv_iload_n hx hb dX0_sumUpTo_5 rfl (lv_at hl 3 rfl) ?_
    refine my_icmp_gt (tgt := 33) hx hb (by omega) dX0_sumUpTo_6 (by decide) (fun bh1 => ?_) (fun bh1 => ?_)
    · refine lv_iload_n hx hb dX0_sumUpTo_33 rfl (lv_at hl 1 rfl) ?_
      have hres : iI (smI fb i) = iI (smI fb (dz + 1)) := congrArg iI (by
          have e : i = dz + 1 := by omega
          rw [e])
      exact W.iret hx hb hr (fun t ht hW => ⟨⟨_, (), rfl, hres, trivial⟩, hS.F ht⟩) hS.2.2 dX0_sumUpTo_34
    · refine lv_iload_n hx hb dX0_sumUpTo_9 rfl (lv_at hl 0 rfl) ?_
      refine lv_aload_n hx hb dX0_sumUpTo_10 rfl (lv_at hl 2 rfl) ?_
      refine my_get hx hb hts inAX0 hown hK hP 0 rfl rfl 0 (by decide) w_34 rfl rfl dX0_sumUpTo_11 ?_
      refine my_alenI hx hb hK hP 1 rfl dX0_sumUpTo_14 ?_
      refine my_icmp_ge (tgt := 33) hx hb (by omega) dX0_sumUpTo_15 (by decide) (fun bh2 => (by omega : False).elim) (fun bh2 => ?_)
      refine lv_iload_n hx hb dX0_sumUpTo_18 rfl (lv_at hl 1 rfl) ?_
      refine lv_aload_n hx hb dX0_sumUpTo_19 rfl (lv_at hl 2 rfl) ?_
      refine my_get hx hb hts inAX0 hown hK hP 0 rfl rfl 0 (by decide) w_34 rfl rfl dX0_sumUpTo_20 ?_
      refine lv_iload_n hx hb dX0_sumUpTo_23 rfl (lv_at hl 0 rfl) ?_
      refine my_iald hx hb hK hP 1 rfl (by omega) (k := i) (Int.toNat_natCast _) dX0_sumUpTo_24 ?_
      refine my_iadd (z := (smI fb i) + (fb i)) hx hb dX0_sumUpTo_25 (rfl) ?_
      refine lv_istore_n (lv' := [(2, .int (iI ((smI fb i) + (fb i)))), (3, .int (iI (((i : Nat) : Int)))), (0, .ref kb), (1, .int (iI (((dz : Nat) : Int))))]) hx hb dX0_sumUpTo_26 rfl hl (by decide) rfl (fun ls hl => ?_)
      refine lv_iinc (v := iI (((i : Nat) : Int) + 1)) (lv' := [(3, .int (iI (((i : Nat) : Int) + 1))), (2, .int (iI ((smI fb i) + (fb i)))), (0, .ref kb), (1, .int (iI (((dz : Nat) : Int))))]) hx hb dX0_sumUpTo_27 hl (k := 1) rfl (by rw [show (((i : Nat) : Int) + 1 : Int) = ((i : Nat) : Int) + 1 from rfl]; exact iI_add _ _) (by decide) rfl (fun ls hl => ?_)
      refine lv_goto (tgt := 4) hx hb dX0_sumUpTo_30 (by decide) ?_
      have e1 : ((i : Nat) : Int) + 1 = ((i + 1 : Nat) : Int) := by omega
      have e2 : smI fb i + fb i = smI fb (i + 1) := rfl
      rw [e1, e2] at hl
      exact ih (i + 1) (by omega) (by omega) _ _ _ hP hS (lv_sub hl [0, 1, 2, 3] rfl)

abbrev ws_X1_hasPromotion : List Cond := Cond.code yX1_hasPromotion cX1_hasPromotion 2 (some .boolean) :: ALL
set_option maxHeartbeats 4000000 in
set_option maxRecDepth 100000 in
theorem m_X1_hasPromotion (l : Launch) (D : va_G) (cs : Nat → ClassId) (hi ti go pr : Nat) (pk fs st : Int) (ub : Nat) (fb : Nat → Int) (dz : Nat) (hd : dz < 1005) (hf : 0 ≤ fb dz ∧ fb dz ≤ 1) : Met l yX1_hasPromotion ws_X1_hasPromotion ({ frames := 1, cells := 0, slots := 0, locals := 21 }) (va_Pc [.ref hi, .int (iI (((dz : Nat) : Int)))] (PC D cs [(hi, .inr (1, [.int (iI (pk)), .int (iI (fs)), .ref ti, .ref go, .ref pr, .int (iI (st))])), (pr, .inr (0, [.ref ub])), (ub, arI cs 1005 fb)])) (va_Qi (fun r (_ : Unit) => r = iI (fb dz)) (fun _ _ => True) noA) 0 0 noA := by
  refine Met.ofW (cc := cX1_hasPromotion) (maxL := 2) (ret := (some .boolean)) (by decide +kernel) rfl ?_
  intro p e s m args below meth c s₁ B hml hv
  obtain ⟨rfl, hP, hK, hD, hN⟩ := hv
  have hx := B.exec
  have hb := B.bytes
  have hr := B.returns
  have hts : ∀ w ∈ ALL, w.before _ s = true := fun w h => atoms_spec (ws := ws_X1_hasPromotion) B.pre w (List.mem_cons_of_mem _ h)
  have hown : s.vm.findClass RX1 = some m.cls := findClass_of_methodNamed B.named
  have hlocks := B.notSynchronized
  have hS : va_S noA s.heap s.heap [] := va_S.rf
  generalize inW [(hi, .inr (1, [.int (iI (pk)), .int (iI (fs)), .ref ti, .ref go, .ref pr, .int (iI (st))])), (pr, .inr (0, [.ref ub])), (ub, arI cs 1005 fb)] = A at hD
  have hl := lv_entry ([.ref hi, .int (iI (((dz : Nat) : Int)))]) (n := 2) (Nat.le_of_ble_eq_true rfl)
  rw [lg_entry_eq]
  generalize (lg_sl ([.ref hi, .int (iI (((dz : Nat) : Int)))]) ++ List.replicate (2 - (lg_sl ([.ref hi, .int (iI (((dz : Nat) : Int)))])).length) Slot.unset).toArray = ls at hl ⊢
  have hl : lv_has ls 2 [(0, .ref hi), (1, .int (iI (((dz : Nat) : Int))))] := hl
  have hH := rfl (a := s.heap)
  refine lv_aload_n hx hb dX1_hasPromotion_0 rfl (lv_at hl 0 rfl) ?_
  refine my_get hx hb hts inAX1 hown hK hP 0 rfl rfl 4 (by decide) w_252 rfl rfl dX1_hasPromotion_1 ?_
  refine lv_iload_n hx hb dX1_hasPromotion_4 rfl (lv_at hl 1 rfl) ?_
  have pk1 : picks [(hi, .inr (1, [.int (iI (pk)), .int (iI (fs)), .ref ti, .ref go, .ref pr, .int (iI (st))])), (pr, .inr (0, [.ref ub])), (ub, arI cs 1005 fb)] [1, 2] [(pr, .inr (0, [.ref ub])), (ub, arI cs 1005 fb)] := ⟨rfl, rfl, trivial⟩
  refine va_calli (va_runV (As := [.int (iI (((dz : Nat) : Int)))]) (rest := []) ⟨hx, hb, hml, hown, hts⟩ (m_X0_on l D cs pr ub fb dz (by omega)) (cwV 1 hts (gV w_447 w_125 w_126 w_2 w_127) rfl rfl rfl (by decide +kernel) ⟨Nat.le_of_ble_eq_true rfl, Nat.le_of_ble_eq_true rfl⟩) (PC_V hK hN hP hD [1, 2] rfl pk1 rfl rfl) rfl rfl hl.1 rfl (lv_room (Nat.le_of_ble_eq_true rfl)) dX1_hasPromotion_5 ⟨Nat.le_of_ble_eq_true rfl, Nat.le_of_ble_eq_true rfl⟩) hS (fun _ _ h => False.elim h) (fun _ h => False.elim h) (fun r u t H locs ht hvm hw hB hz1 hk1 hS => ?_)
  subst hw
  have hP := P_kept hP hk1
  refine my_if_le (tgt := 15) hx hb (by omega) dX1_hasPromotion_8 (by decide) (fun bh2 => ?_) (fun bh2 => ?_)
  · refine lv_iconst (v := iI (0)) hx hb dX1_hasPromotion_15 rfl ?_
    have hres : iI (0) = iI (fb dz) := congrArg iI (by
        omega)
    exact W.zret hx hb hr (by decide) (fun t ht hW => ⟨⟨_, (), rfl, hres, trivial⟩, hS.F ht⟩) hS.2.2 dX1_hasPromotion_16
  · refine lv_iconst (v := iI (1)) hx hb dX1_hasPromotion_11 rfl ?_
    refine lv_goto (tgt := 16) hx hb dX1_hasPromotion_12 (by decide) ?_
    have hres : iI (1) = iI (fb dz) := congrArg iI (by
        omega)
    exact W.zret hx hb hr (by decide) (fun t ht hW => ⟨⟨_, (), rfl, hres, trivial⟩, hS.F ht⟩) hS.2.2 dX1_hasPromotion_16

abbrev ws_X1_takeIn : List Cond := Cond.code yX1_takeIn cX1_takeIn 3 (none : Option FieldType) :: ALL
set_option maxHeartbeats 4000000 in
set_option maxRecDepth 100000 in
theorem m_X1_takeIn (l : Launch) (D : va_G) (cs : Nat → ClassId) (hi ti go pr : Nat) (pk fs st : Int) (ub : Nat) (fb : Nat → Int) (dz : Nat) (vz : Int) (hd : dz < 1005) : Met l yX1_takeIn ws_X1_takeIn ({ frames := 1, cells := 0, slots := 0, locals := 22 }) (va_Pc [.ref hi, .int (iI (((dz : Nat) : Int))), .int (iI (vz))] (PC D cs [(hi, .inr (1, [.int (iI (pk)), .int (iI (fs)), .ref ti, .ref go, .ref pr, .int (iI (st))])), (ti, .inr (0, [.ref ub])), (ub, arI cs 1005 fb)])) (va_Qv (fun (_ : Unit) => True) (fun _ t => va_P D vwCl [(hi, .inr (1, [.int (iI (pk)), .int (iI (fs)), .ref ti, .ref go, .ref pr, .int (iI (st + vz))])), (ti, .inr (0, [.ref ub])), (ub, arI cs 1005 (upI fb dz (fb dz + vz)))] t.heap) (inW [(hi, .inr (1, [.int (iI (pk)), .int (iI (fs)), .ref ti, .ref go, .ref pr, .int (iI (st))])), (ti, .inr (0, [.ref ub])), (ub, arI cs 1005 fb)])) 0 0 (inW [(hi, .inr (1, [.int (iI (pk)), .int (iI (fs)), .ref ti, .ref go, .ref pr, .int (iI (st))])), (ti, .inr (0, [.ref ub])), (ub, arI cs 1005 fb)]) := by
  refine Met.ofW (cc := cX1_takeIn) (maxL := 3) (ret := ((none : Option FieldType))) (by decide +kernel) rfl ?_
  intro p e s m args below meth c s₁ B hml hv
  obtain ⟨rfl, hP, hK, hD, hN⟩ := hv
  have hx := B.exec
  have hb := B.bytes
  have hr := B.returns
  have hts : ∀ w ∈ ALL, w.before _ s = true := fun w h => atoms_spec (ws := ws_X1_takeIn) B.pre w (List.mem_cons_of_mem _ h)
  have hown : s.vm.findClass RX1 = some m.cls := findClass_of_methodNamed B.named
  have hlocks := B.notSynchronized
  generalize hAe : inW [(hi, .inr (1, [.int (iI (pk)), .int (iI (fs)), .ref ti, .ref go, .ref pr, .int (iI (st))])), (ti, .inr (0, [.ref ub])), (ub, arI cs 1005 fb)] = A at hD ⊢
  have hS : va_S A s.heap s.heap [] := va_S.rf
  have hl := lv_entry ([.ref hi, .int (iI (((dz : Nat) : Int))), .int (iI (vz))]) (n := 3) (Nat.le_of_ble_eq_true rfl)
  rw [lg_entry_eq]
  generalize (lg_sl ([.ref hi, .int (iI (((dz : Nat) : Int))), .int (iI (vz))]) ++ List.replicate (3 - (lg_sl ([.ref hi, .int (iI (((dz : Nat) : Int))), .int (iI (vz))])).length) Slot.unset).toArray = ls at hl ⊢
  have hl : lv_has ls 3 [(0, .ref hi), (1, .int (iI (((dz : Nat) : Int)))), (2, .int (iI (vz)))] := hl
  have hH := rfl (a := s.heap)
  refine lv_aload_n hx hb dX1_takeIn_0 rfl (lv_at hl 0 rfl) ?_
  refine my_get hx hb hts inAX1 hown hK hP 0 rfl rfl 2 (by decide) w_250 rfl rfl dX1_takeIn_1 ?_
  refine lv_iload_n hx hb dX1_takeIn_4 rfl (lv_at hl 1 rfl) ?_
  refine lv_iload_n hx hb dX1_takeIn_5 rfl (lv_at hl 2 rfl) ?_
  have pk1 : picks [(hi, .inr (1, [.int (iI (pk)), .int (iI (fs)), .ref ti, .ref go, .ref pr, .int (iI (st))])), (ti, .inr (0, [.ref ub])), (ub, arI cs 1005 fb)] [1, 2] [(ti, .inr (0, [.ref ub])), (ub, arI cs 1005 fb)] := ⟨rfl, rfl, trivial⟩
  refine va_callv (va_runV (As := [.int (iI (((dz : Nat) : Int))), .int (iI (vz))]) (rest := []) ⟨hx, hb, hml, hown, hts⟩ (m_X0_add l D cs ti ub fb dz vz (by omega)) (cwV 2 hts (gV w_414 w_415 w_416 w_2 w_417) rfl rfl rfl (by decide +kernel) ⟨Nat.le_of_ble_eq_true rfl, Nat.le_of_ble_eq_true rfl⟩) (PC_V hK hN hP hD [1, 2] rfl pk1 rfl rfl) rfl rfl hl.1 rfl (lv_room (Nat.le_of_ble_eq_true rfl)) dX1_takeIn_6 ⟨Nat.le_of_ble_eq_true rfl, Nat.le_of_ble_eq_true rfl⟩) hS (fun q _ h => inW_sub hD [1, 2] pk1 q h) (fun q h => inW_sub hD [1, 2] pk1 q h) (fun u t H locs ht hvm hw hB hz1 hk1 hS => ?_)
  rw [ht] at hB
  obtain ⟨hP, hD⟩ := my_join (W1 := [(ti, .inr (0, [.ref ub])), (ub, arI cs 1005 (upI fb dz (fb dz + vz)))]) hP hD [1, 2] rfl pk1 rfl hk1 hB
  have hP : va_P D vwCl [(hi, .inr (1, [.int (iI (pk)), .int (iI (fs)), .ref ti, .ref go, .ref pr, .int (iI (st))])), (ti, .inr (0, [.ref ub])), (ub, arI cs 1005 (upI fb dz (fb dz + vz)))] H := hP
  have hD : va_D A [(hi, .inr (1, [.int (iI (pk)), .int (iI (fs)), .ref ti, .ref go, .ref pr, .int (iI (st))])), (ti, .inr (0, [.ref ub])), (ub, arI cs 1005 (upI fb dz (fb dz + vz)))] := hD
  refine lv_aload_n hx hb dX1_takeIn_9 rfl (lv_at hl 0 rfl) ?_
  refine lv_dup hx hb dX1_takeIn_10 rfl ?_
  refine my_get hx hb hts inAX1 hown hK hP 0 rfl rfl 5 (by decide) w_254 rfl rfl dX1_takeIn_11 ?_
  refine lv_iload_n hx hb dX1_takeIn_14 rfl (lv_at hl 2 rfl) ?_
  refine my_iadd (z := st + vz) hx hb dX1_takeIn_15 (rfl) ?_
  refine my_put hx hb hts inAX1 tyX1_ok nmX1 hown hK hP hD hS 0 rfl rfl 5 (by decide) w_254 rfl rfl rfl (Nat.le_of_ble_eq_true rfl) dX1_takeIn_16 (fun H locs hP hD hS => ?_)
  have hP : va_P D vwCl [(hi, .inr (1, [.int (iI (pk)), .int (iI (fs)), .ref ti, .ref go, .ref pr, .int (iI (st + vz))])), (ti, .inr (0, [.ref ub])), (ub, arI cs 1005 (upI fb dz (fb dz + vz)))] H := hP
  have hD : va_D A [(hi, .inr (1, [.int (iI (pk)), .int (iI (fs)), .ref ti, .ref go, .ref pr, .int (iI (st + vz))])), (ti, .inr (0, [.ref ub])), (ub, arI cs 1005 (upI fb dz (fb dz + vz)))] := hD
  subst hAe
  exact W.vret hx hb hr (fun t ht hW => ⟨⟨(), rfl, trivial, by show va_P D vwCl _ t.heap; rw [ht]; exact hP⟩, hS.F ht⟩) hS.2.2 dX1_takeIn_19

abbrev ws_X1_giveOut : List Cond := Cond.code yX1_giveOut cX1_giveOut 3 (none : Option FieldType) :: ALL
set_option maxHeartbeats 4000000 in
set_option maxRecDepth 100000 in
theorem m_X1_giveOut (l : Launch) (D : va_G) (cs : Nat → ClassId) (hi ti go pr : Nat) (pk fs st : Int) (ub : Nat) (fb : Nat → Int) (dz : Nat) (vz : Int) (hd : dz < 1005) : Met l yX1_giveOut ws_X1_giveOut ({ frames := 1, cells := 0, slots := 0, locals := 22 }) (va_Pc [.ref hi, .int (iI (((dz : Nat) : Int))), .int (iI (vz))] (PC D cs [(hi, .inr (1, [.int (iI (pk)), .int (iI (fs)), .ref ti, .ref go, .ref pr, .int (iI (st))])), (go, .inr (0, [.ref ub])), (ub, arI cs 1005 fb)])) (va_Qv (fun (_ : Unit) => True) (fun _ t => va_P D vwCl [(hi, .inr (1, [.int (iI (pk)), .int (iI (fs)), .ref ti, .ref go, .ref pr, .int (iI (st - vz))])), (go, .inr (0, [.ref ub])), (ub, arI cs 1005 (upI fb dz (fb dz + vz)))] t.heap) (inW [(hi, .inr (1, [.int (iI (pk)), .int (iI (fs)), .ref ti, .ref go, .ref pr, .int (iI (st))])), (go, .inr (0, [.ref ub])), (ub, arI cs 1005 fb)])) 0 0 (inW [(hi, .inr (1, [.int (iI (pk)), .int (iI (fs)), .ref ti, .ref go, .ref pr, .int (iI (st))])), (go, .inr (0, [.ref ub])), (ub, arI cs 1005 fb)]) := by
  refine Met.ofW (cc := cX1_giveOut) (maxL := 3) (ret := ((none : Option FieldType))) (by decide +kernel) rfl ?_
  intro p e s m args below meth c s₁ B hml hv
  obtain ⟨rfl, hP, hK, hD, hN⟩ := hv
  have hx := B.exec
  have hb := B.bytes
  have hr := B.returns
  have hts : ∀ w ∈ ALL, w.before _ s = true := fun w h => atoms_spec (ws := ws_X1_giveOut) B.pre w (List.mem_cons_of_mem _ h)
  have hown : s.vm.findClass RX1 = some m.cls := findClass_of_methodNamed B.named
  have hlocks := B.notSynchronized
  generalize hAe : inW [(hi, .inr (1, [.int (iI (pk)), .int (iI (fs)), .ref ti, .ref go, .ref pr, .int (iI (st))])), (go, .inr (0, [.ref ub])), (ub, arI cs 1005 fb)] = A at hD ⊢
  have hS : va_S A s.heap s.heap [] := va_S.rf
  have hl := lv_entry ([.ref hi, .int (iI (((dz : Nat) : Int))), .int (iI (vz))]) (n := 3) (Nat.le_of_ble_eq_true rfl)
  rw [lg_entry_eq]
  generalize (lg_sl ([.ref hi, .int (iI (((dz : Nat) : Int))), .int (iI (vz))]) ++ List.replicate (3 - (lg_sl ([.ref hi, .int (iI (((dz : Nat) : Int))), .int (iI (vz))])).length) Slot.unset).toArray = ls at hl ⊢
  have hl : lv_has ls 3 [(0, .ref hi), (1, .int (iI (((dz : Nat) : Int)))), (2, .int (iI (vz)))] := hl
  have hH := rfl (a := s.heap)
  refine lv_aload_n hx hb dX1_giveOut_0 rfl (lv_at hl 0 rfl) ?_
  refine my_get hx hb hts inAX1 hown hK hP 0 rfl rfl 3 (by decide) w_251 rfl rfl dX1_giveOut_1 ?_
  refine lv_iload_n hx hb dX1_giveOut_4 rfl (lv_at hl 1 rfl) ?_
  refine lv_iload_n hx hb dX1_giveOut_5 rfl (lv_at hl 2 rfl) ?_
  have pk1 : picks [(hi, .inr (1, [.int (iI (pk)), .int (iI (fs)), .ref ti, .ref go, .ref pr, .int (iI (st))])), (go, .inr (0, [.ref ub])), (ub, arI cs 1005 fb)] [1, 2] [(go, .inr (0, [.ref ub])), (ub, arI cs 1005 fb)] := ⟨rfl, rfl, trivial⟩
  refine va_callv (va_runV (As := [.int (iI (((dz : Nat) : Int))), .int (iI (vz))]) (rest := []) ⟨hx, hb, hml, hown, hts⟩ (m_X0_add l D cs go ub fb dz vz (by omega)) (cwV 2 hts (gV w_414 w_415 w_416 w_2 w_417) rfl rfl rfl (by decide +kernel) ⟨Nat.le_of_ble_eq_true rfl, Nat.le_of_ble_eq_true rfl⟩) (PC_V hK hN hP hD [1, 2] rfl pk1 rfl rfl) rfl rfl hl.1 rfl (lv_room (Nat.le_of_ble_eq_true rfl)) dX1_giveOut_6 ⟨Nat.le_of_ble_eq_true rfl, Nat.le_of_ble_eq_true rfl⟩) hS (fun q _ h => inW_sub hD [1, 2] pk1 q h) (fun q h => inW_sub hD [1, 2] pk1 q h) (fun u t H locs ht hvm hw hB hz1 hk1 hS => ?_)
  rw [ht] at hB
  obtain ⟨hP, hD⟩ := my_join (W1 := [(go, .inr (0, [.ref ub])), (ub, arI cs 1005 (upI fb dz (fb dz + vz)))]) hP hD [1, 2] rfl pk1 rfl hk1 hB
  have hP : va_P D vwCl [(hi, .inr (1, [.int (iI (pk)), .int (iI (fs)), .ref ti, .ref go, .ref pr, .int (iI (st))])), (go, .inr (0, [.ref ub])), (ub, arI cs 1005 (upI fb dz (fb dz + vz)))] H := hP
  have hD : va_D A [(hi, .inr (1, [.int (iI (pk)), .int (iI (fs)), .ref ti, .ref go, .ref pr, .int (iI (st))])), (go, .inr (0, [.ref ub])), (ub, arI cs 1005 (upI fb dz (fb dz + vz)))] := hD
  refine lv_aload_n hx hb dX1_giveOut_9 rfl (lv_at hl 0 rfl) ?_
  refine lv_dup hx hb dX1_giveOut_10 rfl ?_
  refine my_get hx hb hts inAX1 hown hK hP 0 rfl rfl 5 (by decide) w_254 rfl rfl dX1_giveOut_11 ?_
  refine lv_iload_n hx hb dX1_giveOut_14 rfl (lv_at hl 2 rfl) ?_
  refine my_isub (z := st - vz) hx hb dX1_giveOut_15 (rfl) ?_
  refine my_put hx hb hts inAX1 tyX1_ok nmX1 hown hK hP hD hS 0 rfl rfl 5 (by decide) w_254 rfl rfl rfl (Nat.le_of_ble_eq_true rfl) dX1_giveOut_16 (fun H locs hP hD hS => ?_)
  have hP : va_P D vwCl [(hi, .inr (1, [.int (iI (pk)), .int (iI (fs)), .ref ti, .ref go, .ref pr, .int (iI (st - vz))])), (go, .inr (0, [.ref ub])), (ub, arI cs 1005 (upI fb dz (fb dz + vz)))] H := hP
  have hD : va_D A [(hi, .inr (1, [.int (iI (pk)), .int (iI (fs)), .ref ti, .ref go, .ref pr, .int (iI (st - vz))])), (go, .inr (0, [.ref ub])), (ub, arI cs 1005 (upI fb dz (fb dz + vz)))] := hD
  subst hAe
  exact W.vret hx hb hr (fun t ht hW => ⟨⟨(), rfl, trivial, by show va_P D vwCl _ t.heap; rw [ht]; exact hP⟩, hS.F ht⟩) hS.2.2 dX1_giveOut_19

abbrev ws_X1_wholePacks : List Cond := Cond.code yX1_wholePacks cX1_wholePacks 1 (some .int) :: ALL
set_option maxHeartbeats 4000000 in
set_option maxRecDepth 100000 in
theorem m_X1_wholePacks (l : Launch) (D : va_G) (cs : Nat → ClassId) (hi ti go pr : Nat) (pk fs st : Int) (hp : 0 < pk ∧ pk ≤ 50) (hs : 0 ≤ st ∧ st < 2147483648) : Met l yX1_wholePacks ws_X1_wholePacks ({ frames := 0, cells := 0, slots := 0, locals := 0 }) (va_Pc [.ref hi] (PC D cs [(hi, .inr (1, [.int (iI (pk)), .int (iI (fs)), .ref ti, .ref go, .ref pr, .int (iI (st))]))])) (va_Qi (fun r (_ : Unit) => r = iI (st / pk)) (fun _ _ => True) noA) 0 0 noA := by
  refine Met.ofW (cc := cX1_wholePacks) (maxL := 1) (ret := (some .int)) (by decide +kernel) rfl ?_
  intro p e s m args below meth c s₁ B hml hv
  obtain ⟨rfl, hP, hK, hD, hN⟩ := hv
  have hx := B.exec
  have hb := B.bytes
  have hr := B.returns
  have hts : ∀ w ∈ ALL, w.before _ s = true := fun w h => atoms_spec (ws := ws_X1_wholePacks) B.pre w (List.mem_cons_of_mem _ h)
  have hown : s.vm.findClass RX1 = some m.cls := findClass_of_methodNamed B.named
  have hlocks := B.notSynchronized
  have hS : va_S noA s.heap s.heap [] := va_S.rf
  generalize inW [(hi, .inr (1, [.int (iI (pk)), .int (iI (fs)), .ref ti, .ref go, .ref pr, .int (iI (st))]))] = A at hD
  have hl := lv_entry ([.ref hi]) (n := 1) (Nat.le_of_ble_eq_true rfl)
  rw [lg_entry_eq]
  generalize (lg_sl ([.ref hi]) ++ List.replicate (1 - (lg_sl ([.ref hi])).length) Slot.unset).toArray = ls at hl ⊢
  have hl : lv_has ls 1 [(0, .ref hi)] := hl
  have hH := rfl (a := s.heap)
  refine lv_aload_n hx hb dX1_wholePacks_0 rfl (lv_at hl 0 rfl) ?_
  refine my_get hx hb hts inAX1 hown hK hP 0 rfl rfl 0 (by decide) w_247 rfl rfl dX1_wholePacks_1 ?_
  refine my_if_le (tgt := 19) hx hb (by omega) dX1_wholePacks_4 (by decide) (fun bh1 => (by omega : False).elim) (fun bh1 => ?_)
  refine lv_aload_n hx hb dX1_wholePacks_7 rfl (lv_at hl 0 rfl) ?_
  refine my_get hx hb hts inAX1 hown hK hP 0 rfl rfl 5 (by decide) w_254 rfl rfl dX1_wholePacks_8 ?_
  refine lv_aload_n hx hb dX1_wholePacks_11 rfl (lv_at hl 0 rfl) ?_
  refine my_get hx hb hts inAX1 hown hK hP 0 rfl rfl 0 (by decide) w_247 rfl rfl dX1_wholePacks_12 ?_
  refine my_idiv hx hb dX1_wholePacks_15 (by omega) rfl ?_
  refine lv_goto (tgt := 20) hx hb dX1_wholePacks_16 (by decide) ?_
  have hres : iI (st / pk) = iI (st / pk) := congrArg iI (by
      first | rfl | omega)
  exact W.iret hx hb hr (fun t ht hW => ⟨⟨_, (), rfl, hres, trivial⟩, hS.F ht⟩) hS.2.2 dX1_wholePacks_20

abbrev ws_X1_packsFor : List Cond := Cond.code yX1_packsFor cX1_packsFor 2 (some .int) :: ALL
set_option maxHeartbeats 4000000 in
set_option maxRecDepth 100000 in
theorem m_X1_packsFor (l : Launch) (D : va_G) (cs : Nat → ClassId) (hi ti go pr : Nat) (pk fs st : Int) (uz : Int) (hp : 0 < pk ∧ pk ≤ 50) (hu : -1000000000 ≤ uz ∧ uz ≤ 1000000000) : Met l yX1_packsFor ws_X1_packsFor ({ frames := 0, cells := 0, slots := 0, locals := 0 }) (va_Pc [.ref hi, .int (iI (uz))] (PC D cs [(hi, .inr (1, [.int (iI (pk)), .int (iI (fs)), .ref ti, .ref go, .ref pr, .int (iI (st))]))])) (va_Qi (fun r (_ : Unit) => r = iI (rqI uz pk)) (fun _ _ => True) noA) 0 0 noA := by
  refine Met.ofW (cc := cX1_packsFor) (maxL := 2) (ret := (some .int)) (by decide +kernel) rfl ?_
  intro p e s m args below meth c s₁ B hml hv
  obtain ⟨rfl, hP, hK, hD, hN⟩ := hv
  have hx := B.exec
  have hb := B.bytes
  have hr := B.returns
  have hts : ∀ w ∈ ALL, w.before _ s = true := fun w h => atoms_spec (ws := ws_X1_packsFor) B.pre w (List.mem_cons_of_mem _ h)
  have hown : s.vm.findClass RX1 = some m.cls := findClass_of_methodNamed B.named
  have hlocks := B.notSynchronized
  have hS : va_S noA s.heap s.heap [] := va_S.rf
  generalize inW [(hi, .inr (1, [.int (iI (pk)), .int (iI (fs)), .ref ti, .ref go, .ref pr, .int (iI (st))]))] = A at hD
  have hl := lv_entry ([.ref hi, .int (iI (uz))]) (n := 2) (Nat.le_of_ble_eq_true rfl)
  rw [lg_entry_eq]
  generalize (lg_sl ([.ref hi, .int (iI (uz))]) ++ List.replicate (2 - (lg_sl ([.ref hi, .int (iI (uz))])).length) Slot.unset).toArray = ls at hl ⊢
  have hl : lv_has ls 2 [(0, .ref hi), (1, .int (iI (uz)))] := hl
  have hH := rfl (a := s.heap)
  refine lv_iload_n hx hb dX1_packsFor_0 rfl (lv_at hl 1 rfl) ?_
  refine my_if_le (tgt := 27) hx hb (by omega) dX1_packsFor_1 (by decide) (fun bh1 => ?_) (fun bh1 => ?_)
  · refine lv_iconst (v := iI (0)) hx hb dX1_packsFor_27 rfl ?_
    have hres : iI (0) = iI (rqI uz pk) := congrArg iI (by
        unfold rqI; split <;> omega)
    exact W.iret hx hb hr (fun t ht hW => ⟨⟨_, (), rfl, hres, trivial⟩, hS.F ht⟩) hS.2.2 dX1_packsFor_28
  · refine lv_aload_n hx hb dX1_packsFor_4 rfl (lv_at hl 0 rfl) ?_
    refine my_get hx hb hts inAX1 hown hK hP 0 rfl rfl 0 (by decide) w_247 rfl rfl dX1_packsFor_5 ?_
    refine my_if_le (tgt := 27) hx hb (by omega) dX1_packsFor_8 (by decide) (fun bh2 => (by omega : False).elim) (fun bh2 => ?_)
    refine lv_iload_n hx hb dX1_packsFor_11 rfl (lv_at hl 1 rfl) ?_
    refine lv_aload_n hx hb dX1_packsFor_12 rfl (lv_at hl 0 rfl) ?_
    refine my_get hx hb hts inAX1 hown hK hP 0 rfl rfl 0 (by decide) w_247 rfl rfl dX1_packsFor_13 ?_
    refine my_iadd (z := uz + pk) hx hb dX1_packsFor_16 (rfl) ?_
    refine lv_iconst (v := iI (1)) hx hb dX1_packsFor_17 rfl ?_
    refine my_isub (z := (uz + pk) - 1) hx hb dX1_packsFor_18 (rfl) ?_
    refine lv_aload_n hx hb dX1_packsFor_19 rfl (lv_at hl 0 rfl) ?_
    refine my_get hx hb hts inAX1 hown hK hP 0 rfl rfl 0 (by decide) w_247 rfl rfl dX1_packsFor_20 ?_
    refine my_idiv hx hb dX1_packsFor_23 (by omega) rfl ?_
    refine lv_goto (tgt := 28) hx hb dX1_packsFor_24 (by decide) ?_
    have hres : iI (((uz + pk) - 1) / pk) = iI (rqI uz pk) := congrArg iI (by
        unfold rqI; split <;> omega)
    exact W.iret hx hb hr (fun t ht hW => ⟨⟨_, (), rfl, hres, trivial⟩, hS.F ht⟩) hS.2.2 dX1_packsFor_28

abbrev ws_X1_journalStock : List Cond := Cond.code yX1_journalStock cX1_journalStock 2 (some .int) :: ALL
set_option maxHeartbeats 4000000 in
set_option maxRecDepth 100000 in
theorem m_X1_journalStock (l : Launch) (D : va_G) (cs : Nat → ClassId) (hi ti go pr : Nat) (pk fs st : Int) (ub vb : Nat) (fb gb : Nat → Int) (dz : Nat) (hd : dz < 1005) : Met l yX1_journalStock ws_X1_journalStock ({ frames := 1, cells := 0, slots := 0, locals := 23 }) (va_Pc [.ref hi, .int (iI (((dz : Nat) : Int)))] (PC D cs [(hi, .inr (1, [.int (iI (pk)), .int (iI (fs)), .ref ti, .ref go, .ref pr, .int (iI (st))])), (ti, .inr (0, [.ref ub])), (ub, arI cs 1005 fb), (go, .inr (0, [.ref vb])), (vb, arI cs 1005 gb)])) (va_Qi (fun r (_ : Unit) => r = iI (fs + smI fb (dz + 1) - smI gb (dz + 1))) (fun _ _ => True) noA) 0 0 noA := by
  refine Met.ofW (cc := cX1_journalStock) (maxL := 2) (ret := (some .int)) (by decide +kernel) rfl ?_
  intro p e s m args below meth c s₁ B hml hv
  obtain ⟨rfl, hP, hK, hD, hN⟩ := hv
  have hx := B.exec
  have hb := B.bytes
  have hr := B.returns
  have hts : ∀ w ∈ ALL, w.before _ s = true := fun w h => atoms_spec (ws := ws_X1_journalStock) B.pre w (List.mem_cons_of_mem _ h)
  have hown : s.vm.findClass RX1 = some m.cls := findClass_of_methodNamed B.named
  have hlocks := B.notSynchronized
  have hS : va_S noA s.heap s.heap [] := va_S.rf
  generalize inW [(hi, .inr (1, [.int (iI (pk)), .int (iI (fs)), .ref ti, .ref go, .ref pr, .int (iI (st))])), (ti, .inr (0, [.ref ub])), (ub, arI cs 1005 fb), (go, .inr (0, [.ref vb])), (vb, arI cs 1005 gb)] = A at hD
  have hl := lv_entry ([.ref hi, .int (iI (((dz : Nat) : Int)))]) (n := 2) (Nat.le_of_ble_eq_true rfl)
  rw [lg_entry_eq]
  generalize (lg_sl ([.ref hi, .int (iI (((dz : Nat) : Int)))]) ++ List.replicate (2 - (lg_sl ([.ref hi, .int (iI (((dz : Nat) : Int)))])).length) Slot.unset).toArray = ls at hl ⊢
  have hl : lv_has ls 2 [(0, .ref hi), (1, .int (iI (((dz : Nat) : Int))))] := hl
  have hH := rfl (a := s.heap)
  refine lv_aload_n hx hb dX1_journalStock_0 rfl (lv_at hl 0 rfl) ?_
  refine my_get hx hb hts inAX1 hown hK hP 0 rfl rfl 1 (by decide) w_249 rfl rfl dX1_journalStock_1 ?_
  refine lv_aload_n hx hb dX1_journalStock_4 rfl (lv_at hl 0 rfl) ?_
  refine my_get hx hb hts inAX1 hown hK hP 0 rfl rfl 2 (by decide) w_250 rfl rfl dX1_journalStock_5 ?_
  refine lv_iload_n hx hb dX1_journalStock_8 rfl (lv_at hl 1 rfl) ?_
  have pk1 : picks [(hi, .inr (1, [.int (iI (pk)), .int (iI (fs)), .ref ti, .ref go, .ref pr, .int (iI (st))])), (ti, .inr (0, [.ref ub])), (ub, arI cs 1005 fb), (go, .inr (0, [.ref vb])), (vb, arI cs 1005 gb)] [1, 2] [(ti, .inr (0, [.ref ub])), (ub, arI cs 1005 fb)] := ⟨rfl, rfl, trivial⟩
  refine va_calli (va_runV (As := [.int (iI (((dz : Nat) : Int)))]) (rest := [.int (iI (fs))]) ⟨hx, hb, hml, hown, hts⟩ (m_X0_sumUpTo l D cs ti ub fb dz (by omega)) (cwV 1 hts (gV w_803 w_757 w_758 w_2 w_759) rfl rfl rfl (by decide +kernel) ⟨Nat.le_of_ble_eq_true rfl, Nat.le_of_ble_eq_true rfl⟩) (PC_V hK hN hP hD [1, 2] rfl pk1 rfl rfl) rfl rfl hl.1 rfl (lv_room (Nat.le_of_ble_eq_true rfl)) dX1_journalStock_9 ⟨Nat.le_of_ble_eq_true rfl, Nat.le_of_ble_eq_true rfl⟩) hS (fun _ _ h => False.elim h) (fun _ h => False.elim h) (fun r u t H locs ht hvm hw hB hz1 hk1 hS => ?_)
  subst hw
  have hP := P_kept hP hk1
  refine my_iadd (z := fs + (smI fb (dz + 1))) hx hb dX1_journalStock_12 (rfl) ?_
  refine lv_aload_n hx hb dX1_journalStock_13 rfl (lv_at hl 0 rfl) ?_
  refine my_get hx hb hts inAX1 hown hK hP 0 rfl rfl 3 (by decide) w_251 rfl rfl dX1_journalStock_14 ?_
  refine lv_iload_n hx hb dX1_journalStock_17 rfl (lv_at hl 1 rfl) ?_
  have pk2 : picks [(hi, .inr (1, [.int (iI (pk)), .int (iI (fs)), .ref ti, .ref go, .ref pr, .int (iI (st))])), (ti, .inr (0, [.ref ub])), (ub, arI cs 1005 fb), (go, .inr (0, [.ref vb])), (vb, arI cs 1005 gb)] [3, 4] [(go, .inr (0, [.ref vb])), (vb, arI cs 1005 gb)] := ⟨rfl, rfl, trivial⟩
  refine va_calli (va_runV (As := [.int (iI (((dz : Nat) : Int)))]) (rest := [.int (iI (fs + (smI fb (dz + 1))))]) ⟨hx, hb, hml, hown, hts⟩ (m_X0_sumUpTo l D cs go vb gb dz (by omega)) (cwV 1 hts (gV w_803 w_757 w_758 w_2 w_759) rfl rfl rfl (by decide +kernel) ⟨Nat.le_of_ble_eq_true rfl, Nat.le_of_ble_eq_true rfl⟩) (PC_V hK hN hP hD [3, 4] rfl pk2 rfl rfl) rfl rfl hl.1 rfl (lv_room (Nat.le_of_ble_eq_true rfl)) dX1_journalStock_18 ⟨Nat.le_of_ble_eq_true rfl, Nat.le_of_ble_eq_true rfl⟩) hS (fun _ _ h => False.elim h) (fun _ h => False.elim h) (fun r u t H locs ht hvm hw hB hz1 hk1 hS => ?_)
  subst hw
  have hP := P_kept hP hk1
  refine my_isub (z := (fs + (smI fb (dz + 1))) - (smI gb (dz + 1))) hx hb dX1_journalStock_21 (rfl) ?_
  have hres : iI ((fs + (smI fb (dz + 1))) - (smI gb (dz + 1))) = iI (fs + smI fb (dz + 1) - smI gb (dz + 1)) := congrArg iI (by
      first | rfl | omega)
  exact W.iret hx hb hr (fun t ht hW => ⟨⟨_, (), rfl, hres, trivial⟩, hS.F ht⟩) hS.2.2 dX1_journalStock_22
