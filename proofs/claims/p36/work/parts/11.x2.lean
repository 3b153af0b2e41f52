abbrev ws_J9_floorDiv_f86c9 : List Cond := Cond.code yJ9_floorDiv_f86c9 cJ9_floorDiv_f86c9 6 (some .long) :: ALL
set_option maxHeartbeats 4000000 in
set_option maxRecDepth 100000 in
theorem m_J9_floorDiv_f86c9 (l : Launch) (D : va_G) (cs : Nat → ClassId) (az : Int) (ha : -4611686018427387904 ≤ az ∧ az ≤ 4611686018427387904) : Met l yJ9_floorDiv_f86c9 ws_J9_floorDiv_f86c9 ({ frames := 0, cells := 0, slots := 0, locals := 0 }) (va_Pc [.long (lI (az)), .long (lI (100))] (PC D cs [])) (va_Ql (fun r (_ : Unit) => r = lI (az / 100)) (fun _ _ => True) noA) 0 0 noA := by
  refine va_MetF (cc := cJ9_floorDiv_f86c9) (maxL := 6) (ret := (some .long)) (by decide +kernel) rfl ?_
  intro p e s m args below meth c s₁ B hml hv
  obtain ⟨rfl, hP, hK, hD, hN⟩ := hv
  have hx := B.exec
  have hb := B.bytes
  have hr := B.returns
  have hts : ∀ w ∈ ALL, w.before _ s = true := fun w h => atoms_spec (ws := ws_J9_floorDiv_f86c9) B.pre w (List.mem_cons_of_mem _ h)
  have hown : s.vm.findClass RJ9 = some m.cls := findClass_of_methodNamed B.named
  have hlocks := B.notSynchronized
  have hS : va_S noA s.heap s.heap [] := va_S.rf
  generalize inW [] = A at hD
  have hl := lv_entry ([.long (lI (az)), .long (lI (100))]) (n := 6) (Nat.le_of_ble_eq_true rfl)
  rw [lg_entry_eq]
  generalize (lg_sl ([.long (lI (az)), .long (lI (100))]) ++ List.replicate (6 - (lg_sl ([.long (lI (az)), .long (lI (100))])).length) Slot.unset).toArray = ls at hl ⊢
  have hl : lv_has ls 6 [(0, .long (lI (az))), (2, .long (lI (100)))] := hl
  have hH := rfl (a := s.heap)
  have hq := tdI_fl ha
  refine lv_lload_n hx hb dJ9_floorDiv_f86c9_0 rfl (lv_at hl 0 rfl) ?_
  refine lv_lload_n hx hb dJ9_floorDiv_f86c9_1 rfl (lv_at hl 1 rfl) ?_
  refine my_ldiv100 hx hb dJ9_floorDiv_f86c9_2 (by omega) ?_
  refine lv_lstore (lv' := [(4, .long (lI (tdI az))), (0, .long (lI (az))), (2, .long (lI (100)))]) hx hb dJ9_floorDiv_f86c9_3 hl (by decide) rfl (fun ls hl => ?_)
  refine lv_lload_n hx hb dJ9_floorDiv_f86c9_5 rfl (lv_at hl 1 rfl) ?_
  refine lv_lload_n hx hb dJ9_floorDiv_f86c9_6 rfl (lv_at hl 2 rfl) ?_
  refine my_lxor100 hx hb dJ9_floorDiv_f86c9_7 (by omega) (fun zx hz1 hz2 => ?_)
  refine lv_lconst (v := lI 0) hx hb dJ9_floorDiv_f86c9_8 (by decide) ?_
  refine my_lcmp_ge (tgt := 27) hx hb (by omega) dJ9_floorDiv_f86c9_9 dJ9_floorDiv_f86c9_10 (by decide) (fun bh1 => ?_) (fun bh1 => ?_)
  · refine lv_lload hx hb dJ9_floorDiv_f86c9_27 (lv_at hl 0 rfl) ?_
    have hres : lI (tdI az) = lI (az / 100) := congrArg lI (by
        omega)
    exact W.lret hx hb hr (fun t ht hW => ⟨⟨_, (), rfl, hres, trivial⟩, hS.F ht⟩) hS.2.2 dJ9_floorDiv_f86c9_29
  · refine lv_lload hx hb dJ9_floorDiv_f86c9_13 (lv_at hl 0 rfl) ?_
    refine lv_lload_n hx hb dJ9_floorDiv_f86c9_15 rfl (lv_at hl 2 rfl) ?_
    refine my_lmul (z := (tdI az) * 100) hx hb dJ9_floorDiv_f86c9_16 (rfl) ?_
    refine lv_lload_n hx hb dJ9_floorDiv_f86c9_17 rfl (lv_at hl 1 rfl) ?_
    refine my_lcmp_eq (tgt := 27) hx hb (by omega) dJ9_floorDiv_f86c9_18 dJ9_floorDiv_f86c9_19 (by decide) (fun bh2 => ?_) (fun bh2 => ?_)
    · refine lv_lload hx hb dJ9_floorDiv_f86c9_27 (lv_at hl 0 rfl) ?_
      have hres : lI (tdI az) = lI (az / 100) := congrArg lI (by
          omega)
      exact W.lret hx hb hr (fun t ht hW => ⟨⟨_, (), rfl, hres, trivial⟩, hS.F ht⟩) hS.2.2 dJ9_floorDiv_f86c9_29
    · refine lv_lload hx hb dJ9_floorDiv_f86c9_22 (lv_at hl 0 rfl) ?_
      refine lv_lconst (v := lI 1) hx hb dJ9_floorDiv_f86c9_24 (by decide) ?_
      refine my_lsub (z := (tdI az) - 1) hx hb dJ9_floorDiv_f86c9_25 (rfl) ?_
      have hres : lI ((tdI az) - 1) = lI (az / 100) := congrArg lI (by
          omega)
      exact W.lret hx hb hr (fun t ht hW => ⟨⟨_, (), rfl, hres, trivial⟩, hS.F ht⟩) hS.2.2 dJ9_floorDiv_f86c9_26

abbrev ws_X2_start : List Cond := Cond.code yX2_start cX2_start 3 (none : Option FieldType) :: ALL
set_option maxHeartbeats 4000000 in
set_option maxRecDepth 100000 in
theorem m_X2_start (l : Launch) (D : va_G) (cs : Nat → ClassId) (kl us : Nat) (lev : Int) (se : Nat → Int) (fl : Int) : Met l yX2_start ws_X2_start ({ frames := 0, cells := 0, slots := 0, locals := 0 }) (va_Pc [.ref kl, .int (iI (fl))] (PC D cs [(kl, .inr (2, [.ref us, .int (iI (lev))])), (us, arI cs 7 se)])) (va_Qv (fun (_ : Unit) => True) (fun _ t => va_P D vwCl [(kl, .inr (2, [.ref us, .int (iI (fl))])), (us, arI cs 7 (fun _ => 1000))] t.heap) (inW [(kl, .inr (2, [.ref us, .int (iI (lev))])), (us, arI cs 7 se)])) 0 0 (inW [(kl, .inr (2, [.ref us, .int (iI (lev))])), (us, arI cs 7 se)]) := by
  refine Met.ofW (cc := cX2_start) (maxL := 3) (ret := ((none : Option FieldType))) (by decide +kernel) rfl ?_
  intro p e s m args below meth c s₁ B hml hv
  obtain ⟨rfl, hP, hK, hD, hN⟩ := hv
  have hx := B.exec
  have hb := B.bytes
  have hr := B.returns
  have hts : ∀ w ∈ ALL, w.before _ s = true := fun w h => atoms_spec (ws := ws_X2_start) B.pre w (List.mem_cons_of_mem _ h)
  have hown : s.vm.findClass RX2 = some m.cls := findClass_of_methodNamed B.named
  have hlocks := B.notSynchronized
  generalize hAe : inW [(kl, .inr (2, [.ref us, .int (iI (lev))])), (us, arI cs 7 se)] = A at hD ⊢
  have hS : va_S A s.heap s.heap [] := va_S.rf
  have hl := lv_entry ([.ref kl, .int (iI (fl))]) (n := 3) (Nat.le_of_ble_eq_true rfl)
  rw [lg_entry_eq]
  generalize (lg_sl ([.ref kl, .int (iI (fl))]) ++ List.replicate (3 - (lg_sl ([.ref kl, .int (iI (fl))])).length) Slot.unset).toArray = ls at hl ⊢
  have hl : lv_has ls 3 [(0, .ref kl), (1, .int (iI (fl)))] := hl
  have hH := rfl (a := s.heap)
  refine lv_aload_n hx hb dX2_start_0 rfl (lv_at hl 0 rfl) ?_
  refine lv_iload_n hx hb dX2_start_1 rfl (lv_at hl 1 rfl) ?_
  refine my_put hx hb hts inAX2 tyX2_ok nmX2 hown hK hP hD hS 0 rfl rfl 1 (by decide) w_46 rfl rfl rfl (Nat.le_of_ble_eq_true rfl) dX2_start_2 (fun H locs hP hD hS => ?_)
  have hP : va_P D vwCl [(kl, .inr (2, [.ref us, .int (iI (fl))])), (us, arI cs 7 se)] H := hP
  have hD : va_D A [(kl, .inr (2, [.ref us, .int (iI (fl))])), (us, arI cs 7 se)] := hD
  refine lv_iconst (v := iI (0)) hx hb dX2_start_5 rfl ?_
  refine lv_istore_n (lv' := [(2, .int (iI (0))), (0, .ref kl), (1, .int (iI (fl)))]) hx hb dX2_start_6 rfl hl (by decide) rfl (fun ls hl => ?_)
  suffices KL : ∀ (n : Nat) (i : Nat), i ≤ 7 → 7 - i < n → ∀ (H : Heap) (locs : List Loc) (ls : Array Slot), va_P D vwCl [(kl, .inr (2, [.ref us, .int (iI (fl))])), (us, arI cs 7 (flI se 1000 i))] H → va_D A [(kl, .inr (2, [.ref us, .int (iI (fl))])), (us, arI cs 7 (flI se 1000 i))] → va_S A s.heap H locs → lv_has ls 3 [(2, .int (iI (((i : Nat) : Int)))), (0, .ref kl), (1, .int (iI (fl)))] → W p l e _ s m _ below meth c H locs 0 0 _ (F0 m 7 ls []) from
    KL _ 0 (Nat.zero_le _) (Nat.lt_succ_self _) _ _ _ (by rw [flI_0]; exact hP) (by rw [flI_0]; exact hD) hS (lv_sub hl [0, 1, 2] rfl)
  intro n
  induction n with
  | zero => intro i hi h0; exact absurd h0 (Nat.not_lt_zero _)
  | succ n ih =>
    intro i hi hmu H locs ls hP hD hS hl
    refine lv_iload_n hx hb dX2_start_7 rfl (lv_at hl 0 rfl) ?_
    refine lv_aload_n hx hb dX2_start_8 rfl (lv_at hl 1 rfl) ?_
    refine my_get hx hb hts inAX2 hown hK hP 0 rfl rfl 0 (by decide) w_45 rfl rfl dX2_start_9 ?_
    refine my_alenI hx hb hK hP 1 rfl dX2_start_12 ?_
    refine my_icmp_ge (tgt := 31) hx hb (by omega) dX2_start_13 (by decide) (fun bh1 => ?_) (fun bh1 => ?_)
    · have hD := D_arI hD (k := 1) (g := fun _ => 1000) rfl
      have hP := P_arI hP (k := 1) (g := fun _ => 1000) rfl (fun j hj => by simp only [flI]; rw [if_pos (by omega)])
      have hP : va_P D vwCl [(kl, .inr (2, [.ref us, .int (iI (fl))])), (us, arI cs 7 (fun _ => 1000))] H := hP
      have hD : va_D A [(kl, .inr (2, [.ref us, .int (iI (fl))])), (us, arI cs 7 (fun _ => 1000))] := hD
      subst hAe
      exact W.vret hx hb hr (fun t ht hW => ⟨⟨(), rfl, trivial, by show va_P D vwCl _ t.heap; rw [ht]; exact hP⟩, hS.F ht⟩) hS.2.2 dX2_start_31
    · refine lv_aload_n hx hb dX2_start_16 rfl (lv_at hl 1 rfl) ?_
      refine my_get hx hb hts inAX2 hown hK hP 0 rfl rfl 0 (by decide) w_45 rfl rfl dX2_start_17 ?_
      refine lv_iload_n hx hb dX2_start_20 rfl (lv_at hl 0 rfl) ?_
      refine lv_sipush (v := iI (1000)) hx hb dX2_start_21 (by decide) ?_
      refine my_iast hx hb hK hP hD hS 1 rfl (by omega) (k := i) (Int.toNat_natCast _) dX2_start_24 (fun H locs hP hD hS => ?_)
      have hP : va_P D vwCl [(kl, .inr (2, [.ref us, .int (iI (fl))])), (us, arI cs 7 (upI (flI se 1000 i) i 1000))] H := hP
      have hD : va_D A [(kl, .inr (2, [.ref us, .int (iI (fl))])), (us, arI cs 7 (upI (flI se 1000 i) i 1000))] := hD
      refine lv_iinc (v := iI (((i : Nat) : Int) + 1)) (lv' := [(2, .int (iI (((i : Nat) : Int) + 1))), (0, .ref kl), (1, .int (iI (fl)))]) hx hb dX2_start_25 hl (k := 0) rfl (by rw [show (((i : Nat) : Int) + 1 : Int) = ((i : Nat) : Int) + 1 from rfl]; exact iI_add _ _) (by decide) rfl (fun ls hl => ?_)
      refine lv_goto (tgt := 7) hx hb dX2_start_28 (by decide) ?_
      have e1 : ((i : Nat) : Int) + 1 = ((i + 1 : Nat) : Int) := by omega
      rw [e1] at hl
      rw [flI_s] at hP hD
      exact ih (i + 1) (by omega) (by omega) _ _ _ hP hD hS (lv_sub hl [0, 1, 2] rfl)

abbrev ws_X2_seasonOf : List Cond := Cond.code yX2_seasonOf cX2_seasonOf 2 (some .int) :: ALL
set_option maxHeartbeats 4000000 in
set_option maxRecDepth 100000 in
theorem m_X2_seasonOf (l : Launch) (D : va_G) (cs : Nat → ClassId) (kl us : Nat) (lev : Int) (se : Nat → Int) (wz : Nat) (hw7 : wz < 7) : Met l yX2_seasonOf ws_X2_seasonOf ({ frames := 0, cells := 0, slots := 0, locals := 0 }) (va_Pc [.ref kl, .int (iI (((wz : Nat) : Int)))] (PC D cs [(kl, .inr (2, [.ref us, .int (iI (lev))])), (us, arI cs 7 se)])) (va_Qi (fun r (_ : Unit) => r = iI (se wz)) (fun _ _ => True) noA) 0 0 noA := by
  refine Met.ofW (cc := cX2_seasonOf) (maxL := 2) (ret := (some .int)) (by decide +kernel) rfl ?_
  intro p e s m args below meth c s₁ B hml hv
  obtain ⟨rfl, hP, hK, hD, hN⟩ := hv
  have hx := B.exec
  have hb := B.bytes
  have hr := B.returns
  have hts : ∀ w ∈ ALL, w.before _ s = true := fun w h => atoms_spec (ws := ws_X2_seasonOf) B.pre w (List.mem_cons_of_mem _ h)
  have hown : s.vm.findClass RX2 = some m.cls := findClass_of_methodNamed B.named
  have hlocks := B.notSynchronized
  have hS : va_S noA s.heap s.heap [] := va_S.rf
  generalize inW [(kl, .inr (2, [.ref us, .int (iI (lev))])), (us, arI cs 7 se)] = A at hD
  have hl := lv_entry ([.ref kl, .int (iI (((wz : Nat) : Int)))]) (n := 2) (Nat.le_of_ble_eq_true rfl)
  rw [lg_entry_eq]
  generalize (lg_sl ([.ref kl, .int (iI (((wz : Nat) : Int)))]) ++ List.replicate (2 - (lg_sl ([.ref kl, .int (iI (((wz : Nat) : Int)))])).length) Slot.unset).toArray = ls at hl ⊢
  have hl : lv_has ls 2 [(0, .ref kl), (1, .int (iI (((wz : Nat) : Int))))] := hl
  have hH := rfl (a := s.heap)
  refine lv_iload_n hx hb dX2_seasonOf_0 rfl (lv_at hl 1 rfl) ?_
  refine my_if_lt (tgt := 22) hx hb (by omega) dX2_seasonOf_1 (by decide) (fun bh1 => (by omega : False).elim) (fun bh1 => ?_)
  refine lv_iload_n hx hb dX2_seasonOf_4 rfl (lv_at hl 1 rfl) ?_
  refine lv_aload_n hx hb dX2_seasonOf_5 rfl (lv_at hl 0 rfl) ?_
  refine my_get hx hb hts inAX2 hown hK hP 0 rfl rfl 0 (by decide) w_45 rfl rfl dX2_seasonOf_6 ?_
  refine my_alenI hx hb hK hP 1 rfl dX2_seasonOf_9 ?_
  refine my_icmp_ge (tgt := 22) hx hb (by omega) dX2_seasonOf_10 (by decide) (fun bh2 => (by omega : False).elim) (fun bh2 => ?_)
  refine lv_aload_n hx hb dX2_seasonOf_13 rfl (lv_at hl 0 rfl) ?_
  refine my_get hx hb hts inAX2 hown hK hP 0 rfl rfl 0 (by decide) w_45 rfl rfl dX2_seasonOf_14 ?_
  refine lv_iload_n hx hb dX2_seasonOf_17 rfl (lv_at hl 1 rfl) ?_
  refine my_iald hx hb hK hP 1 rfl (by omega) (k := wz) (Int.toNat_natCast _) dX2_seasonOf_18 ?_
  refine lv_goto (tgt := 25) hx hb dX2_seasonOf_19 (by decide) ?_
  have hres : iI (se wz) = iI (se wz) := congrArg iI (by
      first | rfl | omega)
  exact W.iret hx hb hr (fun t ht hW => ⟨⟨_, (), rfl, hres, trivial⟩, hS.F ht⟩) hS.2.2 dX2_seasonOf_25

abbrev ws_X2_thousandthsFor : List Cond := Cond.code yX2_thousandthsFor cX2_thousandthsFor 2 (some .int) :: ALL
set_option maxHeartbeats 4000000 in
set_option maxRecDepth 100000 in
theorem m_X2_thousandthsFor (l : Launch) (D : va_G) (cs : Nat → ClassId) (kl us : Nat) (lev : Int) (se : Nat → Int) (dz : Nat) (hlev : 0 ≤ lev ∧ lev ≤ 9990000) (hse : ∀ w, 100 ≤ se w ∧ se w ≤ 5000) (hd : dz < 2147483648) : Met l yX2_thousandthsFor ws_X2_thousandthsFor ({ frames := 1, cells := 0, slots := 0, locals := 21 }) (va_Pc [.ref kl, .int (iI (((dz : Nat) : Int)))] (PC D cs [(kl, .inr (2, [.ref us, .int (iI (lev))])), (us, arI cs 7 se)])) (va_Qi (fun r (_ : Unit) => r = iI (thI lev se dz)) (fun _ _ => True) noA) 0 0 noA := by
  refine Met.ofW (cc := cX2_thousandthsFor) (maxL := 2) (ret := (some .int)) (by decide +kernel) rfl ?_
  intro p e s m args below meth c s₁ B hml hv
  obtain ⟨rfl, hP, hK, hD, hN⟩ := hv
  have hx := B.exec
  have hb := B.bytes
  have hr := B.returns
  have hts : ∀ w ∈ ALL, w.before _ s = true := fun w h => atoms_spec (ws := ws_X2_thousandthsFor) B.pre w (List.mem_cons_of_mem _ h)
  have hown : s.vm.findClass RX2 = some m.cls := findClass_of_methodNamed B.named
  have hlocks := B.notSynchronized
  have hS : va_S noA s.heap s.heap [] := va_S.rf
  generalize inW [(kl, .inr (2, [.ref us, .int (iI (lev))])), (us, arI cs 7 se)] = A at hD
  have hl := lv_entry ([.ref kl, .int (iI (((dz : Nat) : Int)))]) (n := 2) (Nat.le_of_ble_eq_true rfl)
  rw [lg_entry_eq]
  generalize (lg_sl ([.ref kl, .int (iI (((dz : Nat) : Int)))]) ++ List.replicate (2 - (lg_sl ([.ref kl, .int (iI (((dz : Nat) : Int)))])).length) Slot.unset).toArray = ls at hl ⊢
  have hl : lv_has ls 2 [(0, .ref kl), (1, .int (iI (((dz : Nat) : Int))))] := hl
  have hH := rfl (a := s.heap)
  have hth := thI_rng (d := dz) hlev hse
  have hs7 := hse (dz % 7)
  refine lv_aload_n hx hb dX2_thousandthsFor_0 rfl (lv_at hl 0 rfl) ?_
  refine my_get hx hb hts inAX2 hown hK hP 0 rfl rfl 1 (by decide) w_46 rfl rfl dX2_thousandthsFor_1 ?_
  refine my_i2l hx hb dX2_thousandthsFor_4 (by omega) ?_
  refine lv_aload_n hx hb dX2_thousandthsFor_5 rfl (lv_at hl 0 rfl) ?_
  refine lv_iload_n hx hb dX2_thousandthsFor_6 rfl (lv_at hl 1 rfl) ?_
  refine lv_bipush (v := iI (7)) hx hb dX2_thousandthsFor_7 (by decide) ?_
  refine my_irem hx hb dX2_thousandthsFor_9 (by omega) rfl ?_
  refine my_cv0 (z := (((dz % 7) : Nat) : Int)) (by omega) ?_
  have pk1 : picks [(kl, .inr (2, [.ref us, .int (iI (lev))])), (us, arI cs 7 se)] [0, 1] [(kl, .inr (2, [.ref us, .int (iI (lev))])), (us, arI cs 7 se)] := ⟨rfl, rfl, trivial⟩
  refine va_calli (va_runV (As := [.int (iI ((((dz % 7) : Nat) : Int)))]) (rest := [.long (lI (lev))]) ⟨hx, hb, hml, hown, hts⟩ (m_X2_seasonOf l D cs kl us lev se (dz % 7) (by omega)) (cwV 1 hts (gV w_536 w_537 w_538 w_3 w_539) rfl rfl rfl (by decide +kernel) ⟨Nat.le_of_ble_eq_true rfl, Nat.le_of_ble_eq_true rfl⟩) (PC_V hK hN hP hD [0, 1] rfl pk1 rfl rfl) rfl rfl hl.1 rfl (lv_room (Nat.le_of_ble_eq_true rfl)) dX2_thousandthsFor_10 ⟨Nat.le_of_ble_eq_true rfl, Nat.le_of_ble_eq_true rfl⟩) hS (fun _ _ h => False.elim h) (fun _ h => False.elim h) (fun r u t H locs ht hvm hw hB hz1 hk1 hS => ?_)
  subst hw
  have hP := P_kept hP hk1
  refine my_i2l hx hb dX2_thousandthsFor_13 (by omega) ?_
  refine my_lmul (z := lev * (se (dz % 7))) hx hb dX2_thousandthsFor_14 (rfl) ?_
  refine lv_ldc2 (v := lI 1000) hx hb hown (hts _ w_540) dX2_thousandthsFor_15 ?_
  refine my_ldiv hx hb dX2_thousandthsFor_18 (by omega) rfl ?_
  refine my_l2i hx hb dX2_thousandthsFor_19 ?_
  have hres : iI ((lev * (se (dz % 7))) / 1000) = iI (thI lev se dz) := congrArg iI (by
      rfl)
  exact W.iret hx hb hr (fun t ht hW => ⟨⟨_, (), rfl, hres, trivial⟩, hS.F ht⟩) hS.2.2 dX2_thousandthsFor_20

abbrev ws_X2_unitsFor : List Cond := Cond.code yX2_unitsFor cX2_unitsFor 2 (some .int) :: ALL
set_option maxHeartbeats 4000000 in
set_option maxRecDepth 100000 in
theorem m_X2_unitsFor (l : Launch) (D : va_G) (cs : Nat → ClassId) (kl us : Nat) (lev : Int) (se : Nat → Int) (dz : Nat) (hlev : 0 ≤ lev ∧ lev ≤ 9990000) (hse : ∀ w, 100 ≤ se w ∧ se w ≤ 5000) (hd : dz < 2147483648) : Met l yX2_unitsFor ws_X2_unitsFor ({ frames := 2, cells := 0, slots := 0, locals := 42 }) (va_Pc [.ref kl, .int (iI (((dz : Nat) : Int)))] (PC D cs [(kl, .inr (2, [.ref us, .int (iI (lev))])), (us, arI cs 7 se)])) (va_Qi (fun r (_ : Unit) => r = iI (unI lev se dz)) (fun _ _ => True) noA) 0 0 noA := by
  refine Met.ofW (cc := cX2_unitsFor) (maxL := 2) (ret := (some .int)) (by decide +kernel) rfl ?_
  intro p e s m args below meth c s₁ B hml hv
  obtain ⟨rfl, hP, hK, hD, hN⟩ := hv
  have hx := B.exec
  have hb := B.bytes
  have hr := B.returns
  have hts : ∀ w ∈ ALL, w.before _ s = true := fun w h => atoms_spec (ws := ws_X2_unitsFor) B.pre w (List.mem_cons_of_mem _ h)
  have hown : s.vm.findClass RX2 = some m.cls := findClass_of_methodNamed B.named
  have hlocks := B.notSynchronized
  have hS : va_S noA s.heap s.heap [] := va_S.rf
  generalize inW [(kl, .inr (2, [.ref us, .int (iI (lev))])), (us, arI cs 7 se)] = A at hD
  have hl := lv_entry ([.ref kl, .int (iI (((dz : Nat) : Int)))]) (n := 2) (Nat.le_of_ble_eq_true rfl)
  rw [lg_entry_eq]
  generalize (lg_sl ([.ref kl, .int (iI (((dz : Nat) : Int)))]) ++ List.replicate (2 - (lg_sl ([.ref kl, .int (iI (((dz : Nat) : Int)))])).length) Slot.unset).toArray = ls at hl ⊢
  have hl : lv_has ls 2 [(0, .ref kl), (1, .int (iI (((dz : Nat) : Int))))] := hl
  have hH := rfl (a := s.heap)
  have hth := thI_rng (d := dz) hlev hse
  refine lv_aload_n hx hb dX2_unitsFor_0 rfl (lv_at hl 0 rfl) ?_
  refine lv_iload_n hx hb dX2_unitsFor_1 rfl (lv_at hl 1 rfl) ?_
  have pk1 : picks [(kl, .inr (2, [.ref us, .int (iI (lev))])), (us, arI cs 7 se)] [0, 1] [(kl, .inr (2, [.ref us, .int (iI (lev))])), (us, arI cs 7 se)] := ⟨rfl, rfl, trivial⟩
  refine va_calli (va_runV (As := [.int (iI (((dz : Nat) : Int)))]) (rest := []) ⟨hx, hb, hml, hown, hts⟩ (m_X2_thousandthsFor l D cs kl us lev se dz (hlev) (hse) (by omega)) (cwV 1 hts (gV w_532 w_533 w_534 w_3 w_535) rfl rfl rfl (by decide +kernel) ⟨Nat.le_of_ble_eq_true rfl, Nat.le_of_ble_eq_true rfl⟩) (PC_V hK hN hP hD [0, 1] rfl pk1 rfl rfl) rfl rfl hl.1 rfl (lv_room (Nat.le_of_ble_eq_true rfl)) dX2_unitsFor_2 ⟨Nat.le_of_ble_eq_true rfl, Nat.le_of_ble_eq_true rfl⟩) hS (fun _ _ h => False.elim h) (fun _ h => False.elim h) (fun r u t H locs ht hvm hw hB hz1 hk1 hS => ?_)
  subst hw
  have hP := P_kept hP hk1
  refine lv_sipush (v := iI (500)) hx hb dX2_unitsFor_5 (by decide) ?_
  refine my_iadd (z := (thI lev se dz) + 500) hx hb dX2_unitsFor_8 (rfl) ?_
  refine lv_sipush (v := iI (1000)) hx hb dX2_unitsFor_9 (by decide) ?_
  refine my_idiv hx hb dX2_unitsFor_12 (by omega) rfl ?_
  have hres : iI (((thI lev se dz) + 500) / 1000) = iI (unI lev se dz) := congrArg iI (by
      rfl)
  exact W.iret hx hb hr (fun t ht hW => ⟨⟨_, (), rfl, hres, trivial⟩, hS.F ht⟩) hS.2.2 dX2_unitsFor_13

abbrev ws_X2_learn : List Cond := Cond.code yX2_learn cX2_learn 11 (none : Option FieldType) :: ALL
set_option maxHeartbeats 4000000 in
set_option maxRecDepth 100000 in
theorem m_X2_learn (l : Launch) (D : va_G) (cs : Nat → ClassId) (kl us : Nat) (lev : Int) (se : Nat → Int) (dz : Nat) (dm lr sr : Int) (hlev : 0 ≤ lev ∧ lev ≤ 9990000) (hse : ∀ w, 100 ≤ se w ∧ se w ≤ 5000) (hd : dz < 2147483648) (hdm : 0 ≤ dm ∧ dm ≤ 999) (hlr : 0 ≤ lr ∧ lr ≤ 100) (hsr : 0 ≤ sr ∧ sr ≤ 100) : Met l yX2_learn ws_X2_learn ({ frames := 1, cells := 0, slots := 0, locals := 25 }) (va_Pc [.ref kl, .int (iI (((dz : Nat) : Int))), .int (iI (dm)), .int (iI (lr)), .int (iI (sr))] (PC D cs [(kl, .inr (2, [.ref us, .int (iI (lev))])), (us, arI cs 7 se)])) (va_Qv (fun (_ : Unit) => True) (fun _ t => va_P D vwCl [(kl, .inr (2, [.ref us, .int (iI (lvI lev (se (dz % 7)) dm lr))])), (us, arI cs 7 (snI (lvI lev (se (dz % 7)) dm lr) se (dz % 7) dm sr))] t.heap) (inW [(kl, .inr (2, [.ref us, .int (iI (lev))])), (us, arI cs 7 se)])) 0 0 (inW [(kl, .inr (2, [.ref us, .int (iI (lev))])), (us, arI cs 7 se)]) := by
  refine Met.ofW (cc := cX2_learn) (maxL := 11) (ret := ((none : Option FieldType))) (by decide +kernel) rfl ?_
  intro p e s m args below meth c s₁ B hml hv
  obtain ⟨rfl, hP, hK, hD, hN⟩ := hv
  have hx := B.exec
  have hb := B.bytes
  have hr := B.returns
  have hts : ∀ w ∈ ALL, w.before _ s = true := fun w h => atoms_spec (ws := ws_X2_learn) B.pre w (List.mem_cons_of_mem _ h)
  have hown : s.vm.findClass RX2 = some m.cls := findClass_of_methodNamed B.named
  have hlocks := B.notSynchronized
  generalize hAe : inW [(kl, .inr (2, [.ref us, .int (iI (lev))])), (us, arI cs 7 se)] = A at hD ⊢
  have hS : va_S A s.heap s.heap [] := va_S.rf
  have hl := lv_entry ([.ref kl, .int (iI (((dz : Nat) : Int))), .int (iI (dm)), .int (iI (lr)), .int (iI (sr))]) (n := 11) (Nat.le_of_ble_eq_true rfl)
  rw [lg_entry_eq]
  generalize (lg_sl ([.ref kl, .int (iI (((dz : Nat) : Int))), .int (iI (dm)), .int (iI (lr)), .int (iI (sr))]) ++ List.replicate (11 - (lg_sl ([.ref kl, .int (iI (((dz : Nat) : Int))), .int (iI (dm)), .int (iI (lr)), .int (iI (sr))])).length) Slot.unset).toArray = ls at hl ⊢
  have hl : lv_has ls 11 [(0, .ref kl), (1, .int (iI (((dz : Nat) : Int)))), (2, .int (iI (dm))), (3, .int (iI (lr))), (4, .int (iI (sr)))] := hl
  have hH := rfl (a := s.heap)
  have hs7 := hse (dz % 7)
  have hlv := lvI_rng (dem := dm) (lr := lr) hlev hs7 hdm hlr
  have hq1 : 0 ≤ dm * 1000000 / se (dz % 7) ∧ dm * 1000000 / se (dz % 7) ≤ 999000000 := ⟨Int.ediv_nonneg (by omega) (by omega), by have := (div_rng (a := dm * 1000000) (b := se (dz % 7)) (by omega) (by omega)).2; omega⟩
  have hm1 := mulS (y := dm * 1000000 / se (dz % 7) - lev) (B := 1000000000) hlr (by omega)
  refine lv_iload_n hx hb dX2_learn_0 rfl (lv_at hl 1 rfl) ?_
  refine lv_bipush (v := iI (7)) hx hb dX2_learn_1 (by decide) ?_
  refine my_irem hx hb dX2_learn_3 (by omega) rfl ?_
  refine my_cv0 (z := (((dz % 7) : Nat) : Int)) (by omega) ?_
  refine lv_istore (lv' := [(5, .int (iI ((((dz % 7) : Nat) : Int)))), (0, .ref kl), (1, .int (iI (((dz : Nat) : Int)))), (2, .int (iI (dm))), (3, .int (iI (lr))), (4, .int (iI (sr)))]) hx hb dX2_learn_4 hl (by decide) rfl (fun ls hl => ?_)
  refine lv_aload_n hx hb dX2_learn_6 rfl (lv_at hl 1 rfl) ?_
  refine lv_iload hx hb dX2_learn_7 (lv_at hl 0 rfl) ?_
  have pk1 : picks [(kl, .inr (2, [.ref us, .int (iI (lev))])), (us, arI cs 7 se)] [0, 1] [(kl, .inr (2, [.ref us, .int (iI (lev))])), (us, arI cs 7 se)] := ⟨rfl, rfl, trivial⟩
  refine va_calli (va_runV (As := [.int (iI ((((dz % 7) : Nat) : Int)))]) (rest := []) ⟨hx, hb, hml, hown, hts⟩ (m_X2_seasonOf l D cs kl us lev se (dz % 7) (by omega)) (cwV 1 hts (gV w_536 w_537 w_538 w_3 w_539) rfl rfl rfl (by decide +kernel) ⟨Nat.le_of_ble_eq_true rfl, Nat.le_of_ble_eq_true rfl⟩) (PC_V hK hN hP hD [0, 1] rfl pk1 rfl rfl) rfl rfl hl.1 rfl (lv_room (Nat.le_of_ble_eq_true rfl)) dX2_learn_9 ⟨Nat.le_of_ble_eq_true rfl, Nat.le_of_ble_eq_true rfl⟩) hS (fun _ _ h => False.elim h) (fun _ h => False.elim h) (fun r u t H locs ht hvm hw hB hz1 hk1 hS => ?_)
  subst hw
  have hP := P_kept hP hk1
  refine lv_istore (lv' := [(6, .int (iI (se (dz % 7)))), (5, .int (iI ((((dz % 7) : Nat) : Int)))), (0, .ref kl), (1, .int (iI (((dz : Nat) : Int)))), (2, .int (iI (dm))), (3, .int (iI (lr))), (4, .int (iI (sr)))]) hx hb dX2_learn_12 hl (by decide) rfl (fun ls hl => ?_)
  refine lv_iload hx hb dX2_learn_14 (lv_at hl 1 rfl) ?_
  refine my_if_lt (tgt := 34) hx hb (by omega) dX2_learn_16 (by decide) (fun bh2 => (by omega : False).elim) (fun bh2 => ?_)
  refine lv_iload hx hb dX2_learn_19 (lv_at hl 1 rfl) ?_
  refine lv_aload_n hx hb dX2_learn_21 rfl (lv_at hl 2 rfl) ?_
  refine my_get hx hb hts inAX2 hown hK hP 0 rfl rfl 0 (by decide) w_45 rfl rfl dX2_learn_22 ?_
  refine my_alenI hx hb hK hP 1 rfl dX2_learn_25 ?_
  refine my_icmp_ge (tgt := 34) hx hb (by omega) dX2_learn_26 (by decide) (fun bh3 => (by omega : False).elim) (fun bh3 => ?_)
  refine lv_iload hx hb dX2_learn_29 (lv_at hl 0 rfl) ?_
  refine my_if_gt (tgt := 35) hx hb (by omega) dX2_learn_31 (by decide) (fun bh4 => ?_) (fun bh4 => (by omega : False).elim)
  refine lv_iload_n hx hb dX2_learn_35 rfl (lv_at hl 4 rfl) ?_
  refine my_i2l hx hb dX2_learn_36 (by omega) ?_
  refine lv_ldc2 (v := lI 1000000) hx hb hown (hts _ w_548) dX2_learn_37 ?_
  refine my_lmul (z := dm * 1000000) hx hb dX2_learn_40 (rfl) ?_
  refine lv_lstore (lv' := [(7, .long (lI (dm * 1000000))), (6, .int (iI (se (dz % 7)))), (5, .int (iI ((((dz % 7) : Nat) : Int)))), (0, .ref kl), (1, .int (iI (((dz : Nat) : Int)))), (2, .int (iI (dm))), (3, .int (iI (lr))), (4, .int (iI (sr)))]) hx hb dX2_learn_41 hl (by decide) rfl (fun ls hl => ?_)
  refine lv_aload_n hx hb dX2_learn_43 rfl (lv_at hl 3 rfl) ?_
  refine lv_dup hx hb dX2_learn_44 rfl ?_
  refine my_get hx hb hts inAX2 hown hK hP 0 rfl rfl 1 (by decide) w_46 rfl rfl dX2_learn_45 ?_
  refine lv_iload_n hx hb dX2_learn_48 rfl (lv_at hl 6 rfl) ?_
  refine my_i2l hx hb dX2_learn_49 (by omega) ?_
  refine lv_lload hx hb dX2_learn_50 (lv_at hl 0 rfl) ?_
  refine lv_iload hx hb dX2_learn_52 (lv_at hl 1 rfl) ?_
  refine my_i2l hx hb dX2_learn_54 (by omega) ?_
  refine my_ldiv hx hb dX2_learn_55 (by omega) rfl ?_
  refine lv_aload_n hx hb dX2_learn_56 rfl (lv_at hl 3 rfl) ?_
  refine my_get hx hb hts inAX2 hown hK hP 0 rfl rfl 1 (by decide) w_46 rfl rfl dX2_learn_57 ?_
  refine my_i2l hx hb dX2_learn_60 (by omega) ?_
  refine my_lsub (z := ((dm * 1000000) / (se (dz % 7))) - lev) hx hb dX2_learn_61 (rfl) ?_
  refine my_lmul (z := lr * (((dm * 1000000) / (se (dz % 7))) - lev)) hx hb dX2_learn_62 (rfl) ?_
  refine lv_ldc2 (v := lI 100) hx hb hown (hts _ w_549) dX2_learn_63 ?_
  have pk5 : picks [(kl, .inr (2, [.ref us, .int (iI (lev))])), (us, arI cs 7 se)] [] [] := trivial
  refine va_calll (va_runS (As := [.long (lI (lr * (((dm * 1000000) / (se (dz % 7))) - lev))), .long (lI (100))]) (rest := [.int (iI (lev)), .ref kl]) ⟨hx, hb, hml, hown, hts⟩ (m_J9_floorDiv_f86c9 l D cs (lr * (((dm * 1000000) / (se (dz % 7))) - lev)) (by omega)) (va_cwS 2 hts (gS w_550 w_551 w_15 w_552) rfl rfl rfl (by decide +kernel) ⟨Nat.le_of_ble_eq_true rfl, Nat.le_of_ble_eq_true rfl⟩) (PC_S hK hN hP hD [] rfl pk5) rfl rfl hl.1 rfl (lv_room (Nat.le_of_ble_eq_true rfl)) dX2_learn_66 ⟨Nat.le_of_ble_eq_true rfl, Nat.le_of_ble_eq_true rfl⟩) hS (fun _ _ h => False.elim h) (fun _ h => False.elim h) (fun r u t H locs ht hvm hw hB hz1 hk1 hS => ?_)
  subst hw
  have hP := P_kept hP hk1
  refine my_l2i hx hb dX2_learn_69 ?_
  refine my_iadd (z := lev + ((lr * (((dm * 1000000) / (se (dz % 7))) - lev)) / 100)) hx hb dX2_learn_70 (rfl) ?_
  refine my_cv0 (z := lvI lev (se (dz % 7)) dm lr) (rfl) ?_
  refine my_put hx hb hts inAX2 tyX2_ok nmX2 hown hK hP hD hS 0 rfl rfl 1 (by decide) w_46 rfl rfl rfl (Nat.le_of_ble_eq_true rfl) dX2_learn_71 (fun H locs hP hD hS => ?_)
  have hP : va_P D vwCl [(kl, .inr (2, [.ref us, .int (iI (lvI lev (se (dz % 7)) dm lr))])), (us, arI cs 7 se)] H := hP
  have hD : va_D A [(kl, .inr (2, [.ref us, .int (iI (lvI lev (se (dz % 7)) dm lr))])), (us, arI cs 7 se)] := hD
  refine lv_aload_n hx hb dX2_learn_74 rfl (lv_at hl 3 rfl) ?_
  refine my_get hx hb hts inAX2 hown hK hP 0 rfl rfl 1 (by decide) w_46 rfl rfl dX2_learn_75 ?_
  refine my_if_le (tgt := 131) hx hb (by omega) dX2_learn_78 (by decide) (fun bh6 => ?_) (fun bh6 => ?_)
  · have hWe : ([(kl, .inr (2, [.ref us, .int (iI (lvI lev (se (dz % 7)) dm lr))])), (us, arI cs 7 se)] : va_W) = [(kl, .inr (2, [.ref us, .int (iI (lvI lev (se (dz % 7)) dm lr))])), (us, arI cs 7 (snI (lvI lev (se (dz % 7)) dm lr) se (dz % 7) dm sr))] := by
      unfold snI
      first | rw [if_pos (by omega)] | rw [if_neg (by omega)]
    rw [hWe] at hP
    subst hAe
    exact W.vret hx hb hr (fun t ht hW => ⟨⟨(), rfl, trivial, by show va_P D vwCl _ t.heap; rw [ht]; exact hP⟩, hS.F ht⟩) hS.2.2 dX2_learn_131
  · have hq2 : 0 ≤ dm * 1000000 / (lvI lev (se (dz % 7)) dm lr) ∧ dm * 1000000 / (lvI lev (se (dz % 7)) dm lr) ≤ 999000000 := ⟨Int.ediv_nonneg (by omega) (by omega), by have := (div_rng (a := dm * 1000000) (b := lvI lev (se (dz % 7)) dm lr) (by omega) (by omega)).2; omega⟩
    have hm2 := mulS (y := dm * 1000000 / (lvI lev (se (dz % 7)) dm lr) - se (dz % 7)) (B := 1000000000) hsr (by omega)
    refine lv_iload hx hb dX2_learn_81 (lv_at hl 1 rfl) ?_
    refine my_i2l hx hb dX2_learn_83 (by omega) ?_
    refine lv_iload hx hb dX2_learn_84 (lv_at hl 7 rfl) ?_
    refine my_i2l hx hb dX2_learn_86 (by omega) ?_
    refine lv_lload hx hb dX2_learn_87 (lv_at hl 0 rfl) ?_
    refine lv_aload_n hx hb dX2_learn_89 rfl (lv_at hl 3 rfl) ?_
    refine my_get hx hb hts inAX2 hown hK hP 0 rfl rfl 1 (by decide) w_46 rfl rfl dX2_learn_90 ?_
    refine my_i2l hx hb dX2_learn_93 (by omega) ?_
    refine my_ldiv hx hb dX2_learn_94 (by omega) rfl ?_
    refine lv_iload hx hb dX2_learn_95 (lv_at hl 1 rfl) ?_
    refine my_i2l hx hb dX2_learn_97 (by omega) ?_
    refine my_lsub (z := ((dm * 1000000) / (lvI lev (se (dz % 7)) dm lr)) - (se (dz % 7))) hx hb dX2_learn_98 (rfl) ?_
    refine my_lmul (z := sr * (((dm * 1000000) / (lvI lev (se (dz % 7)) dm lr)) - (se (dz % 7)))) hx hb dX2_learn_99 (rfl) ?_
    refine lv_ldc2 (v := lI 100) hx hb hown (hts _ w_549) dX2_learn_100 ?_
    have pk7 : picks [(kl, .inr (2, [.ref us, .int (iI (lvI lev (se (dz % 7)) dm lr))])), (us, arI cs 7 se)] [] [] := trivial
    refine va_calll (va_runS (As := [.long (lI (sr * (((dm * 1000000) / (lvI lev (se (dz % 7)) dm lr)) - (se (dz % 7))))), .long (lI (100))]) (rest := [.long (lI (se (dz % 7)))]) ⟨hx, hb, hml, hown, hts⟩ (m_J9_floorDiv_f86c9 l D cs (sr * (((dm * 1000000) / (lvI lev (se (dz % 7)) dm lr)) - (se (dz % 7)))) (by omega)) (va_cwS 2 hts (gS w_550 w_551 w_15 w_552) rfl rfl rfl (by decide +kernel) ⟨Nat.le_of_ble_eq_true rfl, Nat.le_of_ble_eq_true rfl⟩) (PC_S hK hN hP hD [] rfl pk7) rfl rfl hl.1 rfl (lv_room (Nat.le_of_ble_eq_true rfl)) dX2_learn_103 ⟨Nat.le_of_ble_eq_true rfl, Nat.le_of_ble_eq_true rfl⟩) hS (fun _ _ h => False.elim h) (fun _ h => False.elim h) (fun r u t H locs ht hvm hw hB hz1 hk1 hS => ?_)
    subst hw
    have hP := P_kept hP hk1
    refine my_ladd (z := (se (dz % 7)) + ((sr * (((dm * 1000000) / (lvI lev (se (dz % 7)) dm lr)) - (se (dz % 7)))) / 100)) hx hb dX2_learn_106 (rfl) ?_
    refine lv_lstore (lv' := [(9, .long (lI ((se (dz % 7)) + ((sr * (((dm * 1000000) / (lvI lev (se (dz % 7)) dm lr)) - (se (dz % 7)))) / 100)))), (7, .long (lI (dm * 1000000))), (6, .int (iI (se (dz % 7)))), (5, .int (iI ((((dz % 7) : Nat) : Int)))), (0, .ref kl), (1, .int (iI (((dz : Nat) : Int)))), (2, .int (iI (dm))), (3, .int (iI (lr))), (4, .int (iI (sr)))]) hx hb dX2_learn_107 hl (by decide) rfl (fun ls hl => ?_)
    refine lv_aload_n hx hb dX2_learn_109 rfl (lv_at hl 4 rfl) ?_
    refine my_get hx hb hts inAX2 hown hK hP 0 rfl rfl 0 (by decide) w_45 rfl rfl dX2_learn_110 ?_
    refine lv_iload hx hb dX2_learn_113 (lv_at hl 3 rfl) ?_
    refine lv_ldc2 (v := lI 100) hx hb hown (hts _ w_549) dX2_learn_115 ?_
    refine lv_ldc2 (v := lI 5000) hx hb hown (hts _ w_553) dX2_learn_118 ?_
    refine lv_lload hx hb dX2_learn_121 (lv_at hl 0 rfl) ?_
    refine va_mmin_long hx hb (hml.trans hl.1.symm) hown (hts _ w_554) (hts _ w_555) (hts _ w_15) (hts _ w_556) (Nat.le_of_ble_eq_true rfl) (Nat.le_of_ble_eq_true rfl) (Nat.le_of_ble_eq_true rfl) (Nat.le_of_ble_eq_true rfl) dX2_learn_123 ?_
    rw [my_minL (by omega)]
    have hmn := mnI_le (a := 5000) (b := ((se (dz % 7)) + ((sr * (((dm * 1000000) / (lvI lev (se (dz % 7)) dm lr)) - (se (dz % 7)))) / 100)))
    refine va_mmax_long hx hb (hml.trans hl.1.symm) hown (hts _ w_557) (hts _ w_558) (hts _ w_15) (hts _ w_559) (Nat.le_of_ble_eq_true rfl) (Nat.le_of_ble_eq_true rfl) (Nat.le_of_ble_eq_true rfl) (Nat.le_of_ble_eq_true rfl) dX2_learn_126 ?_
    rw [my_maxL (by omega)]
    refine my_l2i hx hb dX2_learn_129 ?_
    refine my_cv0 (z := seI (lvI lev (se (dz % 7)) dm lr) (se (dz % 7)) dm sr) (rfl) ?_
    refine my_iast hx hb hK hP hD hS 1 rfl (by omega) (k := dz % 7) (Int.toNat_natCast _) dX2_learn_130 (fun H locs hP hD hS => ?_)
    have hP : va_P D vwCl [(kl, .inr (2, [.ref us, .int (iI (lvI lev (se (dz % 7)) dm lr))])), (us, arI cs 7 (upI se (dz % 7) (seI (lvI lev (se (dz % 7)) dm lr) (se (dz % 7)) dm sr)))] H := hP
    have hD : va_D A [(kl, .inr (2, [.ref us, .int (iI (lvI lev (se (dz % 7)) dm lr))])), (us, arI cs 7 (upI se (dz % 7) (seI (lvI lev (se (dz % 7)) dm lr) (se (dz % 7)) dm sr)))] := hD
    have hWe : ([(kl, .inr (2, [.ref us, .int (iI (lvI lev (se (dz % 7)) dm lr))])), (us, arI cs 7 (upI se (dz % 7) (seI (lvI lev (se (dz % 7)) dm lr) (se (dz % 7)) dm sr)))] : va_W) = [(kl, .inr (2, [.ref us, .int (iI (lvI lev (se (dz % 7)) dm lr))])), (us, arI cs 7 (snI (lvI lev (se (dz % 7)) dm lr) se (dz % 7) dm sr))] := by
      unfold snI
      first | rw [if_pos (by omega)] | rw [if_neg (by omega)]
    rw [hWe] at hP
    subst hAe
    exact W.vret hx hb hr (fun t ht hW => ⟨⟨(), rfl, trivial, by show va_P D vwCl _ t.heap; rw [ht]; exact hP⟩, hS.F ht⟩) hS.2.2 dX2_learn_131
