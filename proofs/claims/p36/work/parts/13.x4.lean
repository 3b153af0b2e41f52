abbrev ws_X4_start : List Cond := Cond.code yX4_start cX4_start 3 (none : Option FieldType) :: ALL
set_option maxHeartbeats 4000000 in
set_option maxRecDepth 100000 in
theorem m_X4_start (l : Launch) (D : va_G) (cs : Nat → ClassId) (kh ur ug : Nat) (rq gv : Nat → Int) (pn : Int) (pz : Int) : Met l yX4_start ws_X4_start ({ frames := 0, cells := 0, slots := 0, locals := 0 }) (va_Pc [.ref kh, .int (iI (pz))] (PC D cs [(kh, .inr (4, [.ref ur, .ref ug, .int (iI (pn))])), (ur, arI cs 4 rq), (ug, arI cs 4 gv)])) (va_Qv (fun (_ : Unit) => True) (fun _ t => va_P D vwCl [(kh, .inr (4, [.ref ur, .ref ug, .int (iI (pz))])), (ur, arI cs 4 (fun _ => 0)), (ug, arI cs 4 gv)] t.heap) (inW [(kh, .inr (4, [.ref ur, .ref ug, .int (iI (pn))])), (ur, arI cs 4 rq), (ug, arI cs 4 gv)])) 0 0 (inW [(kh, .inr (4, [.ref ur, .ref ug, .int (iI (pn))])), (ur, arI cs 4 rq), (ug, arI cs 4 gv)]) := by
  refine Met.ofW (cc := cX4_start) (maxL := 3) (ret := ((none : Option FieldType))) (by decide +kernel) rfl ?_
  intro p e s m args below meth c s₁ B hml hv
  obtain ⟨rfl, hP, hK, hD, hN⟩ := hv
  have hx := B.exec
  have hb := B.bytes
  have hr := B.returns
  have hts : ∀ w ∈ ALL, w.before _ s = true := fun w h => atoms_spec (ws := ws_X4_start) B.pre w (List.mem_cons_of_mem _ h)
  have hown : s.vm.findClass RX4 = some m.cls := findClass_of_methodNamed B.named
  have hlocks := B.notSynchronized
  generalize hAe : inW [(kh, .inr (4, [.ref ur, .ref ug, .int (iI (pn))])), (ur, arI cs 4 rq), (ug, arI cs 4 gv)] = A at hD ⊢
  have hS : va_S A s.heap s.heap [] := va_S.rf
  have hl := lv_entry ([.ref kh, .int (iI (pz))]) (n := 3) (Nat.le_of_ble_eq_true rfl)
  rw [lg_entry_eq]
  generalize (lg_sl ([.ref kh, .int (iI (pz))]) ++ List.replicate (3 - (lg_sl ([.ref kh, .int (iI (pz))])).length) Slot.unset).toArray = ls at hl ⊢
  have hl : lv_has ls 3 [(0, .ref kh), (1, .int (iI (pz)))] := hl
  have hH := rfl (a := s.heap)
  refine lv_aload_n hx hb dX4_start_0 rfl (lv_at hl 0 rfl) ?_
  refine lv_iload_n hx hb dX4_start_1 rfl (lv_at hl 1 rfl) ?_
  refine my_put hx hb hts inAX4 tyX4_ok nmX4 hown hK hP hD hS 0 rfl rfl 2 (by decide) w_61 rfl rfl rfl (Nat.le_of_ble_eq_true rfl) dX4_start_2 (fun H locs hP hD hS => ?_)
  have hP : va_P D vwCl [(kh, .inr (4, [.ref ur, .ref ug, .int (iI (pz))])), (ur, arI cs 4 rq), (ug, arI cs 4 gv)] H := hP
  have hD : va_D A [(kh, .inr (4, [.ref ur, .ref ug, .int (iI (pz))])), (ur, arI cs 4 rq), (ug, arI cs 4 gv)] := hD
  refine lv_iconst (v := iI (0)) hx hb dX4_start_5 rfl ?_
  refine lv_istore_n (lv' := [(2, .int (iI (0))), (0, .ref kh), (1, .int (iI (pz)))]) hx hb dX4_start_6 rfl hl (by decide) rfl (fun ls hl => ?_)
  suffices KL : ∀ (n : Nat) (i : Nat), i ≤ 4 → 4 - i < n → ∀ (H : Heap) (locs : List Loc) (ls : Array Slot), va_P D vwCl [(kh, .inr (4, [.ref ur, .ref ug, .int (iI (pz))])), (ur, arI cs 4 (flI rq 0 i)), (ug, arI cs 4 gv)] H → va_D A [(kh, .inr (4, [.ref ur, .ref ug, .int (iI (pz))])), (ur, arI cs 4 (flI rq 0 i)), (ug, arI cs 4 gv)] → va_S A s.heap H locs → lv_has ls 3 [(2, .int (iI (((i : Nat) : Int)))), (0, .ref kh), (1, .int (iI (pz)))] → W p l e _ s m _ below meth c H locs 0 0 _ (F0 m 7 ls []) from
    KL _ 0 (Nat.zero_le _) (Nat.lt_succ_self _) _ _ _ (by rw [flI_0]; exact hP) (by rw [flI_0]; exact hD) hS (lv_sub hl [0, 1, 2] rfl)
  intro n
  induction n with
  | zero => intro i hil h0; exact absurd h0 (Nat.not_lt_zero _)
  | succ n ih =>
    intro i hil hmu H locs ls hP hD hS hl
    refine lv_iload_n hx hb dX4_start_7 rfl (lv_at hl 0 rfl) ?_
    refine lv_aload_n hx hb dX4_start_8 rfl (lv_at hl 1 rfl) ?_
    refine my_get hx hb hts inAX4 hown hK hP 0 rfl rfl 0 (by decide) w_59 rfl rfl dX4_start_9 ?_
    refine my_alenI hx hb hK hP 1 rfl dX4_start_12 ?_
    refine my_icmp_ge (tgt := 29) hx hb (by omega) dX4_start_13 (by decide) (fun bh1 => ?_) (fun bh1 => ?_)
    · have hD := D_arI hD (k := 1) (g := fun _ => 0) rfl
      have hP := P_arI hP (k := 1) (g := fun _ => 0) rfl (fun j hj => by simp only [flI]; rw [if_pos (by omega)])
      have hP : va_P D vwCl [(kh, .inr (4, [.ref ur, .ref ug, .int (iI (pz))])), (ur, arI cs 4 (fun _ => 0)), (ug, arI cs 4 gv)] H := hP
      have hD : va_D A [(kh, .inr (4, [.ref ur, .ref ug, .int (iI (pz))])), (ur, arI cs 4 (fun _ => 0)), (ug, arI cs 4 gv)] := hD
      subst hAe
      exact W.vret hx hb hr (fun t ht hW => ⟨⟨(), rfl, trivial, by show va_P D vwCl _ t.heap; rw [ht]; exact hP⟩, hS.F ht⟩) hS.2.2 dX4_start_29
    · refine lv_aload_n hx hb dX4_start_16 rfl (lv_at hl 1 rfl) ?_
      refine my_get hx hb hts inAX4 hown hK hP 0 rfl rfl 0 (by decide) w_59 rfl rfl dX4_start_17 ?_
      refine lv_iload_n hx hb dX4_start_20 rfl (lv_at hl 0 rfl) ?_
      refine lv_iconst (v := iI (0)) hx hb dX4_start_21 rfl ?_
      refine my_iast hx hb hK hP hD hS 1 rfl (by omega) (k := i) (Int.toNat_natCast _) dX4_start_22 (fun H locs hP hD hS => ?_)
      have hP : va_P D vwCl [(kh, .inr (4, [.ref ur, .ref ug, .int (iI (pz))])), (ur, arI cs 4 (upI (flI rq 0 i) i 0)), (ug, arI cs 4 gv)] H := hP
      have hD : va_D A [(kh, .inr (4, [.ref ur, .ref ug, .int (iI (pz))])), (ur, arI cs 4 (upI (flI rq 0 i) i 0)), (ug, arI cs 4 gv)] := hD
      refine lv_iinc (v := iI (((i : Nat) : Int) + 1)) (lv' := [(2, .int (iI (((i : Nat) : Int) + 1))), (0, .ref kh), (1, .int (iI (pz)))]) hx hb dX4_start_23 hl (k := 0) rfl (by rw [show (((i : Nat) : Int) + 1 : Int) = ((i : Nat) : Int) + 1 from rfl]; exact iI_add _ _) (by decide) rfl (fun ls hl => ?_)
      refine lv_goto (tgt := 7) hx hb dX4_start_26 (by decide) ?_
      have e1 : ((i : Nat) : Int) + 1 = ((i + 1 : Nat) : Int) := by omega
      rw [e1] at hl
      rw [flI_s] at hP hD
      exact ih (i + 1) (by omega) (by omega) _ _ _ hP hD hS (lv_sub hl [0, 1, 2] rfl)

abbrev ws_X4_ask : List Cond := Cond.code yX4_ask cX4_ask 3 (none : Option FieldType) :: ALL
set_option maxHeartbeats 4000000 in
set_option maxRecDepth 100000 in
theorem m_X4_ask (l : Launch) (D : va_G) (cs : Nat → ClassId) (kh ur ug : Nat) (rq gv : Nat → Int) (pn : Int) (sn : Nat) (rz : Int) (hsn : sn < 4) : Met l yX4_ask ws_X4_ask ({ frames := 0, cells := 0, slots := 0, locals := 0 }) (va_Pc [.ref kh, .int (iI (((sn : Nat) : Int))), .int (iI (rz))] (PC D cs [(kh, .inr (4, [.ref ur, .ref ug, .int (iI (pn))])), (ur, arI cs 4 rq), (ug, arI cs 4 gv)])) (va_Qv (fun (_ : Unit) => True) (fun _ t => va_P D vwCl [(kh, .inr (4, [.ref ur, .ref ug, .int (iI (pn))])), (ur, arI cs 4 (upI rq sn rz)), (ug, arI cs 4 gv)] t.heap) (inW [(kh, .inr (4, [.ref ur, .ref ug, .int (iI (pn))])), (ur, arI cs 4 rq), (ug, arI cs 4 gv)])) 0 0 (inW [(kh, .inr (4, [.ref ur, .ref ug, .int (iI (pn))])), (ur, arI cs 4 rq), (ug, arI cs 4 gv)]) := by
  refine Met.ofW (cc := cX4_ask) (maxL := 3) (ret := ((none : Option FieldType))) (by decide +kernel) rfl ?_
  intro p e s m args below meth c s₁ B hml hv
  obtain ⟨rfl, hP, hK, hD, hN⟩ := hv
  have hx := B.exec
  have hb := B.bytes
  have hr := B.returns
  have hts : ∀ w ∈ ALL, w.before _ s = true := fun w h => atoms_spec (ws := ws_X4_ask) B.pre w (List.mem_cons_of_mem _ h)
  have hown : s.vm.findClass RX4 = some m.cls := findClass_of_methodNamed B.named
  have hlocks := B.notSynchronized
  generalize hAe : inW [(kh, .inr (4, [.ref ur, .ref ug, .int (iI (pn))])), (ur, arI cs 4 rq), (ug, arI cs 4 gv)] = A at hD ⊢
  have hS : va_S A s.heap s.heap [] := va_S.rf
  have hl := lv_entry ([.ref kh, .int (iI (((sn : Nat) : Int))), .int (iI (rz))]) (n := 3) (Nat.le_of_ble_eq_true rfl)
  rw [lg_entry_eq]
  generalize (lg_sl ([.ref kh, .int (iI (((sn : Nat) : Int))), .int (iI (rz))]) ++ List.replicate (3 - (lg_sl ([.ref kh, .int (iI (((sn : Nat) : Int))), .int (iI (rz))])).length) Slot.unset).toArray = ls at hl ⊢
  have hl : lv_has ls 3 [(0, .ref kh), (1, .int (iI (((sn : Nat) : Int)))), (2, .int (iI (rz)))] := hl
  have hH := rfl (a := s.heap)
  refine lv_iload_n hx hb dX4_ask_0 rfl (lv_at hl 1 rfl) ?_
  refine my_if_lt (tgt := 20) hx hb (by omega) dX4_ask_1 (by decide) (fun bh1 => (by omega : False).elim) (fun bh1 => ?_)
  refine lv_iload_n hx hb dX4_ask_4 rfl (lv_at hl 1 rfl) ?_
  refine lv_aload_n hx hb dX4_ask_5 rfl (lv_at hl 0 rfl) ?_
  refine my_get hx hb hts inAX4 hown hK hP 0 rfl rfl 0 (by decide) w_59 rfl rfl dX4_ask_6 ?_
  refine my_alenI hx hb hK hP 1 rfl dX4_ask_9 ?_
  refine my_icmp_ge (tgt := 20) hx hb (by omega) dX4_ask_10 (by decide) (fun bh2 => (by omega : False).elim) (fun bh2 => ?_)
  refine lv_aload_n hx hb dX4_ask_13 rfl (lv_at hl 0 rfl) ?_
  refine my_get hx hb hts inAX4 hown hK hP 0 rfl rfl 0 (by decide) w_59 rfl rfl dX4_ask_14 ?_
  refine lv_iload_n hx hb dX4_ask_17 rfl (lv_at hl 1 rfl) ?_
  refine lv_iload_n hx hb dX4_ask_18 rfl (lv_at hl 2 rfl) ?_
  refine my_iast hx hb hK hP hD hS 1 rfl (by omega) (k := sn) (Int.toNat_natCast _) dX4_ask_19 (fun H locs hP hD hS => ?_)
  have hP : va_P D vwCl [(kh, .inr (4, [.ref ur, .ref ug, .int (iI (pn))])), (ur, arI cs 4 (upI rq sn rz)), (ug, arI cs 4 gv)] H := hP
  have hD : va_D A [(kh, .inr (4, [.ref ur, .ref ug, .int (iI (pn))])), (ur, arI cs 4 (upI rq sn rz)), (ug, arI cs 4 gv)] := hD
  subst hAe
  exact W.vret hx hb hr (fun t ht hW => ⟨⟨(), rfl, trivial, by show va_P D vwCl _ t.heap; rw [ht]; exact hP⟩, hS.F ht⟩) hS.2.2 dX4_ask_20

abbrev ws_X4_givenAhead : List Cond := Cond.code yX4_givenAhead cX4_givenAhead 10 (some .long) :: ALL
set_option maxHeartbeats 4000000 in
set_option maxRecDepth 100000 in
theorem m_X4_givenAhead (l : Launch) (D : va_G) (cs : Nat → ClassId) (kh ur ug : Nat) (rq gv : Nat → Int) (pn : Int) (sn : Nat) (hz : Int) (hsn : sn < 4) (hrq : ∀ j, 0 ≤ rq j ∧ rq j ≤ 1000000) (hhz : 0 ≤ hz ∧ hz ≤ 1000000) : Met l yX4_givenAhead ws_X4_givenAhead ({ frames := 0, cells := 0, slots := 0, locals := 0 }) (va_Pc [.ref kh, .int (iI (((sn : Nat) : Int))), .int (iI (hz))] (PC D cs [(kh, .inr (4, [.ref ur, .ref ug, .int (iI (pn))])), (ur, arI cs 4 rq), (ug, arI cs 4 gv)])) (va_Ql (fun r (_ : Unit) => r = lI (gaI rq sn hz)) (fun _ _ => True) noA) 0 0 noA := by
  refine Met.ofW (cc := cX4_givenAhead) (maxL := 10) (ret := (some .long)) (by decide +kernel) rfl ?_
  intro p e s m args below meth c s₁ B hml hv
  obtain ⟨rfl, hP, hK, hD, hN⟩ := hv
  have hx := B.exec
  have hb := B.bytes
  have hr := B.returns
  have hts : ∀ w ∈ ALL, w.before _ s = true := fun w h => atoms_spec (ws := ws_X4_givenAhead) B.pre w (List.mem_cons_of_mem _ h)
  have hown : s.vm.findClass RX4 = some m.cls := findClass_of_methodNamed B.named
  have hlocks := B.notSynchronized
  have hS : va_S noA s.heap s.heap [] := va_S.rf
  generalize inW [(kh, .inr (4, [.ref ur, .ref ug, .int (iI (pn))])), (ur, arI cs 4 rq), (ug, arI cs 4 gv)] = A at hD
  have hl := lv_entry ([.ref kh, .int (iI (((sn : Nat) : Int))), .int (iI (hz))]) (n := 10) (Nat.le_of_ble_eq_true rfl)
  rw [lg_entry_eq]
  generalize (lg_sl ([.ref kh, .int (iI (((sn : Nat) : Int))), .int (iI (hz))]) ++ List.replicate (10 - (lg_sl ([.ref kh, .int (iI (((sn : Nat) : Int))), .int (iI (hz))])).length) Slot.unset).toArray = ls at hl ⊢
  have hl : lv_has ls 10 [(0, .ref kh), (1, .int (iI (((sn : Nat) : Int)))), (2, .int (iI (hz)))] := hl
  have hH := rfl (a := s.heap)
  have hrs := hrq sn
  refine lv_iload_n hx hb dX4_givenAhead_0 rfl (lv_at hl 1 rfl) ?_
  refine my_if_lt (tgt := 23) hx hb (by omega) dX4_givenAhead_1 (by decide) (fun bh1 => (by omega : False).elim) (fun bh1 => ?_)
  refine lv_iload_n hx hb dX4_givenAhead_4 rfl (lv_at hl 1 rfl) ?_
  refine lv_aload_n hx hb dX4_givenAhead_5 rfl (lv_at hl 0 rfl) ?_
  refine my_get hx hb hts inAX4 hown hK hP 0 rfl rfl 0 (by decide) w_59 rfl rfl dX4_givenAhead_6 ?_
  refine my_alenI hx hb hK hP 1 rfl dX4_givenAhead_9 ?_
  refine my_icmp_ge (tgt := 23) hx hb (by omega) dX4_givenAhead_10 (by decide) (fun bh2 => (by omega : False).elim) (fun bh2 => ?_)
  refine lv_aload_n hx hb dX4_givenAhead_13 rfl (lv_at hl 0 rfl) ?_
  refine my_get hx hb hts inAX4 hown hK hP 0 rfl rfl 0 (by decide) w_59 rfl rfl dX4_givenAhead_14 ?_
  refine lv_iload_n hx hb dX4_givenAhead_17 rfl (lv_at hl 1 rfl) ?_
  refine my_iald hx hb hK hP 1 rfl (by omega) (k := sn) (Int.toNat_natCast _) dX4_givenAhead_18 ?_
  refine my_i2l hx hb dX4_givenAhead_19 (by omega) ?_
  refine lv_goto (tgt := 24) hx hb dX4_givenAhead_20 (by decide) ?_
  refine lv_lstore_n (lv' := [(3, .long (lI (rq sn))), (0, .ref kh), (1, .int (iI (((sn : Nat) : Int)))), (2, .int (iI (hz)))]) hx hb dX4_givenAhead_24 rfl hl (by decide) rfl (fun ls hl => ?_)
  refine lv_lload_n hx hb dX4_givenAhead_25 rfl (lv_at hl 0 rfl) ?_
  refine lv_lconst (v := lI 0) hx hb dX4_givenAhead_26 (by decide) ?_
  refine my_lcmp_gt (tgt := 33) hx hb (by omega) dX4_givenAhead_27 dX4_givenAhead_28 (by decide) (fun bh3 => ?_) (fun bh3 => ?_)
  · refine lv_iload_n hx hb dX4_givenAhead_33 rfl (lv_at hl 3 rfl) ?_
    refine my_i2l hx hb dX4_givenAhead_34 (by omega) ?_
    refine lv_lstore (lv' := [(5, .long (lI (hz))), (3, .long (lI (rq sn))), (0, .ref kh), (1, .int (iI (((sn : Nat) : Int)))), (2, .int (iI (hz)))]) hx hb dX4_givenAhead_35 hl (by decide) rfl (fun ls hl => ?_)
    refine lv_iconst (v := iI (0)) hx hb dX4_givenAhead_37 rfl ?_
    refine lv_istore (lv' := [(7, .int (iI (0))), (5, .long (lI (hz))), (3, .long (lI (rq sn))), (0, .ref kh), (1, .int (iI (((sn : Nat) : Int)))), (2, .int (iI (hz)))]) hx hb dX4_givenAhead_38 hl (by decide) rfl (fun ls hl => ?_)
    suffices KL : ∀ (n : Nat) (i : Nat), i ≤ 4 → 4 - i < n → ∀ (H : Heap) (locs : List Loc) (ls : Array Slot), va_P D vwCl [(kh, .inr (4, [.ref ur, .ref ug, .int (iI (pn))])), (ur, arI cs 4 rq), (ug, arI cs 4 gv)] H → va_S noA s.heap H locs → lv_has ls 10 [(7, .int (iI (((i : Nat) : Int)))), (5, .long (lI (hz + smI (caI rq sn hz) i))), (3, .long (lI (rq sn))), (0, .ref kh), (1, .int (iI (((sn : Nat) : Int)))), (2, .int (iI (hz)))] → W p l e _ s m _ below meth c H locs 0 0 _ (F0 m 40 ls []) from
      KL _ 0 (Nat.zero_le _) (Nat.lt_succ_self _) _ _ _ hP hS (lv_sub hl [0, 1, 2, 3, 4, 5] (by rw [show hz + smI (caI rq sn hz) 0 = hz from by simp [smI]]; rfl))
    intro n
    induction n with
    | zero => intro i hil h0; exact absurd h0 (Nat.not_lt_zero _)
    | succ n ih =>
      intro i hil hmu H locs ls hP hS hl
      have hri := hrq i
      have hm := mul_rng (a := hz) (b := rq i) (A := 1000000) (B := 1000000) hhz.1 hhz.2 hri.1 hri.2
      refine lv_iload hx hb dX4_givenAhead_40 (lv_at hl 0 rfl) ?_
      refine lv_aload_n hx hb dX4_givenAhead_42 rfl (lv_at hl 3 rfl) ?_
      refine my_get hx hb hts inAX4 hown hK hP 0 rfl rfl 0 (by decide) w_59 rfl rfl dX4_givenAhead_43 ?_
      refine my_alenI hx hb hK hP 1 rfl dX4_givenAhead_46 ?_
      refine my_icmp_ge (tgt := 128) hx hb (by omega) dX4_givenAhead_47 (by decide) (fun bh4 => ?_) (fun bh4 => ?_)
      · refine lv_lload hx hb dX4_givenAhead_128 (lv_at hl 1 rfl) ?_
        have hres : lI (hz + smI (caI rq sn hz) i) = lI (gaI rq sn hz) := congrArg lI (by
            have ei : i = 4 := by omega
            rw [gaI, if_neg (by omega), ei])
        exact W.lret hx hb hr (fun t ht hW => ⟨⟨_, (), rfl, hres, trivial⟩, hS.F ht⟩) hS.2.2 dX4_givenAhead_130
      · refine lv_iload_n hx hb dX4_givenAhead_50 rfl (lv_at hl 5 rfl) ?_
        refine my_i2l hx hb dX4_givenAhead_51 (by omega) ?_
        refine lv_aload_n hx hb dX4_givenAhead_52 rfl (lv_at hl 3 rfl) ?_
        refine my_get hx hb hts inAX4 hown hK hP 0 rfl rfl 0 (by decide) w_59 rfl rfl dX4_givenAhead_53 ?_
        refine lv_iload hx hb dX4_givenAhead_56 (lv_at hl 0 rfl) ?_
        refine my_iald hx hb hK hP 1 rfl (by omega) (k := i) (Int.toNat_natCast _) dX4_givenAhead_58 ?_
        refine my_i2l hx hb dX4_givenAhead_59 (by omega) ?_
        refine my_lmul (z := hz * (rq i)) hx hb dX4_givenAhead_60 (rfl) ?_
        refine lv_lstore (lv' := [(8, .long (lI (hz * (rq i)))), (7, .int (iI (((i : Nat) : Int)))), (5, .long (lI (hz + smI (caI rq sn hz) i))), (3, .long (lI (rq sn))), (0, .ref kh), (1, .int (iI (((sn : Nat) : Int)))), (2, .int (iI (hz)))]) hx hb dX4_givenAhead_61 hl (by decide) rfl (fun ls hl => ?_)
        refine lv_aload_n hx hb dX4_givenAhead_63 rfl (lv_at hl 4 rfl) ?_
        refine my_get hx hb hts inAX4 hown hK hP 0 rfl rfl 0 (by decide) w_59 rfl rfl dX4_givenAhead_64 ?_
        refine lv_iload hx hb dX4_givenAhead_67 (lv_at hl 1 rfl) ?_
        refine my_iald hx hb hK hP 1 rfl (by omega) (k := i) (Int.toNat_natCast _) dX4_givenAhead_69 ?_
        refine my_if_le (tgt := 93) hx hb (by omega) dX4_givenAhead_70 (by decide) (fun bh5 => ?_) (fun bh5 => ?_)
        · refine lv_aload_n hx hb dX4_givenAhead_93 rfl (lv_at hl 4 rfl) ?_
          refine my_get hx hb hts inAX4 hown hK hP 0 rfl rfl 0 (by decide) w_59 rfl rfl dX4_givenAhead_94 ?_
          refine lv_iload hx hb dX4_givenAhead_97 (lv_at hl 1 rfl) ?_
          refine my_iald hx hb hK hP 1 rfl (by omega) (k := i) (Int.toNat_natCast _) dX4_givenAhead_99 ?_
          refine my_if_le (tgt := 122) hx hb (by omega) dX4_givenAhead_100 (by decide) (fun bh6 => ?_) (fun bh6 => ?_)
          · refine lv_iinc (v := iI (((i : Nat) : Int) + 1)) (lv' := [(7, .int (iI (((i : Nat) : Int) + 1))), (8, .long (lI (hz * (rq i)))), (5, .long (lI (hz + smI (caI rq sn hz) i))), (3, .long (lI (rq sn))), (0, .ref kh), (1, .int (iI (((sn : Nat) : Int)))), (2, .int (iI (hz)))]) hx hb dX4_givenAhead_122 hl (k := 1) rfl (by rw [show (((i : Nat) : Int) + 1 : Int) = ((i : Nat) : Int) + 1 from rfl]; exact iI_add _ _) (by decide) rfl (fun ls hl => ?_)
            refine lv_goto (tgt := 40) hx hb dX4_givenAhead_125 (by decide) ?_
            have e1 : ((i : Nat) : Int) + 1 = ((i + 1 : Nat) : Int) := by omega
            rw [e1] at hl
            have e2 : hz + smI (caI rq sn hz) i = hz + smI (caI rq sn hz) (i + 1) := by simp only [smI, caI]; first | (rw [if_pos (by omega)]; omega) | (rw [if_neg (by omega), if_pos (by omega)]; omega) | (rw [if_neg (by omega), if_neg (by omega)]; omega)
            rw [e2] at hl
            exact ih (i + 1) (by omega) (by omega) _ _ _ hP hS (lv_sub hl [0, 2, 3, 4, 5, 6] rfl)
          · refine lv_iload hx hb dX4_givenAhead_103 (lv_at hl 1 rfl) ?_
            refine lv_iload_n hx hb dX4_givenAhead_105 rfl (lv_at hl 5 rfl) ?_
            refine my_icmp_le (tgt := 122) hx hb (by omega) dX4_givenAhead_106 (by decide) (fun bh7 => ?_) (fun bh7 => ?_)
            · refine lv_iinc (v := iI (((i : Nat) : Int) + 1)) (lv' := [(7, .int (iI (((i : Nat) : Int) + 1))), (8, .long (lI (hz * (rq i)))), (5, .long (lI (hz + smI (caI rq sn hz) i))), (3, .long (lI (rq sn))), (0, .ref kh), (1, .int (iI (((sn : Nat) : Int)))), (2, .int (iI (hz)))]) hx hb dX4_givenAhead_122 hl (k := 1) rfl (by rw [show (((i : Nat) : Int) + 1 : Int) = ((i : Nat) : Int) + 1 from rfl]; exact iI_add _ _) (by decide) rfl (fun ls hl => ?_)
              refine lv_goto (tgt := 40) hx hb dX4_givenAhead_125 (by decide) ?_
              have e1 : ((i : Nat) : Int) + 1 = ((i + 1 : Nat) : Int) := by omega
              rw [e1] at hl
              have e2 : hz + smI (caI rq sn hz) i = hz + smI (caI rq sn hz) (i + 1) := by simp only [smI, caI]; first | (rw [if_pos (by omega)]; omega) | (rw [if_neg (by omega), if_pos (by omega)]; omega) | (rw [if_neg (by omega), if_neg (by omega)]; omega)
              rw [e2] at hl
              exact ih (i + 1) (by omega) (by omega) _ _ _ hP hS (lv_sub hl [0, 2, 3, 4, 5, 6] rfl)
            · refine lv_lload hx hb dX4_givenAhead_109 (lv_at hl 2 rfl) ?_
              refine lv_lload hx hb dX4_givenAhead_111 (lv_at hl 0 rfl) ?_
              refine lv_lload_n hx hb dX4_givenAhead_113 rfl (lv_at hl 3 rfl) ?_
              refine my_ladd (z := (hz * (rq i)) + (rq sn)) hx hb dX4_givenAhead_114 (rfl) ?_
              refine lv_lconst (v := lI 1) hx hb dX4_givenAhead_115 (by decide) ?_
              refine my_lsub (z := ((hz * (rq i)) + (rq sn)) - 1) hx hb dX4_givenAhead_116 (rfl) ?_
              refine lv_lload_n hx hb dX4_givenAhead_117 rfl (lv_at hl 3 rfl) ?_
              refine my_ldiv hx hb dX4_givenAhead_118 (by omega) rfl ?_
              refine my_ladd (z := (hz + smI (caI rq sn hz) i) + ((((hz * (rq i)) + (rq sn)) - 1) / (rq sn))) hx hb dX4_givenAhead_119 (rfl) ?_
              refine lv_lstore (lv' := [(5, .long (lI ((hz + smI (caI rq sn hz) i) + ((((hz * (rq i)) + (rq sn)) - 1) / (rq sn))))), (8, .long (lI (hz * (rq i)))), (7, .int (iI (((i : Nat) : Int)))), (3, .long (lI (rq sn))), (0, .ref kh), (1, .int (iI (((sn : Nat) : Int)))), (2, .int (iI (hz)))]) hx hb dX4_givenAhead_120 hl (by decide) rfl (fun ls hl => ?_)
              refine lv_iinc (v := iI (((i : Nat) : Int) + 1)) (lv' := [(7, .int (iI (((i : Nat) : Int) + 1))), (5, .long (lI ((hz + smI (caI rq sn hz) i) + ((((hz * (rq i)) + (rq sn)) - 1) / (rq sn))))), (8, .long (lI (hz * (rq i)))), (3, .long (lI (rq sn))), (0, .ref kh), (1, .int (iI (((sn : Nat) : Int)))), (2, .int (iI (hz)))]) hx hb dX4_givenAhead_122 hl (k := 2) rfl (by rw [show (((i : Nat) : Int) + 1 : Int) = ((i : Nat) : Int) + 1 from rfl]; exact iI_add _ _) (by decide) rfl (fun ls hl => ?_)
              refine lv_goto (tgt := 40) hx hb dX4_givenAhead_125 (by decide) ?_
              have e1 : ((i : Nat) : Int) + 1 = ((i + 1 : Nat) : Int) := by omega
              rw [e1] at hl
              have e2 : (hz + smI (caI rq sn hz) i) + ((((hz * (rq i)) + (rq sn)) - 1) / (rq sn)) = hz + smI (caI rq sn hz) (i + 1) := by simp only [smI, caI]; first | (rw [if_pos (by omega)]; omega) | (rw [if_neg (by omega), if_pos (by omega)]; omega) | (rw [if_neg (by omega), if_neg (by omega)]; omega)
              rw [e2] at hl
              exact ih (i + 1) (by omega) (by omega) _ _ _ hP hS (lv_sub hl [0, 1, 3, 4, 5, 6] rfl)
        · refine lv_iload hx hb dX4_givenAhead_73 (lv_at hl 1 rfl) ?_
          refine lv_iload_n hx hb dX4_givenAhead_75 rfl (lv_at hl 5 rfl) ?_
          refine my_icmp_ge (tgt := 93) hx hb (by omega) dX4_givenAhead_76 (by decide) (fun bh8 => ?_) (fun bh8 => ?_)
          · refine lv_aload_n hx hb dX4_givenAhead_93 rfl (lv_at hl 4 rfl) ?_
            refine my_get hx hb hts inAX4 hown hK hP 0 rfl rfl 0 (by decide) w_59 rfl rfl dX4_givenAhead_94 ?_
            refine lv_iload hx hb dX4_givenAhead_97 (lv_at hl 1 rfl) ?_
            refine my_iald hx hb hK hP 1 rfl (by omega) (k := i) (Int.toNat_natCast _) dX4_givenAhead_99 ?_
            refine my_if_le (tgt := 122) hx hb (by omega) dX4_givenAhead_100 (by decide) (fun bh9 => ?_) (fun bh9 => ?_)
            · refine lv_iinc (v := iI (((i : Nat) : Int) + 1)) (lv' := [(7, .int (iI (((i : Nat) : Int) + 1))), (8, .long (lI (hz * (rq i)))), (5, .long (lI (hz + smI (caI rq sn hz) i))), (3, .long (lI (rq sn))), (0, .ref kh), (1, .int (iI (((sn : Nat) : Int)))), (2, .int (iI (hz)))]) hx hb dX4_givenAhead_122 hl (k := 1) rfl (by rw [show (((i : Nat) : Int) + 1 : Int) = ((i : Nat) : Int) + 1 from rfl]; exact iI_add _ _) (by decide) rfl (fun ls hl => ?_)
              refine lv_goto (tgt := 40) hx hb dX4_givenAhead_125 (by decide) ?_
              have e1 : ((i : Nat) : Int) + 1 = ((i + 1 : Nat) : Int) := by omega
              rw [e1] at hl
              have e2 : hz + smI (caI rq sn hz) i = hz + smI (caI rq sn hz) (i + 1) := by simp only [smI, caI]; first | (rw [if_pos (by omega)]; omega) | (rw [if_neg (by omega), if_pos (by omega)]; omega) | (rw [if_neg (by omega), if_neg (by omega)]; omega)
              rw [e2] at hl
              exact ih (i + 1) (by omega) (by omega) _ _ _ hP hS (lv_sub hl [0, 2, 3, 4, 5, 6] rfl)
            · refine lv_iload hx hb dX4_givenAhead_103 (lv_at hl 1 rfl) ?_
              refine lv_iload_n hx hb dX4_givenAhead_105 rfl (lv_at hl 5 rfl) ?_
              refine my_icmp_le (tgt := 122) hx hb (by omega) dX4_givenAhead_106 (by decide) (fun bh10 => ?_) (fun bh10 => ?_)
              · refine lv_iinc (v := iI (((i : Nat) : Int) + 1)) (lv' := [(7, .int (iI (((i : Nat) : Int) + 1))), (8, .long (lI (hz * (rq i)))), (5, .long (lI (hz + smI (caI rq sn hz) i))), (3, .long (lI (rq sn))), (0, .ref kh), (1, .int (iI (((sn : Nat) : Int)))), (2, .int (iI (hz)))]) hx hb dX4_givenAhead_122 hl (k := 1) rfl (by rw [show (((i : Nat) : Int) + 1 : Int) = ((i : Nat) : Int) + 1 from rfl]; exact iI_add _ _) (by decide) rfl (fun ls hl => ?_)
                refine lv_goto (tgt := 40) hx hb dX4_givenAhead_125 (by decide) ?_
                have e1 : ((i : Nat) : Int) + 1 = ((i + 1 : Nat) : Int) := by omega
                rw [e1] at hl
                have e2 : hz + smI (caI rq sn hz) i = hz + smI (caI rq sn hz) (i + 1) := by simp only [smI, caI]; first | (rw [if_pos (by omega)]; omega) | (rw [if_neg (by omega), if_pos (by omega)]; omega) | (rw [if_neg (by omega), if_neg (by omega)]; omega)
                rw [e2] at hl
                exact ih (i + 1) (by omega) (by omega) _ _ _ hP hS (lv_sub hl [0, 2, 3, 4, 5, 6] rfl)
              · refine lv_lload hx hb dX4_givenAhead_109 (lv_at hl 2 rfl) ?_
                refine lv_lload hx hb dX4_givenAhead_111 (lv_at hl 0 rfl) ?_
                refine lv_lload_n hx hb dX4_givenAhead_113 rfl (lv_at hl 3 rfl) ?_
                refine my_ladd (z := (hz * (rq i)) + (rq sn)) hx hb dX4_givenAhead_114 (rfl) ?_
                refine lv_lconst (v := lI 1) hx hb dX4_givenAhead_115 (by decide) ?_
                refine my_lsub (z := ((hz * (rq i)) + (rq sn)) - 1) hx hb dX4_givenAhead_116 (rfl) ?_
                refine lv_lload_n hx hb dX4_givenAhead_117 rfl (lv_at hl 3 rfl) ?_
                refine my_ldiv hx hb dX4_givenAhead_118 (by omega) rfl ?_
                refine my_ladd (z := (hz + smI (caI rq sn hz) i) + ((((hz * (rq i)) + (rq sn)) - 1) / (rq sn))) hx hb dX4_givenAhead_119 (rfl) ?_
                refine lv_lstore (lv' := [(5, .long (lI ((hz + smI (caI rq sn hz) i) + ((((hz * (rq i)) + (rq sn)) - 1) / (rq sn))))), (8, .long (lI (hz * (rq i)))), (7, .int (iI (((i : Nat) : Int)))), (3, .long (lI (rq sn))), (0, .ref kh), (1, .int (iI (((sn : Nat) : Int)))), (2, .int (iI (hz)))]) hx hb dX4_givenAhead_120 hl (by decide) rfl (fun ls hl => ?_)
                refine lv_iinc (v := iI (((i : Nat) : Int) + 1)) (lv' := [(7, .int (iI (((i : Nat) : Int) + 1))), (5, .long (lI ((hz + smI (caI rq sn hz) i) + ((((hz * (rq i)) + (rq sn)) - 1) / (rq sn))))), (8, .long (lI (hz * (rq i)))), (3, .long (lI (rq sn))), (0, .ref kh), (1, .int (iI (((sn : Nat) : Int)))), (2, .int (iI (hz)))]) hx hb dX4_givenAhead_122 hl (k := 2) rfl (by rw [show (((i : Nat) : Int) + 1 : Int) = ((i : Nat) : Int) + 1 from rfl]; exact iI_add _ _) (by decide) rfl (fun ls hl => ?_)
                refine lv_goto (tgt := 40) hx hb dX4_givenAhead_125 (by decide) ?_
                have e1 : ((i : Nat) : Int) + 1 = ((i + 1 : Nat) : Int) := by omega
                rw [e1] at hl
                have e2 : (hz + smI (caI rq sn hz) i) + ((((hz * (rq i)) + (rq sn)) - 1) / (rq sn)) = hz + smI (caI rq sn hz) (i + 1) := by simp only [smI, caI]; first | (rw [if_pos (by omega)]; omega) | (rw [if_neg (by omega), if_pos (by omega)]; omega) | (rw [if_neg (by omega), if_neg (by omega)]; omega)
                rw [e2] at hl
                exact ih (i + 1) (by omega) (by omega) _ _ _ hP hS (lv_sub hl [0, 1, 3, 4, 5, 6] rfl)
          · refine lv_lload hx hb dX4_givenAhead_79 (lv_at hl 2 rfl) ?_
            refine lv_lload hx hb dX4_givenAhead_81 (lv_at hl 0 rfl) ?_
            refine lv_lload_n hx hb dX4_givenAhead_83 rfl (lv_at hl 3 rfl) ?_
            refine my_ldiv hx hb dX4_givenAhead_84 (by omega) rfl ?_
            refine lv_lconst (v := lI 1) hx hb dX4_givenAhead_85 (by decide) ?_
            refine my_ladd (z := ((hz * (rq i)) / (rq sn)) + 1) hx hb dX4_givenAhead_86 (rfl) ?_
            refine my_ladd (z := (hz + smI (caI rq sn hz) i) + (((hz * (rq i)) / (rq sn)) + 1)) hx hb dX4_givenAhead_87 (rfl) ?_
            refine lv_lstore (lv' := [(5, .long (lI ((hz + smI (caI rq sn hz) i) + (((hz * (rq i)) / (rq sn)) + 1)))), (8, .long (lI (hz * (rq i)))), (7, .int (iI (((i : Nat) : Int)))), (3, .long (lI (rq sn))), (0, .ref kh), (1, .int (iI (((sn : Nat) : Int)))), (2, .int (iI (hz)))]) hx hb dX4_givenAhead_88 hl (by decide) rfl (fun ls hl => ?_)
            refine lv_goto (tgt := 122) hx hb dX4_givenAhead_90 (by decide) ?_
            refine lv_iinc (v := iI (((i : Nat) : Int) + 1)) (lv' := [(7, .int (iI (((i : Nat) : Int) + 1))), (5, .long (lI ((hz + smI (caI rq sn hz) i) + (((hz * (rq i)) / (rq sn)) + 1)))), (8, .long (lI (hz * (rq i)))), (3, .long (lI (rq sn))), (0, .ref kh), (1, .int (iI (((sn : Nat) : Int)))), (2, .int (iI (hz)))]) hx hb dX4_givenAhead_122 hl (k := 2) rfl (by rw [show (((i : Nat) : Int) + 1 : Int) = ((i : Nat) : Int) + 1 from rfl]; exact iI_add _ _) (by decide) rfl (fun ls hl => ?_)
            refine lv_goto (tgt := 40) hx hb dX4_givenAhead_125 (by decide) ?_
            have e1 : ((i : Nat) : Int) + 1 = ((i + 1 : Nat) : Int) := by omega
            rw [e1] at hl
            have e2 : (hz + smI (caI rq sn hz) i) + (((hz * (rq i)) / (rq sn)) + 1) = hz + smI (caI rq sn hz) (i + 1) := by simp only [smI, caI]; first | (rw [if_pos (by omega)]; omega) | (rw [if_neg (by omega), if_pos (by omega)]; omega) | (rw [if_neg (by omega), if_neg (by omega)]; omega)
            rw [e2] at hl
            exact ih (i + 1) (by omega) (by omega) _ _ _ hP hS (lv_sub hl [0, 1, 3, 4, 5, 6] rfl)
  · refine lv_lconst (v := lI 0) hx hb dX4_givenAhead_31 (by decide) ?_
    have hres : lI (0) = lI (gaI rq sn hz) := congrArg lI (by
        rw [gaI, if_pos (by omega)])
    exact W.lret hx hb hr (fun t ht hW => ⟨⟨_, (), rfl, hres, trivial⟩, hS.F ht⟩) hS.2.2 dX4_givenAhead_32

abbrev ws_X4_counted : List Cond := Cond.code yX4_counted cX4_counted 6 (some .int) :: ALL
set_option maxHeartbeats 4000000 in
set_option maxRecDepth 100000 in
theorem m_X4_counted (l : Launch) (D : va_G) (cs : Nat → ClassId) (kh ur ug : Nat) (rq gv : Nat → Int) (pn : Int) (sn : Nat) (hsn : sn < 4) (hrq : ∀ j, 0 ≤ rq j ∧ rq j ≤ 1000000) (hpn : 0 ≤ pn ∧ pn ≤ 1000000) : Met l yX4_counted ws_X4_counted ({ frames := 1, cells := 0, slots := 0, locals := 29 }) (va_Pc [.ref kh, .int (iI (((sn : Nat) : Int)))] (PC D cs [(kh, .inr (4, [.ref ur, .ref ug, .int (iI (pn))])), (ur, arI cs 4 rq), (ug, arI cs 4 gv)])) (va_Qi (fun r (_ : Unit) => r = iI (ctI rq pn sn 32 0 (rq sn))) (fun _ _ => True) noA) 0 0 noA := by
  refine Met.ofW (cc := cX4_counted) (maxL := 6) (ret := (some .int)) (by decide +kernel) rfl ?_
  intro p e s m args below meth c s₁ B hml hv
  obtain ⟨rfl, hP, hK, hD, hN⟩ := hv
  have hx := B.exec
  have hb := B.bytes
  have hr := B.returns
  have hts : ∀ w ∈ ALL, w.before _ s = true := fun w h => atoms_spec (ws := ws_X4_counted) B.pre w (List.mem_cons_of_mem _ h)
  have hown : s.vm.findClass RX4 = some m.cls := findClass_of_methodNamed B.named
  have hlocks := B.notSynchronized
  have hS : va_S noA s.heap s.heap [] := va_S.rf
  generalize inW [(kh, .inr (4, [.ref ur, .ref ug, .int (iI (pn))])), (ur, arI cs 4 rq), (ug, arI cs 4 gv)] = A at hD
  have hl := lv_entry ([.ref kh, .int (iI (((sn : Nat) : Int)))]) (n := 6) (Nat.le_of_ble_eq_true rfl)
  rw [lg_entry_eq]
  generalize (lg_sl ([.ref kh, .int (iI (((sn : Nat) : Int)))]) ++ List.replicate (6 - (lg_sl ([.ref kh, .int (iI (((sn : Nat) : Int)))])).length) Slot.unset).toArray = ls at hl ⊢
  have hl : lv_has ls 6 [(0, .ref kh), (1, .int (iI (((sn : Nat) : Int))))] := hl
  have hH := rfl (a := s.heap)
  have hrs := hrq sn
  refine lv_iload_n hx hb dX4_counted_0 rfl (lv_at hl 1 rfl) ?_
  refine my_if_lt (tgt := 13) hx hb (by omega) dX4_counted_1 (by decide) (fun bh1 => (by omega : False).elim) (fun bh1 => ?_)
  refine lv_iload_n hx hb dX4_counted_4 rfl (lv_at hl 1 rfl) ?_
  refine lv_aload_n hx hb dX4_counted_5 rfl (lv_at hl 0 rfl) ?_
  refine my_get hx hb hts inAX4 hown hK hP 0 rfl rfl 0 (by decide) w_59 rfl rfl dX4_counted_6 ?_
  refine my_alenI hx hb hK hP 1 rfl dX4_counted_9 ?_
  refine my_icmp_lt (tgt := 15) hx hb (by omega) dX4_counted_10 (by decide) (fun bh2 => ?_) (fun bh2 => (by omega : False).elim)
  refine lv_iconst (v := iI (0)) hx hb dX4_counted_15 rfl ?_
  refine lv_istore_n (lv' := [(2, .int (iI (0))), (0, .ref kh), (1, .int (iI (((sn : Nat) : Int))))]) hx hb dX4_counted_16 rfl hl (by decide) rfl (fun ls hl => ?_)
  refine lv_aload_n hx hb dX4_counted_17 rfl (lv_at hl 1 rfl) ?_
  refine my_get hx hb hts inAX4 hown hK hP 0 rfl rfl 0 (by decide) w_59 rfl rfl dX4_counted_18 ?_
  refine lv_iload_n hx hb dX4_counted_21 rfl (lv_at hl 2 rfl) ?_
  refine my_iald hx hb hK hP 1 rfl (by omega) (k := sn) (Int.toNat_natCast _) dX4_counted_22 ?_
  refine lv_istore_n (lv' := [(3, .int (iI (rq sn))), (2, .int (iI (0))), (0, .ref kh), (1, .int (iI (((sn : Nat) : Int))))]) hx hb dX4_counted_23 rfl hl (by decide) rfl (fun ls hl => ?_)
  refine lv_iconst (v := iI (0)) hx hb dX4_counted_24 rfl ?_
  refine lv_istore (lv' := [(4, .int (iI (0))), (3, .int (iI (rq sn))), (2, .int (iI (0))), (0, .ref kh), (1, .int (iI (((sn : Nat) : Int))))]) hx hb dX4_counted_25 hl (by decide) rfl (fun ls hl => ?_)
  suffices KL : ∀ (n : Nat) (i : Nat) (lo : Int) (hi : Int), i ≤ 32 → 0 ≤ lo ∧ lo ≤ 1000000 → 0 ≤ hi ∧ hi ≤ 1000000 → ctI rq pn sn 32 0 (rq sn) = ctI rq pn sn (32 - i) lo hi → 32 - i < n → ∀ (H : Heap) (locs : List Loc) (ls : Array Slot), va_P D vwCl [(kh, .inr (4, [.ref ur, .ref ug, .int (iI (pn))])), (ur, arI cs 4 rq), (ug, arI cs 4 gv)] H → va_S noA s.heap H locs → lv_has ls 6 [(4, .int (iI (((i : Nat) : Int)))), (3, .int (iI (hi))), (2, .int (iI (lo))), (0, .ref kh), (1, .int (iI (((sn : Nat) : Int))))] → W p l e _ s m _ below meth c H locs 0 0 _ (F0 m 27 ls []) from
    KL _ 0 0 (rq sn) (Nat.zero_le _) (by omega) (by omega) (rfl) (Nat.lt_succ_self _) _ _ _ hP hS (lv_sub hl [0, 1, 2, 3, 4] rfl)
  intro n
  induction n with
  | zero => intro i lo hi hil hlo hhi hs h0; exact absurd h0 (Nat.not_lt_zero _)
  | succ n ih =>
    intro i lo hi hil hlo hhi hs hmu H locs ls hP hS hl
    have hga := fun (hz : Int) (hh : 0 ≤ hz ∧ hz ≤ 1000000) => gaI_rng (s := sn) hrq hh
    refine lv_iload hx hb dX4_counted_27 (lv_at hl 0 rfl) ?_
    refine lv_bipush (v := iI (32)) hx hb dX4_counted_29 (by decide) ?_
    refine my_icmp_ge (tgt := 81) hx hb (by omega) dX4_counted_31 (by decide) (fun bh3 => ?_) (fun bh3 => ?_)
    · refine lv_iload_n hx hb dX4_counted_81 rfl (lv_at hl 2 rfl) ?_
      have hres : iI (lo) = iI (ctI rq pn sn 32 0 (rq sn)) := congrArg iI (by
          first
          | (rw [hs, show 32 - i = 0 from by omega]; rfl)
          | (rw [hs]; cases h9 : 32 - i with
             | zero => rfl
             | succ n9 => rw [ctI, if_pos (by omega)]))
      exact W.iret hx hb hr (fun t ht hW => ⟨⟨_, (), rfl, hres, trivial⟩, hS.F ht⟩) hS.2.2 dX4_counted_82
    · refine lv_iload_n hx hb dX4_counted_34 rfl (lv_at hl 2 rfl) ?_
      refine lv_iload_n hx hb dX4_counted_35 rfl (lv_at hl 1 rfl) ?_
      refine my_icmp_ge (tgt := 81) hx hb (by omega) dX4_counted_36 (by decide) (fun bh4 => ?_) (fun bh4 => ?_)
      · refine lv_iload_n hx hb dX4_counted_81 rfl (lv_at hl 2 rfl) ?_
        have hres : iI (lo) = iI (ctI rq pn sn 32 0 (rq sn)) := congrArg iI (by
            first
            | (rw [hs, show 32 - i = 0 from by omega]; rfl)
            | (rw [hs]; cases h9 : 32 - i with
               | zero => rfl
               | succ n9 => rw [ctI, if_pos (by omega)]))
        exact W.iret hx hb hr (fun t ht hW => ⟨⟨_, (), rfl, hres, trivial⟩, hS.F ht⟩) hS.2.2 dX4_counted_82
      · refine lv_iload_n hx hb dX4_counted_39 rfl (lv_at hl 2 rfl) ?_
        refine lv_iload_n hx hb dX4_counted_40 rfl (lv_at hl 1 rfl) ?_
        refine lv_iload_n hx hb dX4_counted_41 rfl (lv_at hl 2 rfl) ?_
        refine my_isub (z := hi - lo) hx hb dX4_counted_42 (rfl) ?_
        refine lv_iconst (v := iI (2)) hx hb dX4_counted_43 rfl ?_
        refine my_idiv hx hb dX4_counted_44 (by omega) rfl ?_
        refine my_iadd (z := lo + ((hi - lo) / 2)) hx hb dX4_counted_45 (rfl) ?_
        refine lv_istore (lv' := [(5, .int (iI (lo + ((hi - lo) / 2)))), (4, .int (iI (((i : Nat) : Int)))), (3, .int (iI (hi))), (2, .int (iI (lo))), (0, .ref kh), (1, .int (iI (((sn : Nat) : Int))))]) hx hb dX4_counted_46 hl (by decide) rfl (fun ls hl => ?_)
        refine lv_aload_n hx hb dX4_counted_48 rfl (lv_at hl 4 rfl) ?_
        refine lv_iload_n hx hb dX4_counted_49 rfl (lv_at hl 5 rfl) ?_
        refine lv_iload hx hb dX4_counted_50 (lv_at hl 0 rfl) ?_
        have pk5 : picks [(kh, .inr (4, [.ref ur, .ref ug, .int (iI (pn))])), (ur, arI cs 4 rq), (ug, arI cs 4 gv)] [0, 1, 2] [(kh, .inr (4, [.ref ur, .ref ug, .int (iI (pn))])), (ur, arI cs 4 rq), (ug, arI cs 4 gv)] := ⟨rfl, rfl, rfl, trivial⟩
        refine va_calll (va_runV (As := [.int (iI (((sn : Nat) : Int))), .int (iI (lo + ((hi - lo) / 2)))]) (rest := []) ⟨hx, hb, hml, hown, hts⟩ (m_X4_givenAhead l D cs kh ur ug rq gv pn sn (lo + ((hi - lo) / 2)) (by omega) (hrq) (by omega)) (cwV 2 hts (gV w_608 w_610 w_p14 w_4 w_611) rfl rfl rfl (by decide +kernel) ⟨Nat.le_of_ble_eq_true rfl, Nat.le_of_ble_eq_true rfl⟩) (PC_V hK hN hP hD [0, 1, 2] rfl pk5 rfl rfl) rfl rfl hl.1 rfl (lv_room (Nat.le_of_ble_eq_true rfl)) dX4_counted_52 ⟨Nat.le_of_ble_eq_true rfl, Nat.le_of_ble_eq_true rfl⟩) hS (fun _ _ h => False.elim h) (fun _ h => False.elim h) (fun r u t H locs ht hvm hw hB hz1 hk1 hS => ?_)
        subst hw
        have hP := P_kept hP hk1
        have hgm := hga (lo + (hi - lo) / 2) (by omega)
        refine lv_aload_n hx hb dX4_counted_55 rfl (lv_at hl 4 rfl) ?_
        refine my_get hx hb hts inAX4 hown hK hP 0 rfl rfl 2 (by decide) w_61 rfl rfl dX4_counted_56 ?_
        refine my_i2l hx hb dX4_counted_59 (by omega) ?_
        refine my_lcmp_ge (tgt := 72) hx hb (by omega) dX4_counted_60 dX4_counted_61 (by decide) (fun bh6 => ?_) (fun bh6 => ?_)
        · refine lv_iload hx hb dX4_counted_72 (lv_at hl 0 rfl) ?_
          refine lv_istore_n (lv' := [(3, .int (iI (lo + ((hi - lo) / 2)))), (5, .int (iI (lo + ((hi - lo) / 2)))), (4, .int (iI (((i : Nat) : Int)))), (2, .int (iI (lo))), (0, .ref kh), (1, .int (iI (((sn : Nat) : Int))))]) hx hb dX4_counted_74 rfl hl (by decide) rfl (fun ls hl => ?_)
          refine lv_iinc (v := iI (((i : Nat) : Int) + 1)) (lv' := [(4, .int (iI (((i : Nat) : Int) + 1))), (3, .int (iI (lo + ((hi - lo) / 2)))), (5, .int (iI (lo + ((hi - lo) / 2)))), (2, .int (iI (lo))), (0, .ref kh), (1, .int (iI (((sn : Nat) : Int))))]) hx hb dX4_counted_75 hl (k := 2) rfl (by rw [show (((i : Nat) : Int) + 1 : Int) = ((i : Nat) : Int) + 1 from rfl]; exact iI_add _ _) (by decide) rfl (fun ls hl => ?_)
          refine lv_goto (tgt := 27) hx hb dX4_counted_78 (by decide) ?_
          have e1 : ((i : Nat) : Int) + 1 = ((i + 1 : Nat) : Int) := by omega
          rw [e1] at hl
          exact ih (i + 1) lo (lo + ((hi - lo) / 2)) (by omega) (by omega) (by omega) (by rw [hs, show 32 - i = (32 - (i + 1)) + 1 from by omega, ctI, if_neg (by omega)]; first | rw [if_pos (by omega)] | rw [if_neg (by omega)]) (by omega) _ _ _ hP hS (lv_sub hl [0, 1, 3, 4, 5] rfl)
        · refine lv_iload hx hb dX4_counted_64 (lv_at hl 0 rfl) ?_
          refine lv_iconst (v := iI (1)) hx hb dX4_counted_66 rfl ?_
          refine my_iadd (z := (lo + ((hi - lo) / 2)) + 1) hx hb dX4_counted_67 (rfl) ?_
          refine lv_istore_n (lv' := [(2, .int (iI ((lo + ((hi - lo) / 2)) + 1))), (5, .int (iI (lo + ((hi - lo) / 2)))), (4, .int (iI (((i : Nat) : Int)))), (3, .int (iI (hi))), (0, .ref kh), (1, .int (iI (((sn : Nat) : Int))))]) hx hb dX4_counted_68 rfl hl (by decide) rfl (fun ls hl => ?_)
          refine lv_goto (tgt := 75) hx hb dX4_counted_69 (by decide) ?_
          refine lv_iinc (v := iI (((i : Nat) : Int) + 1)) (lv' := [(4, .int (iI (((i : Nat) : Int) + 1))), (2, .int (iI ((lo + ((hi - lo) / 2)) + 1))), (5, .int (iI (lo + ((hi - lo) / 2)))), (3, .int (iI (hi))), (0, .ref kh), (1, .int (iI (((sn : Nat) : Int))))]) hx hb dX4_counted_75 hl (k := 2) rfl (by rw [show (((i : Nat) : Int) + 1 : Int) = ((i : Nat) : Int) + 1 from rfl]; exact iI_add _ _) (by decide) rfl (fun ls hl => ?_)
          refine lv_goto (tgt := 27) hx hb dX4_counted_78 (by decide) ?_
          have e1 : ((i : Nat) : Int) + 1 = ((i + 1 : Nat) : Int) := by omega
          rw [e1] at hl
          exact ih (i + 1) ((lo + ((hi - lo) / 2)) + 1) hi (by omega) (by omega) (by omega) (by rw [hs, show 32 - i = (32 - (i + 1)) + 1 from by omega, ctI, if_neg (by omega)]; first | rw [if_pos (by omega)] | rw [if_neg (by omega)]) (by omega) _ _ _ hP hS (lv_sub hl [0, 3, 1, 4, 5] rfl)

abbrev ws_X4_nextToGet : List Cond := Cond.code yX4_nextToGet cX4_nextToGet 8 (some .int) :: ALL
set_option maxHeartbeats 4000000 in
set_option maxRecDepth 100000 in
theorem m_X4_nextToGet (l : Launch) (D : va_G) (cs : Nat → ClassId) (kh ur ug : Nat) (rq gv : Nat → Int) (pn : Int) (hrq : ∀ j, 0 ≤ rq j ∧ rq j ≤ 1000000) (hgv : ∀ j, 0 ≤ gv j ∧ gv j ≤ 1000000) : Met l yX4_nextToGet ws_X4_nextToGet ({ frames := 0, cells := 0, slots := 0, locals := 0 }) (va_Pc [.ref kh] (PC D cs [(kh, .inr (4, [.ref ur, .ref ug, .int (iI (pn))])), (ur, arI cs 4 rq), (ug, arI cs 4 gv)])) (va_Qi (fun r (_ : Unit) => r = iI (ntI rq gv 4)) (fun _ _ => True) noA) 0 0 noA := by
  refine Met.ofW (cc := cX4_nextToGet) (maxL := 8) (ret := (some .int)) (by decide +kernel) rfl ?_
  intro p e s m args below meth c s₁ B hml hv
  obtain ⟨rfl, hP, hK, hD, hN⟩ := hv
  have hx := B.exec
  have hb := B.bytes
  have hr := B.returns
  have hts : ∀ w ∈ ALL, w.before _ s = true := fun w h => atoms_spec (ws := ws_X4_nextToGet) B.pre w (List.mem_cons_of_mem _ h)
  have hown : s.vm.findClass RX4 = some m.cls := findClass_of_methodNamed B.named
  have hlocks := B.notSynchronized
  have hS : va_S noA s.heap s.heap [] := va_S.rf
  generalize inW [(kh, .inr (4, [.ref ur, .ref ug, .int (iI (pn))])), (ur, arI cs 4 rq), (ug, arI cs 4 gv)] = A at hD
  have hl := lv_entry ([.ref kh]) (n := 8) (Nat.le_of_ble_eq_true rfl)
  rw [lg_entry_eq]
  generalize (lg_sl ([.ref kh]) ++ List.replicate (8 - (lg_sl ([.ref kh])).length) Slot.unset).toArray = ls at hl ⊢
  have hl : lv_has ls 8 [(0, .ref kh)] := hl
  have hH := rfl (a := s.heap)
  refine lv_iconst (v := iI (-1)) hx hb dX4_nextToGet_0 rfl ?_
  refine lv_istore_n (lv' := [(1, .int (iI (-1))), (0, .ref kh)]) hx hb dX4_nextToGet_1 rfl hl (by decide) rfl (fun ls hl => ?_)
  refine lv_lconst (v := lI 0) hx hb dX4_nextToGet_2 (by decide) ?_
  refine lv_lstore_n (lv' := [(2, .long (lI (0))), (1, .int (iI (-1))), (0, .ref kh)]) hx hb dX4_nextToGet_3 rfl hl (by decide) rfl (fun ls hl => ?_)
  refine lv_lconst (v := lI 1) hx hb dX4_nextToGet_4 (by decide) ?_
  refine lv_lstore (lv' := [(4, .long (lI (1))), (2, .long (lI (0))), (1, .int (iI (-1))), (0, .ref kh)]) hx hb dX4_nextToGet_5 hl (by decide) rfl (fun ls hl => ?_)
  refine lv_iconst (v := iI (0)) hx hb dX4_nextToGet_7 rfl ?_
  refine lv_istore (lv' := [(6, .int (iI (0))), (4, .long (lI (1))), (2, .long (lI (0))), (1, .int (iI (-1))), (0, .ref kh)]) hx hb dX4_nextToGet_8 hl (by decide) rfl (fun ls hl => ?_)
  suffices KL : ∀ (n : Nat) (i : Nat), i ≤ 4 → 4 - i < n → ∀ (H : Heap) (locs : List Loc) (ls : Array Slot), va_P D vwCl [(kh, .inr (4, [.ref ur, .ref ug, .int (iI (pn))])), (ur, arI cs 4 rq), (ug, arI cs 4 gv)] H → va_S noA s.heap H locs → lv_has ls 8 [(6, .int (iI (((i : Nat) : Int)))), (4, .long (lI (nrI rq (ntI rq gv i)))), (2, .long (lI (ngI gv (ntI rq gv i)))), (1, .int (iI (ntI rq gv i))), (0, .ref kh)] → W p l e _ s m _ below meth c H locs 0 0 _ (F0 m 10 ls []) from
    KL _ 0 (Nat.zero_le _) (Nat.lt_succ_self _) _ _ _ hP hS (lv_sub hl [0, 1, 2, 3, 4] rfl)
  intro n
  induction n with
  | zero => intro i hil h0; exact absurd h0 (Nat.not_lt_zero _)
  | succ n ih =>
    intro i hil hmu H locs ls hP hS hl
    have hri := hrq i
    have hgi := hgv i
    have hnt := ntI_rng rq gv i
    have hnr : 0 ≤ nrI rq (ntI rq gv i) ∧ nrI rq (ntI rq gv i) ≤ 1000000 := by unfold nrI; split; omega; exact hrq _
    have hng : 0 ≤ ngI gv (ntI rq gv i) ∧ ngI gv (ntI rq gv i) ≤ 1000000 := by unfold ngI; split; omega; exact hgv _
    have hm1 := mul_rng (a := gv i) (b := nrI rq (ntI rq gv i)) (A := 1000000) (B := 1000000) hgi.1 hgi.2 hnr.1 hnr.2
    have hm2 := mul_rng (a := ngI gv (ntI rq gv i)) (b := rq i) (A := 1000000) (B := 1000000) hng.1 hng.2 hri.1 hri.2
    refine lv_iload hx hb dX4_nextToGet_10 (lv_at hl 0 rfl) ?_
    refine lv_aload_n hx hb dX4_nextToGet_12 rfl (lv_at hl 4 rfl) ?_
    refine my_get hx hb hts inAX4 hown hK hP 0 rfl rfl 1 (by decide) w_60 rfl rfl dX4_nextToGet_13 ?_
    refine my_alenI hx hb hK hP 2 rfl dX4_nextToGet_16 ?_
    refine my_icmp_ge (tgt := 116) hx hb (by omega) dX4_nextToGet_17 (by decide) (fun bh1 => ?_) (fun bh1 => ?_)
    · refine lv_iload_n hx hb dX4_nextToGet_116 rfl (lv_at hl 3 rfl) ?_
      have hres : iI (ntI rq gv i) = iI (ntI rq gv 4) := congrArg iI (by
          have ei : i = 4 := by omega
          rw [ei])
      exact W.iret hx hb hr (fun t ht hW => ⟨⟨_, (), rfl, hres, trivial⟩, hS.F ht⟩) hS.2.2 dX4_nextToGet_117
    · refine lv_iload hx hb dX4_nextToGet_20 (lv_at hl 0 rfl) ?_
      refine lv_aload_n hx hb dX4_nextToGet_22 rfl (lv_at hl 4 rfl) ?_
      refine my_get hx hb hts inAX4 hown hK hP 0 rfl rfl 0 (by decide) w_59 rfl rfl dX4_nextToGet_23 ?_
      refine my_alenI hx hb hK hP 1 rfl dX4_nextToGet_26 ?_
      refine my_icmp_ge (tgt := 116) hx hb (by omega) dX4_nextToGet_27 (by decide) (fun bh2 => (by omega : False).elim) (fun bh2 => ?_)
      refine lv_aload_n hx hb dX4_nextToGet_30 rfl (lv_at hl 4 rfl) ?_
      refine my_get hx hb hts inAX4 hown hK hP 0 rfl rfl 1 (by decide) w_60 rfl rfl dX4_nextToGet_31 ?_
      refine lv_iload hx hb dX4_nextToGet_34 (lv_at hl 0 rfl) ?_
      refine my_iald hx hb hK hP 2 rfl (by omega) (k := i) (Int.toNat_natCast _) dX4_nextToGet_36 ?_
      refine lv_aload_n hx hb dX4_nextToGet_37 rfl (lv_at hl 4 rfl) ?_
      refine my_get hx hb hts inAX4 hown hK hP 0 rfl rfl 0 (by decide) w_59 rfl rfl dX4_nextToGet_38 ?_
      refine lv_iload hx hb dX4_nextToGet_41 (lv_at hl 0 rfl) ?_
      refine my_iald hx hb hK hP 1 rfl (by omega) (k := i) (Int.toNat_natCast _) dX4_nextToGet_43 ?_
      refine my_icmp_ge (tgt := 51) hx hb (by omega) dX4_nextToGet_44 (by decide) (fun bh3 => ?_) (fun bh3 => ?_)
      · refine lv_iconst (v := iI (0)) hx hb dX4_nextToGet_51 rfl ?_
        refine lv_istore (lv' := [(7, .int (iI (0))), (6, .int (iI (((i : Nat) : Int)))), (4, .long (lI (nrI rq (ntI rq gv i)))), (2, .long (lI (ngI gv (ntI rq gv i)))), (1, .int (iI (ntI rq gv i))), (0, .ref kh)]) hx hb dX4_nextToGet_52 hl (by decide) rfl (fun ls hl => ?_)
        refine lv_iload hx hb dX4_nextToGet_54 (lv_at hl 0 rfl) ?_
        refine my_if_eq (tgt := 110) hx hb (by omega) dX4_nextToGet_56 (by decide) (fun bh4 => ?_) (fun bh4 => (by omega : False).elim)
        refine lv_iinc (v := iI (((i : Nat) : Int) + 1)) (lv' := [(6, .int (iI (((i : Nat) : Int) + 1))), (7, .int (iI (0))), (4, .long (lI (nrI rq (ntI rq gv i)))), (2, .long (lI (ngI gv (ntI rq gv i)))), (1, .int (iI (ntI rq gv i))), (0, .ref kh)]) hx hb dX4_nextToGet_110 hl (k := 1) rfl (by rw [show (((i : Nat) : Int) + 1 : Int) = ((i : Nat) : Int) + 1 from rfl]; exact iI_add _ _) (by decide) rfl (fun ls hl => ?_)
        refine lv_goto (tgt := 10) hx hb dX4_nextToGet_113 (by decide) ?_
        have e1 : ((i : Nat) : Int) + 1 = ((i + 1 : Nat) : Int) := by omega
        rw [e1] at hl
        have e2 : ntI rq gv i = ntI rq gv (i + 1) := by rw [ntI, if_neg (by omega)]
        rw [e2] at hl
        exact ih (i + 1) (by omega) (by omega) _ _ _ hP hS (lv_sub hl [0, 2, 3, 4, 5] rfl)
      · refine lv_iconst (v := iI (1)) hx hb dX4_nextToGet_47 rfl ?_
        refine lv_goto (tgt := 52) hx hb dX4_nextToGet_48 (by decide) ?_
        refine lv_istore (lv' := [(7, .int (iI (1))), (6, .int (iI (((i : Nat) : Int)))), (4, .long (lI (nrI rq (ntI rq gv i)))), (2, .long (lI (ngI gv (ntI rq gv i)))), (1, .int (iI (ntI rq gv i))), (0, .ref kh)]) hx hb dX4_nextToGet_52 hl (by decide) rfl (fun ls hl => ?_)
        refine lv_iload hx hb dX4_nextToGet_54 (lv_at hl 0 rfl) ?_
        refine my_if_eq (tgt := 110) hx hb (by omega) dX4_nextToGet_56 (by decide) (fun bh5 => (by omega : False).elim) (fun bh5 => ?_)
        refine lv_iload_n hx hb dX4_nextToGet_59 rfl (lv_at hl 4 rfl) ?_
        refine my_if_lt (tgt := 88) hx hb (by omega) dX4_nextToGet_60 (by decide) (fun bh6 => ?_) (fun bh6 => ?_)
        · refine lv_iload hx hb dX4_nextToGet_88 (lv_at hl 1 rfl) ?_
          refine lv_istore_n (lv' := [(1, .int (iI (((i : Nat) : Int)))), (7, .int (iI (1))), (6, .int (iI (((i : Nat) : Int)))), (4, .long (lI (nrI rq (ntI rq gv i)))), (2, .long (lI (ngI gv (ntI rq gv i)))), (0, .ref kh)]) hx hb dX4_nextToGet_90 rfl hl (by decide) rfl (fun ls hl => ?_)
          refine lv_aload_n hx hb dX4_nextToGet_91 rfl (lv_at hl 5 rfl) ?_
          refine my_get hx hb hts inAX4 hown hK hP 0 rfl rfl 1 (by decide) w_60 rfl rfl dX4_nextToGet_92 ?_
          refine lv_iload hx hb dX4_nextToGet_95 (lv_at hl 2 rfl) ?_
          refine my_iald hx hb hK hP 2 rfl (by omega) (k := i) (Int.toNat_natCast _) dX4_nextToGet_97 ?_
          refine my_i2l hx hb dX4_nextToGet_98 (by omega) ?_
          refine lv_lstore_n (lv' := [(2, .long (lI (gv i))), (1, .int (iI (((i : Nat) : Int)))), (7, .int (iI (1))), (6, .int (iI (((i : Nat) : Int)))), (4, .long (lI (nrI rq (ntI rq gv i)))), (0, .ref kh)]) hx hb dX4_nextToGet_99 rfl hl (by decide) rfl (fun ls hl => ?_)
          refine lv_aload_n hx hb dX4_nextToGet_100 rfl (lv_at hl 5 rfl) ?_
          refine my_get hx hb hts inAX4 hown hK hP 0 rfl rfl 0 (by decide) w_59 rfl rfl dX4_nextToGet_101 ?_
          refine lv_iload hx hb dX4_nextToGet_104 (lv_at hl 3 rfl) ?_
          refine my_iald hx hb hK hP 1 rfl (by omega) (k := i) (Int.toNat_natCast _) dX4_nextToGet_106 ?_
          refine my_i2l hx hb dX4_nextToGet_107 (by omega) ?_
          refine lv_lstore (lv' := [(4, .long (lI (rq i))), (2, .long (lI (gv i))), (1, .int (iI (((i : Nat) : Int)))), (7, .int (iI (1))), (6, .int (iI (((i : Nat) : Int)))), (0, .ref kh)]) hx hb dX4_nextToGet_108 hl (by decide) rfl (fun ls hl => ?_)
          refine lv_iinc (v := iI (((i : Nat) : Int) + 1)) (lv' := [(6, .int (iI (((i : Nat) : Int) + 1))), (4, .long (lI (rq i))), (2, .long (lI (gv i))), (1, .int (iI (((i : Nat) : Int)))), (7, .int (iI (1))), (0, .ref kh)]) hx hb dX4_nextToGet_110 hl (k := 4) rfl (by rw [show (((i : Nat) : Int) + 1 : Int) = ((i : Nat) : Int) + 1 from rfl]; exact iI_add _ _) (by decide) rfl (fun ls hl => ?_)
          refine lv_goto (tgt := 10) hx hb dX4_nextToGet_113 (by decide) ?_
          have e1 : ((i : Nat) : Int) + 1 = ((i + 1 : Nat) : Int) := by omega
          rw [e1] at hl
          have e2 : ntI rq gv (i + 1) = ((i : Nat) : Int) := by rw [ntI, if_pos (by omega)]
          have e3 : ngI gv (ntI rq gv (i + 1)) = gv i := by rw [e2]; unfold ngI; rw [if_neg (by omega), Int.toNat_natCast]
          have e4 : nrI rq (ntI rq gv (i + 1)) = rq i := by rw [e2]; unfold nrI; rw [if_neg (by omega), Int.toNat_natCast]
          exact ih (i + 1) (by omega) (by omega) _ _ _ hP hS (lv_sub hl [0, 1, 2, 3, 5] (by rw [e3, e4, e2]; rfl))
        · refine lv_aload_n hx hb dX4_nextToGet_63 rfl (lv_at hl 5 rfl) ?_
          refine my_get hx hb hts inAX4 hown hK hP 0 rfl rfl 1 (by decide) w_60 rfl rfl dX4_nextToGet_64 ?_
          refine lv_iload hx hb dX4_nextToGet_67 (lv_at hl 1 rfl) ?_
          refine my_iald hx hb hK hP 2 rfl (by omega) (k := i) (Int.toNat_natCast _) dX4_nextToGet_69 ?_
          refine my_i2l hx hb dX4_nextToGet_70 (by omega) ?_
          refine lv_lload hx hb dX4_nextToGet_71 (lv_at hl 2 rfl) ?_
          refine my_lmul (z := (gv i) * (nrI rq (ntI rq gv i))) hx hb dX4_nextToGet_73 (rfl) ?_
          refine lv_lload_n hx hb dX4_nextToGet_74 rfl (lv_at hl 3 rfl) ?_
          refine lv_aload_n hx hb dX4_nextToGet_75 rfl (lv_at hl 5 rfl) ?_
          refine my_get hx hb hts inAX4 hown hK hP 0 rfl rfl 0 (by decide) w_59 rfl rfl dX4_nextToGet_76 ?_
          refine lv_iload hx hb dX4_nextToGet_79 (lv_at hl 1 rfl) ?_
          refine my_iald hx hb hK hP 1 rfl (by omega) (k := i) (Int.toNat_natCast _) dX4_nextToGet_81 ?_
          refine my_i2l hx hb dX4_nextToGet_82 (by omega) ?_
          refine my_lmul (z := (ngI gv (ntI rq gv i)) * (rq i)) hx hb dX4_nextToGet_83 (rfl) ?_
          refine my_lcmp_ge (tgt := 110) hx hb (by omega) dX4_nextToGet_84 dX4_nextToGet_85 (by decide) (fun bh7 => ?_) (fun bh7 => ?_)
          · refine lv_iinc (v := iI (((i : Nat) : Int) + 1)) (lv' := [(6, .int (iI (((i : Nat) : Int) + 1))), (7, .int (iI (1))), (4, .long (lI (nrI rq (ntI rq gv i)))), (2, .long (lI (ngI gv (ntI rq gv i)))), (1, .int (iI (ntI rq gv i))), (0, .ref kh)]) hx hb dX4_nextToGet_110 hl (k := 1) rfl (by rw [show (((i : Nat) : Int) + 1 : Int) = ((i : Nat) : Int) + 1 from rfl]; exact iI_add _ _) (by decide) rfl (fun ls hl => ?_)
            refine lv_goto (tgt := 10) hx hb dX4_nextToGet_113 (by decide) ?_
            have e1 : ((i : Nat) : Int) + 1 = ((i + 1 : Nat) : Int) := by omega
            rw [e1] at hl
            have e2 : ntI rq gv i = ntI rq gv (i + 1) := by rw [ntI, if_neg (by omega)]
            rw [e2] at hl
            exact ih (i + 1) (by omega) (by omega) _ _ _ hP hS (lv_sub hl [0, 2, 3, 4, 5] rfl)
          · refine lv_iload hx hb dX4_nextToGet_88 (lv_at hl 1 rfl) ?_
            refine lv_istore_n (lv' := [(1, .int (iI (((i : Nat) : Int)))), (7, .int (iI (1))), (6, .int (iI (((i : Nat) : Int)))), (4, .long (lI (nrI rq (ntI rq gv i)))), (2, .long (lI (ngI gv (ntI rq gv i)))), (0, .ref kh)]) hx hb dX4_nextToGet_90 rfl hl (by decide) rfl (fun ls hl => ?_)
            refine lv_aload_n hx hb dX4_nextToGet_91 rfl (lv_at hl 5 rfl) ?_
            refine my_get hx hb hts inAX4 hown hK hP 0 rfl rfl 1 (by decide) w_60 rfl rfl dX4_nextToGet_92 ?_
            refine lv_iload hx hb dX4_nextToGet_95 (lv_at hl 2 rfl) ?_
            refine my_iald hx hb hK hP 2 rfl (by omega) (k := i) (Int.toNat_natCast _) dX4_nextToGet_97 ?_
            refine my_i2l hx hb dX4_nextToGet_98 (by omega) ?_
            refine lv_lstore_n (lv' := [(2, .long (lI (gv i))), (1, .int (iI (((i : Nat) : Int)))), (7, .int (iI (1))), (6, .int (iI (((i : Nat) : Int)))), (4, .long (lI (nrI rq (ntI rq gv i)))), (0, .ref kh)]) hx hb dX4_nextToGet_99 rfl hl (by decide) rfl (fun ls hl => ?_)
            refine lv_aload_n hx hb dX4_nextToGet_100 rfl (lv_at hl 5 rfl) ?_
            refine my_get hx hb hts inAX4 hown hK hP 0 rfl rfl 0 (by decide) w_59 rfl rfl dX4_nextToGet_101 ?_
            refine lv_iload hx hb dX4_nextToGet_104 (lv_at hl 3 rfl) ?_
            refine my_iald hx hb hK hP 1 rfl (by omega) (k := i) (Int.toNat_natCast _) dX4_nextToGet_106 ?_
            refine my_i2l hx hb dX4_nextToGet_107 (by omega) ?_
            refine lv_lstore (lv' := [(4, .long (lI (rq i))), (2, .long (lI (gv i))), (1, .int (iI (((i : Nat) : Int)))), (7, .int (iI (1))), (6, .int (iI (((i : Nat) : Int)))), (0, .ref kh)]) hx hb dX4_nextToGet_108 hl (by decide) rfl (fun ls hl => ?_)
            refine lv_iinc (v := iI (((i : Nat) : Int) + 1)) (lv' := [(6, .int (iI (((i : Nat) : Int) + 1))), (4, .long (lI (rq i))), (2, .long (lI (gv i))), (1, .int (iI (((i : Nat) : Int)))), (7, .int (iI (1))), (0, .ref kh)]) hx hb dX4_nextToGet_110 hl (k := 4) rfl (by rw [show (((i : Nat) : Int) + 1 : Int) = ((i : Nat) : Int) + 1 from rfl]; exact iI_add _ _) (by decide) rfl (fun ls hl => ?_)
            refine lv_goto (tgt := 10) hx hb dX4_nextToGet_113 (by decide) ?_
            have e1 : ((i : Nat) : Int) + 1 = ((i + 1 : Nat) : Int) := by omega
            rw [e1] at hl
            have e2 : ntI rq gv (i + 1) = ((i : Nat) : Int) := by rw [ntI, if_pos (by omega)]
            have e3 : ngI gv (ntI rq gv (i + 1)) = gv i := by rw [e2]; unfold ngI; rw [if_neg (by omega), Int.toNat_natCast]
            have e4 : nrI rq (ntI rq gv (i + 1)) = rq i := by rw [e2]; unfold nrI; rw [if_neg (by omega), Int.toNat_natCast]
            exact ih (i + 1) (by omega) (by omega) _ _ _ hP hS (lv_sub hl [0, 1, 2, 3, 5] (by rw [e3, e4, e2]; rfl))

abbrev ws_X4_handedOut : List Cond := Cond.code yX4_handedOut cX4_handedOut 4 (some .int) :: ALL
set_option maxHeartbeats 4000000 in
set_option maxRecDepth 100000 in
theorem m_X4_handedOut (l : Launch) (D : va_G) (cs : Nat → ClassId) (kh ur ug : Nat) (rq gv : Nat → Int) (pn : Int) (sn : Nat) (hsn : sn < 4) (hrq : ∀ j, 0 ≤ rq j ∧ rq j ≤ 1000000) (hpn : 0 ≤ pn ∧ pn ≤ 1000000) : Met l yX4_handedOut ws_X4_handedOut ({ frames := 1, cells := 0, slots := 0, locals := 27 }) (va_Pc [.ref kh, .int (iI (((sn : Nat) : Int)))] (PC D cs [(kh, .inr (4, [.ref ur, .ref ug, .int (iI (pn))])), (ur, arI cs 4 rq), (ug, arI cs 4 gv)])) (va_Qi (fun r (_ : Unit) => r = iI (grI rq pn.toNat sn)) (fun _ t => va_P D vwCl [(kh, .inr (4, [.ref ur, .ref ug, .int (iI (pn))])), (ur, arI cs 4 rq), (ug, arI cs 4 (grI rq pn.toNat))] t.heap) (inW [(kh, .inr (4, [.ref ur, .ref ug, .int (iI (pn))])), (ur, arI cs 4 rq), (ug, arI cs 4 gv)])) 0 0 (inW [(kh, .inr (4, [.ref ur, .ref ug, .int (iI (pn))])), (ur, arI cs 4 rq), (ug, arI cs 4 gv)]) := by
  refine Met.ofW (cc := cX4_handedOut) (maxL := 4) (ret := (some .int)) (by decide +kernel) rfl ?_
  intro p e s m args below meth c s₁ B hml hv
  obtain ⟨rfl, hP, hK, hD, hN⟩ := hv
  have hx := B.exec
  have hb := B.bytes
  have hr := B.returns
  have hts : ∀ w ∈ ALL, w.before _ s = true := fun w h => atoms_spec (ws := ws_X4_handedOut) B.pre w (List.mem_cons_of_mem _ h)
  have hown : s.vm.findClass RX4 = some m.cls := findClass_of_methodNamed B.named
  have hlocks := B.notSynchronized
  generalize hAe : inW [(kh, .inr (4, [.ref ur, .ref ug, .int (iI (pn))])), (ur, arI cs 4 rq), (ug, arI cs 4 gv)] = A at hD ⊢
  have hS : va_S A s.heap s.heap [] := va_S.rf
  have hl := lv_entry ([.ref kh, .int (iI (((sn : Nat) : Int)))]) (n := 4) (Nat.le_of_ble_eq_true rfl)
  rw [lg_entry_eq]
  generalize (lg_sl ([.ref kh, .int (iI (((sn : Nat) : Int)))]) ++ List.replicate (4 - (lg_sl ([.ref kh, .int (iI (((sn : Nat) : Int)))])).length) Slot.unset).toArray = ls at hl ⊢
  have hl : lv_has ls 4 [(0, .ref kh), (1, .int (iI (((sn : Nat) : Int))))] := hl
  have hH := rfl (a := s.heap)
  have hgr := grI_rng (fun j => (hrq j).1)
  have hgr2 : ∀ k j, 0 ≤ grI rq k j ∧ grI rq k j ≤ 1000000 := fun k j => by have h1 := hgr k j; have h2 := hrq j; omega
  refine lv_iconst (v := iI (0)) hx hb dX4_handedOut_0 rfl ?_
  refine lv_istore_n (lv' := [(2, .int (iI (0))), (0, .ref kh), (1, .int (iI (((sn : Nat) : Int))))]) hx hb dX4_handedOut_1 rfl hl (by decide) rfl (fun ls hl => ?_)
  suffices KL : ∀ (n : Nat) (i : Nat), i ≤ 4 → 4 - i < n → ∀ (H : Heap) (locs : List Loc) (ls : Array Slot), va_P D vwCl [(kh, .inr (4, [.ref ur, .ref ug, .int (iI (pn))])), (ur, arI cs 4 rq), (ug, arI cs 4 (flI gv 0 i))] H → va_D A [(kh, .inr (4, [.ref ur, .ref ug, .int (iI (pn))])), (ur, arI cs 4 rq), (ug, arI cs 4 (flI gv 0 i))] → va_S A s.heap H locs → lv_has ls 4 [(2, .int (iI (((i : Nat) : Int)))), (0, .ref kh), (1, .int (iI (((sn : Nat) : Int))))] → W p l e _ s m _ below meth c H locs 0 0 _ (F0 m 2 ls []) from
    KL _ 0 (Nat.zero_le _) (Nat.lt_succ_self _) _ _ _ (by rw [flI_0]; exact hP) (by rw [flI_0]; exact hD) hS (lv_sub hl [0, 1, 2] rfl)
  intro n
  induction n with
  | zero => intro i hil h0; exact absurd h0 (Nat.not_lt_zero _)
  | succ n ih =>
    intro i hil hmu H locs ls hP hD hS hl
    refine lv_iload_n hx hb dX4_handedOut_2 rfl (lv_at hl 0 rfl) ?_
    refine lv_aload_n hx hb dX4_handedOut_3 rfl (lv_at hl 1 rfl) ?_
    refine my_get hx hb hts inAX4 hown hK hP 0 rfl rfl 1 (by decide) w_60 rfl rfl dX4_handedOut_4 ?_
    refine my_alenI hx hb hK hP 2 rfl dX4_handedOut_7 ?_
    refine my_icmp_ge (tgt := 24) hx hb (by omega) dX4_handedOut_8 (by decide) (fun bh1 => ?_) (fun bh1 => ?_)
    · have hD := D_arI hD (k := 2) (g := grI rq 0) rfl
      have hP := P_arI hP (k := 2) (g := grI rq 0) rfl (fun j hj => by simp only [flI, grI]; rw [if_pos (by omega)])
      have hP : va_P D vwCl [(kh, .inr (4, [.ref ur, .ref ug, .int (iI (pn))])), (ur, arI cs 4 rq), (ug, arI cs 4 (grI rq 0))] H := hP
      have hD : va_D A [(kh, .inr (4, [.ref ur, .ref ug, .int (iI (pn))])), (ur, arI cs 4 rq), (ug, arI cs 4 (grI rq 0))] := hD
      refine lv_aload_n hx hb dX4_handedOut_24 rfl (lv_at hl 1 rfl) ?_
      have pk2 : picks [(kh, .inr (4, [.ref ur, .ref ug, .int (iI (pn))])), (ur, arI cs 4 rq), (ug, arI cs 4 (grI rq 0))] [0, 1, 2] [(kh, .inr (4, [.ref ur, .ref ug, .int (iI (pn))])), (ur, arI cs 4 rq), (ug, arI cs 4 (grI rq 0))] := ⟨rfl, rfl, rfl, trivial⟩
      refine va_calli (va_runV (As := []) (rest := []) ⟨hx, hb, hml, hown, hts⟩ (m_X4_nextToGet l D cs kh ur ug rq (grI rq 0) pn (hrq) (by first | exact hgk | exact hgr2 _)) (cwV 0 hts (gV w_730 w_732 w_p15 w_4 w_733) rfl rfl rfl (by decide +kernel) ⟨Nat.le_of_ble_eq_true rfl, Nat.le_of_ble_eq_true rfl⟩) (PC_V hK hN hP hD [0, 1, 2] rfl pk2 rfl rfl) rfl rfl hl.1 rfl (lv_room (Nat.le_of_ble_eq_true rfl)) dX4_handedOut_25 ⟨Nat.le_of_ble_eq_true rfl, Nat.le_of_ble_eq_true rfl⟩) hS (fun _ _ h => False.elim h) (fun _ h => False.elim h) (fun r u t H locs ht hvm hw hB hz1 hk1 hS => ?_)
      subst hw
      have hP := P_kept hP hk1
      refine lv_istore_n (lv' := [(2, .int (iI (ntI rq (grI rq 0) 4))), (0, .ref kh), (1, .int (iI (((sn : Nat) : Int))))]) hx hb dX4_handedOut_28 rfl hl (by decide) rfl (fun ls hl => ?_)
      refine lv_iconst (v := iI (0)) hx hb dX4_handedOut_29 rfl ?_
      refine lv_istore_n (lv' := [(3, .int (iI (0))), (2, .int (iI (ntI rq (grI rq 0) 4))), (0, .ref kh), (1, .int (iI (((sn : Nat) : Int))))]) hx hb dX4_handedOut_30 rfl hl (by decide) rfl (fun ls hl => ?_)
      suffices KL1 : ∀ (n1 : Nat) (k : Nat), (k : Int) ≤ pn → pn.toNat - k < n1 → ∀ (H : Heap) (locs : List Loc) (ls : Array Slot), va_P D vwCl [(kh, .inr (4, [.ref ur, .ref ug, .int (iI (pn))])), (ur, arI cs 4 rq), (ug, arI cs 4 (grI rq k))] H → va_D A [(kh, .inr (4, [.ref ur, .ref ug, .int (iI (pn))])), (ur, arI cs 4 rq), (ug, arI cs 4 (grI rq k))] → va_S A s.heap H locs → lv_has ls 4 [(3, .int (iI (((k : Nat) : Int)))), (2, .int (iI (ntI rq (grI rq k) 4))), (0, .ref kh), (1, .int (iI (((sn : Nat) : Int))))] → W p l e _ s m _ below meth c H locs 0 0 _ (F0 m 31 ls []) from
        KL1 _ 0 (by omega) (Nat.lt_succ_self _) _ _ _ hP hD hS (lv_sub hl [0, 1, 2, 3] rfl)
      intro n1
      induction n1 with
      | zero => intro k hkl h0; exact absurd h0 (Nat.not_lt_zero _)
      | succ n1 ih1 =>
        intro k hkl hmu1 H locs ls hP hD hS hl
        have hnt := ntI_rng rq (grI rq k) 4
        have hgk := hgr2 k
        refine lv_iload_n hx hb dX4_handedOut_31 rfl (lv_at hl 0 rfl) ?_
        refine lv_aload_n hx hb dX4_handedOut_32 rfl (lv_at hl 2 rfl) ?_
        refine my_get hx hb hts inAX4 hown hK hP 0 rfl rfl 2 (by decide) w_61 rfl rfl dX4_handedOut_33 ?_
        refine my_icmp_ge (tgt := 73) hx hb (by omega) dX4_handedOut_36 (by decide) (fun bh3 => ?_) (fun bh3 => ?_)
        · have e6 : grI rq k = grI rq pn.toNat := by
            by_cases h9 : k = pn.toNat
            · rw [h9]
            · rw [show pn.toNat = k + (pn.toNat - k) from by omega, grI_stop (by omega)]
          rw [e6] at hP hD
          refine lv_iload_n hx hb dX4_handedOut_73 rfl (lv_at hl 3 rfl) ?_
          refine my_if_lt (tgt := 95) hx hb (by omega) dX4_handedOut_74 (by decide) (fun bh4 => (by omega : False).elim) (fun bh4 => ?_)
          refine lv_iload_n hx hb dX4_handedOut_77 rfl (lv_at hl 3 rfl) ?_
          refine lv_aload_n hx hb dX4_handedOut_78 rfl (lv_at hl 2 rfl) ?_
          refine my_get hx hb hts inAX4 hown hK hP 0 rfl rfl 1 (by decide) w_60 rfl rfl dX4_handedOut_79 ?_
          refine my_alenI hx hb hK hP 2 rfl dX4_handedOut_82 ?_
          refine my_icmp_ge (tgt := 95) hx hb (by omega) dX4_handedOut_83 (by decide) (fun bh5 => (by omega : False).elim) (fun bh5 => ?_)
          refine lv_aload_n hx hb dX4_handedOut_86 rfl (lv_at hl 2 rfl) ?_
          refine my_get hx hb hts inAX4 hown hK hP 0 rfl rfl 1 (by decide) w_60 rfl rfl dX4_handedOut_87 ?_
          refine lv_iload_n hx hb dX4_handedOut_90 rfl (lv_at hl 3 rfl) ?_
          refine my_iald hx hb hK hP 2 rfl (by omega) (k := sn) (Int.toNat_natCast _) dX4_handedOut_91 ?_
          refine lv_goto (tgt := 96) hx hb dX4_handedOut_92 (by decide) ?_
          subst hAe
          have hres : iI ((grI rq pn.toNat) sn) = iI (grI rq pn.toNat sn) := congrArg iI (by
              rfl)
          exact W.iret hx hb hr (fun t ht hW => ⟨⟨_, (), rfl, hres, by show va_P D vwCl _ t.heap; rw [ht]; exact hP⟩, hS.F ht⟩) hS.2.2 dX4_handedOut_96
        · refine lv_iload_n hx hb dX4_handedOut_39 rfl (lv_at hl 1 rfl) ?_
          refine my_if_lt (tgt := 73) hx hb (by omega) dX4_handedOut_40 (by decide) (fun bh6 => ?_) (fun bh6 => ?_)
          · have e6 : grI rq k = grI rq pn.toNat := by
              by_cases h9 : k = pn.toNat
              · rw [h9]
              · rw [show pn.toNat = k + (pn.toNat - k) from by omega, grI_stop (by omega)]
            rw [e6] at hP hD
            refine lv_iload_n hx hb dX4_handedOut_73 rfl (lv_at hl 3 rfl) ?_
            refine my_if_lt (tgt := 95) hx hb (by omega) dX4_handedOut_74 (by decide) (fun bh7 => (by omega : False).elim) (fun bh7 => ?_)
            refine lv_iload_n hx hb dX4_handedOut_77 rfl (lv_at hl 3 rfl) ?_
            refine lv_aload_n hx hb dX4_handedOut_78 rfl (lv_at hl 2 rfl) ?_
            refine my_get hx hb hts inAX4 hown hK hP 0 rfl rfl 1 (by decide) w_60 rfl rfl dX4_handedOut_79 ?_
            refine my_alenI hx hb hK hP 2 rfl dX4_handedOut_82 ?_
            refine my_icmp_ge (tgt := 95) hx hb (by omega) dX4_handedOut_83 (by decide) (fun bh8 => (by omega : False).elim) (fun bh8 => ?_)
            refine lv_aload_n hx hb dX4_handedOut_86 rfl (lv_at hl 2 rfl) ?_
            refine my_get hx hb hts inAX4 hown hK hP 0 rfl rfl 1 (by decide) w_60 rfl rfl dX4_handedOut_87 ?_
            refine lv_iload_n hx hb dX4_handedOut_90 rfl (lv_at hl 3 rfl) ?_
            refine my_iald hx hb hK hP 2 rfl (by omega) (k := sn) (Int.toNat_natCast _) dX4_handedOut_91 ?_
            refine lv_goto (tgt := 96) hx hb dX4_handedOut_92 (by decide) ?_
            subst hAe
            have hres : iI ((grI rq pn.toNat) sn) = iI (grI rq pn.toNat sn) := congrArg iI (by
                rfl)
            exact W.iret hx hb hr (fun t ht hW => ⟨⟨_, (), rfl, hres, by show va_P D vwCl _ t.heap; rw [ht]; exact hP⟩, hS.F ht⟩) hS.2.2 dX4_handedOut_96
          · refine lv_iload_n hx hb dX4_handedOut_43 rfl (lv_at hl 1 rfl) ?_
            refine lv_aload_n hx hb dX4_handedOut_44 rfl (lv_at hl 2 rfl) ?_
            refine my_get hx hb hts inAX4 hown hK hP 0 rfl rfl 1 (by decide) w_60 rfl rfl dX4_handedOut_45 ?_
            refine my_alenI hx hb hK hP 2 rfl dX4_handedOut_48 ?_
            refine my_icmp_ge (tgt := 73) hx hb (by omega) dX4_handedOut_49 (by decide) (fun bh9 => (by omega : False).elim) (fun bh9 => ?_)
            refine lv_aload_n hx hb dX4_handedOut_52 rfl (lv_at hl 2 rfl) ?_
            refine my_get hx hb hts inAX4 hown hK hP 0 rfl rfl 1 (by decide) w_60 rfl rfl dX4_handedOut_53 ?_
            refine lv_iload_n hx hb dX4_handedOut_56 rfl (lv_at hl 1 rfl) ?_
            refine lv_dup2_11 hx hb dX4_handedOut_57 rfl rfl ?_
            refine my_iald hx hb hK hP 2 rfl (by omega) (k := (ntI rq (grI rq k) 4).toNat) (rfl) dX4_handedOut_58 ?_
            refine lv_iconst (v := iI (1)) hx hb dX4_handedOut_59 rfl ?_
            refine my_iadd (z := ((grI rq k) ((ntI rq (grI rq k) 4).toNat)) + 1) hx hb dX4_handedOut_60 (rfl) ?_
            refine my_iast hx hb hK hP hD hS 2 rfl (by omega) (k := (ntI rq (grI rq k) 4).toNat) (rfl) dX4_handedOut_61 (fun H locs hP hD hS => ?_)
            have hP : va_P D vwCl [(kh, .inr (4, [.ref ur, .ref ug, .int (iI (pn))])), (ur, arI cs 4 rq), (ug, arI cs 4 (upI (grI rq k) ((ntI rq (grI rq k) 4).toNat) (((grI rq k) ((ntI rq (grI rq k) 4).toNat)) + 1)))] H := hP
            have hD : va_D A [(kh, .inr (4, [.ref ur, .ref ug, .int (iI (pn))])), (ur, arI cs 4 rq), (ug, arI cs 4 (upI (grI rq k) ((ntI rq (grI rq k) 4).toNat) (((grI rq k) ((ntI rq (grI rq k) 4).toNat)) + 1)))] := hD
            have e5 : upI (grI rq k) (ntI rq (grI rq k) 4).toNat (grI rq k (ntI rq (grI rq k) 4).toNat + 1) = grI rq (k + 1) := by rw [grI, if_neg (by omega)]
            rw [e5] at hP hD
            refine lv_aload_n hx hb dX4_handedOut_62 rfl (lv_at hl 2 rfl) ?_
            have pk10 : picks [(kh, .inr (4, [.ref ur, .ref ug, .int (iI (pn))])), (ur, arI cs 4 rq), (ug, arI cs 4 (grI rq (k + 1)))] [0, 1, 2] [(kh, .inr (4, [.ref ur, .ref ug, .int (iI (pn))])), (ur, arI cs 4 rq), (ug, arI cs 4 (grI rq (k + 1)))] := ⟨rfl, rfl, rfl, trivial⟩
            refine va_calli (va_runV (As := []) (rest := []) ⟨hx, hb, hml, hown, hts⟩ (m_X4_nextToGet l D cs kh ur ug rq (grI rq (k + 1)) pn (hrq) (by first | exact hgk | exact hgr2 _)) (cwV 0 hts (gV w_730 w_732 w_p15 w_4 w_733) rfl rfl rfl (by decide +kernel) ⟨Nat.le_of_ble_eq_true rfl, Nat.le_of_ble_eq_true rfl⟩) (PC_V hK hN hP hD [0, 1, 2] rfl pk10 rfl rfl) rfl rfl hl.1 rfl (lv_room (Nat.le_of_ble_eq_true rfl)) dX4_handedOut_63 ⟨Nat.le_of_ble_eq_true rfl, Nat.le_of_ble_eq_true rfl⟩) hS (fun _ _ h => False.elim h) (fun _ h => False.elim h) (fun r u t H locs ht hvm hw hB hz1 hk1 hS => ?_)
            subst hw
            have hP := P_kept hP hk1
            refine lv_istore_n (lv' := [(2, .int (iI (ntI rq (grI rq (k + 1)) 4))), (3, .int (iI (((k : Nat) : Int)))), (0, .ref kh), (1, .int (iI (((sn : Nat) : Int))))]) hx hb dX4_handedOut_66 rfl hl (by decide) rfl (fun ls hl => ?_)
            refine lv_iinc (v := iI (((k : Nat) : Int) + 1)) (lv' := [(3, .int (iI (((k : Nat) : Int) + 1))), (2, .int (iI (ntI rq (grI rq (k + 1)) 4))), (0, .ref kh), (1, .int (iI (((sn : Nat) : Int))))]) hx hb dX4_handedOut_67 hl (k := 1) rfl (by rw [show (((k : Nat) : Int) + 1 : Int) = ((k : Nat) : Int) + 1 from rfl]; exact iI_add _ _) (by decide) rfl (fun ls hl => ?_)
            refine lv_goto (tgt := 31) hx hb dX4_handedOut_70 (by decide) ?_
            have e1 : ((k : Nat) : Int) + 1 = ((k + 1 : Nat) : Int) := by omega
            rw [e1] at hl
            exact ih1 (k + 1) (by omega) (by omega) _ _ _ hP hD hS (lv_sub hl [0, 1, 2, 3] rfl)
    · refine lv_aload_n hx hb dX4_handedOut_11 rfl (lv_at hl 1 rfl) ?_
      refine my_get hx hb hts inAX4 hown hK hP 0 rfl rfl 1 (by decide) w_60 rfl rfl dX4_handedOut_12 ?_
      refine lv_iload_n hx hb dX4_handedOut_15 rfl (lv_at hl 0 rfl) ?_
      refine lv_iconst (v := iI (0)) hx hb dX4_handedOut_16 rfl ?_
      refine my_iast hx hb hK hP hD hS 2 rfl (by omega) (k := i) (Int.toNat_natCast _) dX4_handedOut_17 (fun H locs hP hD hS => ?_)
      have hP : va_P D vwCl [(kh, .inr (4, [.ref ur, .ref ug, .int (iI (pn))])), (ur, arI cs 4 rq), (ug, arI cs 4 (upI (flI gv 0 i) i 0))] H := hP
      have hD : va_D A [(kh, .inr (4, [.ref ur, .ref ug, .int (iI (pn))])), (ur, arI cs 4 rq), (ug, arI cs 4 (upI (flI gv 0 i) i 0))] := hD
      refine lv_iinc (v := iI (((i : Nat) : Int) + 1)) (lv' := [(2, .int (iI (((i : Nat) : Int) + 1))), (0, .ref kh), (1, .int (iI (((sn : Nat) : Int))))]) hx hb dX4_handedOut_18 hl (k := 0) rfl (by rw [show (((i : Nat) : Int) + 1 : Int) = ((i : Nat) : Int) + 1 from rfl]; exact iI_add _ _) (by decide) rfl (fun ls hl => ?_)
      refine lv_goto (tgt := 2) hx hb dX4_handedOut_21 (by decide) ?_
      have e1 : ((i : Nat) : Int) + 1 = ((i + 1 : Nat) : Int) := by omega
      rw [e1] at hl
      rw [flI_s] at hP hD
      exact ih (i + 1) (by omega) (by omega) _ _ _ hP hD hS (lv_sub hl [0, 1, 2] rfl)
