abbrev ws_X3_sell : List Cond := Cond.code yX3_sell cX3_sell 4 (some .int) :: ALL
set_option maxHeartbeats 4000000 in
set_option maxRecDepth 100000 in
theorem m_X3_sell (l : Launch) (D : va_G) (cs : Nat → ClassId) (kn hi kl ke kd ks ka : Nat) (ld fd fk fv es sk so lo : Int) (ud us : Nat) (dm sl : Nat → Int) (dz : Nat) (un : Int) (hd : dz < 1005) (hun : 0 ≤ un ∧ un < 2147483648) (hsk : 0 ≤ sk ∧ sk < 2147483648) : Met l yX3_sell ws_X3_sell ({ frames := 1, cells := 0, slots := 0, locals := 22 }) (va_Pc [.ref kn, .int (iI (((dz : Nat) : Int))), .int (iI (un))] (PC D cs [(kn, .inr (3, [.ref hi, .int (iI (ld)), .int (iI (fd)), .int (iI (fk)), .int (iI (fv)), .ref kl, .ref ke, .ref kd, .ref ks, .ref ka, .int (iI (es)), .int (iI (sk)), .int (iI (so)), .int (iI (lo))])), (kd, .inr (0, [.ref ud])), (ud, arI cs 1005 dm), (ks, .inr (0, [.ref us])), (us, arI cs 1005 sl)])) (va_Qi (fun r (_ : Unit) => r = iI (mnI un sk)) (fun _ t => va_P D vwCl [(kn, .inr (3, [.ref hi, .int (iI (ld)), .int (iI (fd)), .int (iI (fk)), .int (iI (fv)), .ref kl, .ref ke, .ref kd, .ref ks, .ref ka, .int (iI (es)), .int (iI (sk - mnI un sk)), .int (iI (so + mnI un sk)), .int (iI (lo + (un - mnI un sk)))])), (kd, .inr (0, [.ref ud])), (ud, arI cs 1005 (upI dm dz (dm dz + un))), (ks, .inr (0, [.ref us])), (us, arI cs 1005 (upI sl dz (sl dz + mnI un sk)))] t.heap) (inW [(kn, .inr (3, [.ref hi, .int (iI (ld)), .int (iI (fd)), .int (iI (fk)), .int (iI (fv)), .ref kl, .ref ke, .ref kd, .ref ks, .ref ka, .int (iI (es)), .int (iI (sk)), .int (iI (so)), .int (iI (lo))])), (kd, .inr (0, [.ref ud])), (ud, arI cs 1005 dm), (ks, .inr (0, [.ref us])), (us, arI cs 1005 sl)])) 0 0 (inW [(kn, .inr (3, [.ref hi, .int (iI (ld)), .int (iI (fd)), .int (iI (fk)), .int (iI (fv)), .ref kl, .ref ke, .ref kd, .ref ks, .ref ka, .int (iI (es)), .int (iI (sk)), .int (iI (so)), .int (iI (lo))])), (kd, .inr (0, [.ref ud])), (ud, arI cs 1005 dm), (ks, .inr (0, [.ref us])), (us, arI cs 1005 sl)]) := by
  refine Met.ofW (cc := cX3_sell) (maxL := 4) (ret := (some .int)) (by decide +kernel) rfl ?_
  intro p e s m args below meth c s₁ B hml hv
  obtain ⟨rfl, hP, hK, hD, hN⟩ := hv
  have hx := B.exec
  have hb := B.bytes
  have hr := B.returns
  have hts : ∀ w ∈ ALL, w.before _ s = true := fun w h => atoms_spec (ws := ws_X3_sell) B.pre w (List.mem_cons_of_mem _ h)
  have hown : s.vm.findClass RX3 = some m.cls := findClass_of_methodNamed B.named
  have hlocks := B.notSynchronized
  generalize hAe : inW [(kn, .inr (3, [.ref hi, .int (iI (ld)), .int (iI (fd)), .int (iI (fk)), .int (iI (fv)), .ref kl, .ref ke, .ref kd, .ref ks, .ref ka, .int (iI (es)), .int (iI (sk)), .int (iI (so)), .int (iI (lo))])), (kd, .inr (0, [.ref ud])), (ud, arI cs 1005 dm), (ks, .inr (0, [.ref us])), (us, arI cs 1005 sl)] = A at hD ⊢
  have hS : va_S A s.heap s.heap [] := va_S.rf
  have hl := lv_entry ([.ref kn, .int (iI (((dz : Nat) : Int))), .int (iI (un))]) (n := 4) (Nat.le_of_ble_eq_true rfl)
  rw [lg_entry_eq]
  generalize (lg_sl ([.ref kn, .int (iI (((dz : Nat) : Int))), .int (iI (un))]) ++ List.replicate (4 - (lg_sl ([.ref kn, .int (iI (((dz : Nat) : Int))), .int (iI (un))])).length) Slot.unset).toArray = ls at hl ⊢
  have hl : lv_has ls 4 [(0, .ref kn), (1, .int (iI (((dz : Nat) : Int)))), (2, .int (iI (un)))] := hl
  have hH := rfl (a := s.heap)
  refine lv_iload_n hx hb dX3_sell_0 rfl (lv_at hl 2 rfl) ?_
  refine lv_aload_n hx hb dX3_sell_1 rfl (lv_at hl 0 rfl) ?_
  refine my_get hx hb hts inAX3 hown hK hP 0 rfl rfl 11 (by decide) w_356 rfl rfl dX3_sell_2 ?_
  refine va_mmin hx hb (hml.trans hl.1.symm) hown (hts _ w_508) (hts _ w_509) (hts _ w_15) (hts _ w_510) (Nat.le_of_ble_eq_true rfl) (Nat.le_of_ble_eq_true rfl) (Nat.le_of_ble_eq_true rfl) (Nat.le_of_ble_eq_true rfl) dX3_sell_5 ?_
  rw [my_min (by omega)]
  refine lv_istore_n (lv' := [(3, .int (iI (mnI un sk))), (0, .ref kn), (1, .int (iI (((dz : Nat) : Int)))), (2, .int (iI (un)))]) hx hb dX3_sell_8 rfl hl (by decide) rfl (fun ls hl => ?_)
  refine lv_aload_n hx hb dX3_sell_9 rfl (lv_at hl 1 rfl) ?_
  refine my_get hx hb hts inAX3 hown hK hP 0 rfl rfl 7 (by decide) w_350 rfl rfl dX3_sell_10 ?_
  refine lv_iload_n hx hb dX3_sell_13 rfl (lv_at hl 2 rfl) ?_
  refine lv_iload_n hx hb dX3_sell_14 rfl (lv_at hl 3 rfl) ?_
  have pk1 : picks [(kn, .inr (3, [.ref hi, .int (iI (ld)), .int (iI (fd)), .int (iI (fk)), .int (iI (fv)), .ref kl, .ref ke, .ref kd, .ref ks, .ref ka, .int (iI (es)), .int (iI (sk)), .int (iI (so)), .int (iI (lo))])), (kd, .inr (0, [.ref ud])), (ud, arI cs 1005 dm), (ks, .inr (0, [.ref us])), (us, arI cs 1005 sl)] [1, 2] [(kd, .inr (0, [.ref ud])), (ud, arI cs 1005 dm)] := ⟨rfl, rfl, trivial⟩
  refine va_callv (va_runV (As := [.int (iI (((dz : Nat) : Int))), .int (iI (un))]) (rest := []) ⟨hx, hb, hml, hown, hts⟩ (m_X0_add l D cs kd ud dm dz un (by omega)) (cwV 2 hts (gV w_511 w_415 w_416 w_2 w_417) rfl rfl rfl (by decide +kernel) ⟨Nat.le_of_ble_eq_true rfl, Nat.le_of_ble_eq_true rfl⟩) (PC_V hK hN hP hD [1, 2] rfl pk1 rfl rfl) rfl rfl hl.1 rfl (lv_room (Nat.le_of_ble_eq_true rfl)) dX3_sell_15 ⟨Nat.le_of_ble_eq_true rfl, Nat.le_of_ble_eq_true rfl⟩) hS (fun q _ h => inW_sub hD [1, 2] pk1 q h) (fun q h => inW_sub hD [1, 2] pk1 q h) (fun u t H locs ht hvm hw hB hz1 hk1 hS => ?_)
  rw [ht] at hB
  obtain ⟨hP, hD⟩ := my_join (W1 := [(kd, .inr (0, [.ref ud])), (ud, arI cs 1005 (upI dm dz (dm dz + un)))]) hP hD [1, 2] rfl pk1 rfl hk1 hB
  have hP : va_P D vwCl [(kn, .inr (3, [.ref hi, .int (iI (ld)), .int (iI (fd)), .int (iI (fk)), .int (iI (fv)), .ref kl, .ref ke, .ref kd, .ref ks, .ref ka, .int (iI (es)), .int (iI (sk)), .int (iI (so)), .int (iI (lo))])), (kd, .inr (0, [.ref ud])), (ud, arI cs 1005 (upI dm dz (dm dz + un))), (ks, .inr (0, [.ref us])), (us, arI cs 1005 sl)] H := hP
  have hD : va_D A [(kn, .inr (3, [.ref hi, .int (iI (ld)), .int (iI (fd)), .int (iI (fk)), .int (iI (fv)), .ref kl, .ref ke, .ref kd, .ref ks, .ref ka, .int (iI (es)), .int (iI (sk)), .int (iI (so)), .int (iI (lo))])), (kd, .inr (0, [.ref ud])), (ud, arI cs 1005 (upI dm dz (dm dz + un))), (ks, .inr (0, [.ref us])), (us, arI cs 1005 sl)] := hD
  refine lv_aload_n hx hb dX3_sell_18 rfl (lv_at hl 1 rfl) ?_
  refine my_get hx hb hts inAX3 hown hK hP 0 rfl rfl 8 (by decide) w_352 rfl rfl dX3_sell_19 ?_
  refine lv_iload_n hx hb dX3_sell_22 rfl (lv_at hl 2 rfl) ?_
  refine lv_iload_n hx hb dX3_sell_23 rfl (lv_at hl 0 rfl) ?_
  have pk2 : picks [(kn, .inr (3, [.ref hi, .int (iI (ld)), .int (iI (fd)), .int (iI (fk)), .int (iI (fv)), .ref kl, .ref ke, .ref kd, .ref ks, .ref ka, .int (iI (es)), .int (iI (sk)), .int (iI (so)), .int (iI (lo))])), (kd, .inr (0, [.ref ud])), (ud, arI cs 1005 (upI dm dz (dm dz + un))), (ks, .inr (0, [.ref us])), (us, arI cs 1005 sl)] [3, 4] [(ks, .inr (0, [.ref us])), (us, arI cs 1005 sl)] := ⟨rfl, rfl, trivial⟩
  refine va_callv (va_runV (As := [.int (iI (((dz : Nat) : Int))), .int (iI (mnI un sk))]) (rest := []) ⟨hx, hb, hml, hown, hts⟩ (m_X0_add l D cs ks us sl dz (mnI un sk) (by omega)) (cwV 2 hts (gV w_511 w_415 w_416 w_2 w_417) rfl rfl rfl (by decide +kernel) ⟨Nat.le_of_ble_eq_true rfl, Nat.le_of_ble_eq_true rfl⟩) (PC_V hK hN hP hD [3, 4] rfl pk2 rfl rfl) rfl rfl hl.1 rfl (lv_room (Nat.le_of_ble_eq_true rfl)) dX3_sell_24 ⟨Nat.le_of_ble_eq_true rfl, Nat.le_of_ble_eq_true rfl⟩) hS (fun q _ h => inW_sub hD [3, 4] pk2 q h) (fun q h => inW_sub hD [3, 4] pk2 q h) (fun u t H locs ht hvm hw hB hz1 hk1 hS => ?_)
  rw [ht] at hB
  obtain ⟨hP, hD⟩ := my_join (W1 := [(ks, .inr (0, [.ref us])), (us, arI cs 1005 (upI sl dz (sl dz + (mnI un sk))))]) hP hD [3, 4] rfl pk2 rfl hk1 hB
  have hP : va_P D vwCl [(kn, .inr (3, [.ref hi, .int (iI (ld)), .int (iI (fd)), .int (iI (fk)), .int (iI (fv)), .ref kl, .ref ke, .ref kd, .ref ks, .ref ka, .int (iI (es)), .int (iI (sk)), .int (iI (so)), .int (iI (lo))])), (kd, .inr (0, [.ref ud])), (ud, arI cs 1005 (upI dm dz (dm dz + un))), (ks, .inr (0, [.ref us])), (us, arI cs 1005 (upI sl dz (sl dz + (mnI un sk))))] H := hP
  have hD : va_D A [(kn, .inr (3, [.ref hi, .int (iI (ld)), .int (iI (fd)), .int (iI (fk)), .int (iI (fv)), .ref kl, .ref ke, .ref kd, .ref ks, .ref ka, .int (iI (es)), .int (iI (sk)), .int (iI (so)), .int (iI (lo))])), (kd, .inr (0, [.ref ud])), (ud, arI cs 1005 (upI dm dz (dm dz + un))), (ks, .inr (0, [.ref us])), (us, arI cs 1005 (upI sl dz (sl dz + (mnI un sk))))] := hD
  refine lv_aload_n hx hb dX3_sell_27 rfl (lv_at hl 1 rfl) ?_
  refine lv_dup hx hb dX3_sell_28 rfl ?_
  refine my_get hx hb hts inAX3 hown hK hP 0 rfl rfl 11 (by decide) w_356 rfl rfl dX3_sell_29 ?_
  refine lv_iload_n hx hb dX3_sell_32 rfl (lv_at hl 0 rfl) ?_
  refine my_isub (z := sk - (mnI un sk)) hx hb dX3_sell_33 (rfl) ?_
  refine my_put hx hb hts inAX3 tyX3_ok nmX3 hown hK hP hD hS 0 rfl rfl 11 (by decide) w_356 rfl rfl rfl (Nat.le_of_ble_eq_true rfl) dX3_sell_34 (fun H locs hP hD hS => ?_)
  have hP : va_P D vwCl [(kn, .inr (3, [.ref hi, .int (iI (ld)), .int (iI (fd)), .int (iI (fk)), .int (iI (fv)), .ref kl, .ref ke, .ref kd, .ref ks, .ref ka, .int (iI (es)), .int (iI (sk - (mnI un sk))), .int (iI (so)), .int (iI (lo))])), (kd, .inr (0, [.ref ud])), (ud, arI cs 1005 (upI dm dz (dm dz + un))), (ks, .inr (0, [.ref us])), (us, arI cs 1005 (upI sl dz (sl dz + (mnI un sk))))] H := hP
  have hD : va_D A [(kn, .inr (3, [.ref hi, .int (iI (ld)), .int (iI (fd)), .int (iI (fk)), .int (iI (fv)), .ref kl, .ref ke, .ref kd, .ref ks, .ref ka, .int (iI (es)), .int (iI (sk - (mnI un sk))), .int (iI (so)), .int (iI (lo))])), (kd, .inr (0, [.ref ud])), (ud, arI cs 1005 (upI dm dz (dm dz + un))), (ks, .inr (0, [.ref us])), (us, arI cs 1005 (upI sl dz (sl dz + (mnI un sk))))] := hD
  refine lv_aload_n hx hb dX3_sell_37 rfl (lv_at hl 1 rfl) ?_
  refine lv_dup hx hb dX3_sell_38 rfl ?_
  refine my_get hx hb hts inAX3 hown hK hP 0 rfl rfl 12 (by decide) w_358 rfl rfl dX3_sell_39 ?_
  refine lv_iload_n hx hb dX3_sell_42 rfl (lv_at hl 0 rfl) ?_
  refine my_iadd (z := so + (mnI un sk)) hx hb dX3_sell_43 (rfl) ?_
  refine my_put hx hb hts inAX3 tyX3_ok nmX3 hown hK hP hD hS 0 rfl rfl 12 (by decide) w_358 rfl rfl rfl (Nat.le_of_ble_eq_true rfl) dX3_sell_44 (fun H locs hP hD hS => ?_)
  have hP : va_P D vwCl [(kn, .inr (3, [.ref hi, .int (iI (ld)), .int (iI (fd)), .int (iI (fk)), .int (iI (fv)), .ref kl, .ref ke, .ref kd, .ref ks, .ref ka, .int (iI (es)), .int (iI (sk - (mnI un sk))), .int (iI (so + (mnI un sk))), .int (iI (lo))])), (kd, .inr (0, [.ref ud])), (ud, arI cs 1005 (upI dm dz (dm dz + un))), (ks, .inr (0, [.ref us])), (us, arI cs 1005 (upI sl dz (sl dz + (mnI un sk))))] H := hP
  have hD : va_D A [(kn, .inr (3, [.ref hi, .int (iI (ld)), .int (iI (fd)), .int (iI (fk)), .int (iI (fv)), .ref kl, .ref ke, .ref kd, .ref ks, .ref ka, .int (iI (es)), .int (iI (sk - (mnI un sk))), .int (iI (so + (mnI un sk))), .int (iI (lo))])), (kd, .inr (0, [.ref ud])), (ud, arI cs 1005 (upI dm dz (dm dz + un))), (ks, .inr (0, [.ref us])), (us, arI cs 1005 (upI sl dz (sl dz + (mnI un sk))))] := hD
  refine lv_aload_n hx hb dX3_sell_47 rfl (lv_at hl 1 rfl) ?_
  refine lv_dup hx hb dX3_sell_48 rfl ?_
  refine my_get hx hb hts inAX3 hown hK hP 0 rfl rfl 13 (by decide) w_359 rfl rfl dX3_sell_49 ?_
  refine lv_iload_n hx hb dX3_sell_52 rfl (lv_at hl 3 rfl) ?_
  refine lv_iload_n hx hb dX3_sell_53 rfl (lv_at hl 0 rfl) ?_
  refine my_isub (z := un - (mnI un sk)) hx hb dX3_sell_54 (rfl) ?_
  refine my_iadd (z := lo + (un - (mnI un sk))) hx hb dX3_sell_55 (rfl) ?_
  refine my_put hx hb hts inAX3 tyX3_ok nmX3 hown hK hP hD hS 0 rfl rfl 13 (by decide) w_359 rfl rfl rfl (Nat.le_of_ble_eq_true rfl) dX3_sell_56 (fun H locs hP hD hS => ?_)
  have hP : va_P D vwCl [(kn, .inr (3, [.ref hi, .int (iI (ld)), .int (iI (fd)), .int (iI (fk)), .int (iI (fv)), .ref kl, .ref ke, .ref kd, .ref ks, .ref ka, .int (iI (es)), .int (iI (sk - (mnI un sk))), .int (iI (so + (mnI un sk))), .int (iI (lo + (un - (mnI un sk))))])), (kd, .inr (0, [.ref ud])), (ud, arI cs 1005 (upI dm dz (dm dz + un))), (ks, .inr (0, [.ref us])), (us, arI cs 1005 (upI sl dz (sl dz + (mnI un sk))))] H := hP
  have hD : va_D A [(kn, .inr (3, [.ref hi, .int (iI (ld)), .int (iI (fd)), .int (iI (fk)), .int (iI (fv)), .ref kl, .ref ke, .ref kd, .ref ks, .ref ka, .int (iI (es)), .int (iI (sk - (mnI un sk))), .int (iI (so + (mnI un sk))), .int (iI (lo + (un - (mnI un sk))))])), (kd, .inr (0, [.ref ud])), (ud, arI cs 1005 (upI dm dz (dm dz + un))), (ks, .inr (0, [.ref us])), (us, arI cs 1005 (upI sl dz (sl dz + (mnI un sk))))] := hD
  refine lv_iload_n hx hb dX3_sell_59 rfl (lv_at hl 0 rfl) ?_
  have hWe : ([(kn, .inr (3, [.ref hi, .int (iI (ld)), .int (iI (fd)), .int (iI (fk)), .int (iI (fv)), .ref kl, .ref ke, .ref kd, .ref ks, .ref ka, .int (iI (es)), .int (iI (sk - (mnI un sk))), .int (iI (so + (mnI un sk))), .int (iI (lo + (un - (mnI un sk))))])), (kd, .inr (0, [.ref ud])), (ud, arI cs 1005 (upI dm dz (dm dz + un))), (ks, .inr (0, [.ref us])), (us, arI cs 1005 (upI sl dz (sl dz + (mnI un sk))))] : va_W) = [(kn, .inr (3, [.ref hi, .int (iI (ld)), .int (iI (fd)), .int (iI (fk)), .int (iI (fv)), .ref kl, .ref ke, .ref kd, .ref ks, .ref ka, .int (iI (es)), .int (iI (sk - mnI un sk)), .int (iI (so + mnI un sk)), .int (iI (lo + (un - mnI un sk)))])), (kd, .inr (0, [.ref ud])), (ud, arI cs 1005 (upI dm dz (dm dz + un))), (ks, .inr (0, [.ref us])), (us, arI cs 1005 (upI sl dz (sl dz + mnI un sk)))] := by
    first | rfl | (congr 1; omega)
  rw [hWe] at hP
  subst hAe
  have hres : iI (mnI un sk) = iI (mnI un sk) := congrArg iI (by
      first | rfl | omega)
  exact W.iret hx hb hr (fun t ht hW => ⟨⟨_, (), rfl, hres, by show va_P D vwCl _ t.heap; rw [ht]; exact hP⟩, hS.F ht⟩) hS.2.2 dX3_sell_60

abbrev ws_X3_learnFrom : List Cond := Cond.code yX3_learnFrom cX3_learnFrom 6 (none : Option FieldType) :: ALL
set_option maxHeartbeats 4000000 in
set_option maxRecDepth 100000 in
theorem m_X3_learnFrom (l : Launch) (D : va_G) (cs : Nat → ClassId) (kn hi kl ke kd ks ka : Nat) (ld fd fk fv es sk so lo : Int) (us ud : Nat) (lev : Int) (se ef dm : Nat → Int) (dz : Nat) (lr sr : Int) (hlev : 0 ≤ lev ∧ lev ≤ 9990000) (hse : ∀ w, 100 ≤ se w ∧ se w ≤ 5000) (hd : dz < 1005) (hdm : 0 ≤ dm dz ∧ dm dz ≤ 999) (hlr : 0 ≤ lr ∧ lr ≤ 100) (hsr : 0 ≤ sr ∧ sr ≤ 100) : Met l yX3_learnFrom ws_X3_learnFrom ({ frames := 3, cells := 0, slots := 0, locals := 63 }) (va_Pc [.ref kn, .int (iI (((dz : Nat) : Int))), .int (iI (lr)), .int (iI (sr))] (PC D cs [(kn, .inr (3, [.ref hi, .int (iI (ld)), .int (iI (fd)), .int (iI (fk)), .int (iI (fv)), .ref kl, .ref ke, .ref kd, .ref ks, .ref ka, .int (iI (es)), .int (iI (sk)), .int (iI (so)), .int (iI (lo))])), (kl, .inr (2, [.ref us, .int (iI (lev))])), (us, arI cs 7 se), (ke, arI cs 21 ef), (kd, .inr (0, [.ref ud])), (ud, arI cs 1005 dm)])) (va_Qv (fun (_ : Unit) => True) (fun _ t => va_P D vwCl [(kn, .inr (3, [.ref hi, .int (iI (ld)), .int (iI (fd)), .int (iI (fk)), .int (iI (fv)), .ref kl, .ref ke, .ref kd, .ref ks, .ref ka, .int (iI (es + 1)), .int (iI (sk)), .int (iI (so)), .int (iI (lo))])), (kl, .inr (2, [.ref us, .int (iI (lvI lev (se (dz % 7)) (dm dz) lr))])), (us, arI cs 7 (snI (lvI lev (se (dz % 7)) (dm dz) lr) se (dz % 7) (dm dz) sr)), (ke, arI cs 21 (upI ef (erI (dm dz) (unI lev se dz)).toNat (ef (erI (dm dz) (unI lev se dz)).toNat + 1))), (kd, .inr (0, [.ref ud])), (ud, arI cs 1005 dm)] t.heap) (inW [(kn, .inr (3, [.ref hi, .int (iI (ld)), .int (iI (fd)), .int (iI (fk)), .int (iI (fv)), .ref kl, .ref ke, .ref kd, .ref ks, .ref ka, .int (iI (es)), .int (iI (sk)), .int (iI (so)), .int (iI (lo))])), (kl, .inr (2, [.ref us, .int (iI (lev))])), (us, arI cs 7 se), (ke, arI cs 21 ef), (kd, .inr (0, [.ref ud])), (ud, arI cs 1005 dm)])) 0 0 (inW [(kn, .inr (3, [.ref hi, .int (iI (ld)), .int (iI (fd)), .int (iI (fk)), .int (iI (fv)), .ref kl, .ref ke, .ref kd, .ref ks, .ref ka, .int (iI (es)), .int (iI (sk)), .int (iI (so)), .int (iI (lo))])), (kl, .inr (2, [.ref us, .int (iI (lev))])), (us, arI cs 7 se), (ke, arI cs 21 ef), (kd, .inr (0, [.ref ud])), (ud, arI cs 1005 dm)]) := by
  refine Met.ofW (cc := cX3_learnFrom) (maxL := 6) (ret := ((none : Option FieldType))) (by decide +kernel) rfl ?_
  intro p e s m args below meth c s₁ B hml hv
  obtain ⟨rfl, hP, hK, hD, hN⟩ := hv
  have hx := B.exec
  have hb := B.bytes
  have hr := B.returns
  have hts : ∀ w ∈ ALL, w.before _ s = true := fun w h => atoms_spec (ws := ws_X3_learnFrom) B.pre w (List.mem_cons_of_mem _ h)
  have hown : s.vm.findClass RX3 = some m.cls := findClass_of_methodNamed B.named
  have hlocks := B.notSynchronized
  generalize hAe : inW [(kn, .inr (3, [.ref hi, .int (iI (ld)), .int (iI (fd)), .int (iI (fk)), .int (iI (fv)), .ref kl, .ref ke, .ref kd, .ref ks, .ref ka, .int (iI (es)), .int (iI (sk)), .int (iI (so)), .int (iI (lo))])), (kl, .inr (2, [.ref us, .int (iI (lev))])), (us, arI cs 7 se), (ke, arI cs 21 ef), (kd, .inr (0, [.ref ud])), (ud, arI cs 1005 dm)] = A at hD ⊢
  have hS : va_S A s.heap s.heap [] := va_S.rf
  have hl := lv_entry ([.ref kn, .int (iI (((dz : Nat) : Int))), .int (iI (lr)), .int (iI (sr))]) (n := 6) (Nat.le_of_ble_eq_true rfl)
  rw [lg_entry_eq]
  generalize (lg_sl ([.ref kn, .int (iI (((dz : Nat) : Int))), .int (iI (lr)), .int (iI (sr))]) ++ List.replicate (6 - (lg_sl ([.ref kn, .int (iI (((dz : Nat) : Int))), .int (iI (lr)), .int (iI (sr))])).length) Slot.unset).toArray = ls at hl ⊢
  have hl : lv_has ls 6 [(0, .ref kn), (1, .int (iI (((dz : Nat) : Int)))), (2, .int (iI (lr))), (3, .int (iI (sr)))] := hl
  have hH := rfl (a := s.heap)
  have hth := thI_rng (d := dz) hlev hse
  have hun : 0 ≤ unI lev se dz ∧ unI lev se dz ≤ 49951 := by unfold unI; omega
  have her := erI_rng (dm dz) (unI lev se dz)
  have hab := abI_ge (dm dz - unI lev se dz)
  refine lv_aload_n hx hb dX3_learnFrom_0 rfl (lv_at hl 0 rfl) ?_
  refine my_get hx hb hts inAX3 hown hK hP 0 rfl rfl 7 (by decide) w_350 rfl rfl dX3_learnFrom_1 ?_
  refine lv_iload_n hx hb dX3_learnFrom_4 rfl (lv_at hl 1 rfl) ?_
  have pk1 : picks [(kn, .inr (3, [.ref hi, .int (iI (ld)), .int (iI (fd)), .int (iI (fk)), .int (iI (fv)), .ref kl, .ref ke, .ref kd, .ref ks, .ref ka, .int (iI (es)), .int (iI (sk)), .int (iI (so)), .int (iI (lo))])), (kl, .inr (2, [.ref us, .int (iI (lev))])), (us, arI cs 7 se), (ke, arI cs 21 ef), (kd, .inr (0, [.ref ud])), (ud, arI cs 1005 dm)] [4, 5] [(kd, .inr (0, [.ref ud])), (ud, arI cs 1005 dm)] := ⟨rfl, rfl, trivial⟩
  refine va_calli (va_runV (As := [.int (iI (((dz : Nat) : Int)))]) (rest := []) ⟨hx, hb, hml, hown, hts⟩ (m_X0_on l D cs kd ud dm dz (by omega)) (cwV 1 hts (gV w_124 w_125 w_126 w_2 w_127) rfl rfl rfl (by decide +kernel) ⟨Nat.le_of_ble_eq_true rfl, Nat.le_of_ble_eq_true rfl⟩) (PC_V hK hN hP hD [4, 5] rfl pk1 rfl rfl) rfl rfl hl.1 rfl (lv_room (Nat.le_of_ble_eq_true rfl)) dX3_learnFrom_5 ⟨Nat.le_of_ble_eq_true rfl, Nat.le_of_ble_eq_true rfl⟩) hS (fun _ _ h => False.elim h) (fun _ h => False.elim h) (fun r u t H locs ht hvm hw hB hz1 hk1 hS => ?_)
  subst hw
  have hP := P_kept hP hk1
  refine lv_istore (lv' := [(4, .int (iI (dm dz))), (0, .ref kn), (1, .int (iI (((dz : Nat) : Int)))), (2, .int (iI (lr))), (3, .int (iI (sr)))]) hx hb dX3_learnFrom_8 hl (by decide) rfl (fun ls hl => ?_)
  refine lv_bipush (v := iI (20)) hx hb dX3_learnFrom_10 (by decide) ?_
  refine lv_iload hx hb dX3_learnFrom_12 (lv_at hl 0 rfl) ?_
  refine lv_aload_n hx hb dX3_learnFrom_14 rfl (lv_at hl 1 rfl) ?_
  refine my_get hx hb hts inAX3 hown hK hP 0 rfl rfl 5 (by decide) w_347 rfl rfl dX3_learnFrom_15 ?_
  refine lv_iload_n hx hb dX3_learnFrom_18 rfl (lv_at hl 2 rfl) ?_
  have pk2 : picks [(kn, .inr (3, [.ref hi, .int (iI (ld)), .int (iI (fd)), .int (iI (fk)), .int (iI (fv)), .ref kl, .ref ke, .ref kd, .ref ks, .ref ka, .int (iI (es)), .int (iI (sk)), .int (iI (so)), .int (iI (lo))])), (kl, .inr (2, [.ref us, .int (iI (lev))])), (us, arI cs 7 se), (ke, arI cs 21 ef), (kd, .inr (0, [.ref ud])), (ud, arI cs 1005 dm)] [1, 2] [(kl, .inr (2, [.ref us, .int (iI (lev))])), (us, arI cs 7 se)] := ⟨rfl, rfl, trivial⟩
  refine va_calli (va_runV (As := [.int (iI (((dz : Nat) : Int)))]) (rest := [.int (iI (dm dz)), .int (iI (20))]) ⟨hx, hb, hml, hown, hts⟩ (m_X2_unitsFor l D cs kl us lev se dz (hlev) (hse) (by omega)) (cwV 1 hts (gV w_528 w_529 w_530 w_3 w_531) rfl rfl rfl (by decide +kernel) ⟨Nat.le_of_ble_eq_true rfl, Nat.le_of_ble_eq_true rfl⟩) (PC_V hK hN hP hD [1, 2] rfl pk2 rfl rfl) rfl rfl hl.1 rfl (lv_room (Nat.le_of_ble_eq_true rfl)) dX3_learnFrom_19 ⟨Nat.le_of_ble_eq_true rfl, Nat.le_of_ble_eq_true rfl⟩) hS (fun _ _ h => False.elim h) (fun _ h => False.elim h) (fun r u t H locs ht hvm hw hB hz1 hk1 hS => ?_)
  subst hw
  have hP := P_kept hP hk1
  refine my_isub (z := (dm dz) - (unI lev se dz)) hx hb dX3_learnFrom_22 (rfl) ?_
  refine va_mabs hx hb (hml.trans hl.1.symm) hown (hts _ w_541) (hts _ w_542) (hts _ w_15) (hts _ w_543) (Nat.le_of_ble_eq_true rfl) (Nat.le_of_ble_eq_true rfl) (Nat.le_of_ble_eq_true rfl) (Nat.le_of_ble_eq_true rfl) dX3_learnFrom_23 ?_
  rw [my_abs (by omega)]
  refine va_mmin hx hb (hml.trans hl.1.symm) hown (hts _ w_508) (hts _ w_509) (hts _ w_15) (hts _ w_510) (Nat.le_of_ble_eq_true rfl) (Nat.le_of_ble_eq_true rfl) (Nat.le_of_ble_eq_true rfl) (Nat.le_of_ble_eq_true rfl) dX3_learnFrom_26 ?_
  rw [my_min (by omega)]
  refine my_cv0 (z := erI (dm dz) (unI lev se dz)) (rfl) ?_
  refine lv_istore (lv' := [(5, .int (iI (erI (dm dz) (unI lev se dz)))), (4, .int (iI (dm dz))), (0, .ref kn), (1, .int (iI (((dz : Nat) : Int)))), (2, .int (iI (lr))), (3, .int (iI (sr)))]) hx hb dX3_learnFrom_29 hl (by decide) rfl (fun ls hl => ?_)
  refine lv_iload hx hb dX3_learnFrom_31 (lv_at hl 0 rfl) ?_
  refine my_if_lt (tgt := 67) hx hb (by omega) dX3_learnFrom_33 (by decide) (fun bh3 => (by omega : False).elim) (fun bh3 => ?_)
  refine lv_iload hx hb dX3_learnFrom_36 (lv_at hl 0 rfl) ?_
  refine lv_aload_n hx hb dX3_learnFrom_38 rfl (lv_at hl 2 rfl) ?_
  refine my_get hx hb hts inAX3 hown hK hP 0 rfl rfl 6 (by decide) w_349 rfl rfl dX3_learnFrom_39 ?_
  refine my_alenI hx hb hK hP 3 rfl dX3_learnFrom_42 ?_
  refine my_icmp_ge (tgt := 67) hx hb (by omega) dX3_learnFrom_43 (by decide) (fun bh4 => (by omega : False).elim) (fun bh4 => ?_)
  refine lv_aload_n hx hb dX3_learnFrom_46 rfl (lv_at hl 2 rfl) ?_
  refine my_get hx hb hts inAX3 hown hK hP 0 rfl rfl 6 (by decide) w_349 rfl rfl dX3_learnFrom_47 ?_
  refine lv_iload hx hb dX3_learnFrom_50 (lv_at hl 0 rfl) ?_
  refine lv_dup2_11 hx hb dX3_learnFrom_52 rfl rfl ?_
  refine my_iald hx hb hK hP 3 rfl (by omega) (k := (erI (dm dz) (unI lev se dz)).toNat) (rfl) dX3_learnFrom_53 ?_
  refine lv_iconst (v := iI (1)) hx hb dX3_learnFrom_54 rfl ?_
  refine my_iadd (z := (ef ((erI (dm dz) (unI lev se dz)).toNat)) + 1) hx hb dX3_learnFrom_55 (rfl) ?_
  refine my_iast hx hb hK hP hD hS 3 rfl (by omega) (k := (erI (dm dz) (unI lev se dz)).toNat) (rfl) dX3_learnFrom_56 (fun H locs hP hD hS => ?_)
  have hP : va_P D vwCl [(kn, .inr (3, [.ref hi, .int (iI (ld)), .int (iI (fd)), .int (iI (fk)), .int (iI (fv)), .ref kl, .ref ke, .ref kd, .ref ks, .ref ka, .int (iI (es)), .int (iI (sk)), .int (iI (so)), .int (iI (lo))])), (kl, .inr (2, [.ref us, .int (iI (lev))])), (us, arI cs 7 se), (ke, arI cs 21 (upI ef ((erI (dm dz) (unI lev se dz)).toNat) ((ef ((erI (dm dz) (unI lev se dz)).toNat)) + 1))), (kd, .inr (0, [.ref ud])), (ud, arI cs 1005 dm)] H := hP
  have hD : va_D A [(kn, .inr (3, [.ref hi, .int (iI (ld)), .int (iI (fd)), .int (iI (fk)), .int (iI (fv)), .ref kl, .ref ke, .ref kd, .ref ks, .ref ka, .int (iI (es)), .int (iI (sk)), .int (iI (so)), .int (iI (lo))])), (kl, .inr (2, [.ref us, .int (iI (lev))])), (us, arI cs 7 se), (ke, arI cs 21 (upI ef ((erI (dm dz) (unI lev se dz)).toNat) ((ef ((erI (dm dz) (unI lev se dz)).toNat)) + 1))), (kd, .inr (0, [.ref ud])), (ud, arI cs 1005 dm)] := hD
  refine lv_aload_n hx hb dX3_learnFrom_57 rfl (lv_at hl 2 rfl) ?_
  refine lv_dup hx hb dX3_learnFrom_58 rfl ?_
  refine my_get hx hb hts inAX3 hown hK hP 0 rfl rfl 10 (by decide) w_355 rfl rfl dX3_learnFrom_59 ?_
  refine lv_iconst (v := iI (1)) hx hb dX3_learnFrom_62 rfl ?_
  refine my_iadd (z := es + 1) hx hb dX3_learnFrom_63 (rfl) ?_
  refine my_put hx hb hts inAX3 tyX3_ok nmX3 hown hK hP hD hS 0 rfl rfl 10 (by decide) w_355 rfl rfl rfl (Nat.le_of_ble_eq_true rfl) dX3_learnFrom_64 (fun H locs hP hD hS => ?_)
  have hP : va_P D vwCl [(kn, .inr (3, [.ref hi, .int (iI (ld)), .int (iI (fd)), .int (iI (fk)), .int (iI (fv)), .ref kl, .ref ke, .ref kd, .ref ks, .ref ka, .int (iI (es + 1)), .int (iI (sk)), .int (iI (so)), .int (iI (lo))])), (kl, .inr (2, [.ref us, .int (iI (lev))])), (us, arI cs 7 se), (ke, arI cs 21 (upI ef ((erI (dm dz) (unI lev se dz)).toNat) ((ef ((erI (dm dz) (unI lev se dz)).toNat)) + 1))), (kd, .inr (0, [.ref ud])), (ud, arI cs 1005 dm)] H := hP
  have hD : va_D A [(kn, .inr (3, [.ref hi, .int (iI (ld)), .int (iI (fd)), .int (iI (fk)), .int (iI (fv)), .ref kl, .ref ke, .ref kd, .ref ks, .ref ka, .int (iI (es + 1)), .int (iI (sk)), .int (iI (so)), .int (iI (lo))])), (kl, .inr (2, [.ref us, .int (iI (lev))])), (us, arI cs 7 se), (ke, arI cs 21 (upI ef ((erI (dm dz) (unI lev se dz)).toNat) ((ef ((erI (dm dz) (unI lev se dz)).toNat)) + 1))), (kd, .inr (0, [.ref ud])), (ud, arI cs 1005 dm)] := hD
  refine lv_aload_n hx hb dX3_learnFrom_67 rfl (lv_at hl 2 rfl) ?_
  refine my_get hx hb hts inAX3 hown hK hP 0 rfl rfl 5 (by decide) w_347 rfl rfl dX3_learnFrom_68 ?_
  refine lv_iload_n hx hb dX3_learnFrom_71 rfl (lv_at hl 3 rfl) ?_
  refine lv_iload hx hb dX3_learnFrom_72 (lv_at hl 1 rfl) ?_
  refine lv_iload_n hx hb dX3_learnFrom_74 rfl (lv_at hl 4 rfl) ?_
  refine lv_iload_n hx hb dX3_learnFrom_75 rfl (lv_at hl 5 rfl) ?_
  have pk5 : picks [(kn, .inr (3, [.ref hi, .int (iI (ld)), .int (iI (fd)), .int (iI (fk)), .int (iI (fv)), .ref kl, .ref ke, .ref kd, .ref ks, .ref ka, .int (iI (es + 1)), .int (iI (sk)), .int (iI (so)), .int (iI (lo))])), (kl, .inr (2, [.ref us, .int (iI (lev))])), (us, arI cs 7 se), (ke, arI cs 21 (upI ef ((erI (dm dz) (unI lev se dz)).toNat) ((ef ((erI (dm dz) (unI lev se dz)).toNat)) + 1))), (kd, .inr (0, [.ref ud])), (ud, arI cs 1005 dm)] [1, 2] [(kl, .inr (2, [.ref us, .int (iI (lev))])), (us, arI cs 7 se)] := ⟨rfl, rfl, trivial⟩
  refine va_callv (va_runV (As := [.int (iI (((dz : Nat) : Int))), .int (iI (dm dz)), .int (iI (lr)), .int (iI (sr))]) (rest := []) ⟨hx, hb, hml, hown, hts⟩ (m_X2_learn l D cs kl us lev se dz (dm dz) lr sr (hlev) (hse) (by omega) (hdm) (hlr) (hsr)) (cwV 4 hts (gV w_544 w_545 w_546 w_3 w_547) rfl rfl rfl (by decide +kernel) ⟨Nat.le_of_ble_eq_true rfl, Nat.le_of_ble_eq_true rfl⟩) (PC_V hK hN hP hD [1, 2] rfl pk5 rfl rfl) rfl rfl hl.1 rfl (lv_room (Nat.le_of_ble_eq_true rfl)) dX3_learnFrom_76 ⟨Nat.le_of_ble_eq_true rfl, Nat.le_of_ble_eq_true rfl⟩) hS (fun q _ h => inW_sub hD [1, 2] pk5 q h) (fun q h => inW_sub hD [1, 2] pk5 q h) (fun u t H locs ht hvm hw hB hz1 hk1 hS => ?_)
  rw [ht] at hB
  obtain ⟨hP, hD⟩ := my_join (W1 := [(kl, .inr (2, [.ref us, .int (iI (lvI lev (se (dz % 7)) (dm dz) lr))])), (us, arI cs 7 (snI (lvI lev (se (dz % 7)) (dm dz) lr) se (dz % 7) (dm dz) sr))]) hP hD [1, 2] rfl pk5 rfl hk1 hB
  have hP : va_P D vwCl [(kn, .inr (3, [.ref hi, .int (iI (ld)), .int (iI (fd)), .int (iI (fk)), .int (iI (fv)), .ref kl, .ref ke, .ref kd, .ref ks, .ref ka, .int (iI (es + 1)), .int (iI (sk)), .int (iI (so)), .int (iI (lo))])), (kl, .inr (2, [.ref us, .int (iI (lvI lev (se (dz % 7)) (dm dz) lr))])), (us, arI cs 7 (snI (lvI lev (se (dz % 7)) (dm dz) lr) se (dz % 7) (dm dz) sr)), (ke, arI cs 21 (upI ef ((erI (dm dz) (unI lev se dz)).toNat) ((ef ((erI (dm dz) (unI lev se dz)).toNat)) + 1))), (kd, .inr (0, [.ref ud])), (ud, arI cs 1005 dm)] H := hP
  have hD : va_D A [(kn, .inr (3, [.ref hi, .int (iI (ld)), .int (iI (fd)), .int (iI (fk)), .int (iI (fv)), .ref kl, .ref ke, .ref kd, .ref ks, .ref ka, .int (iI (es + 1)), .int (iI (sk)), .int (iI (so)), .int (iI (lo))])), (kl, .inr (2, [.ref us, .int (iI (lvI lev (se (dz % 7)) (dm dz) lr))])), (us, arI cs 7 (snI (lvI lev (se (dz % 7)) (dm dz) lr) se (dz % 7) (dm dz) sr)), (ke, arI cs 21 (upI ef ((erI (dm dz) (unI lev se dz)).toNat) ((ef ((erI (dm dz) (unI lev se dz)).toNat)) + 1))), (kd, .inr (0, [.ref ud])), (ud, arI cs 1005 dm)] := hD
  have hWe : ([(kn, .inr (3, [.ref hi, .int (iI (ld)), .int (iI (fd)), .int (iI (fk)), .int (iI (fv)), .ref kl, .ref ke, .ref kd, .ref ks, .ref ka, .int (iI (es + 1)), .int (iI (sk)), .int (iI (so)), .int (iI (lo))])), (kl, .inr (2, [.ref us, .int (iI (lvI lev (se (dz % 7)) (dm dz) lr))])), (us, arI cs 7 (snI (lvI lev (se (dz % 7)) (dm dz) lr) se (dz % 7) (dm dz) sr)), (ke, arI cs 21 (upI ef ((erI (dm dz) (unI lev se dz)).toNat) ((ef ((erI (dm dz) (unI lev se dz)).toNat)) + 1))), (kd, .inr (0, [.ref ud])), (ud, arI cs 1005 dm)] : va_W) = [(kn, .inr (3, [.ref hi, .int (iI (ld)), .int (iI (fd)), .int (iI (fk)), .int (iI (fv)), .ref kl, .ref ke, .ref kd, .ref ks, .ref ka, .int (iI (es + 1)), .int (iI (sk)), .int (iI (so)), .int (iI (lo))])), (kl, .inr (2, [.ref us, .int (iI (lvI lev (se (dz % 7)) (dm dz) lr))])), (us, arI cs 7 (snI (lvI lev (se (dz % 7)) (dm dz) lr) se (dz % 7) (dm dz) sr)), (ke, arI cs 21 (upI ef (erI (dm dz) (unI lev se dz)).toNat (ef (erI (dm dz) (unI lev se dz)).toNat + 1))), (kd, .inr (0, [.ref ud])), (ud, arI cs 1005 dm)] := by
    first | rfl | (congr 1; omega)
  rw [hWe] at hP
  subst hAe
  exact W.vret hx hb hr (fun t ht hW => ⟨⟨(), rfl, trivial, by show va_P D vwCl _ t.heap; rw [ht]; exact hP⟩, hS.F ht⟩) hS.2.2 dX3_learnFrom_79

abbrev ws_X3_timesOf : List Cond := Cond.code yX3_timesOf cX3_timesOf 2 (some .int) :: ALL
set_option maxHeartbeats 4000000 in
set_option maxRecDepth 100000 in
theorem m_X3_timesOf (l : Launch) (D : va_G) (cs : Nat → ClassId) (kn hi kl ke kd ks ka : Nat) (ld fd fk fv es sk so lo : Int) (ef : Nat → Int) (kz : Nat) (hk : kz < 21) : Met l yX3_timesOf ws_X3_timesOf ({ frames := 0, cells := 0, slots := 0, locals := 0 }) (va_Pc [.ref kn, .int (iI (((kz : Nat) : Int)))] (PC D cs [(kn, .inr (3, [.ref hi, .int (iI (ld)), .int (iI (fd)), .int (iI (fk)), .int (iI (fv)), .ref kl, .ref ke, .ref kd, .ref ks, .ref ka, .int (iI (es)), .int (iI (sk)), .int (iI (so)), .int (iI (lo))])), (ke, arI cs 21 ef)])) (va_Qi (fun r (_ : Unit) => r = iI (ef kz)) (fun _ _ => True) noA) 0 0 noA := by
  refine Met.ofW (cc := cX3_timesOf) (maxL := 2) (ret := (some .int)) (by decide +kernel) rfl ?_
  intro p e s m args below meth c s₁ B hml hv
  obtain ⟨rfl, hP, hK, hD, hN⟩ := hv
  have hx := B.exec
  have hb := B.bytes
  have hr := B.returns
  have hts : ∀ w ∈ ALL, w.before _ s = true := fun w h => atoms_spec (ws := ws_X3_timesOf) B.pre w (List.mem_cons_of_mem _ h)
  have hown : s.vm.findClass RX3 = some m.cls := findClass_of_methodNamed B.named
  have hlocks := B.notSynchronized
  have hS : va_S noA s.heap s.heap [] := va_S.rf
  generalize inW [(kn, .inr (3, [.ref hi, .int (iI (ld)), .int (iI (fd)), .int (iI (fk)), .int (iI (fv)), .ref kl, .ref ke, .ref kd, .ref ks, .ref ka, .int (iI (es)), .int (iI (sk)), .int (iI (so)), .int (iI (lo))])), (ke, arI cs 21 ef)] = A at hD
  have hl := lv_entry ([.ref kn, .int (iI (((kz : Nat) : Int)))]) (n := 2) (Nat.le_of_ble_eq_true rfl)
  rw [lg_entry_eq]
  generalize (lg_sl ([.ref kn, .int (iI (((kz : Nat) : Int)))]) ++ List.replicate (2 - (lg_sl ([.ref kn, .int (iI (((kz : Nat) : Int)))])).length) Slot.unset).toArray = ls at hl ⊢
  have hl : lv_has ls 2 [(0, .ref kn), (1, .int (iI (((kz : Nat) : Int))))] := hl
  have hH := rfl (a := s.heap)
  refine lv_iload_n hx hb dX3_timesOf_0 rfl (lv_at hl 1 rfl) ?_
  refine my_if_lt (tgt := 22) hx hb (by omega) dX3_timesOf_1 (by decide) (fun bh1 => (by omega : False).elim) (fun bh1 => ?_)
  refine lv_iload_n hx hb dX3_timesOf_4 rfl (lv_at hl 1 rfl) ?_
  refine lv_aload_n hx hb dX3_timesOf_5 rfl (lv_at hl 0 rfl) ?_
  refine my_get hx hb hts inAX3 hown hK hP 0 rfl rfl 6 (by decide) w_349 rfl rfl dX3_timesOf_6 ?_
  refine my_alenI hx hb hK hP 1 rfl dX3_timesOf_9 ?_
  refine my_icmp_ge (tgt := 22) hx hb (by omega) dX3_timesOf_10 (by decide) (fun bh2 => (by omega : False).elim) (fun bh2 => ?_)
  refine lv_aload_n hx hb dX3_timesOf_13 rfl (lv_at hl 0 rfl) ?_
  refine my_get hx hb hts inAX3 hown hK hP 0 rfl rfl 6 (by decide) w_349 rfl rfl dX3_timesOf_14 ?_
  refine lv_iload_n hx hb dX3_timesOf_17 rfl (lv_at hl 1 rfl) ?_
  refine my_iald hx hb hK hP 1 rfl (by omega) (k := kz) (Int.toNat_natCast _) dX3_timesOf_18 ?_
  refine lv_goto (tgt := 23) hx hb dX3_timesOf_19 (by decide) ?_
  have hres : iI (ef kz) = iI (ef kz) := congrArg iI (by
      first | rfl | omega)
  exact W.iret hx hb hr (fun t ht hW => ⟨⟨_, (), rfl, hres, trivial⟩, hS.F ht⟩) hS.2.2 dX3_timesOf_23

abbrev ws_X3_safetyAt : List Cond := Cond.code yX3_safetyAt cX3_safetyAt 4 (some .int) :: ALL
set_option maxHeartbeats 4000000 in
set_option maxRecDepth 100000 in
theorem m_X3_safetyAt (l : Launch) (D : va_G) (cs : Nat → ClassId) (kn hi kl ke kd ks ka : Nat) (ld fd fk fv es sk so lo : Int) (ef : Nat → Int) (pct : Int) (hef : ∀ j, 0 ≤ ef j ∧ ef j ≤ 1000) (hes : 0 ≤ es ∧ es ≤ 1000) (hpc : 1 ≤ pct ∧ pct ≤ 100) : Met l yX3_safetyAt ws_X3_safetyAt ({ frames := 0, cells := 0, slots := 0, locals := 0 }) (va_Pc [.ref kn, .int (iI (pct))] (PC D cs [(kn, .inr (3, [.ref hi, .int (iI (ld)), .int (iI (fd)), .int (iI (fk)), .int (iI (fv)), .ref kl, .ref ke, .ref kd, .ref ks, .ref ka, .int (iI (es)), .int (iI (sk)), .int (iI (so)), .int (iI (lo))])), (ke, arI cs 21 ef)])) (va_Qi (fun r (_ : Unit) => r = iI (sfI ef es pct 0 21)) (fun _ _ => True) noA) 0 0 noA := by
  refine Met.ofW (cc := cX3_safetyAt) (maxL := 4) (ret := (some .int)) (by decide +kernel) rfl ?_
  intro p e s m args below meth c s₁ B hml hv
  obtain ⟨rfl, hP, hK, hD, hN⟩ := hv
  have hx := B.exec
  have hb := B.bytes
  have hr := B.returns
  have hts : ∀ w ∈ ALL, w.before _ s = true := fun w h => atoms_spec (ws := ws_X3_safetyAt) B.pre w (List.mem_cons_of_mem _ h)
  have hown : s.vm.findClass RX3 = some m.cls := findClass_of_methodNamed B.named
  have hlocks := B.notSynchronized
  have hS : va_S noA s.heap s.heap [] := va_S.rf
  generalize inW [(kn, .inr (3, [.ref hi, .int (iI (ld)), .int (iI (fd)), .int (iI (fk)), .int (iI (fv)), .ref kl, .ref ke, .ref kd, .ref ks, .ref ka, .int (iI (es)), .int (iI (sk)), .int (iI (so)), .int (iI (lo))])), (ke, arI cs 21 ef)] = A at hD
  have hl := lv_entry ([.ref kn, .int (iI (pct))]) (n := 4) (Nat.le_of_ble_eq_true rfl)
  rw [lg_entry_eq]
  generalize (lg_sl ([.ref kn, .int (iI (pct))]) ++ List.replicate (4 - (lg_sl ([.ref kn, .int (iI (pct))])).length) Slot.unset).toArray = ls at hl ⊢
  have hl : lv_has ls 4 [(0, .ref kn), (1, .int (iI (pct)))] := hl
  have hH := rfl (a := s.heap)
  have hps := mul_rng (a := pct) (b := es) (A := 100) (B := 1000) (by omega) hpc.2 hes.1 hes.2
  refine lv_iconst (v := iI (0)) hx hb dX3_safetyAt_0 rfl ?_
  refine lv_istore_n (lv' := [(2, .int (iI (0))), (0, .ref kn), (1, .int (iI (pct)))]) hx hb dX3_safetyAt_1 rfl hl (by decide) rfl (fun ls hl => ?_)
  refine lv_iconst (v := iI (0)) hx hb dX3_safetyAt_2 rfl ?_
  refine lv_istore_n (lv' := [(3, .int (iI (0))), (2, .int (iI (0))), (0, .ref kn), (1, .int (iI (pct)))]) hx hb dX3_safetyAt_3 rfl hl (by decide) rfl (fun ls hl => ?_)
  suffices KL : ∀ (n : Nat) (i : Nat), i ≤ 21 → sfI ef es pct 0 21 = sfI ef es pct i (21 - i) → 21 - i < n → ∀ (H : Heap) (locs : List Loc) (ls : Array Slot), va_P D vwCl [(kn, .inr (3, [.ref hi, .int (iI (ld)), .int (iI (fd)), .int (iI (fk)), .int (iI (fv)), .ref kl, .ref ke, .ref kd, .ref ks, .ref ka, .int (iI (es)), .int (iI (sk)), .int (iI (so)), .int (iI (lo))])), (ke, arI cs 21 ef)] H → va_S noA s.heap H locs → lv_has ls 4 [(3, .int (iI (((i : Nat) : Int)))), (2, .int (iI (smI ef i))), (0, .ref kn), (1, .int (iI (pct)))] → W p l e _ s m _ below meth c H locs 0 0 _ (F0 m 4 ls []) from
    KL _ 0 (Nat.zero_le _) (rfl) (Nat.lt_succ_self _) _ _ _ hP hS (lv_sub hl [0, 1, 2, 3] rfl)
  intro n
  induction n with
  | zero => intro i hil hs h0; exact absurd h0 (Nat.not_lt_zero _)
  | succ n ih =>
    intro i hil hs hmu H locs ls hP hS hl
    have hs1 := smI_le hef (i + 1)
    have hs0 : smI ef (i + 1) = smI ef i + ef i := rfl
    refine lv_iload_n hx hb dX3_safetyAt_4 rfl (lv_at hl 0 rfl) ?_
    refine lv_aload_n hx hb dX3_safetyAt_5 rfl (lv_at hl 2 rfl) ?_
    refine my_get hx hb hts inAX3 hown hK hP 0 rfl rfl 6 (by decide) w_349 rfl rfl dX3_safetyAt_6 ?_
    refine my_alenI hx hb hK hP 1 rfl dX3_safetyAt_9 ?_
    refine my_icmp_ge (tgt := 43) hx hb (by omega) dX3_safetyAt_10 (by decide) (fun bh1 => ?_) (fun bh1 => ?_)
    · refine lv_bipush (v := iI (20)) hx hb dX3_safetyAt_43 (by decide) ?_
      have hres : iI (20) = iI (sfI ef es pct 0 21) := congrArg iI (by
          rw [hs, show 21 - i = 0 from by omega, sfI])
      exact W.iret hx hb hr (fun t ht hW => ⟨⟨_, (), rfl, hres, trivial⟩, hS.F ht⟩) hS.2.2 dX3_safetyAt_45
    · refine lv_iload_n hx hb dX3_safetyAt_13 rfl (lv_at hl 1 rfl) ?_
      refine lv_aload_n hx hb dX3_safetyAt_14 rfl (lv_at hl 2 rfl) ?_
      refine my_get hx hb hts inAX3 hown hK hP 0 rfl rfl 6 (by decide) w_349 rfl rfl dX3_safetyAt_15 ?_
      refine lv_iload_n hx hb dX3_safetyAt_18 rfl (lv_at hl 0 rfl) ?_
      refine my_iald hx hb hK hP 1 rfl (by omega) (k := i) (Int.toNat_natCast _) dX3_safetyAt_19 ?_
      refine my_iadd (z := (smI ef i) + (ef i)) hx hb dX3_safetyAt_20 (rfl) ?_
      refine my_cv0 (z := smI ef (i + 1)) (rfl) ?_
      refine lv_istore_n (lv' := [(2, .int (iI (smI ef (i + 1)))), (3, .int (iI (((i : Nat) : Int)))), (0, .ref kn), (1, .int (iI (pct)))]) hx hb dX3_safetyAt_21 rfl hl (by decide) rfl (fun ls hl => ?_)
      refine lv_iload_n hx hb dX3_safetyAt_22 rfl (lv_at hl 0 rfl) ?_
      refine lv_bipush (v := iI (100)) hx hb dX3_safetyAt_23 (by decide) ?_
      refine my_imul (z := (smI ef (i + 1)) * 100) hx hb dX3_safetyAt_25 (rfl) ?_
      refine lv_iload_n hx hb dX3_safetyAt_26 rfl (lv_at hl 3 rfl) ?_
      refine lv_aload_n hx hb dX3_safetyAt_27 rfl (lv_at hl 2 rfl) ?_
      refine my_get hx hb hts inAX3 hown hK hP 0 rfl rfl 10 (by decide) w_355 rfl rfl dX3_safetyAt_28 ?_
      refine my_imul (z := pct * es) hx hb dX3_safetyAt_31 (rfl) ?_
      refine my_icmp_lt (tgt := 37) hx hb (by omega) dX3_safetyAt_32 (by decide) (fun bh2 => ?_) (fun bh2 => ?_)
      · refine lv_iinc (v := iI (((i : Nat) : Int) + 1)) (lv' := [(3, .int (iI (((i : Nat) : Int) + 1))), (2, .int (iI (smI ef (i + 1)))), (0, .ref kn), (1, .int (iI (pct)))]) hx hb dX3_safetyAt_37 hl (k := 1) rfl (by rw [show (((i : Nat) : Int) + 1 : Int) = ((i : Nat) : Int) + 1 from rfl]; exact iI_add _ _) (by decide) rfl (fun ls hl => ?_)
        refine lv_goto (tgt := 4) hx hb dX3_safetyAt_40 (by decide) ?_
        have e1 : ((i : Nat) : Int) + 1 = ((i + 1 : Nat) : Int) := by omega
        rw [e1] at hl
        exact ih (i + 1) (by omega) (by rw [hs, show 21 - i = (21 - (i + 1)) + 1 from by omega, sfI, if_neg (by omega)]) (by omega) _ _ _ hP hS (lv_sub hl [0, 1, 2, 3] rfl)
      · refine lv_iload_n hx hb dX3_safetyAt_35 rfl (lv_at hl 1 rfl) ?_
        have hres : iI (((i : Nat) : Int)) = iI (sfI ef es pct 0 21) := congrArg iI (by
            rw [hs, show 21 - i = (21 - (i + 1)) + 1 from by omega, sfI, if_pos (by omega)])
        exact W.iret hx hb hr (fun t ht hW => ⟨⟨_, (), rfl, hres, trivial⟩, hS.F ht⟩) hS.2.2 dX3_safetyAt_36

abbrev ws_X3_dueAfter : List Cond := Cond.code yX3_dueAfter cX3_dueAfter 4 (some .int) :: ALL
set_option maxHeartbeats 4000000 in
set_option maxRecDepth 100000 in
theorem m_X3_dueAfter (l : Launch) (D : va_G) (cs : Nat → ClassId) (kn hi kl ke kd ks ka : Nat) (ld fd fk fv es sk so lo : Int) (ua : Nat) (ar : Nat → Int) (dz : Nat) (hd : dz < 1000) : Met l yX3_dueAfter ws_X3_dueAfter ({ frames := 1, cells := 0, slots := 0, locals := 21 }) (va_Pc [.ref kn, .int (iI (((dz : Nat) : Int)))] (PC D cs [(kn, .inr (3, [.ref hi, .int (iI (ld)), .int (iI (fd)), .int (iI (fk)), .int (iI (fv)), .ref kl, .ref ke, .ref kd, .ref ks, .ref ka, .int (iI (es)), .int (iI (sk)), .int (iI (so)), .int (iI (lo))])), (ka, .inr (0, [.ref ua])), (ua, arI cs 1005 ar)])) (va_Qi (fun r (_ : Unit) => r = iI (duI ar dz)) (fun _ _ => True) noA) 0 0 noA := by
  refine Met.ofW (cc := cX3_dueAfter) (maxL := 4) (ret := (some .int)) (by decide +kernel) rfl ?_
  intro p e s m args below meth c s₁ B hml hv
  obtain ⟨rfl, hP, hK, hD, hN⟩ := hv
  have hx := B.exec
  have hb := B.bytes
  have hr := B.returns
  have hts : ∀ w ∈ ALL, w.before _ s = true := fun w h => atoms_spec (ws := ws_X3_dueAfter) B.pre w (List.mem_cons_of_mem _ h)
  have hown : s.vm.findClass RX3 = some m.cls := findClass_of_methodNamed B.named
  have hlocks := B.notSynchronized
  have hS : va_S noA s.heap s.heap [] := va_S.rf
  generalize inW [(kn, .inr (3, [.ref hi, .int (iI (ld)), .int (iI (fd)), .int (iI (fk)), .int (iI (fv)), .ref kl, .ref ke, .ref kd, .ref ks, .ref ka, .int (iI (es)), .int (iI (sk)), .int (iI (so)), .int (iI (lo))])), (ka, .inr (0, [.ref ua])), (ua, arI cs 1005 ar)] = A at hD
  have hl := lv_entry ([.ref kn, .int (iI (((dz : Nat) : Int)))]) (n := 4) (Nat.le_of_ble_eq_true rfl)
  rw [lg_entry_eq]
  generalize (lg_sl ([.ref kn, .int (iI (((dz : Nat) : Int)))]) ++ List.replicate (4 - (lg_sl ([.ref kn, .int (iI (((dz : Nat) : Int)))])).length) Slot.unset).toArray = ls at hl ⊢
  have hl : lv_has ls 4 [(0, .ref kn), (1, .int (iI (((dz : Nat) : Int))))] := hl
  have hH := rfl (a := s.heap)
  refine lv_iconst (v := iI (0)) hx hb dX3_dueAfter_0 rfl ?_
  refine lv_istore_n (lv' := [(2, .int (iI (0))), (0, .ref kn), (1, .int (iI (((dz : Nat) : Int))))]) hx hb dX3_dueAfter_1 rfl hl (by decide) rfl (fun ls hl => ?_)
  refine lv_iconst (v := iI (1)) hx hb dX3_dueAfter_2 rfl ?_
  refine lv_istore_n (lv' := [(3, .int (iI (1))), (2, .int (iI (0))), (0, .ref kn), (1, .int (iI (((dz : Nat) : Int))))]) hx hb dX3_dueAfter_3 rfl hl (by decide) rfl (fun ls hl => ?_)
  suffices KL : ∀ (n : Nat) (i : Nat), i ≤ 5 → 5 - i < n → ∀ (H : Heap) (locs : List Loc) (ls : Array Slot), va_P D vwCl [(kn, .inr (3, [.ref hi, .int (iI (ld)), .int (iI (fd)), .int (iI (fk)), .int (iI (fv)), .ref kl, .ref ke, .ref kd, .ref ks, .ref ka, .int (iI (es)), .int (iI (sk)), .int (iI (so)), .int (iI (lo))])), (ka, .inr (0, [.ref ua])), (ua, arI cs 1005 ar)] H → va_S noA s.heap H locs → lv_has ls 4 [(3, .int (iI ((((i + 1) : Nat) : Int)))), (2, .int (iI (smI (fun j => ar (dz + (j + 1))) i))), (0, .ref kn), (1, .int (iI (((dz : Nat) : Int))))] → W p l e _ s m _ below meth c H locs 0 0 _ (F0 m 4 ls []) from
    KL _ 0 (Nat.zero_le _) (Nat.lt_succ_self _) _ _ _ hP hS (lv_sub hl [0, 1, 2, 3] rfl)
  intro n
  induction n with
  | zero => intro i hil h0; exact absurd h0 (Nat.not_lt_zero _)
  | succ n ih =>
    intro i hil hmu H locs ls hP hS hl
    refine lv_iload_n hx hb dX3_dueAfter_4 rfl (lv_at hl 0 rfl) ?_
    refine lv_iconst (v := iI (5)) hx hb dX3_dueAfter_5 rfl ?_
    refine my_icmp_gt (tgt := 28) hx hb (by omega) dX3_dueAfter_6 (by decide) (fun bh1 => ?_) (fun bh1 => ?_)
    · refine lv_iload_n hx hb dX3_dueAfter_28 rfl (lv_at hl 1 rfl) ?_
      have hres : iI (smI (fun j => ar (dz + (j + 1))) i) = iI (duI ar dz) := congrArg iI (by
          have e : i = 5 := by omega
          rw [e]
          rfl)
      exact W.iret hx hb hr (fun t ht hW => ⟨⟨_, (), rfl, hres, trivial⟩, hS.F ht⟩) hS.2.2 dX3_dueAfter_29
    · refine lv_iload_n hx hb dX3_dueAfter_9 rfl (lv_at hl 1 rfl) ?_
      refine lv_aload_n hx hb dX3_dueAfter_10 rfl (lv_at hl 2 rfl) ?_
      refine my_get hx hb hts inAX3 hown hK hP 0 rfl rfl 9 (by decide) w_353 rfl rfl dX3_dueAfter_11 ?_
      refine lv_iload_n hx hb dX3_dueAfter_14 rfl (lv_at hl 3 rfl) ?_
      refine lv_iload_n hx hb dX3_dueAfter_15 rfl (lv_at hl 0 rfl) ?_
      refine my_iadd (z := ((dz : Nat) : Int) + (((i + 1) : Nat) : Int)) hx hb dX3_dueAfter_16 (rfl) ?_
      refine my_cv0 (z := (((dz + (i + 1)) : Nat) : Int)) (by omega) ?_
      have pk2 : picks [(kn, .inr (3, [.ref hi, .int (iI (ld)), .int (iI (fd)), .int (iI (fk)), .int (iI (fv)), .ref kl, .ref ke, .ref kd, .ref ks, .ref ka, .int (iI (es)), .int (iI (sk)), .int (iI (so)), .int (iI (lo))])), (ka, .inr (0, [.ref ua])), (ua, arI cs 1005 ar)] [1, 2] [(ka, .inr (0, [.ref ua])), (ua, arI cs 1005 ar)] := ⟨rfl, rfl, trivial⟩
      refine va_calli (va_runV (As := [.int (iI ((((dz + (i + 1)) : Nat) : Int)))]) (rest := [.int (iI (smI (fun j => ar (dz + (j + 1))) i))]) ⟨hx, hb, hml, hown, hts⟩ (m_X0_on l D cs ka ua ar (dz + (i + 1)) (by omega)) (cwV 1 hts (gV w_124 w_125 w_126 w_2 w_127) rfl rfl rfl (by decide +kernel) ⟨Nat.le_of_ble_eq_true rfl, Nat.le_of_ble_eq_true rfl⟩) (PC_V hK hN hP hD [1, 2] rfl pk2 rfl rfl) rfl rfl hl.1 rfl (lv_room (Nat.le_of_ble_eq_true rfl)) dX3_dueAfter_17 ⟨Nat.le_of_ble_eq_true rfl, Nat.le_of_ble_eq_true rfl⟩) hS (fun _ _ h => False.elim h) (fun _ h => False.elim h) (fun r u t H locs ht hvm hw hB hz1 hk1 hS => ?_)
      subst hw
      have hP := P_kept hP hk1
      refine my_iadd (z := (smI (fun j => ar (dz + (j + 1))) i) + (ar (dz + (i + 1)))) hx hb dX3_dueAfter_20 (rfl) ?_
      refine lv_istore_n (lv' := [(2, .int (iI ((smI (fun j => ar (dz + (j + 1))) i) + (ar (dz + (i + 1)))))), (3, .int (iI ((((i + 1) : Nat) : Int)))), (0, .ref kn), (1, .int (iI (((dz : Nat) : Int))))]) hx hb dX3_dueAfter_21 rfl hl (by decide) rfl (fun ls hl => ?_)
      refine lv_iinc (v := iI ((((i + 1) : Nat) : Int) + 1)) (lv' := [(3, .int (iI ((((i + 1) : Nat) : Int) + 1))), (2, .int (iI ((smI (fun j => ar (dz + (j + 1))) i) + (ar (dz + (i + 1)))))), (0, .ref kn), (1, .int (iI (((dz : Nat) : Int))))]) hx hb dX3_dueAfter_22 hl (k := 1) rfl (by rw [show ((((i + 1) : Nat) : Int) + 1 : Int) = (((i + 1) : Nat) : Int) + 1 from rfl]; exact iI_add _ _) (by decide) rfl (fun ls hl => ?_)
      refine lv_goto (tgt := 4) hx hb dX3_dueAfter_25 (by decide) ?_
      have e1 : (((i + 1) : Nat) : Int) + 1 = (((i + 1) + 1 : Nat) : Int) := by omega
      rw [e1] at hl
      exact ih (i + 1) (by omega) (by omega) _ _ _ hP hS (lv_sub hl [0, 1, 2, 3] (by rfl))

abbrev ws_X3_firstDueAfter : List Cond := Cond.code yX3_firstDueAfter cX3_firstDueAfter 3 (some .int) :: ALL
set_option maxHeartbeats 4000000 in
set_option maxRecDepth 100000 in
theorem m_X3_firstDueAfter (l : Launch) (D : va_G) (cs : Nat → ClassId) (kn hi kl ke kd ks ka : Nat) (ld fd fk fv es sk so lo : Int) (ua : Nat) (ar : Nat → Int) (dz : Nat) (hd : dz < 1000) (har : ∀ j, 0 ≤ ar j ∧ ar j < 2147483648) : Met l yX3_firstDueAfter ws_X3_firstDueAfter ({ frames := 1, cells := 0, slots := 0, locals := 21 }) (va_Pc [.ref kn, .int (iI (((dz : Nat) : Int)))] (PC D cs [(kn, .inr (3, [.ref hi, .int (iI (ld)), .int (iI (fd)), .int (iI (fk)), .int (iI (fv)), .ref kl, .ref ke, .ref kd, .ref ks, .ref ka, .int (iI (es)), .int (iI (sk)), .int (iI (so)), .int (iI (lo))])), (ka, .inr (0, [.ref ua])), (ua, arI cs 1005 ar)])) (va_Qi (fun r (_ : Unit) => r = iI (fdI ar dz 1 5)) (fun _ _ => True) noA) 0 0 noA := by
  refine Met.ofW (cc := cX3_firstDueAfter) (maxL := 3) (ret := (some .int)) (by decide +kernel) rfl ?_
  intro p e s m args below meth c s₁ B hml hv
  obtain ⟨rfl, hP, hK, hD, hN⟩ := hv
  have hx := B.exec
  have hb := B.bytes
  have hr := B.returns
  have hts : ∀ w ∈ ALL, w.before _ s = true := fun w h => atoms_spec (ws := ws_X3_firstDueAfter) B.pre w (List.mem_cons_of_mem _ h)
  have hown : s.vm.findClass RX3 = some m.cls := findClass_of_methodNamed B.named
  have hlocks := B.notSynchronized
  have hS : va_S noA s.heap s.heap [] := va_S.rf
  generalize inW [(kn, .inr (3, [.ref hi, .int (iI (ld)), .int (iI (fd)), .int (iI (fk)), .int (iI (fv)), .ref kl, .ref ke, .ref kd, .ref ks, .ref ka, .int (iI (es)), .int (iI (sk)), .int (iI (so)), .int (iI (lo))])), (ka, .inr (0, [.ref ua])), (ua, arI cs 1005 ar)] = A at hD
  have hl := lv_entry ([.ref kn, .int (iI (((dz : Nat) : Int)))]) (n := 3) (Nat.le_of_ble_eq_true rfl)
  rw [lg_entry_eq]
  generalize (lg_sl ([.ref kn, .int (iI (((dz : Nat) : Int)))]) ++ List.replicate (3 - (lg_sl ([.ref kn, .int (iI (((dz : Nat) : Int)))])).length) Slot.unset).toArray = ls at hl ⊢
  have hl : lv_has ls 3 [(0, .ref kn), (1, .int (iI (((dz : Nat) : Int))))] := hl
  have hH := rfl (a := s.heap)
  refine lv_iconst (v := iI (1)) hx hb dX3_firstDueAfter_0 rfl ?_
  refine lv_istore_n (lv' := [(2, .int (iI (1))), (0, .ref kn), (1, .int (iI (((dz : Nat) : Int))))]) hx hb dX3_firstDueAfter_1 rfl hl (by decide) rfl (fun ls hl => ?_)
  suffices KL : ∀ (n : Nat) (i : Nat), i ≤ 5 → fdI ar dz 1 5 = fdI ar dz (i + 1) (5 - i) → 5 - i < n → ∀ (H : Heap) (locs : List Loc) (ls : Array Slot), va_P D vwCl [(kn, .inr (3, [.ref hi, .int (iI (ld)), .int (iI (fd)), .int (iI (fk)), .int (iI (fv)), .ref kl, .ref ke, .ref kd, .ref ks, .ref ka, .int (iI (es)), .int (iI (sk)), .int (iI (so)), .int (iI (lo))])), (ka, .inr (0, [.ref ua])), (ua, arI cs 1005 ar)] H → va_S noA s.heap H locs → lv_has ls 3 [(2, .int (iI ((((i + 1) : Nat) : Int)))), (0, .ref kn), (1, .int (iI (((dz : Nat) : Int))))] → W p l e _ s m _ below meth c H locs 0 0 _ (F0 m 2 ls []) from
    KL _ 0 (Nat.zero_le _) (rfl) (Nat.lt_succ_self _) _ _ _ hP hS (lv_sub hl [0, 1, 2] rfl)
  intro n
  induction n with
  | zero => intro i hil hs h0; exact absurd h0 (Nat.not_lt_zero _)
  | succ n ih =>
    intro i hil hs hmu H locs ls hP hS hl
    have har1 := har (dz + (i + 1))
    refine lv_iload_n hx hb dX3_firstDueAfter_2 rfl (lv_at hl 0 rfl) ?_
    refine lv_iconst (v := iI (5)) hx hb dX3_firstDueAfter_3 rfl ?_
    refine my_icmp_gt (tgt := 30) hx hb (by omega) dX3_firstDueAfter_4 (by decide) (fun bh1 => ?_) (fun bh1 => ?_)
    · refine lv_iconst (v := iI (-1)) hx hb dX3_firstDueAfter_30 rfl ?_
      have hres : iI (-1) = iI (fdI ar dz 1 5) := congrArg iI (by
          rw [hs, show 5 - i = 0 from by omega, fdI])
      exact W.iret hx hb hr (fun t ht hW => ⟨⟨_, (), rfl, hres, trivial⟩, hS.F ht⟩) hS.2.2 dX3_firstDueAfter_31
    · refine lv_aload_n hx hb dX3_firstDueAfter_7 rfl (lv_at hl 1 rfl) ?_
      refine my_get hx hb hts inAX3 hown hK hP 0 rfl rfl 9 (by decide) w_353 rfl rfl dX3_firstDueAfter_8 ?_
      refine lv_iload_n hx hb dX3_firstDueAfter_11 rfl (lv_at hl 2 rfl) ?_
      refine lv_iload_n hx hb dX3_firstDueAfter_12 rfl (lv_at hl 0 rfl) ?_
      refine my_iadd (z := ((dz : Nat) : Int) + (((i + 1) : Nat) : Int)) hx hb dX3_firstDueAfter_13 (rfl) ?_
      refine my_cv0 (z := (((dz + (i + 1)) : Nat) : Int)) (by omega) ?_
      have pk2 : picks [(kn, .inr (3, [.ref hi, .int (iI (ld)), .int (iI (fd)), .int (iI (fk)), .int (iI (fv)), .ref kl, .ref ke, .ref kd, .ref ks, .ref ka, .int (iI (es)), .int (iI (sk)), .int (iI (so)), .int (iI (lo))])), (ka, .inr (0, [.ref ua])), (ua, arI cs 1005 ar)] [1, 2] [(ka, .inr (0, [.ref ua])), (ua, arI cs 1005 ar)] := ⟨rfl, rfl, trivial⟩
      refine va_calli (va_runV (As := [.int (iI ((((dz + (i + 1)) : Nat) : Int)))]) (rest := []) ⟨hx, hb, hml, hown, hts⟩ (m_X0_on l D cs ka ua ar (dz + (i + 1)) (by omega)) (cwV 1 hts (gV w_124 w_125 w_126 w_2 w_127) rfl rfl rfl (by decide +kernel) ⟨Nat.le_of_ble_eq_true rfl, Nat.le_of_ble_eq_true rfl⟩) (PC_V hK hN hP hD [1, 2] rfl pk2 rfl rfl) rfl rfl hl.1 rfl (lv_room (Nat.le_of_ble_eq_true rfl)) dX3_firstDueAfter_14 ⟨Nat.le_of_ble_eq_true rfl, Nat.le_of_ble_eq_true rfl⟩) hS (fun _ _ h => False.elim h) (fun _ h => False.elim h) (fun r u t H locs ht hvm hw hB hz1 hk1 hS => ?_)
      subst hw
      have hP := P_kept hP hk1
      refine my_if_le (tgt := 24) hx hb (by omega) dX3_firstDueAfter_17 (by decide) (fun bh3 => ?_) (fun bh3 => ?_)
      · refine lv_iinc (v := iI ((((i + 1) : Nat) : Int) + 1)) (lv' := [(2, .int (iI ((((i + 1) : Nat) : Int) + 1))), (0, .ref kn), (1, .int (iI (((dz : Nat) : Int))))]) hx hb dX3_firstDueAfter_24 hl (k := 0) rfl (by rw [show ((((i + 1) : Nat) : Int) + 1 : Int) = (((i + 1) : Nat) : Int) + 1 from rfl]; exact iI_add _ _) (by decide) rfl (fun ls hl => ?_)
        refine lv_goto (tgt := 2) hx hb dX3_firstDueAfter_27 (by decide) ?_
        have e1 : (((i + 1) : Nat) : Int) + 1 = (((i + 1) + 1 : Nat) : Int) := by omega
        rw [e1] at hl
        exact ih (i + 1) (by omega) (by rw [hs, show 5 - i = (5 - (i + 1)) + 1 from by omega, fdI, if_neg (by omega)]) (by omega) _ _ _ hP hS (lv_sub hl [0, 1, 2] rfl)
      · refine lv_iload_n hx hb dX3_firstDueAfter_20 rfl (lv_at hl 2 rfl) ?_
        refine lv_iload_n hx hb dX3_firstDueAfter_21 rfl (lv_at hl 0 rfl) ?_
        refine my_iadd (z := ((dz : Nat) : Int) + (((i + 1) : Nat) : Int)) hx hb dX3_firstDueAfter_22 (rfl) ?_
        have hres : iI (((dz : Nat) : Int) + (((i + 1) : Nat) : Int)) = iI (fdI ar dz 1 5) := congrArg iI (by
            rw [hs, show 5 - i = (5 - (i + 1)) + 1 from by omega, fdI, if_pos (by omega)])
        exact W.iret hx hb hr (fun t ht hW => ⟨⟨_, (), rfl, hres, trivial⟩, hS.F ht⟩) hS.2.2 dX3_firstDueAfter_23

abbrev ws_X3_journalStock : List Cond := Cond.code yX3_journalStock cX3_journalStock 2 (some .int) :: ALL
set_option maxHeartbeats 4000000 in
set_option maxRecDepth 100000 in
theorem m_X3_journalStock (l : Launch) (D : va_G) (cs : Nat → ClassId) (kn hi kl ke kd ks ka : Nat) (ld fd fk fv es sk so lo : Int) (ua us : Nat) (ar sl : Nat → Int) (dz : Nat) (hd : dz < 1005) : Met l yX3_journalStock ws_X3_journalStock ({ frames := 1, cells := 0, slots := 0, locals := 23 }) (va_Pc [.ref kn, .int (iI (((dz : Nat) : Int)))] (PC D cs [(kn, .inr (3, [.ref hi, .int (iI (ld)), .int (iI (fd)), .int (iI (fk)), .int (iI (fv)), .ref kl, .ref ke, .ref kd, .ref ks, .ref ka, .int (iI (es)), .int (iI (sk)), .int (iI (so)), .int (iI (lo))])), (ka, .inr (0, [.ref ua])), (ua, arI cs 1005 ar), (ks, .inr (0, [.ref us])), (us, arI cs 1005 sl)])) (va_Qi (fun r (_ : Unit) => r = iI (fk + smI ar (dz + 1) - smI sl (dz + 1))) (fun _ _ => True) noA) 0 0 noA := by
  refine Met.ofW (cc := cX3_journalStock) (maxL := 2) (ret := (some .int)) (by decide +kernel) rfl ?_
  intro p e s m args below meth c s₁ B hml hv
  obtain ⟨rfl, hP, hK, hD, hN⟩ := hv
  have hx := B.exec
  have hb := B.bytes
  have hr := B.returns
  have hts : ∀ w ∈ ALL, w.before _ s = true := fun w h => atoms_spec (ws := ws_X3_journalStock) B.pre w (List.mem_cons_of_mem _ h)
  have hown : s.vm.findClass RX3 = some m.cls := findClass_of_methodNamed B.named
  have hlocks := B.notSynchronized
  have hS : va_S noA s.heap s.heap [] := va_S.rf
  generalize inW [(kn, .inr (3, [.ref hi, .int (iI (ld)), .int (iI (fd)), .int (iI (fk)), .int (iI (fv)), .ref kl, .ref ke, .ref kd, .ref ks, .ref ka, .int (iI (es)), .int (iI (sk)), .int (iI (so)), .int (iI (lo))])), (ka, .inr (0, [.ref ua])), (ua, arI cs 1005 ar), (ks, .inr (0, [.ref us])), (us, arI cs 1005 sl)] = A at hD
  have hl := lv_entry ([.ref kn, .int (iI (((dz : Nat) : Int)))]) (n := 2) (Nat.le_of_ble_eq_true rfl)
  rw [lg_entry_eq]
  generalize (lg_sl ([.ref kn, .int (iI (((dz : Nat) : Int)))]) ++ List.replicate (2 - (lg_sl ([.ref kn, .int (iI (((dz : Nat) : Int)))])).length) Slot.unset).toArray = ls at hl ⊢
  have hl : lv_has ls 2 [(0, .ref kn), (1, .int (iI (((dz : Nat) : Int))))] := hl
  have hH := rfl (a := s.heap)
  refine lv_aload_n hx hb dX3_journalStock_0 rfl (lv_at hl 0 rfl) ?_
  refine my_get hx hb hts inAX3 hown hK hP 0 rfl rfl 3 (by decide) w_344 rfl rfl dX3_journalStock_1 ?_
  refine lv_aload_n hx hb dX3_journalStock_4 rfl (lv_at hl 0 rfl) ?_
  refine my_get hx hb hts inAX3 hown hK hP 0 rfl rfl 9 (by decide) w_353 rfl rfl dX3_journalStock_5 ?_
  refine lv_iload_n hx hb dX3_journalStock_8 rfl (lv_at hl 1 rfl) ?_
  have pk1 : picks [(kn, .inr (3, [.ref hi, .int (iI (ld)), .int (iI (fd)), .int (iI (fk)), .int (iI (fv)), .ref kl, .ref ke, .ref kd, .ref ks, .ref ka, .int (iI (es)), .int (iI (sk)), .int (iI (so)), .int (iI (lo))])), (ka, .inr (0, [.ref ua])), (ua, arI cs 1005 ar), (ks, .inr (0, [.ref us])), (us, arI cs 1005 sl)] [1, 2] [(ka, .inr (0, [.ref ua])), (ua, arI cs 1005 ar)] := ⟨rfl, rfl, trivial⟩
  refine va_calli (va_runV (As := [.int (iI (((dz : Nat) : Int)))]) (rest := [.int (iI (fk))]) ⟨hx, hb, hml, hown, hts⟩ (m_X0_sumUpTo l D cs ka ua ar dz (by omega)) (cwV 1 hts (gV w_756 w_757 w_758 w_2 w_759) rfl rfl rfl (by decide +kernel) ⟨Nat.le_of_ble_eq_true rfl, Nat.le_of_ble_eq_true rfl⟩) (PC_V hK hN hP hD [1, 2] rfl pk1 rfl rfl) rfl rfl hl.1 rfl (lv_room (Nat.le_of_ble_eq_true rfl)) dX3_journalStock_9 ⟨Nat.le_of_ble_eq_true rfl, Nat.le_of_ble_eq_true rfl⟩) hS (fun _ _ h => False.elim h) (fun _ h => False.elim h) (fun r u t H locs ht hvm hw hB hz1 hk1 hS => ?_)
  subst hw
  have hP := P_kept hP hk1
  refine my_iadd (z := fk + (smI ar (dz + 1))) hx hb dX3_journalStock_12 (rfl) ?_
  refine lv_aload_n hx hb dX3_journalStock_13 rfl (lv_at hl 0 rfl) ?_
  refine my_get hx hb hts inAX3 hown hK hP 0 rfl rfl 8 (by decide) w_352 rfl rfl dX3_journalStock_14 ?_
  refine lv_iload_n hx hb dX3_journalStock_17 rfl (lv_at hl 1 rfl) ?_
  have pk2 : picks [(kn, .inr (3, [.ref hi, .int (iI (ld)), .int (iI (fd)), .int (iI (fk)), .int (iI (fv)), .ref kl, .ref ke, .ref kd, .ref ks, .ref ka, .int (iI (es)), .int (iI (sk)), .int (iI (so)), .int (iI (lo))])), (ka, .inr (0, [.ref ua])), (ua, arI cs 1005 ar), (ks, .inr (0, [.ref us])), (us, arI cs 1005 sl)] [3, 4] [(ks, .inr (0, [.ref us])), (us, arI cs 1005 sl)] := ⟨rfl, rfl, trivial⟩
  refine va_calli (va_runV (As := [.int (iI (((dz : Nat) : Int)))]) (rest := [.int (iI (fk + (smI ar (dz + 1))))]) ⟨hx, hb, hml, hown, hts⟩ (m_X0_sumUpTo l D cs ks us sl dz (by omega)) (cwV 1 hts (gV w_756 w_757 w_758 w_2 w_759) rfl rfl rfl (by decide +kernel) ⟨Nat.le_of_ble_eq_true rfl, Nat.le_of_ble_eq_true rfl⟩) (PC_V hK hN hP hD [3, 4] rfl pk2 rfl rfl) rfl rfl hl.1 rfl (lv_room (Nat.le_of_ble_eq_true rfl)) dX3_journalStock_18 ⟨Nat.le_of_ble_eq_true rfl, Nat.le_of_ble_eq_true rfl⟩) hS (fun _ _ h => False.elim h) (fun _ h => False.elim h) (fun r u t H locs ht hvm hw hB hz1 hk1 hS => ?_)
  subst hw
  have hP := P_kept hP hk1
  refine my_isub (z := (fk + (smI ar (dz + 1))) - (smI sl (dz + 1))) hx hb dX3_journalStock_21 (rfl) ?_
  have hres : iI ((fk + (smI ar (dz + 1))) - (smI sl (dz + 1))) = iI (fk + smI ar (dz + 1) - smI sl (dz + 1)) := congrArg iI (by
      first | rfl | omega)
  exact W.iret hx hb hr (fun t ht hW => ⟨⟨_, (), rfl, hres, trivial⟩, hS.F ht⟩) hS.2.2 dX3_journalStock_22

abbrev ws_X3_needOn : List Cond := Cond.code yX3_needOn cX3_needOn 6 (some .int) :: ALL
set_option maxHeartbeats 4000000 in
set_option maxRecDepth 100000 in
theorem m_X3_needOn (l : Launch) (D : va_G) (cs : Nat → ClassId) (kn hi kl ke kd ks ka : Nat) (fd fk fv es sk so lo : Int) (ldn us ua : Nat) (lev : Int) (se ef ar : Nat → Int) (dz : Nat) (pct : Int) (hlev : 0 ≤ lev ∧ lev ≤ 9990000) (hse : ∀ w, 100 ≤ se w ∧ se w ≤ 5000) (hef : ∀ j, 0 ≤ ef j ∧ ef j ≤ 1000) (hes : 0 ≤ es ∧ es ≤ 1000) (hpc : 1 ≤ pct ∧ pct ≤ 100) (hd : dz < 1000) (hld : ldn ≤ 5) (hsk : 0 ≤ sk ∧ sk ≤ 100000000) (hdu : 0 ≤ duI ar dz ∧ duI ar dz ≤ 100000000) : Met l yX3_needOn ws_X3_needOn ({ frames := 2, cells := 0, slots := 0, locals := 44 }) (va_Pc [.ref kn, .int (iI (((dz : Nat) : Int))), .int (iI (pct))] (PC D cs [(kn, .inr (3, [.ref hi, .int (iI (((ldn : Nat) : Int))), .int (iI (fd)), .int (iI (fk)), .int (iI (fv)), .ref kl, .ref ke, .ref kd, .ref ks, .ref ka, .int (iI (es)), .int (iI (sk)), .int (iI (so)), .int (iI (lo))])), (kl, .inr (2, [.ref us, .int (iI (lev))])), (us, arI cs 7 se), (ke, arI cs 21 ef), (ka, .inr (0, [.ref ua])), (ua, arI cs 1005 ar)])) (va_Qi (fun r (_ : Unit) => r = iI (ndI lev se ef es pct sk ar dz ldn)) (fun _ _ => True) noA) 0 0 noA := by
  refine Met.ofW (cc := cX3_needOn) (maxL := 6) (ret := (some .int)) (by decide +kernel) rfl ?_
  intro p e s m args below meth c s₁ B hml hv
  obtain ⟨rfl, hP, hK, hD, hN⟩ := hv
  have hx := B.exec
  have hb := B.bytes
  have hr := B.returns
  have hts : ∀ w ∈ ALL, w.before _ s = true := fun w h => atoms_spec (ws := ws_X3_needOn) B.pre w (List.mem_cons_of_mem _ h)
  have hown : s.vm.findClass RX3 = some m.cls := findClass_of_methodNamed B.named
  have hlocks := B.notSynchronized
  have hS : va_S noA s.heap s.heap [] := va_S.rf
  generalize inW [(kn, .inr (3, [.ref hi, .int (iI (((ldn : Nat) : Int))), .int (iI (fd)), .int (iI (fk)), .int (iI (fv)), .ref kl, .ref ke, .ref kd, .ref ks, .ref ka, .int (iI (es)), .int (iI (sk)), .int (iI (so)), .int (iI (lo))])), (kl, .inr (2, [.ref us, .int (iI (lev))])), (us, arI cs 7 se), (ke, arI cs 21 ef), (ka, .inr (0, [.ref ua])), (ua, arI cs 1005 ar)] = A at hD
  have hl := lv_entry ([.ref kn, .int (iI (((dz : Nat) : Int))), .int (iI (pct))]) (n := 6) (Nat.le_of_ble_eq_true rfl)
  rw [lg_entry_eq]
  generalize (lg_sl ([.ref kn, .int (iI (((dz : Nat) : Int))), .int (iI (pct))]) ++ List.replicate (6 - (lg_sl ([.ref kn, .int (iI (((dz : Nat) : Int))), .int (iI (pct))])).length) Slot.unset).toArray = ls at hl ⊢
  have hl : lv_has ls 6 [(0, .ref kn), (1, .int (iI (((dz : Nat) : Int)))), (2, .int (iI (pct)))] := hl
  have hH := rfl (a := s.heap)
  have hfc : ∀ n : Nat, n ≤ 6 → 0 ≤ fcI lev se dz n ∧ fcI lev se dz n ≤ 299700000 := fun n hn => by have h1 := smI_le (f := fun j => thI lev se (dz + j)) (B := 49950000) (fun j => ⟨(thI_rng hlev hse).1, (thI_rng hlev hse).2.1⟩) n; unfold fcI; omega
  have hsf := sfI_rng (er := ef) (es := es) (pct := pct) 21 0 rfl
  refine lv_lconst (v := lI 0) hx hb dX3_needOn_0 (by decide) ?_
  refine lv_lstore_n (lv' := [(3, .long (lI (0))), (0, .ref kn), (1, .int (iI (((dz : Nat) : Int)))), (2, .int (iI (pct)))]) hx hb dX3_needOn_1 rfl hl (by decide) rfl (fun ls hl => ?_)
  refine lv_iconst (v := iI (0)) hx hb dX3_needOn_2 rfl ?_
  refine lv_istore (lv' := [(5, .int (iI (0))), (3, .long (lI (0))), (0, .ref kn), (1, .int (iI (((dz : Nat) : Int)))), (2, .int (iI (pct)))]) hx hb dX3_needOn_3 hl (by decide) rfl (fun ls hl => ?_)
  suffices KL : ∀ (n : Nat) (i : Nat), i ≤ ldn + 1 → ldn + 1 - i < n → ∀ (H : Heap) (locs : List Loc) (ls : Array Slot), va_P D vwCl [(kn, .inr (3, [.ref hi, .int (iI (((ldn : Nat) : Int))), .int (iI (fd)), .int (iI (fk)), .int (iI (fv)), .ref kl, .ref ke, .ref kd, .ref ks, .ref ka, .int (iI (es)), .int (iI (sk)), .int (iI (so)), .int (iI (lo))])), (kl, .inr (2, [.ref us, .int (iI (lev))])), (us, arI cs 7 se), (ke, arI cs 21 ef), (ka, .inr (0, [.ref ua])), (ua, arI cs 1005 ar)] H → va_S noA s.heap H locs → lv_has ls 6 [(5, .int (iI (((i : Nat) : Int)))), (3, .long (lI (fcI lev se dz i))), (0, .ref kn), (1, .int (iI (((dz : Nat) : Int)))), (2, .int (iI (pct)))] → W p l e _ s m _ below meth c H locs 0 0 _ (F0 m 5 ls []) from
    KL _ 0 (Nat.zero_le _) (Nat.lt_succ_self _) _ _ _ hP hS (lv_sub hl [0, 1, 2, 3, 4] rfl)
  intro n
  induction n with
  | zero => intro i hil h0; exact absurd h0 (Nat.not_lt_zero _)
  | succ n ih =>
    intro i hil hmu H locs ls hP hS hl
    have hfc1 := hfc i (by omega)
    have hth := thI_rng (d := dz + i) hlev hse
    have hfs : fcI lev se dz (i + 1) = fcI lev se dz i + thI lev se (dz + i) := rfl
    refine lv_iload hx hb dX3_needOn_5 (lv_at hl 0 rfl) ?_
    refine lv_aload_n hx hb dX3_needOn_7 rfl (lv_at hl 2 rfl) ?_
    refine my_get hx hb hts inAX3 hown hK hP 0 rfl rfl 1 (by decide) w_341 rfl rfl dX3_needOn_8 ?_
    refine my_icmp_gt (tgt := 35) hx hb (by omega) dX3_needOn_11 (by decide) (fun bh1 => ?_) (fun bh1 => ?_)
    · refine lv_lload_n hx hb dX3_needOn_35 rfl (lv_at hl 1 rfl) ?_
      have ei : i = ldn + 1 := by omega
      refine lv_ldc2 (v := lI 999) hx hb hown (hts _ w_589) dX3_needOn_36 ?_
      refine my_ladd (z := (fcI lev se dz i) + 999) hx hb dX3_needOn_39 (rfl) ?_
      refine lv_ldc2 (v := lI 1000) hx hb hown (hts _ w_590) dX3_needOn_40 ?_
      refine my_ldiv hx hb dX3_needOn_43 (by omega) rfl ?_
      refine my_l2i hx hb dX3_needOn_44 ?_
      refine lv_istore (lv' := [(5, .int (iI (((fcI lev se dz i) + 999) / 1000))), (3, .long (lI (fcI lev se dz i))), (0, .ref kn), (1, .int (iI (((dz : Nat) : Int)))), (2, .int (iI (pct)))]) hx hb dX3_needOn_45 hl (by decide) rfl (fun ls hl => ?_)
      refine lv_iload hx hb dX3_needOn_47 (lv_at hl 0 rfl) ?_
      refine lv_aload_n hx hb dX3_needOn_49 rfl (lv_at hl 2 rfl) ?_
      refine lv_iload_n hx hb dX3_needOn_50 rfl (lv_at hl 4 rfl) ?_
      have pk2 : picks [(kn, .inr (3, [.ref hi, .int (iI (((ldn : Nat) : Int))), .int (iI (fd)), .int (iI (fk)), .int (iI (fv)), .ref kl, .ref ke, .ref kd, .ref ks, .ref ka, .int (iI (es)), .int (iI (sk)), .int (iI (so)), .int (iI (lo))])), (kl, .inr (2, [.ref us, .int (iI (lev))])), (us, arI cs 7 se), (ke, arI cs 21 ef), (ka, .inr (0, [.ref ua])), (ua, arI cs 1005 ar)] [0, 3] [(kn, .inr (3, [.ref hi, .int (iI (((ldn : Nat) : Int))), .int (iI (fd)), .int (iI (fk)), .int (iI (fv)), .ref kl, .ref ke, .ref kd, .ref ks, .ref ka, .int (iI (es)), .int (iI (sk)), .int (iI (so)), .int (iI (lo))])), (ke, arI cs 21 ef)] := ⟨rfl, rfl, trivial⟩
      refine va_calli (va_runV (As := [.int (iI (pct))]) (rest := [.int (iI (((fcI lev se dz i) + 999) / 1000))]) ⟨hx, hb, hml, hown, hts⟩ (m_X3_safetyAt l D cs kn hi kl ke kd ks ka ((ldn : Nat) : Int) fd fk fv es sk so lo ef pct (hef) (hes) (hpc)) (cwV 1 hts (gV w_591 w_592 w_593 w_13 w_594) rfl rfl rfl (by decide +kernel) ⟨Nat.le_of_ble_eq_true rfl, Nat.le_of_ble_eq_true rfl⟩) (PC_V hK hN hP hD [0, 3] rfl pk2 rfl rfl) rfl rfl hl.1 rfl (lv_room (Nat.le_of_ble_eq_true rfl)) dX3_needOn_51 ⟨Nat.le_of_ble_eq_true rfl, Nat.le_of_ble_eq_true rfl⟩) hS (fun _ _ h => False.elim h) (fun _ h => False.elim h) (fun r u t H locs ht hvm hw hB hz1 hk1 hS => ?_)
      subst hw
      have hP := P_kept hP hk1
      refine my_iadd (z := (((fcI lev se dz i) + 999) / 1000) + (sfI ef es pct 0 21)) hx hb dX3_needOn_54 (rfl) ?_
      refine lv_aload_n hx hb dX3_needOn_55 rfl (lv_at hl 2 rfl) ?_
      refine my_get hx hb hts inAX3 hown hK hP 0 rfl rfl 11 (by decide) w_356 rfl rfl dX3_needOn_56 ?_
      refine my_isub (z := ((((fcI lev se dz i) + 999) / 1000) + (sfI ef es pct 0 21)) - sk) hx hb dX3_needOn_59 (rfl) ?_
      refine lv_aload_n hx hb dX3_needOn_60 rfl (lv_at hl 2 rfl) ?_
      refine lv_iload_n hx hb dX3_needOn_61 rfl (lv_at hl 3 rfl) ?_
      have pk3 : picks [(kn, .inr (3, [.ref hi, .int (iI (((ldn : Nat) : Int))), .int (iI (fd)), .int (iI (fk)), .int (iI (fv)), .ref kl, .ref ke, .ref kd, .ref ks, .ref ka, .int (iI (es)), .int (iI (sk)), .int (iI (so)), .int (iI (lo))])), (kl, .inr (2, [.ref us, .int (iI (lev))])), (us, arI cs 7 se), (ke, arI cs 21 ef), (ka, .inr (0, [.ref ua])), (ua, arI cs 1005 ar)] [0, 4, 5] [(kn, .inr (3, [.ref hi, .int (iI (((ldn : Nat) : Int))), .int (iI (fd)), .int (iI (fk)), .int (iI (fv)), .ref kl, .ref ke, .ref kd, .ref ks, .ref ka, .int (iI (es)), .int (iI (sk)), .int (iI (so)), .int (iI (lo))])), (ka, .inr (0, [.ref ua])), (ua, arI cs 1005 ar)] := ⟨rfl, rfl, rfl, trivial⟩
      refine va_calli (va_runV (As := [.int (iI (((dz : Nat) : Int)))]) (rest := [.int (iI (((((fcI lev se dz i) + 999) / 1000) + (sfI ef es pct 0 21)) - sk))]) ⟨hx, hb, hml, hown, hts⟩ (m_X3_dueAfter l D cs kn hi kl ke kd ks ka ((ldn : Nat) : Int) fd fk fv es sk so lo ua ar dz (by omega)) (cwV 1 hts (gV w_595 w_121 w_122 w_13 w_123) rfl rfl rfl (by decide +kernel) ⟨Nat.le_of_ble_eq_true rfl, Nat.le_of_ble_eq_true rfl⟩) (PC_V hK hN hP hD [0, 4, 5] rfl pk3 rfl rfl) rfl rfl hl.1 rfl (lv_room (Nat.le_of_ble_eq_true rfl)) dX3_needOn_62 ⟨Nat.le_of_ble_eq_true rfl, Nat.le_of_ble_eq_true rfl⟩) hS (fun _ _ h => False.elim h) (fun _ h => False.elim h) (fun r u t H locs ht hvm hw hB hz1 hk1 hS => ?_)
      subst hw
      have hP := P_kept hP hk1
      refine my_isub (z := (((((fcI lev se dz i) + 999) / 1000) + (sfI ef es pct 0 21)) - sk) - (duI ar dz)) hx hb dX3_needOn_65 (rfl) ?_
      have hres : iI ((((((fcI lev se dz i) + 999) / 1000) + (sfI ef es pct 0 21)) - sk) - (duI ar dz)) = iI (ndI lev se ef es pct sk ar dz ldn) := congrArg iI (by
          rw [ei]
          rfl)
      exact W.iret hx hb hr (fun t ht hW => ⟨⟨_, (), rfl, hres, trivial⟩, hS.F ht⟩) hS.2.2 dX3_needOn_66
    · refine lv_lload_n hx hb dX3_needOn_14 rfl (lv_at hl 1 rfl) ?_
      refine lv_aload_n hx hb dX3_needOn_15 rfl (lv_at hl 2 rfl) ?_
      refine my_get hx hb hts inAX3 hown hK hP 0 rfl rfl 5 (by decide) w_347 rfl rfl dX3_needOn_16 ?_
      refine lv_iload_n hx hb dX3_needOn_19 rfl (lv_at hl 3 rfl) ?_
      refine lv_iload hx hb dX3_needOn_20 (lv_at hl 0 rfl) ?_
      refine my_iadd (z := ((dz : Nat) : Int) + ((i : Nat) : Int)) hx hb dX3_needOn_22 (rfl) ?_
      refine my_cv0 (z := (((dz + i) : Nat) : Int)) (by omega) ?_
      have pk4 : picks [(kn, .inr (3, [.ref hi, .int (iI (((ldn : Nat) : Int))), .int (iI (fd)), .int (iI (fk)), .int (iI (fv)), .ref kl, .ref ke, .ref kd, .ref ks, .ref ka, .int (iI (es)), .int (iI (sk)), .int (iI (so)), .int (iI (lo))])), (kl, .inr (2, [.ref us, .int (iI (lev))])), (us, arI cs 7 se), (ke, arI cs 21 ef), (ka, .inr (0, [.ref ua])), (ua, arI cs 1005 ar)] [1, 2] [(kl, .inr (2, [.ref us, .int (iI (lev))])), (us, arI cs 7 se)] := ⟨rfl, rfl, trivial⟩
      refine va_calli (va_runV (As := [.int (iI ((((dz + i) : Nat) : Int)))]) (rest := [.long (lI (fcI lev se dz i))]) ⟨hx, hb, hml, hown, hts⟩ (m_X2_thousandthsFor l D cs kl us lev se (dz + i) (hlev) (hse) (by omega)) (cwV 1 hts (gV w_588 w_533 w_534 w_3 w_535) rfl rfl rfl (by decide +kernel) ⟨Nat.le_of_ble_eq_true rfl, Nat.le_of_ble_eq_true rfl⟩) (PC_V hK hN hP hD [1, 2] rfl pk4 rfl rfl) rfl rfl hl.1 rfl (lv_room (Nat.le_of_ble_eq_true rfl)) dX3_needOn_23 ⟨Nat.le_of_ble_eq_true rfl, Nat.le_of_ble_eq_true rfl⟩) hS (fun _ _ h => False.elim h) (fun _ h => False.elim h) (fun r u t H locs ht hvm hw hB hz1 hk1 hS => ?_)
      subst hw
      have hP := P_kept hP hk1
      refine my_i2l hx hb dX3_needOn_26 (by omega) ?_
      refine my_ladd (z := (fcI lev se dz i) + (thI lev se (dz + i))) hx hb dX3_needOn_27 (rfl) ?_
      refine lv_lstore_n (lv' := [(3, .long (lI ((fcI lev se dz i) + (thI lev se (dz + i))))), (5, .int (iI (((i : Nat) : Int)))), (0, .ref kn), (1, .int (iI (((dz : Nat) : Int)))), (2, .int (iI (pct)))]) hx hb dX3_needOn_28 rfl hl (by decide) rfl (fun ls hl => ?_)
      refine lv_iinc (v := iI (((i : Nat) : Int) + 1)) (lv' := [(5, .int (iI (((i : Nat) : Int) + 1))), (3, .long (lI ((fcI lev se dz i) + (thI lev se (dz + i))))), (0, .ref kn), (1, .int (iI (((dz : Nat) : Int)))), (2, .int (iI (pct)))]) hx hb dX3_needOn_29 hl (k := 1) rfl (by rw [show (((i : Nat) : Int) + 1 : Int) = ((i : Nat) : Int) + 1 from rfl]; exact iI_add _ _) (by decide) rfl (fun ls hl => ?_)
      refine lv_goto (tgt := 5) hx hb dX3_needOn_32 (by decide) ?_
      have e1 : ((i : Nat) : Int) + 1 = ((i + 1 : Nat) : Int) := by omega
      rw [e1, ← hfs] at hl
      exact ih (i + 1) (by omega) (by omega) _ _ _ hP hS (lv_sub hl [0, 1, 2, 3, 4] rfl)

abbrev ws_X3_requestOn : List Cond := Cond.code yX3_requestOn cX3_requestOn 3 (some .int) :: ALL
set_option maxHeartbeats 4000000 in
set_option maxRecDepth 100000 in
theorem m_X3_requestOn (l : Launch) (D : va_G) (cs : Nat → ClassId) (kn hi kl ke kd ks ka : Nat) (fd fk fv es sk so lo : Int) (ldn us ua : Nat) (lev : Int) (se ef ar : Nat → Int) (dz : Nat) (pct : Int) (ti go pr : Nat) (pk fs st : Int) (hlev : 0 ≤ lev ∧ lev ≤ 9990000) (hse : ∀ w, 100 ≤ se w ∧ se w ≤ 5000) (hef : ∀ j, 0 ≤ ef j ∧ ef j ≤ 1000) (hes : 0 ≤ es ∧ es ≤ 1000) (hpc : 1 ≤ pct ∧ pct ≤ 100) (hd : dz < 1000) (hld : ldn ≤ 5) (hsk : 0 ≤ sk ∧ sk ≤ 100000000) (hdu : 0 ≤ duI ar dz ∧ duI ar dz ≤ 100000000) (hp : 0 < pk ∧ pk ≤ 50) : Met l yX3_requestOn ws_X3_requestOn ({ frames := 3, cells := 0, slots := 0, locals := 69 }) (va_Pc [.ref kn, .int (iI (((dz : Nat) : Int))), .int (iI (pct))] (PC D cs [(kn, .inr (3, [.ref hi, .int (iI (((ldn : Nat) : Int))), .int (iI (fd)), .int (iI (fk)), .int (iI (fv)), .ref kl, .ref ke, .ref kd, .ref ks, .ref ka, .int (iI (es)), .int (iI (sk)), .int (iI (so)), .int (iI (lo))])), (kl, .inr (2, [.ref us, .int (iI (lev))])), (us, arI cs 7 se), (ke, arI cs 21 ef), (ka, .inr (0, [.ref ua])), (ua, arI cs 1005 ar), (hi, .inr (1, [.int (iI (pk)), .int (iI (fs)), .ref ti, .ref go, .ref pr, .int (iI (st))]))])) (va_Qi (fun r (_ : Unit) => r = iI (rqI (ndI lev se ef es pct sk ar dz ldn) pk)) (fun _ _ => True) noA) 0 0 noA := by
  refine Met.ofW (cc := cX3_requestOn) (maxL := 3) (ret := (some .int)) (by decide +kernel) rfl ?_
  intro p e s m args below meth c s₁ B hml hv
  obtain ⟨rfl, hP, hK, hD, hN⟩ := hv
  have hx := B.exec
  have hb := B.bytes
  have hr := B.returns
  have hts : ∀ w ∈ ALL, w.before _ s = true := fun w h => atoms_spec (ws := ws_X3_requestOn) B.pre w (List.mem_cons_of_mem _ h)
  have hown : s.vm.findClass RX3 = some m.cls := findClass_of_methodNamed B.named
  have hlocks := B.notSynchronized
  have hS : va_S noA s.heap s.heap [] := va_S.rf
  generalize inW [(kn, .inr (3, [.ref hi, .int (iI (((ldn : Nat) : Int))), .int (iI (fd)), .int (iI (fk)), .int (iI (fv)), .ref kl, .ref ke, .ref kd, .ref ks, .ref ka, .int (iI (es)), .int (iI (sk)), .int (iI (so)), .int (iI (lo))])), (kl, .inr (2, [.ref us, .int (iI (lev))])), (us, arI cs 7 se), (ke, arI cs 21 ef), (ka, .inr (0, [.ref ua])), (ua, arI cs 1005 ar), (hi, .inr (1, [.int (iI (pk)), .int (iI (fs)), .ref ti, .ref go, .ref pr, .int (iI (st))]))] = A at hD
  have hl := lv_entry ([.ref kn, .int (iI (((dz : Nat) : Int))), .int (iI (pct))]) (n := 3) (Nat.le_of_ble_eq_true rfl)
  rw [lg_entry_eq]
  generalize (lg_sl ([.ref kn, .int (iI (((dz : Nat) : Int))), .int (iI (pct))]) ++ List.replicate (3 - (lg_sl ([.ref kn, .int (iI (((dz : Nat) : Int))), .int (iI (pct))])).length) Slot.unset).toArray = ls at hl ⊢
  have hl : lv_has ls 3 [(0, .ref kn), (1, .int (iI (((dz : Nat) : Int)))), (2, .int (iI (pct)))] := hl
  have hH := rfl (a := s.heap)
  have hfc : 0 ≤ fcI lev se dz (ldn + 1) ∧ fcI lev se dz (ldn + 1) ≤ 299700000 := by have h1 := smI_le (f := fun j => thI lev se (dz + j)) (B := 49950000) (fun j => ⟨(thI_rng hlev hse).1, (thI_rng hlev hse).2.1⟩) (ldn + 1); unfold fcI; omega
  have hsf := sfI_rng (er := ef) (es := es) (pct := pct) 21 0 rfl
  have hnd : -1000000000 ≤ ndI lev se ef es pct sk ar dz ldn ∧ ndI lev se ef es pct sk ar dz ldn ≤ 1000000000 := by unfold ndI; omega
  refine lv_aload_n hx hb dX3_requestOn_0 rfl (lv_at hl 0 rfl) ?_
  refine my_get hx hb hts inAX3 hown hK hP 0 rfl rfl 0 (by decide) w_339 rfl rfl dX3_requestOn_1 ?_
  refine lv_aload_n hx hb dX3_requestOn_4 rfl (lv_at hl 0 rfl) ?_
  refine lv_iload_n hx hb dX3_requestOn_5 rfl (lv_at hl 1 rfl) ?_
  refine lv_iload_n hx hb dX3_requestOn_6 rfl (lv_at hl 2 rfl) ?_
  have pk1 : picks [(kn, .inr (3, [.ref hi, .int (iI (((ldn : Nat) : Int))), .int (iI (fd)), .int (iI (fk)), .int (iI (fv)), .ref kl, .ref ke, .ref kd, .ref ks, .ref ka, .int (iI (es)), .int (iI (sk)), .int (iI (so)), .int (iI (lo))])), (kl, .inr (2, [.ref us, .int (iI (lev))])), (us, arI cs 7 se), (ke, arI cs 21 ef), (ka, .inr (0, [.ref ua])), (ua, arI cs 1005 ar), (hi, .inr (1, [.int (iI (pk)), .int (iI (fs)), .ref ti, .ref go, .ref pr, .int (iI (st))]))] [0, 1, 2, 3, 4, 5] [(kn, .inr (3, [.ref hi, .int (iI (((ldn : Nat) : Int))), .int (iI (fd)), .int (iI (fk)), .int (iI (fv)), .ref kl, .ref ke, .ref kd, .ref ks, .ref ka, .int (iI (es)), .int (iI (sk)), .int (iI (so)), .int (iI (lo))])), (kl, .inr (2, [.ref us, .int (iI (lev))])), (us, arI cs 7 se), (ke, arI cs 21 ef), (ka, .inr (0, [.ref ua])), (ua, arI cs 1005 ar)] := ⟨rfl, rfl, rfl, rfl, rfl, rfl, trivial⟩
  refine va_calli (va_runV (As := [.int (iI (((dz : Nat) : Int))), .int (iI (pct))]) (rest := [.ref hi]) ⟨hx, hb, hml, hown, hts⟩ (m_X3_needOn l D cs kn hi kl ke kd ks ka fd fk fv es sk so lo ldn us ua lev se ef ar dz pct (hlev) (hse) (hef) (hes) (hpc) (by omega) (by omega) (hsk) (hdu)) (cwV 2 hts (gV w_584 w_585 w_586 w_13 w_587) rfl rfl rfl (by decide +kernel) ⟨Nat.le_of_ble_eq_true rfl, Nat.le_of_ble_eq_true rfl⟩) (PC_V hK hN hP hD [0, 1, 2, 3, 4, 5] rfl pk1 rfl rfl) rfl rfl hl.1 rfl (lv_room (Nat.le_of_ble_eq_true rfl)) dX3_requestOn_7 ⟨Nat.le_of_ble_eq_true rfl, Nat.le_of_ble_eq_true rfl⟩) hS (fun _ _ h => False.elim h) (fun _ h => False.elim h) (fun r u t H locs ht hvm hw hB hz1 hk1 hS => ?_)
  subst hw
  have hP := P_kept hP hk1
  have pk2 : picks [(kn, .inr (3, [.ref hi, .int (iI (((ldn : Nat) : Int))), .int (iI (fd)), .int (iI (fk)), .int (iI (fv)), .ref kl, .ref ke, .ref kd, .ref ks, .ref ka, .int (iI (es)), .int (iI (sk)), .int (iI (so)), .int (iI (lo))])), (kl, .inr (2, [.ref us, .int (iI (lev))])), (us, arI cs 7 se), (ke, arI cs 21 ef), (ka, .inr (0, [.ref ua])), (ua, arI cs 1005 ar), (hi, .inr (1, [.int (iI (pk)), .int (iI (fs)), .ref ti, .ref go, .ref pr, .int (iI (st))]))] [6] [(hi, .inr (1, [.int (iI (pk)), .int (iI (fs)), .ref ti, .ref go, .ref pr, .int (iI (st))]))] := ⟨rfl, trivial⟩
  refine va_calli (va_runV (As := [.int (iI (ndI lev se ef es pct sk ar dz ldn))]) (rest := []) ⟨hx, hb, hml, hown, hts⟩ (m_X1_packsFor l D cs hi ti go pr pk fs st (ndI lev se ef es pct sk ar dz ldn) (hp) (hnd)) (cwV 1 hts (gV w_596 w_597 w_598 w_10 w_599) rfl rfl rfl (by decide +kernel) ⟨Nat.le_of_ble_eq_true rfl, Nat.le_of_ble_eq_true rfl⟩) (PC_V hK hN hP hD [6] rfl pk2 rfl rfl) rfl rfl hl.1 rfl (lv_room (Nat.le_of_ble_eq_true rfl)) dX3_requestOn_10 ⟨Nat.le_of_ble_eq_true rfl, Nat.le_of_ble_eq_true rfl⟩) hS (fun _ _ h => False.elim h) (fun _ h => False.elim h) (fun r u t H locs ht hvm hw hB hz1 hk1 hS => ?_)
  subst hw
  have hP := P_kept hP hk1
  have hres : iI (rqI (ndI lev se ef es pct sk ar dz ldn) pk) = iI (rqI (ndI lev se ef es pct sk ar dz ldn) pk) := congrArg iI (by
      first | rfl | omega)
  exact W.iret hx hb hr (fun t ht hW => ⟨⟨_, (), rfl, hres, trivial⟩, hS.F ht⟩) hS.2.2 dX3_requestOn_13

abbrev ws_X3_send : List Cond := Cond.code yX3_send cX3_send 4 (none : Option FieldType) :: ALL
set_option maxHeartbeats 4000000 in
set_option maxRecDepth 100000 in
theorem m_X3_send (l : Launch) (D : va_G) (cs : Nat → ClassId) (kn hi kl ke kd ks ka : Nat) (fd fk fv es sk so lo : Int) (ldn : Nat) (ug ua : Nat) (ti go pr : Nat) (pk fs st : Int) (gf ar : Nat → Int) (dz : Nat) (pz : Int) (hd : dz < 1000) (hld : ldn ≤ 5) : Met l yX3_send ws_X3_send ({ frames := 2, cells := 0, slots := 0, locals := 44 }) (va_Pc [.ref kn, .int (iI (((dz : Nat) : Int))), .int (iI (pz))] (PC D cs [(kn, .inr (3, [.ref hi, .int (iI (((ldn : Nat) : Int))), .int (iI (fd)), .int (iI (fk)), .int (iI (fv)), .ref kl, .ref ke, .ref kd, .ref ks, .ref ka, .int (iI (es)), .int (iI (sk)), .int (iI (so)), .int (iI (lo))])), (hi, .inr (1, [.int (iI (pk)), .int (iI (fs)), .ref ti, .ref go, .ref pr, .int (iI (st))])), (go, .inr (0, [.ref ug])), (ug, arI cs 1005 gf), (ka, .inr (0, [.ref ua])), (ua, arI cs 1005 ar)])) (va_Qv (fun (_ : Unit) => True) (fun _ t => va_P D vwCl [(kn, .inr (3, [.ref hi, .int (iI (((ldn : Nat) : Int))), .int (iI (fd)), .int (iI (fk)), .int (iI (fv)), .ref kl, .ref ke, .ref kd, .ref ks, .ref ka, .int (iI (es)), .int (iI (sk)), .int (iI (so)), .int (iI (lo))])), (hi, .inr (1, [.int (iI (pk)), .int (iI (fs)), .ref ti, .ref go, .ref pr, .int (iI (st - pz * pk))])), (go, .inr (0, [.ref ug])), (ug, arI cs 1005 (upI gf dz (gf dz + pz * pk))), (ka, .inr (0, [.ref ua])), (ua, arI cs 1005 (upI ar (dz + ldn) (ar (dz + ldn) + pz * pk)))] t.heap) (inW [(kn, .inr (3, [.ref hi, .int (iI (((ldn : Nat) : Int))), .int (iI (fd)), .int (iI (fk)), .int (iI (fv)), .ref kl, .ref ke, .ref kd, .ref ks, .ref ka, .int (iI (es)), .int (iI (sk)), .int (iI (so)), .int (iI (lo))])), (hi, .inr (1, [.int (iI (pk)), .int (iI (fs)), .ref ti, .ref go, .ref pr, .int (iI (st))])), (go, .inr (0, [.ref ug])), (ug, arI cs 1005 gf), (ka, .inr (0, [.ref ua])), (ua, arI cs 1005 ar)])) 0 0 (inW [(kn, .inr (3, [.ref hi, .int (iI (((ldn : Nat) : Int))), .int (iI (fd)), .int (iI (fk)), .int (iI (fv)), .ref kl, .ref ke, .ref kd, .ref ks, .ref ka, .int (iI (es)), .int (iI (sk)), .int (iI (so)), .int (iI (lo))])), (hi, .inr (1, [.int (iI (pk)), .int (iI (fs)), .ref ti, .ref go, .ref pr, .int (iI (st))])), (go, .inr (0, [.ref ug])), (ug, arI cs 1005 gf), (ka, .inr (0, [.ref ua])), (ua, arI cs 1005 ar)]) := by
  refine Met.ofW (cc := cX3_send) (maxL := 4) (ret := ((none : Option FieldType))) (by decide +kernel) rfl ?_
  intro p e s m args below meth c s₁ B hml hv
  obtain ⟨rfl, hP, hK, hD, hN⟩ := hv
  have hx := B.exec
  have hb := B.bytes
  have hr := B.returns
  have hts : ∀ w ∈ ALL, w.before _ s = true := fun w h => atoms_spec (ws := ws_X3_send) B.pre w (List.mem_cons_of_mem _ h)
  have hown : s.vm.findClass RX3 = some m.cls := findClass_of_methodNamed B.named
  have hlocks := B.notSynchronized
  generalize hAe : inW [(kn, .inr (3, [.ref hi, .int (iI (((ldn : Nat) : Int))), .int (iI (fd)), .int (iI (fk)), .int (iI (fv)), .ref kl, .ref ke, .ref kd, .ref ks, .ref ka, .int (iI (es)), .int (iI (sk)), .int (iI (so)), .int (iI (lo))])), (hi, .inr (1, [.int (iI (pk)), .int (iI (fs)), .ref ti, .ref go, .ref pr, .int (iI (st))])), (go, .inr (0, [.ref ug])), (ug, arI cs 1005 gf), (ka, .inr (0, [.ref ua])), (ua, arI cs 1005 ar)] = A at hD ⊢
  have hS : va_S A s.heap s.heap [] := va_S.rf
  have hl := lv_entry ([.ref kn, .int (iI (((dz : Nat) : Int))), .int (iI (pz))]) (n := 4) (Nat.le_of_ble_eq_true rfl)
  rw [lg_entry_eq]
  generalize (lg_sl ([.ref kn, .int (iI (((dz : Nat) : Int))), .int (iI (pz))]) ++ List.replicate (4 - (lg_sl ([.ref kn, .int (iI (((dz : Nat) : Int))), .int (iI (pz))])).length) Slot.unset).toArray = ls at hl ⊢
  have hl : lv_has ls 4 [(0, .ref kn), (1, .int (iI (((dz : Nat) : Int)))), (2, .int (iI (pz)))] := hl
  have hH := rfl (a := s.heap)
  refine lv_iload_n hx hb dX3_send_0 rfl (lv_at hl 2 rfl) ?_
  refine lv_aload_n hx hb dX3_send_1 rfl (lv_at hl 0 rfl) ?_
  refine my_get hx hb hts inAX3 hown hK hP 0 rfl rfl 0 (by decide) w_339 rfl rfl dX3_send_2 ?_
  refine my_getN hx hb hts inAX1 hown hK hN hP 1 rfl rfl 0 (by decide) 11 rfl rfl rfl dX3_send_5 ?_
  refine my_imul (z := pz * pk) hx hb dX3_send_8 (rfl) ?_
  refine lv_istore_n (lv' := [(3, .int (iI (pz * pk))), (0, .ref kn), (1, .int (iI (((dz : Nat) : Int)))), (2, .int (iI (pz)))]) hx hb dX3_send_9 rfl hl (by decide) rfl (fun ls hl => ?_)
  refine lv_aload_n hx hb dX3_send_10 rfl (lv_at hl 1 rfl) ?_
  refine my_get hx hb hts inAX3 hown hK hP 0 rfl rfl 0 (by decide) w_339 rfl rfl dX3_send_11 ?_
  refine lv_iload_n hx hb dX3_send_14 rfl (lv_at hl 2 rfl) ?_
  refine lv_iload_n hx hb dX3_send_15 rfl (lv_at hl 0 rfl) ?_
  have pk1 : picks [(kn, .inr (3, [.ref hi, .int (iI (((ldn : Nat) : Int))), .int (iI (fd)), .int (iI (fk)), .int (iI (fv)), .ref kl, .ref ke, .ref kd, .ref ks, .ref ka, .int (iI (es)), .int (iI (sk)), .int (iI (so)), .int (iI (lo))])), (hi, .inr (1, [.int (iI (pk)), .int (iI (fs)), .ref ti, .ref go, .ref pr, .int (iI (st))])), (go, .inr (0, [.ref ug])), (ug, arI cs 1005 gf), (ka, .inr (0, [.ref ua])), (ua, arI cs 1005 ar)] [1, 2, 3] [(hi, .inr (1, [.int (iI (pk)), .int (iI (fs)), .ref ti, .ref go, .ref pr, .int (iI (st))])), (go, .inr (0, [.ref ug])), (ug, arI cs 1005 gf)] := ⟨rfl, rfl, rfl, trivial⟩
  refine va_callv (va_runV (As := [.int (iI (((dz : Nat) : Int))), .int (iI (pz * pk))]) (rest := []) ⟨hx, hb, hml, hown, hts⟩ (m_X1_giveOut l D cs hi ti go pr pk fs st ug gf dz (pz * pk) (by omega)) (cwV 2 hts (gV w_616 w_617 w_618 w_10 w_619) rfl rfl rfl (by decide +kernel) ⟨Nat.le_of_ble_eq_true rfl, Nat.le_of_ble_eq_true rfl⟩) (PC_V hK hN hP hD [1, 2, 3] rfl pk1 rfl rfl) rfl rfl hl.1 rfl (lv_room (Nat.le_of_ble_eq_true rfl)) dX3_send_16 ⟨Nat.le_of_ble_eq_true rfl, Nat.le_of_ble_eq_true rfl⟩) hS (fun q _ h => inW_sub hD [1, 2, 3] pk1 q h) (fun q h => inW_sub hD [1, 2, 3] pk1 q h) (fun u t H locs ht hvm hw hB hz1 hk1 hS => ?_)
  rw [ht] at hB
  obtain ⟨hP, hD⟩ := my_join (W1 := [(hi, .inr (1, [.int (iI (pk)), .int (iI (fs)), .ref ti, .ref go, .ref pr, .int (iI (st - (pz * pk)))])), (go, .inr (0, [.ref ug])), (ug, arI cs 1005 (upI gf dz (gf dz + (pz * pk))))]) hP hD [1, 2, 3] rfl pk1 rfl hk1 hB
  have hP : va_P D vwCl [(kn, .inr (3, [.ref hi, .int (iI (((ldn : Nat) : Int))), .int (iI (fd)), .int (iI (fk)), .int (iI (fv)), .ref kl, .ref ke, .ref kd, .ref ks, .ref ka, .int (iI (es)), .int (iI (sk)), .int (iI (so)), .int (iI (lo))])), (hi, .inr (1, [.int (iI (pk)), .int (iI (fs)), .ref ti, .ref go, .ref pr, .int (iI (st - (pz * pk)))])), (go, .inr (0, [.ref ug])), (ug, arI cs 1005 (upI gf dz (gf dz + (pz * pk)))), (ka, .inr (0, [.ref ua])), (ua, arI cs 1005 ar)] H := hP
  have hD : va_D A [(kn, .inr (3, [.ref hi, .int (iI (((ldn : Nat) : Int))), .int (iI (fd)), .int (iI (fk)), .int (iI (fv)), .ref kl, .ref ke, .ref kd, .ref ks, .ref ka, .int (iI (es)), .int (iI (sk)), .int (iI (so)), .int (iI (lo))])), (hi, .inr (1, [.int (iI (pk)), .int (iI (fs)), .ref ti, .ref go, .ref pr, .int (iI (st - (pz * pk)))])), (go, .inr (0, [.ref ug])), (ug, arI cs 1005 (upI gf dz (gf dz + (pz * pk)))), (ka, .inr (0, [.ref ua])), (ua, arI cs 1005 ar)] := hD
  refine lv_aload_n hx hb dX3_send_19 rfl (lv_at hl 1 rfl) ?_
  refine my_get hx hb hts inAX3 hown hK hP 0 rfl rfl 9 (by decide) w_353 rfl rfl dX3_send_20 ?_
  refine lv_iload_n hx hb dX3_send_23 rfl (lv_at hl 2 rfl) ?_
  refine lv_aload_n hx hb dX3_send_24 rfl (lv_at hl 1 rfl) ?_
  refine my_get hx hb hts inAX3 hown hK hP 0 rfl rfl 1 (by decide) w_341 rfl rfl dX3_send_25 ?_
  refine my_iadd (z := ((dz : Nat) : Int) + ((ldn : Nat) : Int)) hx hb dX3_send_28 (rfl) ?_
  refine my_cv0 (z := (((dz + ldn) : Nat) : Int)) (by omega) ?_
  refine lv_iload_n hx hb dX3_send_29 rfl (lv_at hl 0 rfl) ?_
  have pk2 : picks [(kn, .inr (3, [.ref hi, .int (iI (((ldn : Nat) : Int))), .int (iI (fd)), .int (iI (fk)), .int (iI (fv)), .ref kl, .ref ke, .ref kd, .ref ks, .ref ka, .int (iI (es)), .int (iI (sk)), .int (iI (so)), .int (iI (lo))])), (hi, .inr (1, [.int (iI (pk)), .int (iI (fs)), .ref ti, .ref go, .ref pr, .int (iI (st - (pz * pk)))])), (go, .inr (0, [.ref ug])), (ug, arI cs 1005 (upI gf dz (gf dz + (pz * pk)))), (ka, .inr (0, [.ref ua])), (ua, arI cs 1005 ar)] [4, 5] [(ka, .inr (0, [.ref ua])), (ua, arI cs 1005 ar)] := ⟨rfl, rfl, trivial⟩
  refine va_callv (va_runV (As := [.int (iI ((((dz + ldn) : Nat) : Int))), .int (iI (pz * pk))]) (rest := []) ⟨hx, hb, hml, hown, hts⟩ (m_X0_add l D cs ka ua ar (dz + ldn) (pz * pk) (by omega)) (cwV 2 hts (gV w_511 w_415 w_416 w_2 w_417) rfl rfl rfl (by decide +kernel) ⟨Nat.le_of_ble_eq_true rfl, Nat.le_of_ble_eq_true rfl⟩) (PC_V hK hN hP hD [4, 5] rfl pk2 rfl rfl) rfl rfl hl.1 rfl (lv_room (Nat.le_of_ble_eq_true rfl)) dX3_send_30 ⟨Nat.le_of_ble_eq_true rfl, Nat.le_of_ble_eq_true rfl⟩) hS (fun q _ h => inW_sub hD [4, 5] pk2 q h) (fun q h => inW_sub hD [4, 5] pk2 q h) (fun u t H locs ht hvm hw hB hz1 hk1 hS => ?_)
  rw [ht] at hB
  obtain ⟨hP, hD⟩ := my_join (W1 := [(ka, .inr (0, [.ref ua])), (ua, arI cs 1005 (upI ar (dz + ldn) (ar (dz + ldn) + (pz * pk))))]) hP hD [4, 5] rfl pk2 rfl hk1 hB
  have hP : va_P D vwCl [(kn, .inr (3, [.ref hi, .int (iI (((ldn : Nat) : Int))), .int (iI (fd)), .int (iI (fk)), .int (iI (fv)), .ref kl, .ref ke, .ref kd, .ref ks, .ref ka, .int (iI (es)), .int (iI (sk)), .int (iI (so)), .int (iI (lo))])), (hi, .inr (1, [.int (iI (pk)), .int (iI (fs)), .ref ti, .ref go, .ref pr, .int (iI (st - (pz * pk)))])), (go, .inr (0, [.ref ug])), (ug, arI cs 1005 (upI gf dz (gf dz + (pz * pk)))), (ka, .inr (0, [.ref ua])), (ua, arI cs 1005 (upI ar (dz + ldn) (ar (dz + ldn) + (pz * pk))))] H := hP
  have hD : va_D A [(kn, .inr (3, [.ref hi, .int (iI (((ldn : Nat) : Int))), .int (iI (fd)), .int (iI (fk)), .int (iI (fv)), .ref kl, .ref ke, .ref kd, .ref ks, .ref ka, .int (iI (es)), .int (iI (sk)), .int (iI (so)), .int (iI (lo))])), (hi, .inr (1, [.int (iI (pk)), .int (iI (fs)), .ref ti, .ref go, .ref pr, .int (iI (st - (pz * pk)))])), (go, .inr (0, [.ref ug])), (ug, arI cs 1005 (upI gf dz (gf dz + (pz * pk)))), (ka, .inr (0, [.ref ua])), (ua, arI cs 1005 (upI ar (dz + ldn) (ar (dz + ldn) + (pz * pk))))] := hD
  have hWe : ([(kn, .inr (3, [.ref hi, .int (iI (((ldn : Nat) : Int))), .int (iI (fd)), .int (iI (fk)), .int (iI (fv)), .ref kl, .ref ke, .ref kd, .ref ks, .ref ka, .int (iI (es)), .int (iI (sk)), .int (iI (so)), .int (iI (lo))])), (hi, .inr (1, [.int (iI (pk)), .int (iI (fs)), .ref ti, .ref go, .ref pr, .int (iI (st - (pz * pk)))])), (go, .inr (0, [.ref ug])), (ug, arI cs 1005 (upI gf dz (gf dz + (pz * pk)))), (ka, .inr (0, [.ref ua])), (ua, arI cs 1005 (upI ar (dz + ldn) (ar (dz + ldn) + (pz * pk))))] : va_W) = [(kn, .inr (3, [.ref hi, .int (iI (((ldn : Nat) : Int))), .int (iI (fd)), .int (iI (fk)), .int (iI (fv)), .ref kl, .ref ke, .ref kd, .ref ks, .ref ka, .int (iI (es)), .int (iI (sk)), .int (iI (so)), .int (iI (lo))])), (hi, .inr (1, [.int (iI (pk)), .int (iI (fs)), .ref ti, .ref go, .ref pr, .int (iI (st - pz * pk))])), (go, .inr (0, [.ref ug])), (ug, arI cs 1005 (upI gf dz (gf dz + pz * pk))), (ka, .inr (0, [.ref ua])), (ua, arI cs 1005 (upI ar (dz + ldn) (ar (dz + ldn) + pz * pk)))] := by
    first | rfl | (congr 1; omega)
  rw [hWe] at hP
  subst hAe
  exact W.vret hx hb hr (fun t ht hW => ⟨⟨(), rfl, trivial, by show va_P D vwCl _ t.heap; rw [ht]; exact hP⟩, hS.F ht⟩) hS.2.2 dX3_send_33
