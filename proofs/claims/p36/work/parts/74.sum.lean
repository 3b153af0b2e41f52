abbrev ws_L_sum : List Cond := Cond.code yL_sum cL_sum 6 (some .long) :: ALL
set_option maxHeartbeats 4000000 in
set_option maxRecDepth 100000 in
theorem m_L_sum (l : Launch) (hst : l.stackTraces = false) (D : va_G) (cs : Nat → ClassId) (oa : Nat → Nat) (IA LA : Nat → Nat → Nat) (sh it dy : Nat) (lc pct lr sr : Int) (lf lrf srf : Nat → Int) (cr : Nat → Bool) (IR : Nat → IT) (LR : Nat → LT) (z : SC) (hI : PI sh it dy pct lr sr lf lrf srf cr IR LR) (hit2 : 2 ≤ it) : Met l yL_sum ws_L_sum ({ frames := 10, cells := 180, slots := 1080, locals := 172 }) (va_Pc [.ref (oa 0)] (PE D cs (OW cs oa IA LA sh it dy lc pct lr sr lf lrf srf cr IR LR z) (inW (OW cs oa IA LA sh it dy lc pct lr sr lf lrf srf cr IR LR z)))) (va_Ql (fun r (zu : SC) => r = lI (suS it dy pct cr IR LR sh 6)) (fun (zu : SC) t => va_P D vwCl (OW cs oa IA LA sh it dy lc pct lr sr lf lrf srf cr IR LR zu) t.heap) (inW (OW cs oa IA LA sh it dy lc pct lr sr lf lrf srf cr IR LR z))) 180 1080 (inW (OW cs oa IA LA sh it dy lc pct lr sr lf lrf srf cr IR LR z)) := by
  refine Met.ofW (cc := cL_sum) (maxL := 6) (ret := (some .long)) (by decide +kernel) rfl ?_
  intro p e s m args below meth c s₁ B hml hv
  obtain ⟨rfl, ⟨hP, hK, hD, hN⟩, hE⟩ := hv
  have hx := B.exec
  have hb := B.bytes
  have hr := B.returns
  have hts : ∀ w ∈ ALL, w.before _ s = true := fun w h => atoms_spec (ws := ws_L_sum) B.pre w (List.mem_cons_of_mem _ h)
  have hown : s.vm.findClass RL = some m.cls := findClass_of_methodNamed B.named
  have hlocks := B.notSynchronized
  generalize hAe : inW (OW cs oa IA LA sh it dy lc pct lr sr lf lrf srf cr IR LR z) = A at hD hE ⊢
  have hS : va_S A s.heap s.heap [] := va_S.rf
  have hl := lv_entry ([.ref (oa 0)]) (n := 6) (Nat.le_of_ble_eq_true rfl)
  rw [lg_entry_eq]
  generalize (lg_sl ([.ref (oa 0)]) ++ List.replicate (6 - (lg_sl ([.ref (oa 0)])).length) Slot.unset).toArray = ls at hl ⊢
  have hl : lv_has ls 6 [(0, .ref (oa 0))] := hl
  have hH := rfl (a := s.heap)
  have hI1 := PI_1 hI
  refine lv_aload_n hx hb dL_sum_0 rfl (lv_at hl 0 rfl) ?_
  refine va_calli (va_runV (As := []) (rest := []) ⟨hx, hb, hml, hown, hts⟩ (m_X5_today_w l D cs oa IA LA sh it dy lc pct lr sr lf lrf srf cr IR LR z) (cwV 0 hts (gV w_112 w_113 w_114 w_1 w_115) rfl rfl rfl (by decide +kernel) ⟨Nat.le_of_ble_eq_true rfl, Nat.le_of_ble_eq_true rfl⟩) (PC_Va hK hN hP hD rfl rfl) rfl rfl hl.1 rfl (lv_room (Nat.le_of_ble_eq_true rfl)) dL_sum_1 ⟨Nat.le_of_ble_eq_true rfl, Nat.le_of_ble_eq_true rfl⟩) hS (fun _ _ h => False.elim h) (fun _ h => False.elim h) (fun r u t H locs ht hvm hw hB hz1 hk1 hS => ?_)
  subst hw
  have hP := P_kept hP hk1
  refine my_i2l hx hb dL_sum_4 (by omega) ?_
  refine lv_ldc2 (v := lI 31) hx hb hown (hts _ w_667) dL_sum_5 ?_
  refine lv_aload_n hx hb dL_sum_8 rfl (lv_at hl 0 rfl) ?_
  refine va_calll (va_runV (As := []) (rest := [.long (lI (31)), .long (lI (((dy : Nat) : Int)))]) ⟨hx, hb, hml, hown, hts⟩ (m_X5_units_w l D cs oa IA LA sh it dy lc pct lr sr lf lrf srf cr IR LR z (hI)) (cwV 0 hts (gV w_116 w_117 w_118 w_1 w_119) rfl rfl rfl (by decide +kernel) ⟨Nat.le_of_ble_eq_true rfl, Nat.le_of_ble_eq_true rfl⟩) (PC_Va hK hN hP hD rfl rfl) rfl rfl hl.1 rfl (lv_room (Nat.le_of_ble_eq_true rfl)) dL_sum_9 ⟨Nat.le_of_ble_eq_true rfl, Nat.le_of_ble_eq_true rfl⟩) hS (fun _ _ h => False.elim h) (fun _ h => False.elim h) (fun r u t H locs ht hvm hw hB hz1 hk1 hS => ?_)
  subst hw
  have hP := P_kept hP hk1
  refine my_lmul (z := 31 * (UTI it IR cr LR dy)) hx hb dL_sum_12 (rfl) ?_
  refine my_ladd (z := ((dy : Nat) : Int) + (31 * (UTI it IR cr LR dy))) hx hb dL_sum_13 (rfl) ?_
  refine lv_lstore_n (lv' := [(1, .long (lI (((dy : Nat) : Int) + (31 * (UTI it IR cr LR dy))))), (0, .ref (oa 0))]) hx hb dL_sum_14 rfl hl (by decide) rfl (fun ls hl => ?_)
  refine lv_iconst (v := iI (0)) hx hb dL_sum_15 rfl ?_
  refine lv_istore_n (lv' := [(3, .int (iI (0))), (1, .long (lI (((dy : Nat) : Int) + (31 * (UTI it IR cr LR dy))))), (0, .ref (oa 0))]) hx hb dL_sum_16 rfl hl (by decide) rfl (fun ls hl => ?_)
  suffices KL : ∀ (n : Nat) (i : Nat) (z : SC), i ≤ 6 → 6 - i < n → ∀ (H : Heap) (locs : List Loc) (ls : Array Slot), va_P D vwCl (OW cs oa IA LA sh it dy lc pct lr sr lf lrf srf cr IR LR z) H → va_D A (OW cs oa IA LA sh it dy lc pct lr sr lf lrf srf cr IR LR z) → va_S A s.heap H locs → lv_has ls 6 [(3, .int (iI (((i : Nat) : Int)))), (1, .long (lI (suS it dy pct cr IR LR sh i))), (0, .ref (oa 0))] → W p l e _ s m _ below meth c H locs ((0 + 30 * i)) ((0 + 180 * i)) _ (F0 m 17 ls []) from
    KL _ 0 z (Nat.zero_le _) (Nat.lt_succ_self _) _ _ _ hP hD hS (lv_sub hl [0, 1, 2] rfl)
  intro n
  induction n with
  | zero => intro i z hil h0; exact absurd h0 (Nat.not_lt_zero _)
  | succ n ih =>
    intro i z hil hmu H locs ls hP hD hS hl
    refine lv_iload_n hx hb dL_sum_17 rfl (lv_at hl 0 rfl) ?_
    refine lv_bipush (v := iI (6)) hx hb dL_sum_18 (by decide) ?_
    refine my_icmp_ge (tgt := 129) hx hb (by omega) dL_sum_20 (by decide) (fun bh1 => ?_) (fun bh1 => ?_)
    · refine lv_lload_n hx hb dL_sum_129 rfl (lv_at hl 1 rfl) ?_
      subst hAe
      refine W.widen (k := 180) (n := 1080) (by omega) (by omega) ?_
      have hres : lI (suS it dy pct cr IR LR sh i) = lI (suS it dy pct cr IR LR sh 6) := congrArg lI (by
          have ei : i = 6 := by omega
          rw [ei])
      exact W.lret hx hb hr (fun t ht hW => ⟨⟨_, z, rfl, hres, by show va_P D vwCl _ t.heap; rw [ht]; exact hP⟩, hS.F ht⟩) hS.2.2 dL_sum_130
    · refine lv_iload_n hx hb dL_sum_23 rfl (lv_at hl 0 rfl) ?_
      refine lv_iconst (v := iI (2)) hx hb dL_sum_24 rfl ?_
      refine my_idiv hx hb dL_sum_25 (by omega) rfl ?_
      refine my_cv0 (z := (((i / 2) : Nat) : Int)) (by omega) ?_
      refine lv_istore (lv' := [(4, .int (iI ((((i / 2) : Nat) : Int)))), (3, .int (iI (((i : Nat) : Int)))), (1, .long (lI (suS it dy pct cr IR LR sh i))), (0, .ref (oa 0))]) hx hb dL_sum_26 hl (by decide) rfl (fun ls hl => ?_)
      refine lv_iload_n hx hb dL_sum_28 rfl (lv_at hl 1 rfl) ?_
      refine lv_iconst (v := iI (2)) hx hb dL_sum_29 rfl ?_
      refine my_irem hx hb dL_sum_30 (by omega) rfl ?_
      refine my_cv0 (z := (((i % 2) : Nat) : Int)) (by omega) ?_
      refine lv_istore (lv' := [(5, .int (iI ((((i % 2) : Nat) : Int)))), (4, .int (iI ((((i / 2) : Nat) : Int)))), (3, .int (iI (((i : Nat) : Int)))), (1, .long (lI (suS it dy pct cr IR LR sh i))), (0, .ref (oa 0))]) hx hb dL_sum_31 hl (by decide) rfl (fun ls hl => ?_)
      refine lv_ldc2 (v := lI 31) hx hb hown (hts _ w_667) dL_sum_33 ?_
      refine lv_lload_n hx hb dL_sum_36 rfl (lv_at hl 3 rfl) ?_
      refine my_lmul (z := 31 * (suS it dy pct cr IR LR sh i)) hx hb dL_sum_37 (rfl) ?_
      refine lv_aload_n hx hb dL_sum_38 rfl (lv_at hl 4 rfl) ?_
      refine lv_iload hx hb dL_sum_39 (lv_at hl 1 rfl) ?_
      refine lv_iload hx hb dL_sum_41 (lv_at hl 0 rfl) ?_
      refine va_calli (vx_runSW (As := [.ref (oa 0), .int (iI ((((i / 2) : Nat) : Int))), .int (iI ((((i % 2) : Nat) : Int)))]) (rest := [.long (lI (31 * (suS it dy pct cr IR LR sh i)))]) ⟨hx, hb, hml, hown, hts⟩ (m_L_stock_w l hst D cs oa IA LA sh it dy lc pct lr sr lf lrf srf cr IR LR z (((i / 2) : Nat) : Int) (((i % 2) : Nat) : Int) (hI) (by omega) (by omega)) (vx_cwSW 3 hts (gS w_643 w_644 w_0 w_645) rfl rfl rfl (by decide +kernel) ⟨Nat.le_of_ble_eq_true rfl, Nat.le_of_ble_eq_true rfl⟩) (PE_Sa hK hN hE hS (fun _ h => False.elim h) hP hD) rfl rfl hl.1 rfl (lv_room (Nat.le_of_ble_eq_true rfl)) dL_sum_43 ⟨by show _ ≤ 180; omega, by show _ ≤ 1080; omega⟩) hS (fun _ _ h => False.elim h) (fun _ h => False.elim h) (fun r u t H locs ht hvm hw hB hz1 hk1 hS => ?_)
      subst hw
      have hP := P_kept hP hk1
      have hr_stock := (PI_wr hI ((((i / 2) : Nat) : Int)) ((((i % 2) : Nat) : Int))).1
      refine my_i2l hx hb dL_sum_46 (by omega) ?_
      refine my_ladd (z := (31 * (suS it dy pct cr IR LR sh i)) + (qC (cdK sh it cr (((i / 2) : Nat) : Int) (((i % 2) : Nat) : Int)) (lsk (LR ((((i / 2) : Nat) : Int) * 5 + (((i % 2) : Nat) : Int)).toNat)))) hx hb dL_sum_47 (rfl) ?_
      refine lv_ldc2 (v := lI 7) hx hb hown (hts _ w_668) dL_sum_48 ?_
      refine lv_aload_n hx hb dL_sum_51 rfl (lv_at hl 4 rfl) ?_
      refine lv_iload hx hb dL_sum_52 (lv_at hl 1 rfl) ?_
      refine lv_iload hx hb dL_sum_54 (lv_at hl 0 rfl) ?_
      refine va_calli (vx_runSW (As := [.ref (oa 0), .int (iI ((((i / 2) : Nat) : Int))), .int (iI ((((i % 2) : Nat) : Int)))]) (rest := [.long (lI (7)), .long (lI ((31 * (suS it dy pct cr IR LR sh i)) + (qC (cdK sh it cr (((i / 2) : Nat) : Int) (((i % 2) : Nat) : Int)) (lsk (LR ((((i / 2) : Nat) : Int) * 5 + (((i % 2) : Nat) : Int)).toNat)))))]) ⟨hx, hb, hml, hown, hts⟩ (m_L_level_w l hst D cs oa IA LA sh it dy lc pct lr sr lf lrf srf cr IR LR z (((i / 2) : Nat) : Int) (((i % 2) : Nat) : Int) (hI) (by omega) (by omega)) (vx_cwSW 3 hts (gS w_627 w_628 w_0 w_629) rfl rfl rfl (by decide +kernel) ⟨Nat.le_of_ble_eq_true rfl, Nat.le_of_ble_eq_true rfl⟩) (PE_Sa hK hN hE hS (fun _ h => False.elim h) hP hD) rfl rfl hl.1 rfl (lv_room (Nat.le_of_ble_eq_true rfl)) dL_sum_56 ⟨by show _ ≤ 180; omega, by show _ ≤ 1080; omega⟩) hS (fun _ _ h => False.elim h) (fun _ h => False.elim h) (fun r u t H locs ht hvm hw hB hz1 hk1 hS => ?_)
      subst hw
      have hP := P_kept hP hk1
      have hr_level := (PI_wr hI ((((i / 2) : Nat) : Int)) ((((i % 2) : Nat) : Int))).2.1
      refine my_i2l hx hb dL_sum_59 (by omega) ?_
      refine my_lmul (z := 7 * (qC (cdK sh it cr (((i / 2) : Nat) : Int) (((i % 2) : Nat) : Int)) (llv (LR ((((i / 2) : Nat) : Int) * 5 + (((i % 2) : Nat) : Int)).toNat)))) hx hb dL_sum_60 (rfl) ?_
      refine my_ladd (z := ((31 * (suS it dy pct cr IR LR sh i)) + (qC (cdK sh it cr (((i / 2) : Nat) : Int) (((i % 2) : Nat) : Int)) (lsk (LR ((((i / 2) : Nat) : Int) * 5 + (((i % 2) : Nat) : Int)).toNat)))) + (7 * (qC (cdK sh it cr (((i / 2) : Nat) : Int) (((i % 2) : Nat) : Int)) (llv (LR ((((i / 2) : Nat) : Int) * 5 + (((i % 2) : Nat) : Int)).toNat))))) hx hb dL_sum_61 (rfl) ?_
      refine lv_ldc2 (v := lI 11) hx hb hown (hts _ w_669) dL_sum_62 ?_
      refine lv_aload_n hx hb dL_sum_65 rfl (lv_at hl 4 rfl) ?_
      refine lv_iload hx hb dL_sum_66 (lv_at hl 1 rfl) ?_
      refine lv_iload hx hb dL_sum_68 (lv_at hl 0 rfl) ?_
      refine va_calli (vx_runSW (As := [.ref (oa 0), .int (iI ((((i / 2) : Nat) : Int))), .int (iI ((((i % 2) : Nat) : Int)))]) (rest := [.long (lI (11)), .long (lI (((31 * (suS it dy pct cr IR LR sh i)) + (qC (cdK sh it cr (((i / 2) : Nat) : Int) (((i % 2) : Nat) : Int)) (lsk (LR ((((i / 2) : Nat) : Int) * 5 + (((i % 2) : Nat) : Int)).toNat)))) + (7 * (qC (cdK sh it cr (((i / 2) : Nat) : Int) (((i % 2) : Nat) : Int)) (llv (LR ((((i / 2) : Nat) : Int) * 5 + (((i % 2) : Nat) : Int)).toNat))))))]) ⟨hx, hb, hml, hown, hts⟩ (m_L_share_w l hst D cs oa IA LA sh it dy lc pct lr sr lf lrf srf cr IR LR z (((i / 2) : Nat) : Int) (((i % 2) : Nat) : Int) (hI) (by omega) (by omega)) (vx_cwSW 3 hts (gS w_670 w_671 w_0 w_672) rfl rfl rfl (by decide +kernel) ⟨Nat.le_of_ble_eq_true rfl, Nat.le_of_ble_eq_true rfl⟩) (PE_Sa hK hN hE hS (fun q h => inW_suba hD q h) hP hD) rfl rfl hl.1 rfl (lv_room (Nat.le_of_ble_eq_true rfl)) dL_sum_70 ⟨by show _ ≤ 180; omega, by show _ ≤ 1080; omega⟩) hS (fun q _ h => inW_suba hD q h) (fun q h => inW_suba hD q h) (fun r zu2 t H locs ht hvm hw hB hz1 hk1 hS => ?_)
      subst hw
      rw [ht] at hB
      have hP := hB
      have hD : va_D A (OW cs oa IA LA sh it dy lc pct lr sr lf lrf srf cr IR LR zu2) := D_fst hD OW_fst
      have hP : va_P D vwCl (OW cs oa IA LA sh it dy lc pct lr sr lf lrf srf cr IR LR zu2) H := hP
      have hD : va_D A (OW cs oa IA LA sh it dy lc pct lr sr lf lrf srf cr IR LR zu2) := hD
      have hr_share := PI_ws hI ((((i / 2) : Nat) : Int)) ((((i % 2) : Nat) : Int))
      refine my_i2l hx hb dL_sum_73 (by omega) ?_
      refine my_lmul (z := 11 * (qC (cdK sh it cr (((i / 2) : Nat) : Int) (((i % 2) : Nat) : Int)) (shF dy pct cr IR LR sh (((i % 2) : Nat) : Int).toNat (((i / 2) : Nat) : Int).toNat))) hx hb dL_sum_74 (rfl) ?_
      refine my_ladd (z := (((31 * (suS it dy pct cr IR LR sh i)) + (qC (cdK sh it cr (((i / 2) : Nat) : Int) (((i % 2) : Nat) : Int)) (lsk (LR ((((i / 2) : Nat) : Int) * 5 + (((i % 2) : Nat) : Int)).toNat)))) + (7 * (qC (cdK sh it cr (((i / 2) : Nat) : Int) (((i % 2) : Nat) : Int)) (llv (LR ((((i / 2) : Nat) : Int) * 5 + (((i % 2) : Nat) : Int)).toNat))))) + (11 * (qC (cdK sh it cr (((i / 2) : Nat) : Int) (((i % 2) : Nat) : Int)) (shF dy pct cr IR LR sh (((i % 2) : Nat) : Int).toNat (((i / 2) : Nat) : Int).toNat)))) hx hb dL_sum_75 (rfl) ?_
      refine lv_ldc2 (v := lI 13) hx hb hown (hts _ w_677) dL_sum_76 ?_
      refine lv_aload_n hx hb dL_sum_79 rfl (lv_at hl 4 rfl) ?_
      refine lv_iload hx hb dL_sum_80 (lv_at hl 1 rfl) ?_
      refine lv_iload hx hb dL_sum_82 (lv_at hl 0 rfl) ?_
      refine va_calli (vx_runSW (As := [.ref (oa 0), .int (iI ((((i / 2) : Nat) : Int))), .int (iI ((((i % 2) : Nat) : Int)))]) (rest := [.long (lI (13)), .long (lI ((((31 * (suS it dy pct cr IR LR sh i)) + (qC (cdK sh it cr (((i / 2) : Nat) : Int) (((i % 2) : Nat) : Int)) (lsk (LR ((((i / 2) : Nat) : Int) * 5 + (((i % 2) : Nat) : Int)).toNat)))) + (7 * (qC (cdK sh it cr (((i / 2) : Nat) : Int) (((i % 2) : Nat) : Int)) (llv (LR ((((i / 2) : Nat) : Int) * 5 + (((i % 2) : Nat) : Int)).toNat))))) + (11 * (qC (cdK sh it cr (((i / 2) : Nat) : Int) (((i % 2) : Nat) : Int)) (shF dy pct cr IR LR sh (((i % 2) : Nat) : Int).toNat (((i / 2) : Nat) : Int).toNat)))))]) ⟨hx, hb, hml, hown, hts⟩ (m_L_need_w l hst D cs oa IA LA sh it dy lc pct lr sr lf lrf srf cr IR LR zu2 (((i / 2) : Nat) : Int) (((i % 2) : Nat) : Int) (hI) (by omega) (by omega)) (vx_cwSW 3 hts (gS w_678 w_679 w_0 w_680) rfl rfl rfl (by decide +kernel) ⟨Nat.le_of_ble_eq_true rfl, Nat.le_of_ble_eq_true rfl⟩) (PE_Sa hK hN hE hS (fun _ h => False.elim h) hP hD) rfl rfl hl.1 rfl (lv_room (Nat.le_of_ble_eq_true rfl)) dL_sum_84 ⟨by show _ ≤ 180; omega, by show _ ≤ 1080; omega⟩) hS (fun _ _ h => False.elim h) (fun _ h => False.elim h) (fun r u t H locs ht hvm hw hB hz1 hk1 hS => ?_)
      subst hw
      have hP := P_kept hP hk1
      have hr_need := (PI_wr hI ((((i / 2) : Nat) : Int)) ((((i % 2) : Nat) : Int))).2.2.1
      refine my_i2l hx hb dL_sum_87 (by omega) ?_
      refine my_lmul (z := 13 * (qC (cdK sh it cr (((i / 2) : Nat) : Int) (((i % 2) : Nat) : Int)) (ndL dy pct (LR ((((i / 2) : Nat) : Int) * 5 + (((i % 2) : Nat) : Int)).toNat)))) hx hb dL_sum_88 (rfl) ?_
      refine my_ladd (z := ((((31 * (suS it dy pct cr IR LR sh i)) + (qC (cdK sh it cr (((i / 2) : Nat) : Int) (((i % 2) : Nat) : Int)) (lsk (LR ((((i / 2) : Nat) : Int) * 5 + (((i % 2) : Nat) : Int)).toNat)))) + (7 * (qC (cdK sh it cr (((i / 2) : Nat) : Int) (((i % 2) : Nat) : Int)) (llv (LR ((((i / 2) : Nat) : Int) * 5 + (((i % 2) : Nat) : Int)).toNat))))) + (11 * (qC (cdK sh it cr (((i / 2) : Nat) : Int) (((i % 2) : Nat) : Int)) (shF dy pct cr IR LR sh (((i % 2) : Nat) : Int).toNat (((i / 2) : Nat) : Int).toNat)))) + (13 * (qC (cdK sh it cr (((i / 2) : Nat) : Int) (((i % 2) : Nat) : Int)) (ndL dy pct (LR ((((i / 2) : Nat) : Int) * 5 + (((i % 2) : Nat) : Int)).toNat))))) hx hb dL_sum_89 (rfl) ?_
      refine lv_ldc2 (v := lI 17) hx hb hown (hts _ w_686) dL_sum_90 ?_
      refine lv_aload_n hx hb dL_sum_93 rfl (lv_at hl 4 rfl) ?_
      refine lv_iload hx hb dL_sum_94 (lv_at hl 1 rfl) ?_
      refine lv_iload hx hb dL_sum_96 (lv_at hl 0 rfl) ?_
      refine va_calli (vx_runSW (As := [.ref (oa 0), .int (iI ((((i / 2) : Nat) : Int))), .int (iI ((((i % 2) : Nat) : Int)))]) (rest := [.long (lI (17)), .long (lI (((((31 * (suS it dy pct cr IR LR sh i)) + (qC (cdK sh it cr (((i / 2) : Nat) : Int) (((i % 2) : Nat) : Int)) (lsk (LR ((((i / 2) : Nat) : Int) * 5 + (((i % 2) : Nat) : Int)).toNat)))) + (7 * (qC (cdK sh it cr (((i / 2) : Nat) : Int) (((i % 2) : Nat) : Int)) (llv (LR ((((i / 2) : Nat) : Int) * 5 + (((i % 2) : Nat) : Int)).toNat))))) + (11 * (qC (cdK sh it cr (((i / 2) : Nat) : Int) (((i % 2) : Nat) : Int)) (shF dy pct cr IR LR sh (((i % 2) : Nat) : Int).toNat (((i / 2) : Nat) : Int).toNat)))) + (13 * (qC (cdK sh it cr (((i / 2) : Nat) : Int) (((i % 2) : Nat) : Int)) (ndL dy pct (LR ((((i / 2) : Nat) : Int) * 5 + (((i % 2) : Nat) : Int)).toNat))))))]) ⟨hx, hb, hml, hown, hts⟩ (m_L_onWay_w l hst D cs oa IA LA sh it dy lc pct lr sr lf lrf srf cr IR LR zu2 (((i / 2) : Nat) : Int) (((i % 2) : Nat) : Int) (hI) (by omega) (by omega)) (vx_cwSW 3 hts (gS w_687 w_688 w_0 w_689) rfl rfl rfl (by decide +kernel) ⟨Nat.le_of_ble_eq_true rfl, Nat.le_of_ble_eq_true rfl⟩) (PE_Sa hK hN hE hS (fun _ h => False.elim h) hP hD) rfl rfl hl.1 rfl (lv_room (Nat.le_of_ble_eq_true rfl)) dL_sum_98 ⟨by show _ ≤ 180; omega, by show _ ≤ 1080; omega⟩) hS (fun _ _ h => False.elim h) (fun _ h => False.elim h) (fun r u t H locs ht hvm hw hB hz1 hk1 hS => ?_)
      subst hw
      have hP := P_kept hP hk1
      have hr_onWay := (PI_wr hI ((((i / 2) : Nat) : Int)) ((((i % 2) : Nat) : Int))).2.2.2.1
      refine my_i2l hx hb dL_sum_101 (by omega) ?_
      refine my_lmul (z := 17 * (qC (cdK sh it cr (((i / 2) : Nat) : Int) (((i % 2) : Nat) : Int)) (duI (lar (LR ((((i / 2) : Nat) : Int) * 5 + (((i % 2) : Nat) : Int)).toNat)) dy))) hx hb dL_sum_102 (rfl) ?_
      refine my_ladd (z := (((((31 * (suS it dy pct cr IR LR sh i)) + (qC (cdK sh it cr (((i / 2) : Nat) : Int) (((i % 2) : Nat) : Int)) (lsk (LR ((((i / 2) : Nat) : Int) * 5 + (((i % 2) : Nat) : Int)).toNat)))) + (7 * (qC (cdK sh it cr (((i / 2) : Nat) : Int) (((i % 2) : Nat) : Int)) (llv (LR ((((i / 2) : Nat) : Int) * 5 + (((i % 2) : Nat) : Int)).toNat))))) + (11 * (qC (cdK sh it cr (((i / 2) : Nat) : Int) (((i % 2) : Nat) : Int)) (shF dy pct cr IR LR sh (((i % 2) : Nat) : Int).toNat (((i / 2) : Nat) : Int).toNat)))) + (13 * (qC (cdK sh it cr (((i / 2) : Nat) : Int) (((i % 2) : Nat) : Int)) (ndL dy pct (LR ((((i / 2) : Nat) : Int) * 5 + (((i % 2) : Nat) : Int)).toNat))))) + (17 * (qC (cdK sh it cr (((i / 2) : Nat) : Int) (((i % 2) : Nat) : Int)) (duI (lar (LR ((((i / 2) : Nat) : Int) * 5 + (((i % 2) : Nat) : Int)).toNat)) dy)))) hx hb dL_sum_103 (rfl) ?_
      refine lv_aload_n hx hb dL_sum_104 rfl (lv_at hl 4 rfl) ?_
      refine lv_iload hx hb dL_sum_105 (lv_at hl 1 rfl) ?_
      refine lv_iload hx hb dL_sum_107 (lv_at hl 0 rfl) ?_
      refine va_calli (vx_runSW (As := [.ref (oa 0), .int (iI ((((i / 2) : Nat) : Int))), .int (iI ((((i % 2) : Nat) : Int)))]) (rest := [.long (lI ((((((31 * (suS it dy pct cr IR LR sh i)) + (qC (cdK sh it cr (((i / 2) : Nat) : Int) (((i % 2) : Nat) : Int)) (lsk (LR ((((i / 2) : Nat) : Int) * 5 + (((i % 2) : Nat) : Int)).toNat)))) + (7 * (qC (cdK sh it cr (((i / 2) : Nat) : Int) (((i % 2) : Nat) : Int)) (llv (LR ((((i / 2) : Nat) : Int) * 5 + (((i % 2) : Nat) : Int)).toNat))))) + (11 * (qC (cdK sh it cr (((i / 2) : Nat) : Int) (((i % 2) : Nat) : Int)) (shF dy pct cr IR LR sh (((i % 2) : Nat) : Int).toNat (((i / 2) : Nat) : Int).toNat)))) + (13 * (qC (cdK sh it cr (((i / 2) : Nat) : Int) (((i % 2) : Nat) : Int)) (ndL dy pct (LR ((((i / 2) : Nat) : Int) * 5 + (((i % 2) : Nat) : Int)).toNat))))) + (17 * (qC (cdK sh it cr (((i / 2) : Nat) : Int) (((i % 2) : Nat) : Int)) (duI (lar (LR ((((i / 2) : Nat) : Int) * 5 + (((i % 2) : Nat) : Int)).toNat)) dy)))))]) ⟨hx, hb, hml, hown, hts⟩ (m_L_demandToday_w l hst D cs oa IA LA sh it dy lc pct lr sr lf lrf srf cr IR LR zu2 (((i / 2) : Nat) : Int) (((i % 2) : Nat) : Int) (hI) (by omega) (by omega)) (vx_cwSW 3 hts (gS w_620 w_621 w_0 w_622) rfl rfl rfl (by decide +kernel) ⟨Nat.le_of_ble_eq_true rfl, Nat.le_of_ble_eq_true rfl⟩) (PE_Sa hK hN hE hS (fun _ h => False.elim h) hP hD) rfl rfl hl.1 rfl (lv_room (Nat.le_of_ble_eq_true rfl)) dL_sum_109 ⟨by show _ ≤ 180; omega, by show _ ≤ 1080; omega⟩) hS (fun _ _ h => False.elim h) (fun _ h => False.elim h) (fun r u t H locs ht hvm hw hB hz1 hk1 hS => ?_)
      subst hw
      have hP := P_kept hP hk1
      have hr_demandToday := (PI_wr hI ((((i / 2) : Nat) : Int)) ((((i % 2) : Nat) : Int))).2.2.2.2.1
      refine my_i2l hx hb dL_sum_112 (by omega) ?_
      refine my_ladd (z := ((((((31 * (suS it dy pct cr IR LR sh i)) + (qC (cdK sh it cr (((i / 2) : Nat) : Int) (((i % 2) : Nat) : Int)) (lsk (LR ((((i / 2) : Nat) : Int) * 5 + (((i % 2) : Nat) : Int)).toNat)))) + (7 * (qC (cdK sh it cr (((i / 2) : Nat) : Int) (((i % 2) : Nat) : Int)) (llv (LR ((((i / 2) : Nat) : Int) * 5 + (((i % 2) : Nat) : Int)).toNat))))) + (11 * (qC (cdK sh it cr (((i / 2) : Nat) : Int) (((i % 2) : Nat) : Int)) (shF dy pct cr IR LR sh (((i % 2) : Nat) : Int).toNat (((i / 2) : Nat) : Int).toNat)))) + (13 * (qC (cdK sh it cr (((i / 2) : Nat) : Int) (((i % 2) : Nat) : Int)) (ndL dy pct (LR ((((i / 2) : Nat) : Int) * 5 + (((i % 2) : Nat) : Int)).toNat))))) + (17 * (qC (cdK sh it cr (((i / 2) : Nat) : Int) (((i % 2) : Nat) : Int)) (duI (lar (LR ((((i / 2) : Nat) : Int) * 5 + (((i % 2) : Nat) : Int)).toNat)) dy)))) + (qC (cdK sh it cr (((i / 2) : Nat) : Int) (((i % 2) : Nat) : Int)) (ldm (LR ((((i / 2) : Nat) : Int) * 5 + (((i % 2) : Nat) : Int)).toNat) dy))) hx hb dL_sum_113 (rfl) ?_
      refine lv_aload_n hx hb dL_sum_114 rfl (lv_at hl 4 rfl) ?_
      refine lv_iload hx hb dL_sum_115 (lv_at hl 0 rfl) ?_
      refine va_calli (vx_runSW (As := [.ref (oa 0), .int (iI ((((i % 2) : Nat) : Int)))]) (rest := [.long (lI (((((((31 * (suS it dy pct cr IR LR sh i)) + (qC (cdK sh it cr (((i / 2) : Nat) : Int) (((i % 2) : Nat) : Int)) (lsk (LR ((((i / 2) : Nat) : Int) * 5 + (((i % 2) : Nat) : Int)).toNat)))) + (7 * (qC (cdK sh it cr (((i / 2) : Nat) : Int) (((i % 2) : Nat) : Int)) (llv (LR ((((i / 2) : Nat) : Int) * 5 + (((i % 2) : Nat) : Int)).toNat))))) + (11 * (qC (cdK sh it cr (((i / 2) : Nat) : Int) (((i % 2) : Nat) : Int)) (shF dy pct cr IR LR sh (((i % 2) : Nat) : Int).toNat (((i / 2) : Nat) : Int).toNat)))) + (13 * (qC (cdK sh it cr (((i / 2) : Nat) : Int) (((i % 2) : Nat) : Int)) (ndL dy pct (LR ((((i / 2) : Nat) : Int) * 5 + (((i % 2) : Nat) : Int)).toNat))))) + (17 * (qC (cdK sh it cr (((i / 2) : Nat) : Int) (((i % 2) : Nat) : Int)) (duI (lar (LR ((((i / 2) : Nat) : Int) * 5 + (((i % 2) : Nat) : Int)).toNat)) dy)))) + (qC (cdK sh it cr (((i / 2) : Nat) : Int) (((i % 2) : Nat) : Int)) (ldm (LR ((((i / 2) : Nat) : Int) * 5 + (((i % 2) : Nat) : Int)).toNat) dy))))]) ⟨hx, hb, hml, hown, hts⟩ (m_L_centre_k l hst D cs oa IA LA sh it dy lc pct lr sr lf lrf srf cr IR LR zu2 (i % 2) (hI) (by omega)) (vx_cwSW 2 hts (gS w_650 w_651 w_0 w_652) rfl rfl rfl (by decide +kernel) ⟨Nat.le_of_ble_eq_true rfl, Nat.le_of_ble_eq_true rfl⟩) (PE_Sa hK hN hE hS (fun _ h => False.elim h) hP hD) rfl rfl hl.1 rfl (lv_room (Nat.le_of_ble_eq_true rfl)) dL_sum_117 ⟨by show _ ≤ 180; omega, by show _ ≤ 1080; omega⟩) hS (fun _ _ h => False.elim h) (fun _ h => False.elim h) (fun r u t H locs ht hvm hw hB hz1 hk1 hS => ?_)
      subst hw
      have hP := P_kept hP hk1
      have hr_centre := (PI_iOK hI (i % 2)).2
      refine my_i2l hx hb dL_sum_120 (by omega) ?_
      refine my_ladd (z := (((((((31 * (suS it dy pct cr IR LR sh i)) + (qC (cdK sh it cr (((i / 2) : Nat) : Int) (((i % 2) : Nat) : Int)) (lsk (LR ((((i / 2) : Nat) : Int) * 5 + (((i % 2) : Nat) : Int)).toNat)))) + (7 * (qC (cdK sh it cr (((i / 2) : Nat) : Int) (((i % 2) : Nat) : Int)) (llv (LR ((((i / 2) : Nat) : Int) * 5 + (((i % 2) : Nat) : Int)).toNat))))) + (11 * (qC (cdK sh it cr (((i / 2) : Nat) : Int) (((i % 2) : Nat) : Int)) (shF dy pct cr IR LR sh (((i % 2) : Nat) : Int).toNat (((i / 2) : Nat) : Int).toNat)))) + (13 * (qC (cdK sh it cr (((i / 2) : Nat) : Int) (((i % 2) : Nat) : Int)) (ndL dy pct (LR ((((i / 2) : Nat) : Int) * 5 + (((i % 2) : Nat) : Int)).toNat))))) + (17 * (qC (cdK sh it cr (((i / 2) : Nat) : Int) (((i % 2) : Nat) : Int)) (duI (lar (LR ((((i / 2) : Nat) : Int) * 5 + (((i % 2) : Nat) : Int)).toNat)) dy)))) + (qC (cdK sh it cr (((i / 2) : Nat) : Int) (((i % 2) : Nat) : Int)) (ldm (LR ((((i / 2) : Nat) : Int) * 5 + (((i % 2) : Nat) : Int)).toNat) dy))) + (ist (IR (i % 2)))) hx hb dL_sum_121 (rfl) ?_
      refine lv_lstore_n (lv' := [(1, .long (lI ((((((((31 * (suS it dy pct cr IR LR sh i)) + (qC (cdK sh it cr (((i / 2) : Nat) : Int) (((i % 2) : Nat) : Int)) (lsk (LR ((((i / 2) : Nat) : Int) * 5 + (((i % 2) : Nat) : Int)).toNat)))) + (7 * (qC (cdK sh it cr (((i / 2) : Nat) : Int) (((i % 2) : Nat) : Int)) (llv (LR ((((i / 2) : Nat) : Int) * 5 + (((i % 2) : Nat) : Int)).toNat))))) + (11 * (qC (cdK sh it cr (((i / 2) : Nat) : Int) (((i % 2) : Nat) : Int)) (shF dy pct cr IR LR sh (((i % 2) : Nat) : Int).toNat (((i / 2) : Nat) : Int).toNat)))) + (13 * (qC (cdK sh it cr (((i / 2) : Nat) : Int) (((i % 2) : Nat) : Int)) (ndL dy pct (LR ((((i / 2) : Nat) : Int) * 5 + (((i % 2) : Nat) : Int)).toNat))))) + (17 * (qC (cdK sh it cr (((i / 2) : Nat) : Int) (((i % 2) : Nat) : Int)) (duI (lar (LR ((((i / 2) : Nat) : Int) * 5 + (((i % 2) : Nat) : Int)).toNat)) dy)))) + (qC (cdK sh it cr (((i / 2) : Nat) : Int) (((i % 2) : Nat) : Int)) (ldm (LR ((((i / 2) : Nat) : Int) * 5 + (((i % 2) : Nat) : Int)).toNat) dy))) + (ist (IR (i % 2)))))), (5, .int (iI ((((i % 2) : Nat) : Int)))), (4, .int (iI ((((i / 2) : Nat) : Int)))), (3, .int (iI (((i : Nat) : Int)))), (0, .ref (oa 0))]) hx hb dL_sum_122 rfl hl (by decide) rfl (fun ls hl => ?_)
      refine lv_iinc (v := iI (((i : Nat) : Int) + 1)) (lv' := [(3, .int (iI (((i : Nat) : Int) + 1))), (1, .long (lI ((((((((31 * (suS it dy pct cr IR LR sh i)) + (qC (cdK sh it cr (((i / 2) : Nat) : Int) (((i % 2) : Nat) : Int)) (lsk (LR ((((i / 2) : Nat) : Int) * 5 + (((i % 2) : Nat) : Int)).toNat)))) + (7 * (qC (cdK sh it cr (((i / 2) : Nat) : Int) (((i % 2) : Nat) : Int)) (llv (LR ((((i / 2) : Nat) : Int) * 5 + (((i % 2) : Nat) : Int)).toNat))))) + (11 * (qC (cdK sh it cr (((i / 2) : Nat) : Int) (((i % 2) : Nat) : Int)) (shF dy pct cr IR LR sh (((i % 2) : Nat) : Int).toNat (((i / 2) : Nat) : Int).toNat)))) + (13 * (qC (cdK sh it cr (((i / 2) : Nat) : Int) (((i % 2) : Nat) : Int)) (ndL dy pct (LR ((((i / 2) : Nat) : Int) * 5 + (((i % 2) : Nat) : Int)).toNat))))) + (17 * (qC (cdK sh it cr (((i / 2) : Nat) : Int) (((i % 2) : Nat) : Int)) (duI (lar (LR ((((i / 2) : Nat) : Int) * 5 + (((i % 2) : Nat) : Int)).toNat)) dy)))) + (qC (cdK sh it cr (((i / 2) : Nat) : Int) (((i % 2) : Nat) : Int)) (ldm (LR ((((i / 2) : Nat) : Int) * 5 + (((i % 2) : Nat) : Int)).toNat) dy))) + (ist (IR (i % 2)))))), (5, .int (iI ((((i % 2) : Nat) : Int)))), (4, .int (iI ((((i / 2) : Nat) : Int)))), (0, .ref (oa 0))]) hx hb dL_sum_123 hl (k := 3) rfl (by rw [show (((i : Nat) : Int) + 1 : Int) = ((i : Nat) : Int) + 1 from rfl]; exact iI_add _ _) (by decide) rfl (fun ls hl => ?_)
      refine lv_goto (tgt := 17) hx hb dL_sum_126 (by decide) ?_
      have e1 : ((i : Nat) : Int) + 1 = ((i + 1 : Nat) : Int) := by omega
      have e2 : (((((((31 * (suS it dy pct cr IR LR sh i)) + (qC (cdK sh it cr (((i / 2) : Nat) : Int) (((i % 2) : Nat) : Int)) (lsk (LR ((((i / 2) : Nat) : Int) * 5 + (((i % 2) : Nat) : Int)).toNat)))) + (7 * (qC (cdK sh it cr (((i / 2) : Nat) : Int) (((i % 2) : Nat) : Int)) (llv (LR ((((i / 2) : Nat) : Int) * 5 + (((i % 2) : Nat) : Int)).toNat))))) + (11 * (qC (cdK sh it cr (((i / 2) : Nat) : Int) (((i % 2) : Nat) : Int)) (shF dy pct cr IR LR sh (((i % 2) : Nat) : Int).toNat (((i / 2) : Nat) : Int).toNat)))) + (13 * (qC (cdK sh it cr (((i / 2) : Nat) : Int) (((i % 2) : Nat) : Int)) (ndL dy pct (LR ((((i / 2) : Nat) : Int) * 5 + (((i % 2) : Nat) : Int)).toNat))))) + (17 * (qC (cdK sh it cr (((i / 2) : Nat) : Int) (((i % 2) : Nat) : Int)) (duI (lar (LR ((((i / 2) : Nat) : Int) * 5 + (((i % 2) : Nat) : Int)).toNat)) dy)))) + (qC (cdK sh it cr (((i / 2) : Nat) : Int) (((i % 2) : Nat) : Int)) (ldm (LR ((((i / 2) : Nat) : Int) * 5 + (((i % 2) : Nat) : Int)).toNat) dy))) + (ist (IR (i % 2))) = suS it dy pct cr IR LR sh (i + 1) := rfl
      rw [e1, e2] at hl
      refine W.widen (k := (0 + 30 * (i + 1))) (n := (0 + 180 * (i + 1))) (by omega) (by omega) ?_
      exact ih (i + 1) zu2 (by omega) (by omega) _ _ _ hP hD hS (lv_sub hl [0, 1, 4] rfl)

abbrev ws_L_areEven : List Cond := Cond.code yL_areEven cL_areEven 7 (some .boolean) :: ALL
set_option maxHeartbeats 4000000 in
set_option maxRecDepth 100000 in
theorem m_L_areEven (l : Launch) (hst : l.stackTraces = false) (D : va_G) (cs : Nat → ClassId) (oa : Nat → Nat) (IA LA : Nat → Nat → Nat) (sh it dy : Nat) (lc pct lr sr : Int) (lf lrf srf : Nat → Int) (cr : Nat → Bool) (IR : Nat → IT) (LR : Nat → LT) (z : SC) (al : Nat) (fl : Nat → Int) (hI : PI sh it dy pct lr sr lf lrf srf cr IR LR) (hit2 : it = 2) (hsh3 : sh = 3) (hfl : ∀ s, s < 3 → fl s = lf s) (hz0 : ∀ a, cr a = true → ldm (LR a) dy = 0) : Met l yL_areEven ws_L_areEven ({ frames := 10, cells := 180, slots := 1080, locals := 173 }) (va_Pc [.ref (oa 0), .ref al, .int (iI (((dy : Nat) : Int)))] (PE D cs ([(al, arI cs 3 fl)] ++ (OW cs oa IA LA sh it dy lc pct lr sr lf lrf srf cr IR LR z)) noA)) (va_Qi (fun r (_ : Unit) => r = iI (1)) (fun _ _ => True) noA) 180 1080 noA := by
  refine Met.ofW (cc := cL_areEven) (maxL := 7) (ret := (some .boolean)) (by decide +kernel) rfl ?_
  intro p e s m args below meth c s₁ B hml hv
  obtain ⟨rfl, ⟨hP, hK, hD, hN⟩, hE⟩ := hv
  have hx := B.exec
  have hb := B.bytes
  have hr := B.returns
  have hts : ∀ w ∈ ALL, w.before _ s = true := fun w h => atoms_spec (ws := ws_L_areEven) B.pre w (List.mem_cons_of_mem _ h)
  have hown : s.vm.findClass RL = some m.cls := findClass_of_methodNamed B.named
  have hlocks := B.notSynchronized
  have hS : va_S noA s.heap s.heap [] := va_S.rf
  generalize inW ([(al, arI cs 3 fl)] ++ (OW cs oa IA LA sh it dy lc pct lr sr lf lrf srf cr IR LR z)) = A at hD
  have hl := lv_entry ([.ref (oa 0), .ref al, .int (iI (((dy : Nat) : Int)))]) (n := 7) (Nat.le_of_ble_eq_true rfl)
  rw [lg_entry_eq]
  generalize (lg_sl ([.ref (oa 0), .ref al, .int (iI (((dy : Nat) : Int)))]) ++ List.replicate (7 - (lg_sl ([.ref (oa 0), .ref al, .int (iI (((dy : Nat) : Int)))])).length) Slot.unset).toArray = ls at hl ⊢
  have hl : lv_has ls 7 [(0, .ref (oa 0)), (1, .ref al), (2, .int (iI (((dy : Nat) : Int))))] := hl
  have hH := rfl (a := s.heap)
  have hI1 := PI_1 hI
  refine lv_iconst (v := iI (1)) hx hb dL_areEven_0 rfl ?_
  refine lv_istore_n (lv' := [(3, .int (iI (1))), (0, .ref (oa 0)), (1, .ref al), (2, .int (iI (((dy : Nat) : Int))))]) hx hb dL_areEven_1 rfl hl (by decide) rfl (fun ls hl => ?_)
  refine lv_iconst (v := iI (0)) hx hb dL_areEven_2 rfl ?_
  refine lv_istore (lv' := [(4, .int (iI (0))), (3, .int (iI (1))), (0, .ref (oa 0)), (1, .ref al), (2, .int (iI (((dy : Nat) : Int))))]) hx hb dL_areEven_3 hl (by decide) rfl (fun ls hl => ?_)
  suffices KL : ∀ (n : Nat) (i : Nat), i ≤ 6 → 6 - i < n → ∀ (H : Heap) (locs : List Loc) (ls : Array Slot), va_P D vwCl ([(al, arI cs 3 fl)] ++ (OW cs oa IA LA sh it dy lc pct lr sr lf lrf srf cr IR LR z)) H → va_S noA s.heap H locs → lv_has ls 7 [(4, .int (iI (((i : Nat) : Int)))), (3, .int (iI (1))), (0, .ref (oa 0)), (1, .ref al), (2, .int (iI (((dy : Nat) : Int))))] → W p l e _ s m _ below meth c H locs ((0 + 30 * i)) ((0 + 180 * i)) _ (F0 m 5 ls []) from
    KL _ 0 (Nat.zero_le _) (Nat.lt_succ_self _) _ _ _ hP hS (lv_sub hl [0, 1, 2, 3, 4] rfl)
  intro n
  induction n with
  | zero => intro i hil h0; exact absurd h0 (Nat.not_lt_zero _)
  | succ n ih =>
    intro i hil hmu H locs ls hP hS hl
    refine lv_iload hx hb dL_areEven_5 (lv_at hl 0 rfl) ?_
    refine lv_bipush (v := iI (6)) hx hb dL_areEven_7 (by decide) ?_
    refine my_icmp_ge (tgt := 92) hx hb (by omega) dL_areEven_9 (by decide) (fun bh1 => ?_) (fun bh1 => ?_)
    · refine lv_iload_n hx hb dL_areEven_92 rfl (lv_at hl 1 rfl) ?_
      refine W.widen (k := 180) (n := 1080) (by omega) (by omega) ?_
      have hres : iI (1) = iI (1) := congrArg iI (by
          rfl)
      exact W.zret hx hb hr (by decide) (fun t ht hW => ⟨⟨_, (), rfl, hres, trivial⟩, hS.F ht⟩) hS.2.2 dL_areEven_93
    · refine lv_aload_n hx hb dL_areEven_12 rfl (lv_at hl 2 rfl) ?_
      refine lv_iload hx hb dL_areEven_13 (lv_at hl 0 rfl) ?_
      refine lv_iconst (v := iI (2)) hx hb dL_areEven_15 rfl ?_
      refine my_idiv hx hb dL_areEven_16 (by omega) rfl ?_
      refine my_cv0 (z := (((i / 2) : Nat) : Int)) (by omega) ?_
      refine lv_iload hx hb dL_areEven_17 (lv_at hl 0 rfl) ?_
      refine lv_iconst (v := iI (2)) hx hb dL_areEven_19 rfl ?_
      refine my_irem hx hb dL_areEven_20 (by omega) rfl ?_
      refine my_cv0 (z := (((i % 2) : Nat) : Int)) (by omega) ?_
      refine va_calli (vx_runSW (As := [.ref (oa 0), .int (iI ((((i / 2) : Nat) : Int))), .int (iI ((((i % 2) : Nat) : Int)))]) (rest := []) ⟨hx, hb, hml, hown, hts⟩ (m_L_demandToday_w l hst D cs oa IA LA sh it dy lc pct lr sr lf lrf srf cr IR LR z (((i / 2) : Nat) : Int) (((i % 2) : Nat) : Int) (hI) (by omega) (by omega)) (vx_cwSW 3 hts (gS w_620 w_621 w_0 w_622) rfl rfl rfl (by decide +kernel) ⟨Nat.le_of_ble_eq_true rfl, Nat.le_of_ble_eq_true rfl⟩) (PE_Sa hK hN hE hS (fun _ h => False.elim h) (P_R (E := [(al, arI cs 3 fl)]) (Wc := (OW cs oa IA LA sh it dy lc pct lr sr lf lrf srf cr IR LR z)) hP) (D_R (E := [(al, arI cs 3 fl)]) (Wc := (OW cs oa IA LA sh it dy lc pct lr sr lf lrf srf cr IR LR z)) hD)) rfl rfl hl.1 rfl (lv_room (Nat.le_of_ble_eq_true rfl)) dL_areEven_21 ⟨by show _ ≤ 180; omega, by show _ ≤ 1080; omega⟩) hS (fun _ _ h => False.elim h) (fun _ h => False.elim h) (fun r u t H locs ht hvm hw hB hz1 hk1 hS => ?_)
      subst hw
      have hP := P_kept hP hk1
      have hr_demandToday := (PI_wr hI ((((i / 2) : Nat) : Int)) ((((i % 2) : Nat) : Int))).2.2.2.2.1
      have hasd := PI_ask hI hz0 (i / 2) (i % 2) (by omega) (by omega)
      generalize hask : qC (cdK sh it cr (((i / 2) : Nat) : Int) (((i % 2) : Nat) : Int)) (ldm (LR ((((i / 2) : Nat) : Int) * 5 + (((i % 2) : Nat) : Int)).toNat) dy) = ask at hasd ⊢
      refine lv_istore (lv' := [(5, .int (iI (ask))), (4, .int (iI (((i : Nat) : Int)))), (3, .int (iI (1))), (0, .ref (oa 0)), (1, .ref al), (2, .int (iI (((dy : Nat) : Int))))]) hx hb dL_areEven_24 hl (by decide) rfl (fun ls hl => ?_)
      refine lv_aload_n hx hb dL_areEven_26 rfl (lv_at hl 3 rfl) ?_
      refine lv_iload hx hb dL_areEven_27 (lv_at hl 1 rfl) ?_
      refine lv_iconst (v := iI (2)) hx hb dL_areEven_29 rfl ?_
      refine my_idiv hx hb dL_areEven_30 (by omega) rfl ?_
      refine my_cv0 (z := (((i / 2) : Nat) : Int)) (by omega) ?_
      refine lv_iload hx hb dL_areEven_31 (lv_at hl 1 rfl) ?_
      refine lv_iconst (v := iI (2)) hx hb dL_areEven_33 rfl ?_
      refine my_irem hx hb dL_areEven_34 (by omega) rfl ?_
      refine my_cv0 (z := (((i % 2) : Nat) : Int)) (by omega) ?_
      refine va_calli (vx_runSW (As := [.ref (oa 0), .int (iI ((((i / 2) : Nat) : Int))), .int (iI ((((i % 2) : Nat) : Int)))]) (rest := []) ⟨hx, hb, hml, hown, hts⟩ (m_L_nextArrival_w l hst D cs oa IA LA sh it dy lc pct lr sr lf lrf srf cr IR LR z (((i / 2) : Nat) : Int) (((i % 2) : Nat) : Int) (hI) (by omega) (by omega)) (vx_cwSW 3 hts (gS w_697 w_698 w_0 w_699) rfl rfl rfl (by decide +kernel) ⟨Nat.le_of_ble_eq_true rfl, Nat.le_of_ble_eq_true rfl⟩) (PE_Sa hK hN hE hS (fun _ h => False.elim h) (P_R (E := [(al, arI cs 3 fl)]) (Wc := (OW cs oa IA LA sh it dy lc pct lr sr lf lrf srf cr IR LR z)) hP) (D_R (E := [(al, arI cs 3 fl)]) (Wc := (OW cs oa IA LA sh it dy lc pct lr sr lf lrf srf cr IR LR z)) hD)) rfl rfl hl.1 rfl (lv_room (Nat.le_of_ble_eq_true rfl)) dL_areEven_35 ⟨by show _ ≤ 180; omega, by show _ ≤ 1080; omega⟩) hS (fun _ _ h => False.elim h) (fun _ h => False.elim h) (fun r u t H locs ht hvm hw hB hz1 hk1 hS => ?_)
      subst hw
      have hP := P_kept hP hk1
      have hnxd := PI_nxt hI (i / 2) (i % 2) (by omega) (by omega)
      have hflv := hfl (i / 2) (by omega)
      have hlfv := PI_lf hI (s := i / 2) (by omega)
      generalize hnxt : qC (if cdK sh it cr (((i / 2) : Nat) : Int) (((i % 2) : Nat) : Int) = 0 then nxC (fdI (lar (LR ((((i / 2) : Nat) : Int) * 5 + (((i % 2) : Nat) : Int)).toNat)) dy 1 5) else cdK sh it cr (((i / 2) : Nat) : Int) (((i % 2) : Nat) : Int)) (fdI (lar (LR ((((i / 2) : Nat) : Int) * 5 + (((i % 2) : Nat) : Int)).toNat)) dy 1 5) = nxt at hnxd ⊢
      refine lv_istore (lv' := [(6, .int (iI (nxt))), (5, .int (iI (ask))), (4, .int (iI (((i : Nat) : Int)))), (3, .int (iI (1))), (0, .ref (oa 0)), (1, .ref al), (2, .int (iI (((dy : Nat) : Int))))]) hx hb dL_areEven_38 hl (by decide) rfl (fun ls hl => ?_)
      refine lv_iload_n hx hb dL_areEven_40 rfl (lv_at hl 3 rfl) ?_
      refine lv_iload hx hb dL_areEven_41 (lv_at hl 1 rfl) ?_
      refine my_if_eq (tgt := 53) hx hb (by omega) dL_areEven_43 (by decide) (fun bh2 => ?_) (fun bh2 => ?_)
      · refine lv_iload hx hb dL_areEven_53 (lv_at hl 0 rfl) ?_
        refine lv_bipush (v := iI (-75)) hx hb dL_areEven_55 (by decide) ?_
        refine my_icmp_eq (tgt := 79) hx hb (by omega) dL_areEven_57 (by decide) (fun bh3 => ?_) (fun bh3 => ?_)
        · refine lv_iconst (v := iI (1)) hx hb dL_areEven_79 rfl ?_
          refine lv_goto (tgt := 84) hx hb dL_areEven_80 (by decide) ?_
          refine my_iand11 hx hb dL_areEven_84 ?_
          refine lv_istore_n (lv' := [(3, .int (iI (1))), (6, .int (iI (nxt))), (5, .int (iI (ask))), (4, .int (iI (((i : Nat) : Int)))), (0, .ref (oa 0)), (1, .ref al), (2, .int (iI (((dy : Nat) : Int))))]) hx hb dL_areEven_85 rfl hl (by decide) rfl (fun ls hl => ?_)
          refine lv_iinc (v := iI (((i : Nat) : Int) + 1)) (lv' := [(4, .int (iI (((i : Nat) : Int) + 1))), (3, .int (iI (1))), (6, .int (iI (nxt))), (5, .int (iI (ask))), (0, .ref (oa 0)), (1, .ref al), (2, .int (iI (((dy : Nat) : Int))))]) hx hb dL_areEven_86 hl (k := 3) rfl (by rw [show (((i : Nat) : Int) + 1 : Int) = ((i : Nat) : Int) + 1 from rfl]; exact iI_add _ _) (by decide) rfl (fun ls hl => ?_)
          refine lv_goto (tgt := 5) hx hb dL_areEven_89 (by decide) ?_
          have e1 : ((i : Nat) : Int) + 1 = ((i + 1 : Nat) : Int) := by omega
          rw [e1] at hl
          refine W.widen (k := (0 + 30 * (i + 1))) (n := (0 + 180 * (i + 1))) (by omega) (by omega) ?_
          exact ih (i + 1) (by omega) (by omega) _ _ _ hP hS (lv_sub hl [0, 1, 4, 5, 6] rfl)
        · refine lv_iload hx hb dL_areEven_60 (lv_at hl 0 rfl) ?_
          refine lv_iload_n hx hb dL_areEven_62 rfl (lv_at hl 6 rfl) ?_
          refine my_icmp_le (tgt := 83) hx hb (by omega) dL_areEven_63 (by decide) (fun bh4 => (by omega : False).elim) (fun bh4 => ?_)
          refine lv_iload hx hb dL_areEven_66 (lv_at hl 0 rfl) ?_
          refine lv_iload_n hx hb dL_areEven_68 rfl (lv_at hl 6 rfl) ?_
          refine lv_aload_n hx hb dL_areEven_69 rfl (lv_at hl 5 rfl) ?_
          refine lv_iload hx hb dL_areEven_70 (lv_at hl 2 rfl) ?_
          refine lv_iconst (v := iI (2)) hx hb dL_areEven_72 rfl ?_
          refine my_idiv hx hb dL_areEven_73 (by omega) rfl ?_
          refine my_cv0 (z := (((i / 2) : Nat) : Int)) (by omega) ?_
          refine my_iald hx hb hK hP 0 rfl (by omega) (k := i / 2) (Int.toNat_natCast _) dL_areEven_74 ?_
          refine my_iadd (z := ((dy : Nat) : Int) + (fl (i / 2))) hx hb dL_areEven_75 (rfl) ?_
          refine my_icmp_gt (tgt := 83) hx hb (by omega) dL_areEven_76 (by decide) (fun bh5 => (by omega : False).elim) (fun bh5 => ?_)
          refine lv_iconst (v := iI (1)) hx hb dL_areEven_79 rfl ?_
          refine lv_goto (tgt := 84) hx hb dL_areEven_80 (by decide) ?_
          refine my_iand11 hx hb dL_areEven_84 ?_
          refine lv_istore_n (lv' := [(3, .int (iI (1))), (6, .int (iI (nxt))), (5, .int (iI (ask))), (4, .int (iI (((i : Nat) : Int)))), (0, .ref (oa 0)), (1, .ref al), (2, .int (iI (((dy : Nat) : Int))))]) hx hb dL_areEven_85 rfl hl (by decide) rfl (fun ls hl => ?_)
          refine lv_iinc (v := iI (((i : Nat) : Int) + 1)) (lv' := [(4, .int (iI (((i : Nat) : Int) + 1))), (3, .int (iI (1))), (6, .int (iI (nxt))), (5, .int (iI (ask))), (0, .ref (oa 0)), (1, .ref al), (2, .int (iI (((dy : Nat) : Int))))]) hx hb dL_areEven_86 hl (k := 3) rfl (by rw [show (((i : Nat) : Int) + 1 : Int) = ((i : Nat) : Int) + 1 from rfl]; exact iI_add _ _) (by decide) rfl (fun ls hl => ?_)
          refine lv_goto (tgt := 5) hx hb dL_areEven_89 (by decide) ?_
          have e1 : ((i : Nat) : Int) + 1 = ((i + 1 : Nat) : Int) := by omega
          rw [e1] at hl
          refine W.widen (k := (0 + 30 * (i + 1))) (n := (0 + 180 * (i + 1))) (by omega) (by omega) ?_
          exact ih (i + 1) (by omega) (by omega) _ _ _ hP hS (lv_sub hl [0, 1, 4, 5, 6] rfl)
      · refine lv_iload hx hb dL_areEven_46 (lv_at hl 1 rfl) ?_
        refine lv_bipush (v := iI (-75)) hx hb dL_areEven_48 (by decide) ?_
        refine my_icmp_ne (tgt := 83) hx hb (by omega) dL_areEven_50 (by decide) (fun bh6 => (by omega : False).elim) (fun bh6 => ?_)
        refine lv_iload hx hb dL_areEven_53 (lv_at hl 0 rfl) ?_
        refine lv_bipush (v := iI (-75)) hx hb dL_areEven_55 (by decide) ?_
        refine my_icmp_eq (tgt := 79) hx hb (by omega) dL_areEven_57 (by decide) (fun bh7 => ?_) (fun bh7 => ?_)
        · refine lv_iconst (v := iI (1)) hx hb dL_areEven_79 rfl ?_
          refine lv_goto (tgt := 84) hx hb dL_areEven_80 (by decide) ?_
          refine my_iand11 hx hb dL_areEven_84 ?_
          refine lv_istore_n (lv' := [(3, .int (iI (1))), (6, .int (iI (nxt))), (5, .int (iI (ask))), (4, .int (iI (((i : Nat) : Int)))), (0, .ref (oa 0)), (1, .ref al), (2, .int (iI (((dy : Nat) : Int))))]) hx hb dL_areEven_85 rfl hl (by decide) rfl (fun ls hl => ?_)
          refine lv_iinc (v := iI (((i : Nat) : Int) + 1)) (lv' := [(4, .int (iI (((i : Nat) : Int) + 1))), (3, .int (iI (1))), (6, .int (iI (nxt))), (5, .int (iI (ask))), (0, .ref (oa 0)), (1, .ref al), (2, .int (iI (((dy : Nat) : Int))))]) hx hb dL_areEven_86 hl (k := 3) rfl (by rw [show (((i : Nat) : Int) + 1 : Int) = ((i : Nat) : Int) + 1 from rfl]; exact iI_add _ _) (by decide) rfl (fun ls hl => ?_)
          refine lv_goto (tgt := 5) hx hb dL_areEven_89 (by decide) ?_
          have e1 : ((i : Nat) : Int) + 1 = ((i + 1 : Nat) : Int) := by omega
          rw [e1] at hl
          refine W.widen (k := (0 + 30 * (i + 1))) (n := (0 + 180 * (i + 1))) (by omega) (by omega) ?_
          exact ih (i + 1) (by omega) (by omega) _ _ _ hP hS (lv_sub hl [0, 1, 4, 5, 6] rfl)
        · refine lv_iload hx hb dL_areEven_60 (lv_at hl 0 rfl) ?_
          refine lv_iload_n hx hb dL_areEven_62 rfl (lv_at hl 6 rfl) ?_
          refine my_icmp_le (tgt := 83) hx hb (by omega) dL_areEven_63 (by decide) (fun bh8 => (by omega : False).elim) (fun bh8 => ?_)
          refine lv_iload hx hb dL_areEven_66 (lv_at hl 0 rfl) ?_
          refine lv_iload_n hx hb dL_areEven_68 rfl (lv_at hl 6 rfl) ?_
          refine lv_aload_n hx hb dL_areEven_69 rfl (lv_at hl 5 rfl) ?_
          refine lv_iload hx hb dL_areEven_70 (lv_at hl 2 rfl) ?_
          refine lv_iconst (v := iI (2)) hx hb dL_areEven_72 rfl ?_
          refine my_idiv hx hb dL_areEven_73 (by omega) rfl ?_
          refine my_cv0 (z := (((i / 2) : Nat) : Int)) (by omega) ?_
          refine my_iald hx hb hK hP 0 rfl (by omega) (k := i / 2) (Int.toNat_natCast _) dL_areEven_74 ?_
          refine my_iadd (z := ((dy : Nat) : Int) + (fl (i / 2))) hx hb dL_areEven_75 (rfl) ?_
          refine my_icmp_gt (tgt := 83) hx hb (by omega) dL_areEven_76 (by decide) (fun bh9 => (by omega : False).elim) (fun bh9 => ?_)
          refine lv_iconst (v := iI (1)) hx hb dL_areEven_79 rfl ?_
          refine lv_goto (tgt := 84) hx hb dL_areEven_80 (by decide) ?_
          refine my_iand11 hx hb dL_areEven_84 ?_
          refine lv_istore_n (lv' := [(3, .int (iI (1))), (6, .int (iI (nxt))), (5, .int (iI (ask))), (4, .int (iI (((i : Nat) : Int)))), (0, .ref (oa 0)), (1, .ref al), (2, .int (iI (((dy : Nat) : Int))))]) hx hb dL_areEven_85 rfl hl (by decide) rfl (fun ls hl => ?_)
          refine lv_iinc (v := iI (((i : Nat) : Int) + 1)) (lv' := [(4, .int (iI (((i : Nat) : Int) + 1))), (3, .int (iI (1))), (6, .int (iI (nxt))), (5, .int (iI (ask))), (0, .ref (oa 0)), (1, .ref al), (2, .int (iI (((dy : Nat) : Int))))]) hx hb dL_areEven_86 hl (k := 3) rfl (by rw [show (((i : Nat) : Int) + 1 : Int) = ((i : Nat) : Int) + 1 from rfl]; exact iI_add _ _) (by decide) rfl (fun ls hl => ?_)
          refine lv_goto (tgt := 5) hx hb dL_areEven_89 (by decide) ?_
          have e1 : ((i : Nat) : Int) + 1 = ((i + 1 : Nat) : Int) := by omega
          rw [e1] at hl
          refine W.widen (k := (0 + 30 * (i + 1))) (n := (0 + 180 * (i + 1))) (by omega) (by omega) ?_
          exact ih (i + 1) (by omega) (by omega) _ _ _ hP hS (lv_sub hl [0, 1, 4, 5, 6] rfl)
