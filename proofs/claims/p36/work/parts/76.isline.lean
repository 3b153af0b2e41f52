abbrev ws_L_isLine : List Cond := Cond.code yL_isLine cL_isLine 17 (some .boolean) :: ALL
set_option maxHeartbeats 4000000 in
set_option maxRecDepth 100000 in
theorem m_L_isLine (l : Launch) (hst : l.stackTraces = false) (D : va_G) (cs : Nat → ClassId) (oa : Nat → Nat) (IA LA : Nat → Nat → Nat) (sh it dy : Nat) (lc pct lr sr : Int) (lf lrf srf : Nat → Int) (cr : Nat → Bool) (IR : Nat → IT) (LR : Nat → LT) (z : SC) (sn tn : Nat) (hI : PI sh it dy pct lr sr lf lrf srf cr IR LR) (htn : tn < it) (hcr : cr (sn * 5 + tn) = true) : Met l yL_isLine ws_L_isLine ({ frames := 10, cells := 202, slots := 1212, locals := 175 }) (va_Pc [.ref (oa 0), .int (iI (((sn : Nat) : Int))), .int (iI (((tn : Nat) : Int))), .int (iI ((((lld (LR (sn * 5 + tn))) : Nat) : Int))), .int (iI (les (LR (sn * 5 + tn)))), .int (iI (ndL dy pct (LR (sn * 5 + tn))))] (PE D cs (OW cs oa IA LA sh it dy lc pct lr sr lf lrf srf cr IR LR z) (inW (OW cs oa IA LA sh it dy lc pct lr sr lf lrf srf cr IR LR z)))) (va_Qi (fun r (zu : SC) => r = iI (1)) (fun (zu : SC) t => va_P D vwCl (OW cs oa IA LA sh it dy lc pct lr sr lf lrf srf cr IR LR zu) t.heap) (inW (OW cs oa IA LA sh it dy lc pct lr sr lf lrf srf cr IR LR z))) 202 1212 (inW (OW cs oa IA LA sh it dy lc pct lr sr lf lrf srf cr IR LR z)) := by
  refine Met.ofW (cc := cL_isLine) (maxL := 17) (ret := (some .boolean)) (by decide +kernel) rfl ?_
  intro p e s m args below meth c s₁ B hml hv
  obtain ⟨rfl, ⟨hP, hK, hD, hN⟩, hE⟩ := hv
  have hx := B.exec
  have hb := B.bytes
  have hr := B.returns
  have hts : ∀ w ∈ ALL, w.before _ s = true := fun w h => atoms_spec (ws := ws_L_isLine) B.pre w (List.mem_cons_of_mem _ h)
  have hown : s.vm.findClass RL = some m.cls := findClass_of_methodNamed B.named
  have hlocks := B.notSynchronized
  generalize hAe : inW (OW cs oa IA LA sh it dy lc pct lr sr lf lrf srf cr IR LR z) = A at hD hE ⊢
  have hS : va_S A s.heap s.heap [] := va_S.rf
  have hl := lv_entry ([.ref (oa 0), .int (iI (((sn : Nat) : Int))), .int (iI (((tn : Nat) : Int))), .int (iI ((((lld (LR (sn * 5 + tn))) : Nat) : Int))), .int (iI (les (LR (sn * 5 + tn)))), .int (iI (ndL dy pct (LR (sn * 5 + tn))))]) (n := 17) (Nat.le_of_ble_eq_true rfl)
  rw [lg_entry_eq]
  generalize (lg_sl ([.ref (oa 0), .int (iI (((sn : Nat) : Int))), .int (iI (((tn : Nat) : Int))), .int (iI ((((lld (LR (sn * 5 + tn))) : Nat) : Int))), .int (iI (les (LR (sn * 5 + tn)))), .int (iI (ndL dy pct (LR (sn * 5 + tn))))]) ++ List.replicate (17 - (lg_sl ([.ref (oa 0), .int (iI (((sn : Nat) : Int))), .int (iI (((tn : Nat) : Int))), .int (iI ((((lld (LR (sn * 5 + tn))) : Nat) : Int))), .int (iI (les (LR (sn * 5 + tn)))), .int (iI (ndL dy pct (LR (sn * 5 + tn))))])).length) Slot.unset).toArray = ls at hl ⊢
  have hl : lv_has ls 17 [(0, .ref (oa 0)), (1, .int (iI (((sn : Nat) : Int)))), (2, .int (iI (((tn : Nat) : Int)))), (3, .int (iI ((((lld (LR (sn * 5 + tn))) : Nat) : Int)))), (4, .int (iI (les (LR (sn * 5 + tn))))), (5, .int (iI (ndL dy pct (LR (sn * 5 + tn)))))] := hl
  have hH := rfl (a := s.heap)
  have hI1 := PI_1 hI
  obtain ⟨ha, hi5, hs5, c1, c2, c3, c4, c5, c6, c7, c8, c9, c10, c11⟩ := PI_CI hI hcr
  have hsn : sn < sh := by omega
  have hlOK := PI_lOK hI (sn * 5 + tn)
  have h5s : (sn * 5 + tn) / 5 = sn := by omega
  have hnx := PI_nx hI hcr
  have hlf := PI_lf hI hsn
  rw [h5s] at hnx c1 c7
  have hnd := lOK_nd hlOK (show 1 ≤ pct ∧ pct ≤ 100 by omega)
  have hnde : ndL dy pct (LR (sn * 5 + tn)) = (fcI (llv (LR (sn * 5 + tn))) (lse (LR (sn * 5 + tn))) dy (lld (LR (sn * 5 + tn)) + 1) + 999) / 1000 + (sfI (lef (LR (sn * 5 + tn))) (les (LR (sn * 5 + tn))) pct 0 21) - lsk (LR (sn * 5 + tn)) - duI (lar (LR (sn * 5 + tn))) dy := rfl
  have hsf := sfI_rng (er := lef (LR (sn * 5 + tn))) (es := les (LR (sn * 5 + tn))) (pct := pct) 21 0 rfl
  have hsff := sf_facts (f := lef (LR (sn * 5 + tn))) (es := les (LR (sn * 5 + tn))) (pct := pct) (fun q => (c9.1 q).1) c9.2.1 (by omega)
  have hefr := hlOK.2.2.1
  have hesr := hlOK.2.2.2.1
  have hlvr := hlOK.1
  have hser := hlOK.2.1
  have hldr := hlOK.2.2.2.2.1
  have hskr := hlOK.2.2.2.2.2.1
  have hdur := hlOK.2.2.2.2.2.2
  have hfcr : ∀ n : Nat, n ≤ 6 → 0 ≤ fcI (llv (LR (sn * 5 + tn))) (lse (LR (sn * 5 + tn))) dy n ∧ fcI (llv (LR (sn * 5 + tn))) (lse (LR (sn * 5 + tn))) dy n ≤ 299700000 := fun n hn => by have h9 := smI_le (f := fun j => thI (llv (LR (sn * 5 + tn))) (lse (LR (sn * 5 + tn))) (dy + j)) (B := 49950000) (fun j => ⟨(thI_rng hlvr hser).1, (thI_rng hlvr hser).2.1⟩) n; unfold fcI; omega
  refine lv_iconst (v := iI (0)) hx hb dL_isLine_0 rfl ?_
  refine lv_istore (lv' := [(6, .int (iI (0))), (0, .ref (oa 0)), (1, .int (iI (((sn : Nat) : Int)))), (2, .int (iI (((tn : Nat) : Int)))), (3, .int (iI ((((lld (LR (sn * 5 + tn))) : Nat) : Int)))), (4, .int (iI (les (LR (sn * 5 + tn))))), (5, .int (iI (ndL dy pct (LR (sn * 5 + tn)))))]) hx hb dL_isLine_1 hl (by decide) rfl (fun ls hl => ?_)
  refine lv_iconst (v := iI (0)) hx hb dL_isLine_3 rfl ?_
  refine lv_istore (lv' := [(7, .int (iI (0))), (6, .int (iI (0))), (0, .ref (oa 0)), (1, .int (iI (((sn : Nat) : Int)))), (2, .int (iI (((tn : Nat) : Int)))), (3, .int (iI ((((lld (LR (sn * 5 + tn))) : Nat) : Int)))), (4, .int (iI (les (LR (sn * 5 + tn))))), (5, .int (iI (ndL dy pct (LR (sn * 5 + tn)))))]) hx hb dL_isLine_4 hl (by decide) rfl (fun ls hl => ?_)
  refine lv_iconst (v := iI (0)) hx hb dL_isLine_6 rfl ?_
  refine lv_istore (lv' := [(8, .int (iI (0))), (7, .int (iI (0))), (6, .int (iI (0))), (0, .ref (oa 0)), (1, .int (iI (((sn : Nat) : Int)))), (2, .int (iI (((tn : Nat) : Int)))), (3, .int (iI ((((lld (LR (sn * 5 + tn))) : Nat) : Int)))), (4, .int (iI (les (LR (sn * 5 + tn))))), (5, .int (iI (ndL dy pct (LR (sn * 5 + tn)))))]) hx hb dL_isLine_7 hl (by decide) rfl (fun ls hl => ?_)
  refine lv_aload_n hx hb dL_isLine_9 rfl (lv_at hl 3 rfl) ?_
  refine lv_iload_n hx hb dL_isLine_10 rfl (lv_at hl 4 rfl) ?_
  refine lv_iload_n hx hb dL_isLine_11 rfl (lv_at hl 5 rfl) ?_
  refine va_calli (vx_runSW (As := [.ref (oa 0), .int (iI (((sn : Nat) : Int))), .int (iI (((tn : Nat) : Int)))]) (rest := []) ⟨hx, hb, hml, hown, hts⟩ (m_L_safety_k l hst D cs oa IA LA sh it dy lc pct lr sr lf lrf srf cr IR LR z sn tn (hI) (htn) (hcr)) (vx_cwSW 3 hts (gS w_737 w_738 w_0 w_739) rfl rfl rfl (by decide +kernel) ⟨Nat.le_of_ble_eq_true rfl, Nat.le_of_ble_eq_true rfl⟩) (PE_Sa hK hN hE hS (fun _ h => False.elim h) hP hD) rfl rfl hl.1 rfl (lv_room (Nat.le_of_ble_eq_true rfl)) dL_isLine_12 ⟨Nat.le_of_ble_eq_true rfl, Nat.le_of_ble_eq_true rfl⟩) hS (fun _ _ h => False.elim h) (fun _ h => False.elim h) (fun r u t H locs ht hvm hw hB hz1 hk1 hS => ?_)
  subst hw
  have hP := P_kept hP hk1
  refine lv_istore (lv' := [(9, .int (iI (sfI (lef (LR (sn * 5 + tn))) (les (LR (sn * 5 + tn))) pct 0 21))), (8, .int (iI (0))), (7, .int (iI (0))), (6, .int (iI (0))), (0, .ref (oa 0)), (1, .int (iI (((sn : Nat) : Int)))), (2, .int (iI (((tn : Nat) : Int)))), (3, .int (iI ((((lld (LR (sn * 5 + tn))) : Nat) : Int)))), (4, .int (iI (les (LR (sn * 5 + tn))))), (5, .int (iI (ndL dy pct (LR (sn * 5 + tn)))))]) hx hb dL_isLine_15 hl (by decide) rfl (fun ls hl => ?_)
  refine lv_aload_n hx hb dL_isLine_17 rfl (lv_at hl 4 rfl) ?_
  refine va_calli (va_runV (As := []) (rest := []) ⟨hx, hb, hml, hown, hts⟩ (m_X5_today_w l D cs oa IA LA sh it dy lc pct lr sr lf lrf srf cr IR LR z) (cwV 0 hts (gV w_112 w_113 w_114 w_1 w_115) rfl rfl rfl (by decide +kernel) ⟨Nat.le_of_ble_eq_true rfl, Nat.le_of_ble_eq_true rfl⟩) (PC_Va hK hN hP hD rfl rfl) rfl rfl hl.1 rfl (lv_room (Nat.le_of_ble_eq_true rfl)) dL_isLine_18 ⟨Nat.le_of_ble_eq_true rfl, Nat.le_of_ble_eq_true rfl⟩) hS (fun _ _ h => False.elim h) (fun _ h => False.elim h) (fun r u t H locs ht hvm hw hB hz1 hk1 hS => ?_)
  subst hw
  have hP := P_kept hP hk1
  refine lv_istore (lv' := [(10, .int (iI (((dy : Nat) : Int)))), (9, .int (iI (sfI (lef (LR (sn * 5 + tn))) (les (LR (sn * 5 + tn))) pct 0 21))), (8, .int (iI (0))), (7, .int (iI (0))), (6, .int (iI (0))), (0, .ref (oa 0)), (1, .int (iI (((sn : Nat) : Int)))), (2, .int (iI (((tn : Nat) : Int)))), (3, .int (iI ((((lld (LR (sn * 5 + tn))) : Nat) : Int)))), (4, .int (iI (les (LR (sn * 5 + tn))))), (5, .int (iI (ndL dy pct (LR (sn * 5 + tn)))))]) hx hb dL_isLine_21 hl (by decide) rfl (fun ls hl => ?_)
  refine lv_lconst (v := lI 0) hx hb dL_isLine_23 (by decide) ?_
  refine lv_lstore (lv' := [(11, .long (lI (0))), (10, .int (iI (((dy : Nat) : Int)))), (9, .int (iI (sfI (lef (LR (sn * 5 + tn))) (les (LR (sn * 5 + tn))) pct 0 21))), (8, .int (iI (0))), (7, .int (iI (0))), (6, .int (iI (0))), (0, .ref (oa 0)), (1, .int (iI (((sn : Nat) : Int)))), (2, .int (iI (((tn : Nat) : Int)))), (3, .int (iI ((((lld (LR (sn * 5 + tn))) : Nat) : Int)))), (4, .int (iI (les (LR (sn * 5 + tn))))), (5, .int (iI (ndL dy pct (LR (sn * 5 + tn)))))]) hx hb dL_isLine_24 hl (by decide) rfl (fun ls hl => ?_)
  refine lv_aload_n hx hb dL_isLine_26 rfl (lv_at hl 6 rfl) ?_
  refine lv_iload_n hx hb dL_isLine_27 rfl (lv_at hl 7 rfl) ?_
  refine lv_iload_n hx hb dL_isLine_28 rfl (lv_at hl 8 rfl) ?_
  refine va_calli (vx_runSW (As := [.ref (oa 0), .int (iI (((sn : Nat) : Int))), .int (iI (((tn : Nat) : Int)))]) (rest := []) ⟨hx, hb, hml, hown, hts⟩ (m_L_stock_k l hst D cs oa IA LA sh it dy lc pct lr sr lf lrf srf cr IR LR z sn tn (hI) (htn) (hcr)) (vx_cwSW 3 hts (gS w_643 w_644 w_0 w_645) rfl rfl rfl (by decide +kernel) ⟨Nat.le_of_ble_eq_true rfl, Nat.le_of_ble_eq_true rfl⟩) (PE_Sa hK hN hE hS (fun _ h => False.elim h) hP hD) rfl rfl hl.1 rfl (lv_room (Nat.le_of_ble_eq_true rfl)) dL_isLine_29 ⟨Nat.le_of_ble_eq_true rfl, Nat.le_of_ble_eq_true rfl⟩) hS (fun _ _ h => False.elim h) (fun _ h => False.elim h) (fun r u t H locs ht hvm hw hB hz1 hk1 hS => ?_)
  subst hw
  have hP := P_kept hP hk1
  refine lv_aload_n hx hb dL_isLine_32 rfl (lv_at hl 6 rfl) ?_
  refine lv_iload_n hx hb dL_isLine_33 rfl (lv_at hl 7 rfl) ?_
  refine lv_iload_n hx hb dL_isLine_34 rfl (lv_at hl 8 rfl) ?_
  refine va_calli (vx_runSW (As := [.ref (oa 0), .int (iI (((sn : Nat) : Int))), .int (iI (((tn : Nat) : Int)))]) (rest := [.int (iI (lsk (LR (sn * 5 + tn))))]) ⟨hx, hb, hml, hown, hts⟩ (m_L_stockByJournal_k l hst D cs oa IA LA sh it dy lc pct lr sr lf lrf srf cr IR LR z sn tn (hI) (htn) (hcr)) (vx_cwSW 3 hts (gS w_745 w_746 w_0 w_747) rfl rfl rfl (by decide +kernel) ⟨Nat.le_of_ble_eq_true rfl, Nat.le_of_ble_eq_true rfl⟩) (PE_Sa hK hN hE hS (fun _ h => False.elim h) hP hD) rfl rfl hl.1 rfl (lv_room (Nat.le_of_ble_eq_true rfl)) dL_isLine_35 ⟨Nat.le_of_ble_eq_true rfl, Nat.le_of_ble_eq_true rfl⟩) hS (fun _ _ h => False.elim h) (fun _ h => False.elim h) (fun r u t H locs ht hvm hw hB hz1 hk1 hS => ?_)
  subst hw
  have hP := P_kept hP hk1
  refine my_icmp_ne (tgt := 93) hx hb (by omega) dL_isLine_38 (by decide) (fun bh1 => (by omega : False).elim) (fun bh1 => ?_)
  refine lv_aload_n hx hb dL_isLine_41 rfl (lv_at hl 6 rfl) ?_
  refine lv_iload_n hx hb dL_isLine_42 rfl (lv_at hl 7 rfl) ?_
  refine lv_iload_n hx hb dL_isLine_43 rfl (lv_at hl 8 rfl) ?_
  refine va_calli (vx_runSW (As := [.ref (oa 0), .int (iI (((sn : Nat) : Int))), .int (iI (((tn : Nat) : Int)))]) (rest := []) ⟨hx, hb, hml, hown, hts⟩ (m_L_level_k l hst D cs oa IA LA sh it dy lc pct lr sr lf lrf srf cr IR LR z sn tn (hI) (htn) (hcr)) (vx_cwSW 3 hts (gS w_627 w_628 w_0 w_629) rfl rfl rfl (by decide +kernel) ⟨Nat.le_of_ble_eq_true rfl, Nat.le_of_ble_eq_true rfl⟩) (PE_Sa hK hN hE hS (fun _ h => False.elim h) hP hD) rfl rfl hl.1 rfl (lv_room (Nat.le_of_ble_eq_true rfl)) dL_isLine_44 ⟨Nat.le_of_ble_eq_true rfl, Nat.le_of_ble_eq_true rfl⟩) hS (fun _ _ h => False.elim h) (fun _ h => False.elim h) (fun r u t H locs ht hvm hw hB hz1 hk1 hS => ?_)
  subst hw
  have hP := P_kept hP hk1
  refine lv_aload_n hx hb dL_isLine_47 rfl (lv_at hl 6 rfl) ?_
  refine lv_iload_n hx hb dL_isLine_48 rfl (lv_at hl 7 rfl) ?_
  refine lv_iload_n hx hb dL_isLine_49 rfl (lv_at hl 8 rfl) ?_
  refine va_calli (vx_runSW (As := [.ref (oa 0), .int (iI (((sn : Nat) : Int))), .int (iI (((tn : Nat) : Int)))]) (rest := [.int (iI (llv (LR (sn * 5 + tn))))]) ⟨hx, hb, hml, hown, hts⟩ (m_L_levelByDays_k l hst D cs oa IA LA sh it dy lc pct lr sr lf lrf srf cr IR LR z sn tn (hI) (htn) (hcr)) (vx_cwSW 3 hts (gS w_760 w_761 w_0 w_762) rfl rfl rfl (by decide +kernel) ⟨Nat.le_of_ble_eq_true rfl, Nat.le_of_ble_eq_true rfl⟩) (PE_Sa hK hN hE hS (fun q h => inW_suba hD q h) hP hD) rfl rfl hl.1 rfl (lv_room (Nat.le_of_ble_eq_true rfl)) dL_isLine_50 ⟨Nat.le_of_ble_eq_true rfl, Nat.le_of_ble_eq_true rfl⟩) hS (fun q _ h => inW_suba hD q h) (fun q h => inW_suba hD q h) (fun r zu2 t H locs ht hvm hw hB hz1 hk1 hS => ?_)
  subst hw
  rw [ht] at hB
  have hP := hB
  have hD : va_D A (OW cs oa IA LA sh it dy lc pct lr sr lf lrf srf cr IR LR zu2) := D_fst hD OW_fst
  have hP : va_P D vwCl (OW cs oa IA LA sh it dy lc pct lr sr lf lrf srf cr IR LR zu2) H := hP
  have hD : va_D A (OW cs oa IA LA sh it dy lc pct lr sr lf lrf srf cr IR LR zu2) := hD
  refine my_icmp_ne (tgt := 93) hx hb (by omega) dL_isLine_53 (by decide) (fun bh3 => (by omega : False).elim) (fun bh3 => ?_)
  refine lv_aload_n hx hb dL_isLine_56 rfl (lv_at hl 6 rfl) ?_
  refine lv_iload_n hx hb dL_isLine_57 rfl (lv_at hl 7 rfl) ?_
  refine lv_iload_n hx hb dL_isLine_58 rfl (lv_at hl 8 rfl) ?_
  refine va_calli (vx_runSW (As := [.ref (oa 0), .int (iI (((sn : Nat) : Int))), .int (iI (((tn : Nat) : Int)))]) (rest := []) ⟨hx, hb, hml, hown, hts⟩ (m_L_onWay_k l hst D cs oa IA LA sh it dy lc pct lr sr lf lrf srf cr IR LR zu2 sn tn (hI) (htn) (hcr)) (vx_cwSW 3 hts (gS w_687 w_688 w_0 w_689) rfl rfl rfl (by decide +kernel) ⟨Nat.le_of_ble_eq_true rfl, Nat.le_of_ble_eq_true rfl⟩) (PE_Sa hK hN hE hS (fun _ h => False.elim h) hP hD) rfl rfl hl.1 rfl (lv_room (Nat.le_of_ble_eq_true rfl)) dL_isLine_59 ⟨Nat.le_of_ble_eq_true rfl, Nat.le_of_ble_eq_true rfl⟩) hS (fun _ _ h => False.elim h) (fun _ h => False.elim h) (fun r u t H locs ht hvm hw hB hz1 hk1 hS => ?_)
  subst hw
  have hP := P_kept hP hk1
  refine my_jnH (Z := SC) (D := D) (A := A) (H0 := s.heap) (W1 := fun zj => (OW cs oa IA LA sh it dy lc pct lr sr lf lrf srf cr IR LR zj)) (pc2 := 94) (stk := [.int (iI (1))]) (n := 17) (loc := [(11, .long (lI (0))), (10, .int (iI (((dy : Nat) : Int)))), (9, .int (iI (sfI (lef (LR (sn * 5 + tn))) (les (LR (sn * 5 + tn))) pct 0 21))), (8, .int (iI (0))), (7, .int (iI (0))), (6, .int (iI (0))), (0, .ref (oa 0)), (1, .int (iI (((sn : Nat) : Int)))), (2, .int (iI (((tn : Nat) : Int)))), (3, .int (iI ((((lld (LR (sn * 5 + tn))) : Nat) : Int)))), (4, .int (iI (les (LR (sn * 5 + tn))))), (5, .int (iI (ndL dy pct (LR (sn * 5 + tn)))))]) (c2 := 22) (s2 := 132) (fun zj H locs ls hP hD hS hl => ?_) (fun J94 => ?_)
  · have hP : va_P D vwCl (OW cs oa IA LA sh it dy lc pct lr sr lf lrf srf cr IR LR zj) H := hP
    have hD : va_D A (OW cs oa IA LA sh it dy lc pct lr sr lf lrf srf cr IR LR zj) := hD
    refine lv_istore (lv' := [(13, .int (iI (1))), (11, .long (lI (0))), (10, .int (iI (((dy : Nat) : Int)))), (9, .int (iI (sfI (lef (LR (sn * 5 + tn))) (les (LR (sn * 5 + tn))) pct 0 21))), (8, .int (iI (0))), (7, .int (iI (0))), (6, .int (iI (0))), (0, .ref (oa 0)), (1, .int (iI (((sn : Nat) : Int)))), (2, .int (iI (((tn : Nat) : Int)))), (3, .int (iI ((((lld (LR (sn * 5 + tn))) : Nat) : Int)))), (4, .int (iI (les (LR (sn * 5 + tn))))), (5, .int (iI (ndL dy pct (LR (sn * 5 + tn)))))]) hx hb dL_isLine_94 hl (by decide) rfl (fun ls hl => ?_)
    refine lv_iconst (v := iI (0)) hx hb dL_isLine_96 rfl ?_
    refine lv_istore (lv' := [(14, .int (iI (0))), (13, .int (iI (1))), (11, .long (lI (0))), (10, .int (iI (((dy : Nat) : Int)))), (9, .int (iI (sfI (lef (LR (sn * 5 + tn))) (les (LR (sn * 5 + tn))) pct 0 21))), (8, .int (iI (0))), (7, .int (iI (0))), (6, .int (iI (0))), (0, .ref (oa 0)), (1, .int (iI (((sn : Nat) : Int)))), (2, .int (iI (((tn : Nat) : Int)))), (3, .int (iI ((((lld (LR (sn * 5 + tn))) : Nat) : Int)))), (4, .int (iI (les (LR (sn * 5 + tn))))), (5, .int (iI (ndL dy pct (LR (sn * 5 + tn)))))]) hx hb dL_isLine_97 hl (by decide) rfl (fun ls hl => ?_)
    suffices KL : ∀ (n : Nat) (k : Nat), k ≤ 21 → 21 - k < n → ∀ (H : Heap) (locs : List Loc) (ls : Array Slot), va_P D vwCl (OW cs oa IA LA sh it dy lc pct lr sr lf lrf srf cr IR LR zj) H → va_D A (OW cs oa IA LA sh it dy lc pct lr sr lf lrf srf cr IR LR zj) → va_S A s.heap H locs → lv_has ls 17 [(14, .int (iI (((k : Nat) : Int)))), (13, .int (iI (1))), (11, .long (lI (0))), (10, .int (iI (((dy : Nat) : Int)))), (9, .int (iI (sfI (lef (LR (sn * 5 + tn))) (les (LR (sn * 5 + tn))) pct 0 21))), (8, .int (iI (bwE (lef (LR (sn * 5 + tn))) (sfI (lef (LR (sn * 5 + tn))) (les (LR (sn * 5 + tn))) pct 0 21) k))), (7, .int (iI (upE (lef (LR (sn * 5 + tn))) (sfI (lef (LR (sn * 5 + tn))) (les (LR (sn * 5 + tn))) pct 0 21) k))), (6, .int (iI (smI (lef (LR (sn * 5 + tn))) k))), (0, .ref (oa 0)), (1, .int (iI (((sn : Nat) : Int)))), (2, .int (iI (((tn : Nat) : Int)))), (3, .int (iI ((((lld (LR (sn * 5 + tn))) : Nat) : Int)))), (4, .int (iI (les (LR (sn * 5 + tn))))), (5, .int (iI (ndL dy pct (LR (sn * 5 + tn)))))] → W p l e _ s m _ below meth c H locs ((22 + 4 * k)) ((132 + 24 * k)) _ (F0 m 99 ls []) from
      KL _ 0 (Nat.zero_le _) (Nat.lt_succ_self _) _ _ _ hP hD hS (lv_sub hl [0, 1, 2, 3, 4, 5, 6, 7, 8, 9, 10, 11, 12, 13] rfl)
    intro n
    induction n with
    | zero => intro k hkl h0; exact absurd h0 (Nat.not_lt_zero _)
    | succ n ih =>
      intro k hkl hmu H locs ls hP hD hS hl
      refine lv_iload hx hb dL_isLine_99 (lv_at hl 0 rfl) ?_
      refine lv_bipush (v := iI (21)) hx hb dL_isLine_101 (by decide) ?_
      refine my_icmp_ge (tgt := 165) hx hb (by omega) dL_isLine_103 (by decide) (fun bh4 => ?_) (fun bh4 => ?_)
      · have ek : k = 21 := by omega
        rw [ek] at hl
        refine lv_iload hx hb dL_isLine_165 (lv_at hl 3 rfl) ?_
        refine lv_istore (lv' := [(14, .int (iI (((dy : Nat) : Int)))), (13, .int (iI (1))), (11, .long (lI (0))), (10, .int (iI (((dy : Nat) : Int)))), (9, .int (iI (sfI (lef (LR (sn * 5 + tn))) (les (LR (sn * 5 + tn))) pct 0 21))), (8, .int (iI (bwE (lef (LR (sn * 5 + tn))) (sfI (lef (LR (sn * 5 + tn))) (les (LR (sn * 5 + tn))) pct 0 21) 21))), (7, .int (iI (upE (lef (LR (sn * 5 + tn))) (sfI (lef (LR (sn * 5 + tn))) (les (LR (sn * 5 + tn))) pct 0 21) 21))), (6, .int (iI (smI (lef (LR (sn * 5 + tn))) 21))), (0, .ref (oa 0)), (1, .int (iI (((sn : Nat) : Int)))), (2, .int (iI (((tn : Nat) : Int)))), (3, .int (iI ((((lld (LR (sn * 5 + tn))) : Nat) : Int)))), (4, .int (iI (les (LR (sn * 5 + tn))))), (5, .int (iI (ndL dy pct (LR (sn * 5 + tn)))))]) hx hb dL_isLine_167 hl (by decide) rfl (fun ls hl => ?_)
        suffices KL1 : ∀ (n1 : Nat) (i : Nat), i ≤ lld (LR (sn * 5 + tn)) + 1 → lld (LR (sn * 5 + tn)) + 1 - i < n1 → ∀ (H : Heap) (locs : List Loc) (ls : Array Slot), va_P D vwCl (OW cs oa IA LA sh it dy lc pct lr sr lf lrf srf cr IR LR zj) H → va_D A (OW cs oa IA LA sh it dy lc pct lr sr lf lrf srf cr IR LR zj) → va_S A s.heap H locs → lv_has ls 17 [(14, .int (iI ((((dy + i) : Nat) : Int)))), (13, .int (iI (1))), (11, .long (lI (fcI (llv (LR (sn * 5 + tn))) (lse (LR (sn * 5 + tn))) dy i))), (10, .int (iI (((dy : Nat) : Int)))), (9, .int (iI (sfI (lef (LR (sn * 5 + tn))) (les (LR (sn * 5 + tn))) pct 0 21))), (8, .int (iI (bwE (lef (LR (sn * 5 + tn))) (sfI (lef (LR (sn * 5 + tn))) (les (LR (sn * 5 + tn))) pct 0 21) 21))), (7, .int (iI (upE (lef (LR (sn * 5 + tn))) (sfI (lef (LR (sn * 5 + tn))) (les (LR (sn * 5 + tn))) pct 0 21) 21))), (6, .int (iI (smI (lef (LR (sn * 5 + tn))) 21))), (0, .ref (oa 0)), (1, .int (iI (((sn : Nat) : Int)))), (2, .int (iI (((tn : Nat) : Int)))), (3, .int (iI ((((lld (LR (sn * 5 + tn))) : Nat) : Int)))), (4, .int (iI (les (LR (sn * 5 + tn))))), (5, .int (iI (ndL dy pct (LR (sn * 5 + tn)))))] → W p l e _ s m _ below meth c H locs (((22 + 4 * k) + 15 * i)) (((132 + 24 * k) + 90 * i)) _ (F0 m 169 ls []) from
          KL1 _ 0 (Nat.zero_le _) (Nat.lt_succ_self _) _ _ _ hP hD hS (lv_sub hl [0, 1, 2, 3, 4, 5, 6, 7, 8, 9, 10, 11, 12, 13] rfl)
        intro n1
        induction n1 with
        | zero => intro i hil h0; exact absurd h0 (Nat.not_lt_zero _)
        | succ n1 ih1 =>
          intro i hil hmu1 H locs ls hP hD hS hl
          have hthr := thI_rng (d := dy + i) hlvr hser
          have hthe : thI (llv (LR (sn * 5 + tn))) (lse (LR (sn * 5 + tn))) (dy + i) = llv (LR (sn * 5 + tn)) * lse (LR (sn * 5 + tn)) ((dy + i) % 7) / 1000 := rfl
          have hth7 : thI (llv (LR (sn * 5 + tn))) (lse (LR (sn * 5 + tn))) (dy + i + 7) = thI (llv (LR (sn * 5 + tn))) (lse (LR (sn * 5 + tn))) (dy + i) := by unfold thI; rw [Nat.add_mod_right]
          have hsd := hser ((dy + i) % 7)
          refine lv_iload hx hb dL_isLine_169 (lv_at hl 0 rfl) ?_
          refine lv_iload hx hb dL_isLine_171 (lv_at hl 3 rfl) ?_
          refine lv_iload_n hx hb dL_isLine_173 rfl (lv_at hl 11 rfl) ?_
          refine my_iadd (z := ((dy : Nat) : Int) + (((lld (LR (sn * 5 + tn))) : Nat) : Int)) hx hb dL_isLine_174 (rfl) ?_
          refine my_icmp_gt (tgt := 278) hx hb (by omega) dL_isLine_175 (by decide) (fun bh5 => ?_) (fun bh5 => ?_)
          · have ei : i = lld (LR (sn * 5 + tn)) + 1 := by omega
            rw [ei] at hl
            have hfcl := hfcr (lld (LR (sn * 5 + tn)) + 1) (by omega)
            refine lv_iload hx hb dL_isLine_278 (lv_at hl 1 rfl) ?_
            refine lv_iload hx hb dL_isLine_280 (lv_at hl 13 rfl) ?_
            refine lv_lload hx hb dL_isLine_282 (lv_at hl 2 rfl) ?_
            refine lv_ldc2 (v := lI 999) hx hb hown (hts _ w_791) dL_isLine_284 ?_
            refine my_ladd (z := (fcI (llv (LR (sn * 5 + tn))) (lse (LR (sn * 5 + tn))) dy (lld (LR (sn * 5 + tn)) + 1)) + 999) hx hb dL_isLine_287 (rfl) ?_
            refine lv_ldc2 (v := lI 1000) hx hb hown (hts _ w_790) dL_isLine_288 ?_
            refine my_ldiv hx hb dL_isLine_291 (by omega) rfl ?_
            refine my_l2i hx hb dL_isLine_292 ?_
            refine lv_iload hx hb dL_isLine_293 (lv_at hl 4 rfl) ?_
            refine my_iadd (z := (((fcI (llv (LR (sn * 5 + tn))) (lse (LR (sn * 5 + tn))) dy (lld (LR (sn * 5 + tn)) + 1)) + 999) / 1000) + (sfI (lef (LR (sn * 5 + tn))) (les (LR (sn * 5 + tn))) pct 0 21)) hx hb dL_isLine_295 (rfl) ?_
            refine lv_aload_n hx hb dL_isLine_296 rfl (lv_at hl 8 rfl) ?_
            refine lv_iload_n hx hb dL_isLine_297 rfl (lv_at hl 9 rfl) ?_
            refine lv_iload_n hx hb dL_isLine_298 rfl (lv_at hl 10 rfl) ?_
            refine va_calli (vx_runSW (As := [.ref (oa 0), .int (iI (((sn : Nat) : Int))), .int (iI (((tn : Nat) : Int)))]) (rest := [.int (iI ((((fcI (llv (LR (sn * 5 + tn))) (lse (LR (sn * 5 + tn))) dy (lld (LR (sn * 5 + tn)) + 1)) + 999) / 1000) + (sfI (lef (LR (sn * 5 + tn))) (les (LR (sn * 5 + tn))) pct 0 21))), .int (iI (ndL dy pct (LR (sn * 5 + tn)))), .int (iI (1))]) ⟨hx, hb, hml, hown, hts⟩ (m_L_stock_k l hst D cs oa IA LA sh it dy lc pct lr sr lf lrf srf cr IR LR zj sn tn (hI) (htn) (hcr)) (vx_cwSW 3 hts (gS w_643 w_644 w_0 w_645) rfl rfl rfl (by decide +kernel) ⟨Nat.le_of_ble_eq_true rfl, Nat.le_of_ble_eq_true rfl⟩) (PE_Sa hK hN hE hS (fun _ h => False.elim h) hP hD) rfl rfl hl.1 rfl (lv_room (Nat.le_of_ble_eq_true rfl)) dL_isLine_299 ⟨by show _ ≤ 202; omega, by show _ ≤ 1212; omega⟩) hS (fun _ _ h => False.elim h) (fun _ h => False.elim h) (fun r u t H locs ht hvm hw hB hz1 hk1 hS => ?_)
            subst hw
            have hP := P_kept hP hk1
            refine my_isub (z := ((((fcI (llv (LR (sn * 5 + tn))) (lse (LR (sn * 5 + tn))) dy (lld (LR (sn * 5 + tn)) + 1)) + 999) / 1000) + (sfI (lef (LR (sn * 5 + tn))) (les (LR (sn * 5 + tn))) pct 0 21)) - (lsk (LR (sn * 5 + tn)))) hx hb dL_isLine_302 (rfl) ?_
            refine lv_aload_n hx hb dL_isLine_303 rfl (lv_at hl 8 rfl) ?_
            refine lv_iload_n hx hb dL_isLine_304 rfl (lv_at hl 9 rfl) ?_
            refine lv_iload_n hx hb dL_isLine_305 rfl (lv_at hl 10 rfl) ?_
            refine va_calli (vx_runSW (As := [.ref (oa 0), .int (iI (((sn : Nat) : Int))), .int (iI (((tn : Nat) : Int)))]) (rest := [.int (iI (((((fcI (llv (LR (sn * 5 + tn))) (lse (LR (sn * 5 + tn))) dy (lld (LR (sn * 5 + tn)) + 1)) + 999) / 1000) + (sfI (lef (LR (sn * 5 + tn))) (les (LR (sn * 5 + tn))) pct 0 21)) - (lsk (LR (sn * 5 + tn))))), .int (iI (ndL dy pct (LR (sn * 5 + tn)))), .int (iI (1))]) ⟨hx, hb, hml, hown, hts⟩ (m_L_onWay_k l hst D cs oa IA LA sh it dy lc pct lr sr lf lrf srf cr IR LR zj sn tn (hI) (htn) (hcr)) (vx_cwSW 3 hts (gS w_687 w_688 w_0 w_689) rfl rfl rfl (by decide +kernel) ⟨Nat.le_of_ble_eq_true rfl, Nat.le_of_ble_eq_true rfl⟩) (PE_Sa hK hN hE hS (fun _ h => False.elim h) hP hD) rfl rfl hl.1 rfl (lv_room (Nat.le_of_ble_eq_true rfl)) dL_isLine_306 ⟨by show _ ≤ 202; omega, by show _ ≤ 1212; omega⟩) hS (fun _ _ h => False.elim h) (fun _ h => False.elim h) (fun r u t H locs ht hvm hw hB hz1 hk1 hS => ?_)
            subst hw
            have hP := P_kept hP hk1
            refine my_isub (z := (((((fcI (llv (LR (sn * 5 + tn))) (lse (LR (sn * 5 + tn))) dy (lld (LR (sn * 5 + tn)) + 1)) + 999) / 1000) + (sfI (lef (LR (sn * 5 + tn))) (les (LR (sn * 5 + tn))) pct 0 21)) - (lsk (LR (sn * 5 + tn)))) - (duI (lar (LR (sn * 5 + tn))) dy)) hx hb dL_isLine_309 (rfl) ?_
            refine my_icmp_ne (tgt := 317) hx hb (by omega) dL_isLine_310 (by decide) (fun bh6 => (by omega : False).elim) (fun bh6 => ?_)
            refine lv_iconst (v := iI (1)) hx hb dL_isLine_313 rfl ?_
            refine lv_goto (tgt := 318) hx hb dL_isLine_314 (by decide) ?_
            refine my_iand11 hx hb dL_isLine_318 ?_
            refine lv_istore (lv' := [(13, .int (iI (1))), (14, .int (iI ((((dy + (lld (LR (sn * 5 + tn)) + 1)) : Nat) : Int)))), (11, .long (lI (fcI (llv (LR (sn * 5 + tn))) (lse (LR (sn * 5 + tn))) dy (lld (LR (sn * 5 + tn)) + 1)))), (10, .int (iI (((dy : Nat) : Int)))), (9, .int (iI (sfI (lef (LR (sn * 5 + tn))) (les (LR (sn * 5 + tn))) pct 0 21))), (8, .int (iI (bwE (lef (LR (sn * 5 + tn))) (sfI (lef (LR (sn * 5 + tn))) (les (LR (sn * 5 + tn))) pct 0 21) 21))), (7, .int (iI (upE (lef (LR (sn * 5 + tn))) (sfI (lef (LR (sn * 5 + tn))) (les (LR (sn * 5 + tn))) pct 0 21) 21))), (6, .int (iI (smI (lef (LR (sn * 5 + tn))) 21))), (0, .ref (oa 0)), (1, .int (iI (((sn : Nat) : Int)))), (2, .int (iI (((tn : Nat) : Int)))), (3, .int (iI ((((lld (LR (sn * 5 + tn))) : Nat) : Int)))), (4, .int (iI (les (LR (sn * 5 + tn))))), (5, .int (iI (ndL dy pct (LR (sn * 5 + tn)))))]) hx hb dL_isLine_319 hl (by decide) rfl (fun ls hl => ?_)
            refine lv_iload hx hb dL_isLine_321 (lv_at hl 0 rfl) ?_
            refine my_if_eq (tgt := 362) hx hb (by omega) dL_isLine_323 (by decide) (fun bh7 => (by omega : False).elim) (fun bh7 => ?_)
            refine lv_iload hx hb dL_isLine_326 (lv_at hl 7 rfl) ?_
            refine lv_iload hx hb dL_isLine_328 (lv_at hl 12 rfl) ?_
            refine my_icmp_ne (tgt := 362) hx hb (by omega) dL_isLine_330 (by decide) (fun bh8 => (by omega : False).elim) (fun bh8 => ?_)
            refine lv_iload hx hb dL_isLine_333 (lv_at hl 7 rfl) ?_
            refine my_if_ne (tgt := 346) hx hb (by omega) dL_isLine_335 (by decide) (fun bh9 => ?_) (fun bh9 => ?_)
            · refine lv_iload hx hb dL_isLine_346 (lv_at hl 6 rfl) ?_
              refine lv_iload hx hb dL_isLine_348 (lv_at hl 5 rfl) ?_
              refine my_icmp_lt (tgt := 362) hx hb (by omega) dL_isLine_350 (by decide) (fun bh10 => (by omega : False).elim) (fun bh10 => ?_)
              refine lv_iload hx hb dL_isLine_353 (lv_at hl 6 rfl) ?_
              refine my_if_le (tgt := 362) hx hb (by omega) dL_isLine_355 (by decide) (fun bh11 => (by omega : False).elim) (fun bh11 => ?_)
              refine lv_iconst (v := iI (1)) hx hb dL_isLine_358 rfl ?_
              refine lv_goto (tgt := 363) hx hb dL_isLine_359 (by decide) ?_
              subst hAe
              refine W.widen (k := 202) (n := 1212) (by omega) (by omega) ?_
              have hres : iI (1) = iI (1) := congrArg iI (by
                  rfl)
              exact W.zret hx hb hr (by decide) (fun t ht hW => ⟨⟨_, zj, rfl, hres, by show va_P D vwCl _ t.heap; rw [ht]; exact hP⟩, hS.F ht⟩) hS.2.2 dL_isLine_363
            · refine lv_iload hx hb dL_isLine_338 (lv_at hl 4 rfl) ?_
              refine my_if_ne (tgt := 362) hx hb (by omega) dL_isLine_340 (by decide) (fun bh12 => (by omega : False).elim) (fun bh12 => ?_)
              refine lv_goto (tgt := 358) hx hb dL_isLine_343 (by decide) ?_
              refine lv_iconst (v := iI (1)) hx hb dL_isLine_358 rfl ?_
              refine lv_goto (tgt := 363) hx hb dL_isLine_359 (by decide) ?_
              subst hAe
              refine W.widen (k := 202) (n := 1212) (by omega) (by omega) ?_
              have hres : iI (1) = iI (1) := congrArg iI (by
                  rfl)
              exact W.zret hx hb hr (by decide) (fun t ht hW => ⟨⟨_, zj, rfl, hres, by show va_P D vwCl _ t.heap; rw [ht]; exact hP⟩, hS.F ht⟩) hS.2.2 dL_isLine_363
          · refine lv_aload_n hx hb dL_isLine_178 rfl (lv_at hl 8 rfl) ?_
            refine lv_iload_n hx hb dL_isLine_179 rfl (lv_at hl 9 rfl) ?_
            refine lv_iload_n hx hb dL_isLine_180 rfl (lv_at hl 10 rfl) ?_
            refine lv_iload hx hb dL_isLine_181 (lv_at hl 0 rfl) ?_
            refine va_calli (vx_runSW (As := [.ref (oa 0), .int (iI (((sn : Nat) : Int))), .int (iI (((tn : Nat) : Int))), .int (iI ((((dy + i) : Nat) : Int)))]) (rest := []) ⟨hx, hb, hml, hown, hts⟩ (m_L_forecast_k l hst D cs oa IA LA sh it dy lc pct lr sr lf lrf srf cr IR LR zj sn tn (((dy + i) : Nat) : Int) (hI) (htn) (hcr) ((by omega))) (vx_cwSW 4 hts (gS w_781 w_782 w_0 w_783) rfl rfl rfl (by decide +kernel) ⟨Nat.le_of_ble_eq_true rfl, Nat.le_of_ble_eq_true rfl⟩) (PE_Sa hK hN hE hS (fun _ h => False.elim h) hP hD) rfl rfl hl.1 rfl (lv_room (Nat.le_of_ble_eq_true rfl)) dL_isLine_183 ⟨by show _ ≤ 202; omega, by show _ ≤ 1212; omega⟩) hS (fun _ _ h => False.elim h) (fun _ h => False.elim h) (fun r u t H locs ht hvm hw hB hz1 hk1 hS => ?_)
            subst hw
            have hP := P_kept hP hk1
            refine my_cv0 (z := thI (llv (LR (sn * 5 + tn))) (lse (LR (sn * 5 + tn))) (dy + i)) (by rw [Int.toNat_natCast]) ?_
            refine lv_istore (lv' := [(15, .int (iI (thI (llv (LR (sn * 5 + tn))) (lse (LR (sn * 5 + tn))) (dy + i)))), (14, .int (iI ((((dy + i) : Nat) : Int)))), (13, .int (iI (1))), (11, .long (lI (fcI (llv (LR (sn * 5 + tn))) (lse (LR (sn * 5 + tn))) dy i))), (10, .int (iI (((dy : Nat) : Int)))), (9, .int (iI (sfI (lef (LR (sn * 5 + tn))) (les (LR (sn * 5 + tn))) pct 0 21))), (8, .int (iI (bwE (lef (LR (sn * 5 + tn))) (sfI (lef (LR (sn * 5 + tn))) (les (LR (sn * 5 + tn))) pct 0 21) 21))), (7, .int (iI (upE (lef (LR (sn * 5 + tn))) (sfI (lef (LR (sn * 5 + tn))) (les (LR (sn * 5 + tn))) pct 0 21) 21))), (6, .int (iI (smI (lef (LR (sn * 5 + tn))) 21))), (0, .ref (oa 0)), (1, .int (iI (((sn : Nat) : Int)))), (2, .int (iI (((tn : Nat) : Int)))), (3, .int (iI ((((lld (LR (sn * 5 + tn))) : Nat) : Int)))), (4, .int (iI (les (LR (sn * 5 + tn))))), (5, .int (iI (ndL dy pct (LR (sn * 5 + tn)))))]) hx hb dL_isLine_186 hl (by decide) rfl (fun ls hl => ?_)
            refine lv_aload_n hx hb dL_isLine_188 rfl (lv_at hl 9 rfl) ?_
            refine lv_iload_n hx hb dL_isLine_189 rfl (lv_at hl 10 rfl) ?_
            refine lv_iload_n hx hb dL_isLine_190 rfl (lv_at hl 11 rfl) ?_
            refine lv_iload hx hb dL_isLine_191 (lv_at hl 1 rfl) ?_
            refine lv_bipush (v := iI (7)) hx hb dL_isLine_193 (by decide) ?_
            refine my_irem hx hb dL_isLine_195 (by omega) rfl ?_
            refine my_cv0 (z := ((((dy + i) % 7) : Nat) : Int)) (by omega) ?_
            refine va_calli (vx_runSW (As := [.ref (oa 0), .int (iI (((sn : Nat) : Int))), .int (iI (((tn : Nat) : Int))), .int (iI (((((dy + i) % 7) : Nat) : Int)))]) (rest := []) ⟨hx, hb, hml, hown, hts⟩ (m_L_season_k l hst D cs oa IA LA sh it dy lc pct lr sr lf lrf srf cr IR LR zj sn tn ((((dy + i) % 7) : Nat) : Int) (hI) (htn) (hcr) ((by omega))) (vx_cwSW 4 hts (gS w_634 w_635 w_0 w_636) rfl rfl rfl (by decide +kernel) ⟨Nat.le_of_ble_eq_true rfl, Nat.le_of_ble_eq_true rfl⟩) (PE_Sa hK hN hE hS (fun _ h => False.elim h) hP hD) rfl rfl hl.1 rfl (lv_room (Nat.le_of_ble_eq_true rfl)) dL_isLine_196 ⟨by show _ ≤ 202; omega, by show _ ≤ 1212; omega⟩) hS (fun _ _ h => False.elim h) (fun _ h => False.elim h) (fun r u t H locs ht hvm hw hB hz1 hk1 hS => ?_)
            subst hw
            have hP := P_kept hP hk1
            refine my_cv0 (z := lse (LR (sn * 5 + tn)) ((dy + i) % 7)) (by rw [Int.toNat_natCast]) ?_
            refine lv_istore (lv' := [(16, .int (iI (lse (LR (sn * 5 + tn)) ((dy + i) % 7)))), (15, .int (iI (thI (llv (LR (sn * 5 + tn))) (lse (LR (sn * 5 + tn))) (dy + i)))), (14, .int (iI ((((dy + i) : Nat) : Int)))), (13, .int (iI (1))), (11, .long (lI (fcI (llv (LR (sn * 5 + tn))) (lse (LR (sn * 5 + tn))) dy i))), (10, .int (iI (((dy : Nat) : Int)))), (9, .int (iI (sfI (lef (LR (sn * 5 + tn))) (les (LR (sn * 5 + tn))) pct 0 21))), (8, .int (iI (bwE (lef (LR (sn * 5 + tn))) (sfI (lef (LR (sn * 5 + tn))) (les (LR (sn * 5 + tn))) pct 0 21) 21))), (7, .int (iI (upE (lef (LR (sn * 5 + tn))) (sfI (lef (LR (sn * 5 + tn))) (les (LR (sn * 5 + tn))) pct 0 21) 21))), (6, .int (iI (smI (lef (LR (sn * 5 + tn))) 21))), (0, .ref (oa 0)), (1, .int (iI (((sn : Nat) : Int)))), (2, .int (iI (((tn : Nat) : Int)))), (3, .int (iI ((((lld (LR (sn * 5 + tn))) : Nat) : Int)))), (4, .int (iI (les (LR (sn * 5 + tn))))), (5, .int (iI (ndL dy pct (LR (sn * 5 + tn)))))]) hx hb dL_isLine_199 hl (by decide) rfl (fun ls hl => ?_)
            refine lv_lload hx hb dL_isLine_201 (lv_at hl 4 rfl) ?_
            refine lv_iload hx hb dL_isLine_203 (lv_at hl 1 rfl) ?_
            refine my_i2l hx hb dL_isLine_205 (by omega) ?_
            refine my_ladd (z := (fcI (llv (LR (sn * 5 + tn))) (lse (LR (sn * 5 + tn))) dy i) + (thI (llv (LR (sn * 5 + tn))) (lse (LR (sn * 5 + tn))) (dy + i))) hx hb dL_isLine_206 (rfl) ?_
            refine lv_lstore (lv' := [(11, .long (lI ((fcI (llv (LR (sn * 5 + tn))) (lse (LR (sn * 5 + tn))) dy i) + (thI (llv (LR (sn * 5 + tn))) (lse (LR (sn * 5 + tn))) (dy + i))))), (16, .int (iI (lse (LR (sn * 5 + tn)) ((dy + i) % 7)))), (15, .int (iI (thI (llv (LR (sn * 5 + tn))) (lse (LR (sn * 5 + tn))) (dy + i)))), (14, .int (iI ((((dy + i) : Nat) : Int)))), (13, .int (iI (1))), (10, .int (iI (((dy : Nat) : Int)))), (9, .int (iI (sfI (lef (LR (sn * 5 + tn))) (les (LR (sn * 5 + tn))) pct 0 21))), (8, .int (iI (bwE (lef (LR (sn * 5 + tn))) (sfI (lef (LR (sn * 5 + tn))) (les (LR (sn * 5 + tn))) pct 0 21) 21))), (7, .int (iI (upE (lef (LR (sn * 5 + tn))) (sfI (lef (LR (sn * 5 + tn))) (les (LR (sn * 5 + tn))) pct 0 21) 21))), (6, .int (iI (smI (lef (LR (sn * 5 + tn))) 21))), (0, .ref (oa 0)), (1, .int (iI (((sn : Nat) : Int)))), (2, .int (iI (((tn : Nat) : Int)))), (3, .int (iI ((((lld (LR (sn * 5 + tn))) : Nat) : Int)))), (4, .int (iI (les (LR (sn * 5 + tn))))), (5, .int (iI (ndL dy pct (LR (sn * 5 + tn)))))]) hx hb dL_isLine_207 hl (by decide) rfl (fun ls hl => ?_)
            refine lv_iload hx hb dL_isLine_209 (lv_at hl 4 rfl) ?_
            refine lv_iload hx hb dL_isLine_211 (lv_at hl 2 rfl) ?_
            refine my_i2l hx hb dL_isLine_213 (by omega) ?_
            refine lv_aload_n hx hb dL_isLine_214 rfl (lv_at hl 10 rfl) ?_
            refine lv_iload_n hx hb dL_isLine_215 rfl (lv_at hl 11 rfl) ?_
            refine lv_iload_n hx hb dL_isLine_216 rfl (lv_at hl 12 rfl) ?_
            refine va_calli (vx_runSW (As := [.ref (oa 0), .int (iI (((sn : Nat) : Int))), .int (iI (((tn : Nat) : Int)))]) (rest := [.long (lI (thI (llv (LR (sn * 5 + tn))) (lse (LR (sn * 5 + tn))) (dy + i))), .int (iI (1))]) ⟨hx, hb, hml, hown, hts⟩ (m_L_level_k l hst D cs oa IA LA sh it dy lc pct lr sr lf lrf srf cr IR LR zj sn tn (hI) (htn) (hcr)) (vx_cwSW 3 hts (gS w_627 w_628 w_0 w_629) rfl rfl rfl (by decide +kernel) ⟨Nat.le_of_ble_eq_true rfl, Nat.le_of_ble_eq_true rfl⟩) (PE_Sa hK hN hE hS (fun _ h => False.elim h) hP hD) rfl rfl hl.1 rfl (lv_room (Nat.le_of_ble_eq_true rfl)) dL_isLine_217 ⟨by show _ ≤ 202; omega, by show _ ≤ 1212; omega⟩) hS (fun _ _ h => False.elim h) (fun _ h => False.elim h) (fun r u t H locs ht hvm hw hB hz1 hk1 hS => ?_)
            subst hw
            have hP := P_kept hP hk1
            refine my_i2l hx hb dL_isLine_220 (by omega) ?_
            refine lv_iload hx hb dL_isLine_221 (lv_at hl 1 rfl) ?_
            refine my_i2l hx hb dL_isLine_223 (by omega) ?_
            refine my_lmul (z := (llv (LR (sn * 5 + tn))) * (lse (LR (sn * 5 + tn)) ((dy + i) % 7))) hx hb dL_isLine_224 (rfl) ?_
            refine lv_ldc2 (v := lI 1000) hx hb hown (hts _ w_790) dL_isLine_225 ?_
            refine my_ldiv hx hb dL_isLine_228 (by omega) rfl ?_
            refine my_lcmp_ne (tgt := 268) hx hb (by omega) dL_isLine_229 dL_isLine_230 (by decide) (fun bh13 => (by omega : False).elim) (fun bh13 => ?_)
            refine lv_iload hx hb dL_isLine_233 (lv_at hl 1 rfl) ?_
            refine lv_bipush (v := iI (100)) hx hb dL_isLine_235 (by decide) ?_
            refine my_icmp_lt (tgt := 268) hx hb (by omega) dL_isLine_237 (by decide) (fun bh14 => (by omega : False).elim) (fun bh14 => ?_)
            refine lv_iload hx hb dL_isLine_240 (lv_at hl 1 rfl) ?_
            refine lv_sipush (v := iI (5000)) hx hb dL_isLine_242 (by decide) ?_
            refine my_icmp_gt (tgt := 268) hx hb (by omega) dL_isLine_245 (by decide) (fun bh15 => (by omega : False).elim) (fun bh15 => ?_)
            refine lv_iload hx hb dL_isLine_248 (lv_at hl 2 rfl) ?_
            refine lv_aload_n hx hb dL_isLine_250 rfl (lv_at hl 10 rfl) ?_
            refine lv_iload_n hx hb dL_isLine_251 rfl (lv_at hl 11 rfl) ?_
            refine lv_iload_n hx hb dL_isLine_252 rfl (lv_at hl 12 rfl) ?_
            refine lv_iload hx hb dL_isLine_253 (lv_at hl 3 rfl) ?_
            refine lv_bipush (v := iI (7)) hx hb dL_isLine_255 (by decide) ?_
            refine my_iadd (z := (((dy + i) : Nat) : Int) + 7) hx hb dL_isLine_257 (rfl) ?_
            refine my_cv0 (z := (((dy + i + 7) : Nat) : Int)) (by omega) ?_
            refine va_calli (vx_runSW (As := [.ref (oa 0), .int (iI (((sn : Nat) : Int))), .int (iI (((tn : Nat) : Int))), .int (iI ((((dy + i + 7) : Nat) : Int)))]) (rest := [.int (iI (thI (llv (LR (sn * 5 + tn))) (lse (LR (sn * 5 + tn))) (dy + i))), .int (iI (1))]) ⟨hx, hb, hml, hown, hts⟩ (m_L_forecast_k l hst D cs oa IA LA sh it dy lc pct lr sr lf lrf srf cr IR LR zj sn tn (((dy + i + 7) : Nat) : Int) (hI) (htn) (hcr) ((by omega))) (vx_cwSW 4 hts (gS w_781 w_782 w_0 w_783) rfl rfl rfl (by decide +kernel) ⟨Nat.le_of_ble_eq_true rfl, Nat.le_of_ble_eq_true rfl⟩) (PE_Sa hK hN hE hS (fun _ h => False.elim h) hP hD) rfl rfl hl.1 rfl (lv_room (Nat.le_of_ble_eq_true rfl)) dL_isLine_258 ⟨by show _ ≤ 202; omega, by show _ ≤ 1212; omega⟩) hS (fun _ _ h => False.elim h) (fun _ h => False.elim h) (fun r u t H locs ht hvm hw hB hz1 hk1 hS => ?_)
            subst hw
            have hP := P_kept hP hk1
            refine my_cv0 (z := thI (llv (LR (sn * 5 + tn))) (lse (LR (sn * 5 + tn))) (dy + i + 7)) (by rw [Int.toNat_natCast]) ?_
            refine my_icmp_ne (tgt := 268) hx hb (by omega) dL_isLine_261 (by decide) (fun bh16 => (by omega : False).elim) (fun bh16 => ?_)
            refine lv_iconst (v := iI (1)) hx hb dL_isLine_264 rfl ?_
            refine lv_goto (tgt := 269) hx hb dL_isLine_265 (by decide) ?_
            refine my_iand11 hx hb dL_isLine_269 ?_
            refine lv_istore (lv' := [(13, .int (iI (1))), (11, .long (lI ((fcI (llv (LR (sn * 5 + tn))) (lse (LR (sn * 5 + tn))) dy i) + (thI (llv (LR (sn * 5 + tn))) (lse (LR (sn * 5 + tn))) (dy + i))))), (16, .int (iI (lse (LR (sn * 5 + tn)) ((dy + i) % 7)))), (15, .int (iI (thI (llv (LR (sn * 5 + tn))) (lse (LR (sn * 5 + tn))) (dy + i)))), (14, .int (iI ((((dy + i) : Nat) : Int)))), (10, .int (iI (((dy : Nat) : Int)))), (9, .int (iI (sfI (lef (LR (sn * 5 + tn))) (les (LR (sn * 5 + tn))) pct 0 21))), (8, .int (iI (bwE (lef (LR (sn * 5 + tn))) (sfI (lef (LR (sn * 5 + tn))) (les (LR (sn * 5 + tn))) pct 0 21) 21))), (7, .int (iI (upE (lef (LR (sn * 5 + tn))) (sfI (lef (LR (sn * 5 + tn))) (les (LR (sn * 5 + tn))) pct 0 21) 21))), (6, .int (iI (smI (lef (LR (sn * 5 + tn))) 21))), (0, .ref (oa 0)), (1, .int (iI (((sn : Nat) : Int)))), (2, .int (iI (((tn : Nat) : Int)))), (3, .int (iI ((((lld (LR (sn * 5 + tn))) : Nat) : Int)))), (4, .int (iI (les (LR (sn * 5 + tn))))), (5, .int (iI (ndL dy pct (LR (sn * 5 + tn)))))]) hx hb dL_isLine_270 hl (by decide) rfl (fun ls hl => ?_)
            refine lv_iinc (v := iI ((((dy + i) : Nat) : Int) + 1)) (lv' := [(14, .int (iI ((((dy + i) : Nat) : Int) + 1))), (13, .int (iI (1))), (11, .long (lI ((fcI (llv (LR (sn * 5 + tn))) (lse (LR (sn * 5 + tn))) dy i) + (thI (llv (LR (sn * 5 + tn))) (lse (LR (sn * 5 + tn))) (dy + i))))), (16, .int (iI (lse (LR (sn * 5 + tn)) ((dy + i) % 7)))), (15, .int (iI (thI (llv (LR (sn * 5 + tn))) (lse (LR (sn * 5 + tn))) (dy + i)))), (10, .int (iI (((dy : Nat) : Int)))), (9, .int (iI (sfI (lef (LR (sn * 5 + tn))) (les (LR (sn * 5 + tn))) pct 0 21))), (8, .int (iI (bwE (lef (LR (sn * 5 + tn))) (sfI (lef (LR (sn * 5 + tn))) (les (LR (sn * 5 + tn))) pct 0 21) 21))), (7, .int (iI (upE (lef (LR (sn * 5 + tn))) (sfI (lef (LR (sn * 5 + tn))) (les (LR (sn * 5 + tn))) pct 0 21) 21))), (6, .int (iI (smI (lef (LR (sn * 5 + tn))) 21))), (0, .ref (oa 0)), (1, .int (iI (((sn : Nat) : Int)))), (2, .int (iI (((tn : Nat) : Int)))), (3, .int (iI ((((lld (LR (sn * 5 + tn))) : Nat) : Int)))), (4, .int (iI (les (LR (sn * 5 + tn))))), (5, .int (iI (ndL dy pct (LR (sn * 5 + tn)))))]) hx hb dL_isLine_272 hl (k := 4) rfl (by rw [show ((((dy + i) : Nat) : Int) + 1 : Int) = (((dy + i) : Nat) : Int) + 1 from rfl]; exact iI_add _ _) (by decide) rfl (fun ls hl => ?_)
            refine lv_goto (tgt := 169) hx hb dL_isLine_275 (by decide) ?_
            have e1 : ((dy + i : Nat) : Int) + 1 = ((dy + (i + 1) : Nat) : Int) := by omega
            have e2 : (fcI (llv (LR (sn * 5 + tn))) (lse (LR (sn * 5 + tn))) dy i) + (thI (llv (LR (sn * 5 + tn))) (lse (LR (sn * 5 + tn))) (dy + i)) = fcI (llv (LR (sn * 5 + tn))) (lse (LR (sn * 5 + tn))) dy (i + 1) := rfl
            rw [e1, e2] at hl
            refine W.widen (k := ((22 + 4 * k) + 15 * (i + 1))) (n := ((132 + 24 * k) + 90 * (i + 1))) (by omega) (by omega) ?_
            exact ih1 (i + 1) (by omega) (by omega) _ _ _ hP hD hS (lv_sub hl [0, 1, 2, 5, 6, 7, 8, 9, 10, 11, 12, 13, 14, 15] rfl)
      · refine lv_aload_n hx hb dL_isLine_106 rfl (lv_at hl 8 rfl) ?_
        refine lv_iload_n hx hb dL_isLine_107 rfl (lv_at hl 9 rfl) ?_
        refine lv_iload_n hx hb dL_isLine_108 rfl (lv_at hl 10 rfl) ?_
        refine lv_iload hx hb dL_isLine_109 (lv_at hl 0 rfl) ?_
        refine va_calli (vx_runSW (As := [.ref (oa 0), .int (iI (((sn : Nat) : Int))), .int (iI (((tn : Nat) : Int))), .int (iI (((k : Nat) : Int)))]) (rest := []) ⟨hx, hb, hml, hown, hts⟩ (m_L_errors_k l hst D cs oa IA LA sh it dy lc pct lr sr lf lrf srf cr IR LR zj sn tn ((k : Nat) : Int) (hI) (htn) (hcr) ((by omega))) (vx_cwSW 4 hts (gS w_769 w_770 w_0 w_771) rfl rfl rfl (by decide +kernel) ⟨Nat.le_of_ble_eq_true rfl, Nat.le_of_ble_eq_true rfl⟩) (PE_Sa hK hN hE hS (fun _ h => False.elim h) hP hD) rfl rfl hl.1 rfl (lv_room (Nat.le_of_ble_eq_true rfl)) dL_isLine_111 ⟨by show _ ≤ 202; omega, by show _ ≤ 1212; omega⟩) hS (fun _ _ h => False.elim h) (fun _ h => False.elim h) (fun r u t H locs ht hvm hw hB hz1 hk1 hS => ?_)
        subst hw
        have hP := P_kept hP hk1
        refine my_cv0 (z := lef (LR (sn * 5 + tn)) k) (by rw [Int.toNat_natCast]) ?_
        refine lv_istore (lv' := [(15, .int (iI (lef (LR (sn * 5 + tn)) k))), (14, .int (iI (((k : Nat) : Int)))), (13, .int (iI (1))), (11, .long (lI (0))), (10, .int (iI (((dy : Nat) : Int)))), (9, .int (iI (sfI (lef (LR (sn * 5 + tn))) (les (LR (sn * 5 + tn))) pct 0 21))), (8, .int (iI (bwE (lef (LR (sn * 5 + tn))) (sfI (lef (LR (sn * 5 + tn))) (les (LR (sn * 5 + tn))) pct 0 21) k))), (7, .int (iI (upE (lef (LR (sn * 5 + tn))) (sfI (lef (LR (sn * 5 + tn))) (les (LR (sn * 5 + tn))) pct 0 21) k))), (6, .int (iI (smI (lef (LR (sn * 5 + tn))) k))), (0, .ref (oa 0)), (1, .int (iI (((sn : Nat) : Int)))), (2, .int (iI (((tn : Nat) : Int)))), (3, .int (iI ((((lld (LR (sn * 5 + tn))) : Nat) : Int)))), (4, .int (iI (les (LR (sn * 5 + tn))))), (5, .int (iI (ndL dy pct (LR (sn * 5 + tn)))))]) hx hb dL_isLine_114 hl (by decide) rfl (fun ls hl => ?_)
        refine lv_iload hx hb dL_isLine_116 (lv_at hl 8 rfl) ?_
        refine lv_iload hx hb dL_isLine_118 (lv_at hl 0 rfl) ?_
        refine my_iadd (z := (smI (lef (LR (sn * 5 + tn))) k) + (lef (LR (sn * 5 + tn)) k)) hx hb dL_isLine_120 (rfl) ?_
        refine lv_istore (lv' := [(6, .int (iI ((smI (lef (LR (sn * 5 + tn))) k) + (lef (LR (sn * 5 + tn)) k)))), (15, .int (iI (lef (LR (sn * 5 + tn)) k))), (14, .int (iI (((k : Nat) : Int)))), (13, .int (iI (1))), (11, .long (lI (0))), (10, .int (iI (((dy : Nat) : Int)))), (9, .int (iI (sfI (lef (LR (sn * 5 + tn))) (les (LR (sn * 5 + tn))) pct 0 21))), (8, .int (iI (bwE (lef (LR (sn * 5 + tn))) (sfI (lef (LR (sn * 5 + tn))) (les (LR (sn * 5 + tn))) pct 0 21) k))), (7, .int (iI (upE (lef (LR (sn * 5 + tn))) (sfI (lef (LR (sn * 5 + tn))) (les (LR (sn * 5 + tn))) pct 0 21) k))), (0, .ref (oa 0)), (1, .int (iI (((sn : Nat) : Int)))), (2, .int (iI (((tn : Nat) : Int)))), (3, .int (iI ((((lld (LR (sn * 5 + tn))) : Nat) : Int)))), (4, .int (iI (les (LR (sn * 5 + tn))))), (5, .int (iI (ndL dy pct (LR (sn * 5 + tn)))))]) hx hb dL_isLine_121 hl (by decide) rfl (fun ls hl => ?_)
        refine lv_iload hx hb dL_isLine_123 (lv_at hl 8 rfl) ?_
        refine lv_iload hx hb dL_isLine_125 (lv_at hl 2 rfl) ?_
        refine lv_iload hx hb dL_isLine_127 (lv_at hl 6 rfl) ?_
        refine my_icmp_gt (tgt := 137) hx hb (by omega) dL_isLine_129 (by decide) (fun bh17 => ?_) (fun bh17 => ?_)
        · refine lv_iconst (v := iI (0)) hx hb dL_isLine_137 rfl ?_
          refine my_iadd (z := upE (lef (LR (sn * 5 + tn))) (sfI (lef (LR (sn * 5 + tn))) (les (LR (sn * 5 + tn))) pct 0 21) k) hx hb dL_isLine_138 (by omega) ?_
          refine lv_istore (lv' := [(7, .int (iI (upE (lef (LR (sn * 5 + tn))) (sfI (lef (LR (sn * 5 + tn))) (les (LR (sn * 5 + tn))) pct 0 21) k))), (6, .int (iI ((smI (lef (LR (sn * 5 + tn))) k) + (lef (LR (sn * 5 + tn)) k)))), (15, .int (iI (lef (LR (sn * 5 + tn)) k))), (14, .int (iI (((k : Nat) : Int)))), (13, .int (iI (1))), (11, .long (lI (0))), (10, .int (iI (((dy : Nat) : Int)))), (9, .int (iI (sfI (lef (LR (sn * 5 + tn))) (les (LR (sn * 5 + tn))) pct 0 21))), (8, .int (iI (bwE (lef (LR (sn * 5 + tn))) (sfI (lef (LR (sn * 5 + tn))) (les (LR (sn * 5 + tn))) pct 0 21) k))), (0, .ref (oa 0)), (1, .int (iI (((sn : Nat) : Int)))), (2, .int (iI (((tn : Nat) : Int)))), (3, .int (iI ((((lld (LR (sn * 5 + tn))) : Nat) : Int)))), (4, .int (iI (les (LR (sn * 5 + tn))))), (5, .int (iI (ndL dy pct (LR (sn * 5 + tn)))))]) hx hb dL_isLine_139 hl (by decide) rfl (fun ls hl => ?_)
          refine lv_iload hx hb dL_isLine_141 (lv_at hl 8 rfl) ?_
          refine lv_iload hx hb dL_isLine_143 (lv_at hl 3 rfl) ?_
          refine lv_iload hx hb dL_isLine_145 (lv_at hl 7 rfl) ?_
          refine my_icmp_ge (tgt := 155) hx hb (by omega) dL_isLine_147 (by decide) (fun bh18 => ?_) (fun bh18 => ?_)
          · refine lv_iconst (v := iI (0)) hx hb dL_isLine_155 rfl ?_
            refine my_iadd (z := bwE (lef (LR (sn * 5 + tn))) (sfI (lef (LR (sn * 5 + tn))) (les (LR (sn * 5 + tn))) pct 0 21) k) hx hb dL_isLine_156 (by omega) ?_
            refine lv_istore (lv' := [(8, .int (iI (bwE (lef (LR (sn * 5 + tn))) (sfI (lef (LR (sn * 5 + tn))) (les (LR (sn * 5 + tn))) pct 0 21) k))), (7, .int (iI (upE (lef (LR (sn * 5 + tn))) (sfI (lef (LR (sn * 5 + tn))) (les (LR (sn * 5 + tn))) pct 0 21) k))), (6, .int (iI ((smI (lef (LR (sn * 5 + tn))) k) + (lef (LR (sn * 5 + tn)) k)))), (15, .int (iI (lef (LR (sn * 5 + tn)) k))), (14, .int (iI (((k : Nat) : Int)))), (13, .int (iI (1))), (11, .long (lI (0))), (10, .int (iI (((dy : Nat) : Int)))), (9, .int (iI (sfI (lef (LR (sn * 5 + tn))) (les (LR (sn * 5 + tn))) pct 0 21))), (0, .ref (oa 0)), (1, .int (iI (((sn : Nat) : Int)))), (2, .int (iI (((tn : Nat) : Int)))), (3, .int (iI ((((lld (LR (sn * 5 + tn))) : Nat) : Int)))), (4, .int (iI (les (LR (sn * 5 + tn))))), (5, .int (iI (ndL dy pct (LR (sn * 5 + tn)))))]) hx hb dL_isLine_157 hl (by decide) rfl (fun ls hl => ?_)
            refine lv_iinc (v := iI (((k : Nat) : Int) + 1)) (lv' := [(14, .int (iI (((k : Nat) : Int) + 1))), (8, .int (iI (bwE (lef (LR (sn * 5 + tn))) (sfI (lef (LR (sn * 5 + tn))) (les (LR (sn * 5 + tn))) pct 0 21) k))), (7, .int (iI (upE (lef (LR (sn * 5 + tn))) (sfI (lef (LR (sn * 5 + tn))) (les (LR (sn * 5 + tn))) pct 0 21) k))), (6, .int (iI ((smI (lef (LR (sn * 5 + tn))) k) + (lef (LR (sn * 5 + tn)) k)))), (15, .int (iI (lef (LR (sn * 5 + tn)) k))), (13, .int (iI (1))), (11, .long (lI (0))), (10, .int (iI (((dy : Nat) : Int)))), (9, .int (iI (sfI (lef (LR (sn * 5 + tn))) (les (LR (sn * 5 + tn))) pct 0 21))), (0, .ref (oa 0)), (1, .int (iI (((sn : Nat) : Int)))), (2, .int (iI (((tn : Nat) : Int)))), (3, .int (iI ((((lld (LR (sn * 5 + tn))) : Nat) : Int)))), (4, .int (iI (les (LR (sn * 5 + tn))))), (5, .int (iI (ndL dy pct (LR (sn * 5 + tn)))))]) hx hb dL_isLine_159 hl (k := 4) rfl (by rw [show (((k : Nat) : Int) + 1 : Int) = ((k : Nat) : Int) + 1 from rfl]; exact iI_add _ _) (by decide) rfl (fun ls hl => ?_)
            refine lv_goto (tgt := 99) hx hb dL_isLine_162 (by decide) ?_
            have e1 : ((k : Nat) : Int) + 1 = ((k + 1 : Nat) : Int) := by omega
            have e2 : (smI (lef (LR (sn * 5 + tn))) k) + (lef (LR (sn * 5 + tn)) k) = smI (lef (LR (sn * 5 + tn))) (k + 1) := rfl
            have e3 : upE (lef (LR (sn * 5 + tn))) (sfI (lef (LR (sn * 5 + tn))) (les (LR (sn * 5 + tn))) pct 0 21) k = upE (lef (LR (sn * 5 + tn))) (sfI (lef (LR (sn * 5 + tn))) (les (LR (sn * 5 + tn))) pct 0 21) (k + 1) := by first | exact upE_1 (by omega) | exact upE_0 (by omega)
            have e4 : bwE (lef (LR (sn * 5 + tn))) (sfI (lef (LR (sn * 5 + tn))) (les (LR (sn * 5 + tn))) pct 0 21) k = bwE (lef (LR (sn * 5 + tn))) (sfI (lef (LR (sn * 5 + tn))) (les (LR (sn * 5 + tn))) pct 0 21) (k + 1) := by first | exact bwE_1 (by omega) | exact bwE_0 (by omega)
            rw [e1, e2, e3, e4] at hl
            refine W.widen (k := (22 + 4 * (k + 1))) (n := (132 + 24 * (k + 1))) (by omega) (by omega) ?_
            exact ih (k + 1) (by omega) (by omega) _ _ _ hP hD hS (lv_sub hl [0, 5, 6, 7, 8, 1, 2, 3, 9, 10, 11, 12, 13, 14] rfl)
          · refine lv_iload hx hb dL_isLine_150 (lv_at hl 2 rfl) ?_
            refine lv_goto (tgt := 156) hx hb dL_isLine_152 (by decide) ?_
            refine my_iadd (z := (bwE (lef (LR (sn * 5 + tn))) (sfI (lef (LR (sn * 5 + tn))) (les (LR (sn * 5 + tn))) pct 0 21) k) + (lef (LR (sn * 5 + tn)) k)) hx hb dL_isLine_156 (rfl) ?_
            refine lv_istore (lv' := [(8, .int (iI ((bwE (lef (LR (sn * 5 + tn))) (sfI (lef (LR (sn * 5 + tn))) (les (LR (sn * 5 + tn))) pct 0 21) k) + (lef (LR (sn * 5 + tn)) k)))), (7, .int (iI (upE (lef (LR (sn * 5 + tn))) (sfI (lef (LR (sn * 5 + tn))) (les (LR (sn * 5 + tn))) pct 0 21) k))), (6, .int (iI ((smI (lef (LR (sn * 5 + tn))) k) + (lef (LR (sn * 5 + tn)) k)))), (15, .int (iI (lef (LR (sn * 5 + tn)) k))), (14, .int (iI (((k : Nat) : Int)))), (13, .int (iI (1))), (11, .long (lI (0))), (10, .int (iI (((dy : Nat) : Int)))), (9, .int (iI (sfI (lef (LR (sn * 5 + tn))) (les (LR (sn * 5 + tn))) pct 0 21))), (0, .ref (oa 0)), (1, .int (iI (((sn : Nat) : Int)))), (2, .int (iI (((tn : Nat) : Int)))), (3, .int (iI ((((lld (LR (sn * 5 + tn))) : Nat) : Int)))), (4, .int (iI (les (LR (sn * 5 + tn))))), (5, .int (iI (ndL dy pct (LR (sn * 5 + tn)))))]) hx hb dL_isLine_157 hl (by decide) rfl (fun ls hl => ?_)
            refine lv_iinc (v := iI (((k : Nat) : Int) + 1)) (lv' := [(14, .int (iI (((k : Nat) : Int) + 1))), (8, .int (iI ((bwE (lef (LR (sn * 5 + tn))) (sfI (lef (LR (sn * 5 + tn))) (les (LR (sn * 5 + tn))) pct 0 21) k) + (lef (LR (sn * 5 + tn)) k)))), (7, .int (iI (upE (lef (LR (sn * 5 + tn))) (sfI (lef (LR (sn * 5 + tn))) (les (LR (sn * 5 + tn))) pct 0 21) k))), (6, .int (iI ((smI (lef (LR (sn * 5 + tn))) k) + (lef (LR (sn * 5 + tn)) k)))), (15, .int (iI (lef (LR (sn * 5 + tn)) k))), (13, .int (iI (1))), (11, .long (lI (0))), (10, .int (iI (((dy : Nat) : Int)))), (9, .int (iI (sfI (lef (LR (sn * 5 + tn))) (les (LR (sn * 5 + tn))) pct 0 21))), (0, .ref (oa 0)), (1, .int (iI (((sn : Nat) : Int)))), (2, .int (iI (((tn : Nat) : Int)))), (3, .int (iI ((((lld (LR (sn * 5 + tn))) : Nat) : Int)))), (4, .int (iI (les (LR (sn * 5 + tn))))), (5, .int (iI (ndL dy pct (LR (sn * 5 + tn)))))]) hx hb dL_isLine_159 hl (k := 4) rfl (by rw [show (((k : Nat) : Int) + 1 : Int) = ((k : Nat) : Int) + 1 from rfl]; exact iI_add _ _) (by decide) rfl (fun ls hl => ?_)
            refine lv_goto (tgt := 99) hx hb dL_isLine_162 (by decide) ?_
            have e1 : ((k : Nat) : Int) + 1 = ((k + 1 : Nat) : Int) := by omega
            have e2 : (smI (lef (LR (sn * 5 + tn))) k) + (lef (LR (sn * 5 + tn)) k) = smI (lef (LR (sn * 5 + tn))) (k + 1) := rfl
            have e3 : upE (lef (LR (sn * 5 + tn))) (sfI (lef (LR (sn * 5 + tn))) (les (LR (sn * 5 + tn))) pct 0 21) k = upE (lef (LR (sn * 5 + tn))) (sfI (lef (LR (sn * 5 + tn))) (les (LR (sn * 5 + tn))) pct 0 21) (k + 1) := by first | exact upE_1 (by omega) | exact upE_0 (by omega)
            have e4 : (bwE (lef (LR (sn * 5 + tn))) (sfI (lef (LR (sn * 5 + tn))) (les (LR (sn * 5 + tn))) pct 0 21) k) + (lef (LR (sn * 5 + tn)) k) = bwE (lef (LR (sn * 5 + tn))) (sfI (lef (LR (sn * 5 + tn))) (les (LR (sn * 5 + tn))) pct 0 21) (k + 1) := by first | exact bwE_1 (by omega) | exact bwE_0 (by omega)
            rw [e1, e2, e3, e4] at hl
            refine W.widen (k := (22 + 4 * (k + 1))) (n := (132 + 24 * (k + 1))) (by omega) (by omega) ?_
            exact ih (k + 1) (by omega) (by omega) _ _ _ hP hD hS (lv_sub hl [0, 5, 6, 7, 8, 1, 2, 3, 9, 10, 11, 12, 13, 14] rfl)
        · refine lv_iload hx hb dL_isLine_132 (lv_at hl 1 rfl) ?_
          refine lv_goto (tgt := 138) hx hb dL_isLine_134 (by decide) ?_
          refine my_iadd (z := (upE (lef (LR (sn * 5 + tn))) (sfI (lef (LR (sn * 5 + tn))) (les (LR (sn * 5 + tn))) pct 0 21) k) + (lef (LR (sn * 5 + tn)) k)) hx hb dL_isLine_138 (rfl) ?_
          refine lv_istore (lv' := [(7, .int (iI ((upE (lef (LR (sn * 5 + tn))) (sfI (lef (LR (sn * 5 + tn))) (les (LR (sn * 5 + tn))) pct 0 21) k) + (lef (LR (sn * 5 + tn)) k)))), (6, .int (iI ((smI (lef (LR (sn * 5 + tn))) k) + (lef (LR (sn * 5 + tn)) k)))), (15, .int (iI (lef (LR (sn * 5 + tn)) k))), (14, .int (iI (((k : Nat) : Int)))), (13, .int (iI (1))), (11, .long (lI (0))), (10, .int (iI (((dy : Nat) : Int)))), (9, .int (iI (sfI (lef (LR (sn * 5 + tn))) (les (LR (sn * 5 + tn))) pct 0 21))), (8, .int (iI (bwE (lef (LR (sn * 5 + tn))) (sfI (lef (LR (sn * 5 + tn))) (les (LR (sn * 5 + tn))) pct 0 21) k))), (0, .ref (oa 0)), (1, .int (iI (((sn : Nat) : Int)))), (2, .int (iI (((tn : Nat) : Int)))), (3, .int (iI ((((lld (LR (sn * 5 + tn))) : Nat) : Int)))), (4, .int (iI (les (LR (sn * 5 + tn))))), (5, .int (iI (ndL dy pct (LR (sn * 5 + tn)))))]) hx hb dL_isLine_139 hl (by decide) rfl (fun ls hl => ?_)
          refine lv_iload hx hb dL_isLine_141 (lv_at hl 8 rfl) ?_
          refine lv_iload hx hb dL_isLine_143 (lv_at hl 3 rfl) ?_
          refine lv_iload hx hb dL_isLine_145 (lv_at hl 7 rfl) ?_
          refine my_icmp_ge (tgt := 155) hx hb (by omega) dL_isLine_147 (by decide) (fun bh19 => ?_) (fun bh19 => ?_)
          · refine lv_iconst (v := iI (0)) hx hb dL_isLine_155 rfl ?_
            refine my_iadd (z := bwE (lef (LR (sn * 5 + tn))) (sfI (lef (LR (sn * 5 + tn))) (les (LR (sn * 5 + tn))) pct 0 21) k) hx hb dL_isLine_156 (by omega) ?_
            refine lv_istore (lv' := [(8, .int (iI (bwE (lef (LR (sn * 5 + tn))) (sfI (lef (LR (sn * 5 + tn))) (les (LR (sn * 5 + tn))) pct 0 21) k))), (7, .int (iI ((upE (lef (LR (sn * 5 + tn))) (sfI (lef (LR (sn * 5 + tn))) (les (LR (sn * 5 + tn))) pct 0 21) k) + (lef (LR (sn * 5 + tn)) k)))), (6, .int (iI ((smI (lef (LR (sn * 5 + tn))) k) + (lef (LR (sn * 5 + tn)) k)))), (15, .int (iI (lef (LR (sn * 5 + tn)) k))), (14, .int (iI (((k : Nat) : Int)))), (13, .int (iI (1))), (11, .long (lI (0))), (10, .int (iI (((dy : Nat) : Int)))), (9, .int (iI (sfI (lef (LR (sn * 5 + tn))) (les (LR (sn * 5 + tn))) pct 0 21))), (0, .ref (oa 0)), (1, .int (iI (((sn : Nat) : Int)))), (2, .int (iI (((tn : Nat) : Int)))), (3, .int (iI ((((lld (LR (sn * 5 + tn))) : Nat) : Int)))), (4, .int (iI (les (LR (sn * 5 + tn))))), (5, .int (iI (ndL dy pct (LR (sn * 5 + tn)))))]) hx hb dL_isLine_157 hl (by decide) rfl (fun ls hl => ?_)
            refine lv_iinc (v := iI (((k : Nat) : Int) + 1)) (lv' := [(14, .int (iI (((k : Nat) : Int) + 1))), (8, .int (iI (bwE (lef (LR (sn * 5 + tn))) (sfI (lef (LR (sn * 5 + tn))) (les (LR (sn * 5 + tn))) pct 0 21) k))), (7, .int (iI ((upE (lef (LR (sn * 5 + tn))) (sfI (lef (LR (sn * 5 + tn))) (les (LR (sn * 5 + tn))) pct 0 21) k) + (lef (LR (sn * 5 + tn)) k)))), (6, .int (iI ((smI (lef (LR (sn * 5 + tn))) k) + (lef (LR (sn * 5 + tn)) k)))), (15, .int (iI (lef (LR (sn * 5 + tn)) k))), (13, .int (iI (1))), (11, .long (lI (0))), (10, .int (iI (((dy : Nat) : Int)))), (9, .int (iI (sfI (lef (LR (sn * 5 + tn))) (les (LR (sn * 5 + tn))) pct 0 21))), (0, .ref (oa 0)), (1, .int (iI (((sn : Nat) : Int)))), (2, .int (iI (((tn : Nat) : Int)))), (3, .int (iI ((((lld (LR (sn * 5 + tn))) : Nat) : Int)))), (4, .int (iI (les (LR (sn * 5 + tn))))), (5, .int (iI (ndL dy pct (LR (sn * 5 + tn)))))]) hx hb dL_isLine_159 hl (k := 4) rfl (by rw [show (((k : Nat) : Int) + 1 : Int) = ((k : Nat) : Int) + 1 from rfl]; exact iI_add _ _) (by decide) rfl (fun ls hl => ?_)
            refine lv_goto (tgt := 99) hx hb dL_isLine_162 (by decide) ?_
            have e1 : ((k : Nat) : Int) + 1 = ((k + 1 : Nat) : Int) := by omega
            have e2 : (smI (lef (LR (sn * 5 + tn))) k) + (lef (LR (sn * 5 + tn)) k) = smI (lef (LR (sn * 5 + tn))) (k + 1) := rfl
            have e3 : (upE (lef (LR (sn * 5 + tn))) (sfI (lef (LR (sn * 5 + tn))) (les (LR (sn * 5 + tn))) pct 0 21) k) + (lef (LR (sn * 5 + tn)) k) = upE (lef (LR (sn * 5 + tn))) (sfI (lef (LR (sn * 5 + tn))) (les (LR (sn * 5 + tn))) pct 0 21) (k + 1) := by first | exact upE_1 (by omega) | exact upE_0 (by omega)
            have e4 : bwE (lef (LR (sn * 5 + tn))) (sfI (lef (LR (sn * 5 + tn))) (les (LR (sn * 5 + tn))) pct 0 21) k = bwE (lef (LR (sn * 5 + tn))) (sfI (lef (LR (sn * 5 + tn))) (les (LR (sn * 5 + tn))) pct 0 21) (k + 1) := by first | exact bwE_1 (by omega) | exact bwE_0 (by omega)
            rw [e1, e2, e3, e4] at hl
            refine W.widen (k := (22 + 4 * (k + 1))) (n := (132 + 24 * (k + 1))) (by omega) (by omega) ?_
            exact ih (k + 1) (by omega) (by omega) _ _ _ hP hD hS (lv_sub hl [0, 5, 6, 7, 8, 1, 2, 3, 9, 10, 11, 12, 13, 14] rfl)
          · refine lv_iload hx hb dL_isLine_150 (lv_at hl 2 rfl) ?_
            refine lv_goto (tgt := 156) hx hb dL_isLine_152 (by decide) ?_
            refine my_iadd (z := (bwE (lef (LR (sn * 5 + tn))) (sfI (lef (LR (sn * 5 + tn))) (les (LR (sn * 5 + tn))) pct 0 21) k) + (lef (LR (sn * 5 + tn)) k)) hx hb dL_isLine_156 (rfl) ?_
            refine lv_istore (lv' := [(8, .int (iI ((bwE (lef (LR (sn * 5 + tn))) (sfI (lef (LR (sn * 5 + tn))) (les (LR (sn * 5 + tn))) pct 0 21) k) + (lef (LR (sn * 5 + tn)) k)))), (7, .int (iI ((upE (lef (LR (sn * 5 + tn))) (sfI (lef (LR (sn * 5 + tn))) (les (LR (sn * 5 + tn))) pct 0 21) k) + (lef (LR (sn * 5 + tn)) k)))), (6, .int (iI ((smI (lef (LR (sn * 5 + tn))) k) + (lef (LR (sn * 5 + tn)) k)))), (15, .int (iI (lef (LR (sn * 5 + tn)) k))), (14, .int (iI (((k : Nat) : Int)))), (13, .int (iI (1))), (11, .long (lI (0))), (10, .int (iI (((dy : Nat) : Int)))), (9, .int (iI (sfI (lef (LR (sn * 5 + tn))) (les (LR (sn * 5 + tn))) pct 0 21))), (0, .ref (oa 0)), (1, .int (iI (((sn : Nat) : Int)))), (2, .int (iI (((tn : Nat) : Int)))), (3, .int (iI ((((lld (LR (sn * 5 + tn))) : Nat) : Int)))), (4, .int (iI (les (LR (sn * 5 + tn))))), (5, .int (iI (ndL dy pct (LR (sn * 5 + tn)))))]) hx hb dL_isLine_157 hl (by decide) rfl (fun ls hl => ?_)
            refine lv_iinc (v := iI (((k : Nat) : Int) + 1)) (lv' := [(14, .int (iI (((k : Nat) : Int) + 1))), (8, .int (iI ((bwE (lef (LR (sn * 5 + tn))) (sfI (lef (LR (sn * 5 + tn))) (les (LR (sn * 5 + tn))) pct 0 21) k) + (lef (LR (sn * 5 + tn)) k)))), (7, .int (iI ((upE (lef (LR (sn * 5 + tn))) (sfI (lef (LR (sn * 5 + tn))) (les (LR (sn * 5 + tn))) pct 0 21) k) + (lef (LR (sn * 5 + tn)) k)))), (6, .int (iI ((smI (lef (LR (sn * 5 + tn))) k) + (lef (LR (sn * 5 + tn)) k)))), (15, .int (iI (lef (LR (sn * 5 + tn)) k))), (13, .int (iI (1))), (11, .long (lI (0))), (10, .int (iI (((dy : Nat) : Int)))), (9, .int (iI (sfI (lef (LR (sn * 5 + tn))) (les (LR (sn * 5 + tn))) pct 0 21))), (0, .ref (oa 0)), (1, .int (iI (((sn : Nat) : Int)))), (2, .int (iI (((tn : Nat) : Int)))), (3, .int (iI ((((lld (LR (sn * 5 + tn))) : Nat) : Int)))), (4, .int (iI (les (LR (sn * 5 + tn))))), (5, .int (iI (ndL dy pct (LR (sn * 5 + tn)))))]) hx hb dL_isLine_159 hl (k := 4) rfl (by rw [show (((k : Nat) : Int) + 1 : Int) = ((k : Nat) : Int) + 1 from rfl]; exact iI_add _ _) (by decide) rfl (fun ls hl => ?_)
            refine lv_goto (tgt := 99) hx hb dL_isLine_162 (by decide) ?_
            have e1 : ((k : Nat) : Int) + 1 = ((k + 1 : Nat) : Int) := by omega
            have e2 : (smI (lef (LR (sn * 5 + tn))) k) + (lef (LR (sn * 5 + tn)) k) = smI (lef (LR (sn * 5 + tn))) (k + 1) := rfl
            have e3 : (upE (lef (LR (sn * 5 + tn))) (sfI (lef (LR (sn * 5 + tn))) (les (LR (sn * 5 + tn))) pct 0 21) k) + (lef (LR (sn * 5 + tn)) k) = upE (lef (LR (sn * 5 + tn))) (sfI (lef (LR (sn * 5 + tn))) (les (LR (sn * 5 + tn))) pct 0 21) (k + 1) := by first | exact upE_1 (by omega) | exact upE_0 (by omega)
            have e4 : (bwE (lef (LR (sn * 5 + tn))) (sfI (lef (LR (sn * 5 + tn))) (les (LR (sn * 5 + tn))) pct 0 21) k) + (lef (LR (sn * 5 + tn)) k) = bwE (lef (LR (sn * 5 + tn))) (sfI (lef (LR (sn * 5 + tn))) (les (LR (sn * 5 + tn))) pct 0 21) (k + 1) := by first | exact bwE_1 (by omega) | exact bwE_0 (by omega)
            rw [e1, e2, e3, e4] at hl
            refine W.widen (k := (22 + 4 * (k + 1))) (n := (132 + 24 * (k + 1))) (by omega) (by omega) ?_
            exact ih (k + 1) (by omega) (by omega) _ _ _ hP hD hS (lv_sub hl [0, 5, 6, 7, 8, 1, 2, 3, 9, 10, 11, 12, 13, 14] rfl)
  refine my_if_le (tgt := 69) hx hb (by omega) dL_isLine_62 (by decide) (fun bh20 => ?_) (fun bh20 => ?_)
  · refine lv_iconst (v := iI (0)) hx hb dL_isLine_69 rfl ?_
    refine lv_aload_n hx hb dL_isLine_70 rfl (lv_at hl 6 rfl) ?_
    refine lv_iload_n hx hb dL_isLine_71 rfl (lv_at hl 7 rfl) ?_
    refine lv_iload_n hx hb dL_isLine_72 rfl (lv_at hl 8 rfl) ?_
    refine va_calli (vx_runSW (As := [.ref (oa 0), .int (iI (((sn : Nat) : Int))), .int (iI (((tn : Nat) : Int)))]) (rest := [.int (iI (0))]) ⟨hx, hb, hml, hown, hts⟩ (m_L_nextArrival_k l hst D cs oa IA LA sh it dy lc pct lr sr lf lrf srf cr IR LR zu2 sn tn (hI) (htn) (hcr)) (vx_cwSW 3 hts (gS w_697 w_698 w_0 w_699) rfl rfl rfl (by decide +kernel) ⟨Nat.le_of_ble_eq_true rfl, Nat.le_of_ble_eq_true rfl⟩) (PE_Sa hK hN hE hS (fun _ h => False.elim h) hP hD) rfl rfl hl.1 rfl (lv_room (Nat.le_of_ble_eq_true rfl)) dL_isLine_73 ⟨Nat.le_of_ble_eq_true rfl, Nat.le_of_ble_eq_true rfl⟩) hS (fun _ _ h => False.elim h) (fun _ h => False.elim h) (fun r u t H locs ht hvm hw hB hz1 hk1 hS => ?_)
    subst hw
    have hP := P_kept hP hk1
    refine lv_iload hx hb dL_isLine_76 (lv_at hl 1 rfl) ?_
    refine my_icmp_le (tgt := 85) hx hb (by omega) dL_isLine_78 (by decide) (fun bh21 => ?_) (fun bh21 => (by omega : False).elim)
    refine lv_iconst (v := iI (0)) hx hb dL_isLine_85 rfl ?_
    refine my_icmp_ne (tgt := 93) hx hb (by omega) dL_isLine_86 (by decide) (fun bh22 => (by omega : False).elim) (fun bh22 => ?_)
    refine lv_iconst (v := iI (1)) hx hb dL_isLine_89 rfl ?_
    refine lv_goto (tgt := 94) hx hb dL_isLine_90 (by decide) ?_
    refine W.widen (k := 22) (n := 132) (by omega) (by omega) ?_
    exact J94 zu2 H _ ls hP hD hS (lv_sub hl [0, 1, 2, 3, 4, 5, 6, 7, 8, 9, 10, 11] rfl)
  · refine lv_iconst (v := iI (1)) hx hb dL_isLine_65 rfl ?_
    refine lv_goto (tgt := 70) hx hb dL_isLine_66 (by decide) ?_
    refine lv_aload_n hx hb dL_isLine_70 rfl (lv_at hl 6 rfl) ?_
    refine lv_iload_n hx hb dL_isLine_71 rfl (lv_at hl 7 rfl) ?_
    refine lv_iload_n hx hb dL_isLine_72 rfl (lv_at hl 8 rfl) ?_
    refine va_calli (vx_runSW (As := [.ref (oa 0), .int (iI (((sn : Nat) : Int))), .int (iI (((tn : Nat) : Int)))]) (rest := [.int (iI (1))]) ⟨hx, hb, hml, hown, hts⟩ (m_L_nextArrival_k l hst D cs oa IA LA sh it dy lc pct lr sr lf lrf srf cr IR LR zu2 sn tn (hI) (htn) (hcr)) (vx_cwSW 3 hts (gS w_697 w_698 w_0 w_699) rfl rfl rfl (by decide +kernel) ⟨Nat.le_of_ble_eq_true rfl, Nat.le_of_ble_eq_true rfl⟩) (PE_Sa hK hN hE hS (fun _ h => False.elim h) hP hD) rfl rfl hl.1 rfl (lv_room (Nat.le_of_ble_eq_true rfl)) dL_isLine_73 ⟨Nat.le_of_ble_eq_true rfl, Nat.le_of_ble_eq_true rfl⟩) hS (fun _ _ h => False.elim h) (fun _ h => False.elim h) (fun r u t H locs ht hvm hw hB hz1 hk1 hS => ?_)
    subst hw
    have hP := P_kept hP hk1
    refine lv_iload hx hb dL_isLine_76 (lv_at hl 1 rfl) ?_
    refine my_icmp_le (tgt := 85) hx hb (by omega) dL_isLine_78 (by decide) (fun bh23 => (by omega : False).elim) (fun bh23 => ?_)
    refine lv_iconst (v := iI (1)) hx hb dL_isLine_81 rfl ?_
    refine lv_goto (tgt := 86) hx hb dL_isLine_82 (by decide) ?_
    refine my_icmp_ne (tgt := 93) hx hb (by omega) dL_isLine_86 (by decide) (fun bh24 => (by omega : False).elim) (fun bh24 => ?_)
    refine lv_iconst (v := iI (1)) hx hb dL_isLine_89 rfl ?_
    refine lv_goto (tgt := 94) hx hb dL_isLine_90 (by decide) ?_
    refine W.widen (k := 22) (n := 132) (by omega) (by omega) ?_
    exact J94 zu2 H _ ls hP hD hS (lv_sub hl [0, 1, 2, 3, 4, 5, 6, 7, 8, 9, 10, 11] rfl)
