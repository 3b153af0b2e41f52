set_option maxHeartbeats 4000000 in
set_option maxRecDepth 100000 in
theorem c_tail {p : Program} {l : Launch} {e : Env} {s : State} {m : MethodId} {args : Array Value} {below : List Frame} {meth : Method} {c : Code} {b L : Nat} {xs : Nat → Int32} {A : Nat → Prop} {D : va_G} {cs : Nat → ClassId} {n : Nat} {H : Heap} {locs : List Loc} {ls : Array Slot} {cells slots c9 s9 : Nat} {Q : State → Prop} {oa : Nat → Nat} {IA LA : Nat → Nat → Nat} {sh it dy : Nat} {lc pct lr sr : Int} {lf lrf srf : Nat → Int} {cr : Nat → Bool} {IR : Nat → IT} {LR : Nat → LT} {z : SC} {ap al ad : Nat} {fp fl fd : Nat → Int} {un sa : Int} {bf tld : Int} (hC : CX p l s m args c b L xs A D cs) (hG : GI (n + 1) sh it dy lc pct lr sr lf lrf srf cr IR LR fp fl fd un sa) (hT : tld < 0 → bf = suS it dy pct cr IR LR sh 6) (htr : -2147483648 ≤ tld ∧ tld < 2147483648) (hP : va_P D vwCl ([(ap, arI cs 2 fp), (ad, arI cs 6 fd), (al, arI cs 3 fl)] ++ (OW cs oa IA LA sh it dy lc pct lr sr lf lrf srf cr IR LR z)) H) (hD : va_D A ([(ap, arI cs 2 fp), (ad, arI cs 6 fd), (al, arI cs 3 fl)] ++ (OW cs oa IA LA sh it dy lc pct lr sr lf lrf srf cr IR LR z))) (hS : va_S A s.heap H locs) (hl : lv_has ls 22 [(0, .ref b), (1, .ref (oa 0)), (2, .ref al), (3, .ref ap), (4, .ref ad), (5, .int (iI (1))), (6, .long (lI (un))), (8, .int (iI ((((7 + 4 * n) : Nat) : Int)))), (9, .int (iI (sa))), (10, .int (iI (((n : Nat) : Int)))), (11, .long (lI (bf))), (17, .int (iI (tld)))]) (hn : n < 110) (hce : cells ≤ 700000) (hsl : slots ≤ 3100000) (hc9 : cells + 1600 ≤ c9) (hs9 : slots + 9700 ≤ s9)
    (K : ∀ (H : Heap) (locs : List Loc) (ls : Array Slot), RS s A D cs b (n + 1) H locs ls → W p l e room_1 s m args below meth c H locs c9 s9 Q (F0 m 191 ls [])) : W p l e room_1 s m args below meth c H locs cells slots Q (F0 m 838 ls []) := by
  obtain ⟨hx, hb, hml, hown, hts, hX, hbl, hK, hN, hE, hL, hst, hA, hbA⟩ := id hC
  obtain ⟨hI, hsi, hfp, hfl, hfd, hdn, hU, hsa, hun⟩ := id hG
  have hI1 := PI_1 hI
  refine lv_iinc (v := iI ((((7 + 4 * n) : Nat) : Int) + 4)) (lv' := [(8, .int (iI ((((7 + 4 * n) : Nat) : Int) + 4))), (0, .ref b), (1, .ref (oa 0)), (2, .ref al), (3, .ref ap), (4, .ref ad), (5, .int (iI (1))), (6, .long (lI (un))), (9, .int (iI (sa))), (10, .int (iI (((n : Nat) : Int)))), (11, .long (lI (bf))), (17, .int (iI (tld)))]) hx hb dL_law_838 hl (k := 7) rfl (by rw [show ((((7 + 4 * n) : Nat) : Int) + 4 : Int) = (((7 + 4 * n) : Nat) : Int) + 4 from rfl]; exact iI_add _ _) (by decide) rfl (fun ls hl => ?_)
  refine lv_iload hx hb dL_law_841 (lv_at hl 6 rfl) ?_
  refine lv_iload hx hb dL_law_843 (lv_at hl 11 rfl) ?_
  refine my_jnH (Z := SC) (D := D) (A := A) (H0 := s.heap) (W1 := fun zj => ([(ap, arI cs 2 fp), (ad, arI cs 6 fd), (al, arI cs 3 fl)] ++ (OW cs oa IA LA sh it dy lc pct lr sr lf lrf srf cr IR LR zj))) (pc2 := 858) (stk := [.int (iI (1))]) (n := 22) (loc := [(8, .int (iI ((((7 + 4 * n) : Nat) : Int) + 4))), (0, .ref b), (1, .ref (oa 0)), (2, .ref al), (3, .ref ap), (4, .ref ad), (5, .int (iI (1))), (6, .long (lI (un))), (9, .int (iI (sa))), (10, .int (iI (((n : Nat) : Int))))]) (c2 := cells + 180) (s2 := slots + 1080) (fun zj H locs ls hP hD hS hl => ?_) (fun J858 => ?_)
  · have hP : va_P D vwCl ([(ap, arI cs 2 fp), (ad, arI cs 6 fd), (al, arI cs 3 fl)] ++ (OW cs oa IA LA sh it dy lc pct lr sr lf lrf srf cr IR LR zj)) H := hP
    have hD : va_D A ([(ap, arI cs 2 fp), (ad, arI cs 6 fd), (al, arI cs 3 fl)] ++ (OW cs oa IA LA sh it dy lc pct lr sr lf lrf srf cr IR LR zj)) := hD
    refine lv_iconst (v := iI (1)) hx hb dL_law_858 rfl ?_
    refine lv_goto (tgt := 863) hx hb dL_law_859 (by decide) ?_
    refine my_iand11 hx hb dL_law_863 ?_
    refine lv_istore (lv' := [(5, .int (iI (1))), (8, .int (iI ((((7 + 4 * n) : Nat) : Int) + 4))), (0, .ref b), (1, .ref (oa 0)), (2, .ref al), (3, .ref ap), (4, .ref ad), (6, .long (lI (un))), (9, .int (iI (sa))), (10, .int (iI (((n : Nat) : Int))))]) hx hb dL_law_864 hl (by decide) rfl (fun ls hl => ?_)
    refine lv_iload hx hb dL_law_866 (lv_at hl 0 rfl) ?_
    refine lv_aload_n hx hb dL_law_868 rfl (lv_at hl 3 rfl) ?_
    refine va_calll (va_runV (As := []) (rest := [.int (iI (1))]) ⟨hx, hb, hml, hown, hts⟩ (m_X5_units_w l D cs oa IA LA sh it dy lc pct lr sr lf lrf srf cr IR LR zj (hI)) (cwV 0 hts (gV w_116 w_117 w_118 w_1 w_119) rfl rfl rfl (by decide +kernel) ⟨Nat.le_of_ble_eq_true rfl, Nat.le_of_ble_eq_true rfl⟩) (PC_Va hK hN (P_R (E := [(ap, arI cs 2 fp), (ad, arI cs 6 fd), (al, arI cs 3 fl)]) (Wc := (OW cs oa IA LA sh it dy lc pct lr sr lf lrf srf cr IR LR zj)) hP) (D_R (E := [(ap, arI cs 2 fp), (ad, arI cs 6 fd), (al, arI cs 3 fl)]) (Wc := (OW cs oa IA LA sh it dy lc pct lr sr lf lrf srf cr IR LR zj)) hD) rfl rfl) rfl rfl hl.1 rfl (lv_room (Nat.le_of_ble_eq_true rfl)) dL_law_869 ⟨rm_c (by omega), rm_s (by omega)⟩) hS (fun _ _ h => False.elim h) (fun _ h => False.elim h) (fun r u t H locs ht hvm hw hB hz1 hk1 hS => ?_)
    subst hw
    have hP := P_kept hP hk1
    refine lv_lload hx hb dL_law_872 (lv_at hl 7 rfl) ?_
    refine lv_iload hx hb dL_law_874 (lv_at hl 8 rfl) ?_
    refine my_i2l hx hb dL_law_876 (by omega) ?_
    refine my_lsub (z := un - sa) hx hb dL_law_877 (rfl) ?_
    refine my_lcmp_ne (tgt := 897) hx hb (by omega) dL_law_878 dL_law_879 (by decide) (fun bh1 => (by omega : False).elim) (fun bh1 => ?_)
    refine lv_aload_n hx hb dL_law_882 rfl (lv_at hl 3 rfl) ?_
    refine lv_aload_n hx hb dL_law_883 rfl (lv_at hl 5 rfl) ?_
    refine lv_aload_n hx hb dL_law_884 rfl (lv_at hl 4 rfl) ?_
    refine lv_aload hx hb dL_law_885 (lv_at hl 6 rfl) ?_
    refine va_calli (va_runS (As := [.ref (oa 0), .ref ap, .ref al, .ref ad]) (rest := [.int (iI (1))]) ⟨hx, hb, hml, hown, hts⟩ (m_L_areLines l hst D cs oa IA LA sh it dy lc pct lr sr lf lrf srf cr IR LR zj ap al ad fp fl fd (hI) (hsi.2) (hsi.1) (hfp) (hfl) (hfd)) (va_cwS 4 hts (gS w_709 w_710 w_0 w_711) rfl rfl rfl (by decide +kernel) ⟨Nat.le_of_ble_eq_true rfl, Nat.le_of_ble_eq_true rfl⟩) (PE_Sa hK hN hE hS (fun q h => inW_suba hD q h) hP hD) rfl rfl hl.1 rfl (lv_room (Nat.le_of_ble_eq_true rfl)) dL_law_887 ⟨rm_c (by omega), rm_s (by omega)⟩) hS (fun q _ h => inW_suba hD q h) (fun q h => inW_suba hD q h) (fun r zu2 t H locs ht hvm hw hB hz1 hk1 hS => ?_)
    subst hw
    rw [ht] at hB
    have hP := hB
    have hD : va_D A ([(ap, arI cs 2 fp), (ad, arI cs 6 fd), (al, arI cs 3 fl)] ++ (OW cs oa IA LA sh it dy lc pct lr sr lf lrf srf cr IR LR zu2)) := D_fst hD (fst_ap rfl OW_fst)
    have hP : va_P D vwCl ([(ap, arI cs 2 fp), (ad, arI cs 6 fd), (al, arI cs 3 fl)] ++ (OW cs oa IA LA sh it dy lc pct lr sr lf lrf srf cr IR LR zu2)) H := hP
    have hD : va_D A ([(ap, arI cs 2 fp), (ad, arI cs 6 fd), (al, arI cs 3 fl)] ++ (OW cs oa IA LA sh it dy lc pct lr sr lf lrf srf cr IR LR zu2)) := hD
    refine my_if_eq (tgt := 897) hx hb (by omega) dL_law_890 (by decide) (fun bh3 => (by omega : False).elim) (fun bh3 => ?_)
    refine lv_iconst (v := iI (1)) hx hb dL_law_893 rfl ?_
    refine lv_goto (tgt := 898) hx hb dL_law_894 (by decide) ?_
    refine my_iand11 hx hb dL_law_898 ?_
    refine lv_istore (lv' := [(5, .int (iI (1))), (8, .int (iI ((((7 + 4 * n) : Nat) : Int) + 4))), (0, .ref b), (1, .ref (oa 0)), (2, .ref al), (3, .ref ap), (4, .ref ad), (6, .long (lI (un))), (9, .int (iI (sa))), (10, .int (iI (((n : Nat) : Int))))]) hx hb dL_law_899 hl (by decide) rfl (fun ls hl => ?_)
    refine lv_iinc (v := iI (((n : Nat) : Int) + 1)) (lv' := [(10, .int (iI (((n : Nat) : Int) + 1))), (5, .int (iI (1))), (8, .int (iI ((((7 + 4 * n) : Nat) : Int) + 4))), (0, .ref b), (1, .ref (oa 0)), (2, .ref al), (3, .ref ap), (4, .ref ad), (6, .long (lI (un))), (9, .int (iI (sa)))]) hx hb dL_law_901 hl (k := 9) rfl (by rw [show (((n : Nat) : Int) + 1 : Int) = ((n : Nat) : Int) + 1 from rfl]; exact iI_add _ _) (by decide) rfl (fun ls hl => ?_)
    refine lv_goto (tgt := 191) hx hb dL_law_904 (by decide) ?_
    have e8 : ((((7 + 4 * n) : Nat) : Int) + 4 : Int) = ((7 + 4 * (n + 1) : Nat) : Int) := by omega
    have e10 : (((n : Nat) : Int) + 1 : Int) = ((n + 1 : Nat) : Int) := by omega
    rw [e8, e10] at hl
    refine W.widen (k := c9) (n := s9) (by omega) (by omega) ?_
    exact K H locs ls (RS_mk hG hP hD hS (lv_sub hl [3, 4, 5, 6, 7, 1, 8, 2, 9, 0] rfl))
  refine my_if_ge (tgt := 858) hx hb (by omega) dL_law_845 (by decide) (fun bh4 => ?_) (fun bh4 => ?_)
  · refine W.widen (k := cells + 180) (n := slots + 1080) (by omega) (by omega) ?_
    exact J858 z H _ ls hP hD hS (lv_sub hl [0, 1, 2, 3, 4, 5, 6, 7, 8, 9] rfl)
  · have hbf := hT (by omega)
    rw [hbf] at hl
    refine lv_aload_n hx hb dL_law_848 rfl (lv_at hl 2 rfl) ?_
    refine va_calll (va_runS (As := [.ref (oa 0)]) (rest := [.int (iI (1))]) ⟨hx, hb, hml, hown, hts⟩ (m_L_sum l hst D cs oa IA LA sh it dy lc pct lr sr lf lrf srf cr IR LR z (hI) (by omega)) (va_cwS 1 hts (gS w_664 w_665 w_0 w_666) rfl rfl rfl (by decide +kernel) ⟨Nat.le_of_ble_eq_true rfl, Nat.le_of_ble_eq_true rfl⟩) (PE_Sa hK hN hE hS (fun q h => inW_suba (D_R (E := [(ap, arI cs 2 fp), (ad, arI cs 6 fd), (al, arI cs 3 fl)]) (Wc := (OW cs oa IA LA sh it dy lc pct lr sr lf lrf srf cr IR LR z)) hD) q h) (P_R (E := [(ap, arI cs 2 fp), (ad, arI cs 6 fd), (al, arI cs 3 fl)]) (Wc := (OW cs oa IA LA sh it dy lc pct lr sr lf lrf srf cr IR LR z)) hP) (D_R (E := [(ap, arI cs 2 fp), (ad, arI cs 6 fd), (al, arI cs 3 fl)]) (Wc := (OW cs oa IA LA sh it dy lc pct lr sr lf lrf srf cr IR LR z)) hD)) rfl rfl hl.1 rfl (lv_room (Nat.le_of_ble_eq_true rfl)) dL_law_849 ⟨rm_c (by omega), rm_s (by omega)⟩) hS (fun q _ h => inW_suba (D_R (E := [(ap, arI cs 2 fp), (ad, arI cs 6 fd), (al, arI cs 3 fl)]) (Wc := (OW cs oa IA LA sh it dy lc pct lr sr lf lrf srf cr IR LR z)) hD) q h) (fun q h => inW_suba (D_R (E := [(ap, arI cs 2 fp), (ad, arI cs 6 fd), (al, arI cs 3 fl)]) (Wc := (OW cs oa IA LA sh it dy lc pct lr sr lf lrf srf cr IR LR z)) hD) q h) (fun r zu5 t H locs ht hvm hw hB hz1 hk1 hS => ?_)
    subst hw
    rw [ht] at hB
    obtain ⟨hP, hD⟩ := my_joinE (E := [(ap, arI cs 2 fp), (ad, arI cs 6 fd), (al, arI cs 3 fl)]) (Wc := (OW cs oa IA LA sh it dy lc pct lr sr lf lrf srf cr IR LR z)) (W2 := (OW cs oa IA LA sh it dy lc pct lr sr lf lrf srf cr IR LR zu5)) hP hD OW_fst hk1 hB
    have hP : va_P D vwCl ([(ap, arI cs 2 fp), (ad, arI cs 6 fd), (al, arI cs 3 fl)] ++ (OW cs oa IA LA sh it dy lc pct lr sr lf lrf srf cr IR LR zu5)) H := hP
    have hD : va_D A ([(ap, arI cs 2 fp), (ad, arI cs 6 fd), (al, arI cs 3 fl)] ++ (OW cs oa IA LA sh it dy lc pct lr sr lf lrf srf cr IR LR zu5)) := hD
    refine lv_lload hx hb dL_law_852 (lv_at hl 10 rfl) ?_
    refine my_lcmp_same (tgt := 862) hx hb dL_law_854 dL_law_855 (by decide) ?_
    refine W.widen (k := cells + 180) (n := slots + 1080) (by omega) (by omega) ?_
    exact J858 zu5 H _ ls hP hD hS (lv_sub hl [0, 1, 2, 3, 4, 5, 6, 7, 8, 9] rfl)

set_option maxHeartbeats 4000000 in
set_option maxRecDepth 100000 in
theorem c_carry {p : Program} {l : Launch} {e : Env} {s : State} {m : MethodId} {args : Array Value} {below : List Frame} {meth : Method} {c : Code} {b L : Nat} {xs : Nat → Int32} {A : Nat → Prop} {D : va_G} {cs : Nat → ClassId} {n : Nat} {H : Heap} {locs : List Loc} {ls : Array Slot} {cells slots c9 s9 : Nat} {Q : State → Prop} {oa : Nat → Nat} {IA LA : Nat → Nat → Nat} {sh it dy : Nat} {lc pct lr sr : Int} {lf lrf srf : Nat → Int} {cr : Nat → Bool} {IR : Nat → IT} {LR : Nat → LT} {z : SC} {ap al ad : Nat} {fp fl fd : Nat → Int} {un sa : Int} {bf sz iz mz : Int} (hC : CX p l s m args c b L xs A D cs) (hG : GI n sh it dy lc pct lr sr lf lrf srf cr IR LR fp fl fd un sa) (hbf : bf = suS it dy pct cr IR LR sh 6) (hsz : 0 ≤ sz ∧ sz ≤ 3) (hiz : 0 ≤ iz ∧ iz ≤ 2) (hmz : 0 ≤ mz ∧ mz ≤ 999) (hP : va_P D vwCl ([(ap, arI cs 2 fp), (ad, arI cs 6 fd), (al, arI cs 3 fl)] ++ (OW cs oa IA LA sh it dy lc pct lr sr lf lrf srf cr IR LR z)) H) (hD : va_D A ([(ap, arI cs 2 fp), (ad, arI cs 6 fd), (al, arI cs 3 fl)] ++ (OW cs oa IA LA sh it dy lc pct lr sr lf lrf srf cr IR LR z))) (hS : va_S A s.heap H locs) (hl : lv_has ls 22 [(0, .ref b), (1, .ref (oa 0)), (2, .ref al), (3, .ref ap), (4, .ref ad), (5, .int (iI (1))), (6, .long (lI (un))), (8, .int (iI ((((7 + 4 * n) : Nat) : Int)))), (9, .int (iI (sa))), (10, .int (iI (((n : Nat) : Int)))), (11, .long (lI (bf))), (14, .int (iI (sz))), (15, .int (iI (iz))), (16, .int (iI (mz))), (17, .int (iI (0)))]) (hn : n < 110) (hce : cells ≤ 600000) (hsl : slots ≤ 3000000) (hc9 : cells + 1900 ≤ c9) (hs9 : slots + 13000 ≤ s9)
    (K : ∀ (H : Heap) (locs : List Loc) (ls : Array Slot), RS s A D cs b (n + 1) H locs ls → W p l e room_1 s m args below meth c H locs c9 s9 Q (F0 m 191 ls [])) : W p l e room_1 s m args below meth c H locs cells slots Q (F0 m 297 ls []) := by
  obtain ⟨hx, hb, hml, hown, hts, hX, hbl, hK, hN, hE, hL, hst, hA, hbA⟩ := id hC
  obtain ⟨hI, hsi, hfp, hfl, hfd, hdn, hU, hsa, hun⟩ := id hG
  have hI1 := PI_1 hI
  by_cases hcd : cdC sh it (lnq cr LA) sz iz (mz % 50) (9 * mz) = 0
  · obtain ⟨sn, tn, e1, e2, hsn, htn, hnc⟩ := cdC_ok hcd
    subst e1
    subst e2
    refine lv_iload hx hb dL_law_297 (lv_at hl 13 rfl) ?_
    refine lv_bipush (v := iI (50)) hx hb dL_law_299 (by decide) ?_
    refine my_irem hx hb dL_law_301 (by omega) rfl ?_
    refine lv_istore (lv' := [(18, .int (iI (mz % 50))), (0, .ref b), (1, .ref (oa 0)), (2, .ref al), (3, .ref ap), (4, .ref ad), (5, .int (iI (1))), (6, .long (lI (un))), (8, .int (iI ((((7 + 4 * n) : Nat) : Int)))), (9, .int (iI (sa))), (10, .int (iI (((n : Nat) : Int)))), (11, .long (lI (bf))), (14, .int (iI (((sn : Nat) : Int)))), (15, .int (iI (((tn : Nat) : Int)))), (16, .int (iI (mz))), (17, .int (iI (0)))]) hx hb dL_law_302 hl (by decide) rfl (fun ls hl => ?_)
    refine lv_aload_n hx hb dL_law_304 rfl (lv_at hl 2 rfl) ?_
    refine lv_iload hx hb dL_law_305 (lv_at hl 12 rfl) ?_
    refine lv_iload hx hb dL_law_307 (lv_at hl 13 rfl) ?_
    refine lv_iload hx hb dL_law_309 (lv_at hl 0 rfl) ?_
    refine lv_bipush (v := iI (9)) hx hb dL_law_311 (by decide) ?_
    refine lv_iload hx hb dL_law_313 (lv_at hl 14 rfl) ?_
    refine my_imul (z := 9 * mz) hx hb dL_law_315 (rfl) ?_
    have hFA := fA_suba (D_R (E := [(ap, arI cs 2 fp), (ad, arI cs 6 fd), (al, arI cs 3 fl)]) (Wc := (OW cs oa IA LA sh it dy lc pct lr sr lf lrf srf cr IR LR z)) hD) hS hA
    refine va_calli (vx_runSW (As := [.ref (oa 0), .int (iI (((sn : Nat) : Int))), .int (iI (((tn : Nat) : Int))), .int (iI (mz % 50)), .int (iI (9 * mz))]) (rest := []) ⟨hx, hb, hml, hown, hts⟩ (m_L_carry_R l hst D cs oa IA LA sh it dy lc pct lr sr lf lrf srf cr IR LR z sn tn (mz % 50) (9 * mz) _ (hI) (hsn) (htn) (hnc) (by omega) (by omega)) (vx_cwSW 5 hts (gS w_269 w_270 w_0 w_271) rfl rfl rfl (by decide +kernel) ⟨Nat.le_of_ble_eq_true rfl, Nat.le_of_ble_eq_true rfl⟩) (PAE_Sa hK hN hE hS hFA (P_R (E := [(ap, arI cs 2 fp), (ad, arI cs 6 fd), (al, arI cs 3 fl)]) (Wc := (OW cs oa IA LA sh it dy lc pct lr sr lf lrf srf cr IR LR z)) hP) (D_R (E := [(ap, arI cs 2 fp), (ad, arI cs 6 fd), (al, arI cs 3 fl)]) (Wc := (OW cs oa IA LA sh it dy lc pct lr sr lf lrf srf cr IR LR z)) hD)) rfl rfl hl.1 rfl (lv_room (Nat.le_of_ble_eq_true rfl)) dL_law_316 ⟨rm_c (by omega), rm_s (by omega)⟩) hS (fun q _ h => hFA q h) hFA (fun r nu1 t H1 locs ht hvm hw hB hz1 hk1 hS => ?_)
    subst hw
    rw [ht] at hB
    obtain ⟨hP, hD⟩ := my_joinAE (E := [(ap, arI cs 2 fp), (ad, arI cs 6 fd), (al, arI cs 3 fl)]) (Wc := (OW cs oa IA LA sh it dy lc pct lr sr lf lrf srf cr IR LR z)) (W2 := (OW cs oa IA (upR LA (sn * 5 + tn) nu1) sh it dy (lc + 1) pct lr sr lf lrf srf (upR cr (sn * 5 + tn) true) IR (upR LR (sn * 5 + tn) (newR (lf sn).toNat dy (mz % 50) (9 * mz))) z)) hP hD hk1 hB hFA
    generalize H1 = H at hP hS ⊢
    have hP : va_P D vwCl ([(ap, arI cs 2 fp), (ad, arI cs 6 fd), (al, arI cs 3 fl)] ++ (OW cs oa IA (upR LA (sn * 5 + tn) nu1) sh it dy (lc + 1) pct lr sr lf lrf srf (upR cr (sn * 5 + tn) true) IR (upR LR (sn * 5 + tn) (newR (lf sn).toNat dy (mz % 50) (9 * mz))) z)) H := hP
    have hD : va_D A ([(ap, arI cs 2 fp), (ad, arI cs 6 fd), (al, arI cs 3 fl)] ++ (OW cs oa IA (upR LA (sn * 5 + tn) nu1) sh it dy (lc + 1) pct lr sr lf lrf srf (upR cr (sn * 5 + tn) true) IR (upR LR (sn * 5 + tn) (newR (lf sn).toNat dy (mz % 50) (9 * mz))) z)) := hD
    have hG2 := GI_carry hG hsn htn hnc (k := mz % 50) (f := 9 * mz) (by omega) (by omega)
    have hI2 := hG2.1
    have hcr2 : (upR cr (sn * 5 + tn) true) (sn * 5 + tn) = true := upR_same
    refine lv_istore (lv' := [(17, .int (iI (lc + 1))), (18, .int (iI (mz % 50))), (0, .ref b), (1, .ref (oa 0)), (2, .ref al), (3, .ref ap), (4, .ref ad), (5, .int (iI (1))), (6, .long (lI (un))), (8, .int (iI ((((7 + 4 * n) : Nat) : Int)))), (9, .int (iI (sa))), (10, .int (iI (((n : Nat) : Int)))), (11, .long (lI (bf))), (14, .int (iI (((sn : Nat) : Int)))), (15, .int (iI (((tn : Nat) : Int)))), (16, .int (iI (mz)))]) hx hb dL_law_319 hl (by decide) rfl (fun ls hl => ?_)
    refine lv_iload hx hb dL_law_321 (lv_at hl 0 rfl) ?_
    refine my_if_le (tgt := 412) hx hb (by omega) dL_law_323 (by decide) (fun bh2 => (by omega : False).elim) (fun bh2 => ?_)
    refine lv_lload hx hb dL_law_326 (lv_at hl 8 rfl) ?_
    refine lv_iload hx hb dL_law_328 (lv_at hl 1 rfl) ?_
    refine my_i2l hx hb dL_law_330 (by omega) ?_
    refine my_ladd (z := un + (mz % 50)) hx hb dL_law_331 (rfl) ?_
    refine lv_lstore (lv' := [(6, .long (lI (un + (mz % 50)))), (17, .int (iI (lc + 1))), (18, .int (iI (mz % 50))), (0, .ref b), (1, .ref (oa 0)), (2, .ref al), (3, .ref ap), (4, .ref ad), (5, .int (iI (1))), (8, .int (iI ((((7 + 4 * n) : Nat) : Int)))), (9, .int (iI (sa))), (10, .int (iI (((n : Nat) : Int)))), (11, .long (lI (bf))), (14, .int (iI (((sn : Nat) : Int)))), (15, .int (iI (((tn : Nat) : Int)))), (16, .int (iI (mz)))]) hx hb dL_law_332 hl (by decide) rfl (fun ls hl => ?_)
    refine lv_aload hx hb dL_law_334 (lv_at hl 7 rfl) ?_
    refine lv_iconst (v := iI (2)) hx hb dL_law_336 rfl ?_
    refine lv_iload hx hb dL_law_337 (lv_at hl 13 rfl) ?_
    refine my_imul (z := 2 * ((sn : Nat) : Int)) hx hb dL_law_339 (rfl) ?_
    refine lv_iload hx hb dL_law_340 (lv_at hl 14 rfl) ?_
    refine my_iadd (z := (2 * ((sn : Nat) : Int)) + ((tn : Nat) : Int)) hx hb dL_law_342 (rfl) ?_
    refine my_cv0 (z := (((2 * sn + tn) : Nat) : Int)) (by omega) ?_
    refine lv_iconst (v := iI (0)) hx hb dL_law_343 rfl ?_
    refine my_iast hx hb hK hP hD hS 1 rfl (by omega) (k := 2 * sn + tn) (Int.toNat_natCast _) dL_law_344 (fun H locs hP hD hS => ?_)
    have hP : va_P D vwCl ([(ap, arI cs 2 fp), (ad, arI cs 6 (upI fd (2 * sn + tn) 0)), (al, arI cs 3 fl)] ++ (OW cs oa IA (upR LA (sn * 5 + tn) nu1) sh it dy (lc + 1) pct lr sr lf lrf srf (upR cr (sn * 5 + tn) true) IR (upR LR (sn * 5 + tn) (newR (lf sn).toNat dy (mz % 50) (9 * mz))) z)) H := hP
    have hD : va_D A ([(ap, arI cs 2 fp), (ad, arI cs 6 (upI fd (2 * sn + tn) 0)), (al, arI cs 3 fl)] ++ (OW cs oa IA (upR LA (sn * 5 + tn) nu1) sh it dy (lc + 1) pct lr sr lf lrf srf (upR cr (sn * 5 + tn) true) IR (upR LR (sn * 5 + tn) (newR (lf sn).toNat dy (mz % 50) (9 * mz))) z)) := hD
    refine lv_aload_n hx hb dL_law_345 rfl (lv_at hl 4 rfl) ?_
    refine lv_iload hx hb dL_law_346 (lv_at hl 13 rfl) ?_
    refine lv_iload hx hb dL_law_348 (lv_at hl 14 rfl) ?_
    refine va_calli (vx_runSW (As := [.ref (oa 0), .int (iI (((sn : Nat) : Int))), .int (iI (((tn : Nat) : Int)))]) (rest := []) ⟨hx, hb, hml, hown, hts⟩ (m_L_carries_k l hst D cs oa IA (upR LA (sn * 5 + tn) nu1) sh it dy (lc + 1) pct lr sr lf lrf srf (upR cr (sn * 5 + tn) true) IR (upR LR (sn * 5 + tn) (newR (lf sn).toNat dy (mz % 50) (9 * mz))) z sn tn (hI2) (hsn) (htn)) (vx_cwSW 3 hts (gS w_390 w_391 w_0 w_392) rfl rfl rfl (by decide +kernel) ⟨Nat.le_of_ble_eq_true rfl, Nat.le_of_ble_eq_true rfl⟩) (PE_Sa hK hN hE hS (fun _ h => False.elim h) (P_R (E := [(ap, arI cs 2 fp), (ad, arI cs 6 (upI fd (2 * sn + tn) 0)), (al, arI cs 3 fl)]) (Wc := (OW cs oa IA (upR LA (sn * 5 + tn) nu1) sh it dy (lc + 1) pct lr sr lf lrf srf (upR cr (sn * 5 + tn) true) IR (upR LR (sn * 5 + tn) (newR (lf sn).toNat dy (mz % 50) (9 * mz))) z)) hP) (D_R (E := [(ap, arI cs 2 fp), (ad, arI cs 6 (upI fd (2 * sn + tn) 0)), (al, arI cs 3 fl)]) (Wc := (OW cs oa IA (upR LA (sn * 5 + tn) nu1) sh it dy (lc + 1) pct lr sr lf lrf srf (upR cr (sn * 5 + tn) true) IR (upR LR (sn * 5 + tn) (newR (lf sn).toNat dy (mz % 50) (9 * mz))) z)) hD)) rfl rfl hl.1 rfl (lv_room (Nat.le_of_ble_eq_true rfl)) dL_law_350 ⟨rm_c (by omega), rm_s (by omega)⟩) hS (fun _ _ h => False.elim h) (fun _ h => False.elim h) (fun r u t H locs ht hvm hw hB hz1 hk1 hS => ?_)
    subst hw
    have hP := P_kept hP hk1
    refine my_cv0 (z := 1) (if_pos hcr2) ?_
    refine lv_iconst (v := iI (1)) hx hb dL_law_353 rfl ?_
    refine my_icmp_ne (tgt := 409) hx hb (by omega) dL_law_354 (by decide) (fun bh3 => (by omega : False).elim) (fun bh3 => ?_)
    refine lv_aload_n hx hb dL_law_357 rfl (lv_at hl 4 rfl) ?_
    refine lv_iload hx hb dL_law_358 (lv_at hl 13 rfl) ?_
    refine lv_iload hx hb dL_law_360 (lv_at hl 14 rfl) ?_
    refine va_calli (vx_runSW (As := [.ref (oa 0), .int (iI (((sn : Nat) : Int))), .int (iI (((tn : Nat) : Int)))]) (rest := []) ⟨hx, hb, hml, hown, hts⟩ (m_L_stock_k l hst D cs oa IA (upR LA (sn * 5 + tn) nu1) sh it dy (lc + 1) pct lr sr lf lrf srf (upR cr (sn * 5 + tn) true) IR (upR LR (sn * 5 + tn) (newR (lf sn).toNat dy (mz % 50) (9 * mz))) z sn tn (hI2) (htn) (hcr2)) (vx_cwSW 3 hts (gS w_643 w_644 w_0 w_645) rfl rfl rfl (by decide +kernel) ⟨Nat.le_of_ble_eq_true rfl, Nat.le_of_ble_eq_true rfl⟩) (PE_Sa hK hN hE hS (fun _ h => False.elim h) (P_R (E := [(ap, arI cs 2 fp), (ad, arI cs 6 (upI fd (2 * sn + tn) 0)), (al, arI cs 3 fl)]) (Wc := (OW cs oa IA (upR LA (sn * 5 + tn) nu1) sh it dy (lc + 1) pct lr sr lf lrf srf (upR cr (sn * 5 + tn) true) IR (upR LR (sn * 5 + tn) (newR (lf sn).toNat dy (mz % 50) (9 * mz))) z)) hP) (D_R (E := [(ap, arI cs 2 fp), (ad, arI cs 6 (upI fd (2 * sn + tn) 0)), (al, arI cs 3 fl)]) (Wc := (OW cs oa IA (upR LA (sn * 5 + tn) nu1) sh it dy (lc + 1) pct lr sr lf lrf srf (upR cr (sn * 5 + tn) true) IR (upR LR (sn * 5 + tn) (newR (lf sn).toNat dy (mz % 50) (9 * mz))) z)) hD)) rfl rfl hl.1 rfl (lv_room (Nat.le_of_ble_eq_true rfl)) dL_law_362 ⟨rm_c (by omega), rm_s (by omega)⟩) hS (fun _ _ h => False.elim h) (fun _ h => False.elim h) (fun r u t H locs ht hvm hw hB hz1 hk1 hS => ?_)
    subst hw
    have hP := P_kept hP hk1
    refine my_cv0 (z := mz % 50) (by rw [upR_same]; rfl) ?_
    refine lv_iload hx hb dL_law_365 (lv_at hl 2 rfl) ?_
    refine my_icmp_ne (tgt := 409) hx hb (by omega) dL_law_367 (by decide) (fun bh4 => (by omega : False).elim) (fun bh4 => ?_)
    refine lv_aload_n hx hb dL_law_370 rfl (lv_at hl 4 rfl) ?_
    refine lv_iload hx hb dL_law_371 (lv_at hl 13 rfl) ?_
    refine lv_iload hx hb dL_law_373 (lv_at hl 14 rfl) ?_
    refine va_calli (vx_runSW (As := [.ref (oa 0), .int (iI (((sn : Nat) : Int))), .int (iI (((tn : Nat) : Int)))]) (rest := []) ⟨hx, hb, hml, hown, hts⟩ (m_L_level_k l hst D cs oa IA (upR LA (sn * 5 + tn) nu1) sh it dy (lc + 1) pct lr sr lf lrf srf (upR cr (sn * 5 + tn) true) IR (upR LR (sn * 5 + tn) (newR (lf sn).toNat dy (mz % 50) (9 * mz))) z sn tn (hI2) (htn) (hcr2)) (vx_cwSW 3 hts (gS w_627 w_628 w_0 w_629) rfl rfl rfl (by decide +kernel) ⟨Nat.le_of_ble_eq_true rfl, Nat.le_of_ble_eq_true rfl⟩) (PE_Sa hK hN hE hS (fun _ h => False.elim h) (P_R (E := [(ap, arI cs 2 fp), (ad, arI cs 6 (upI fd (2 * sn + tn) 0)), (al, arI cs 3 fl)]) (Wc := (OW cs oa IA (upR LA (sn * 5 + tn) nu1) sh it dy (lc + 1) pct lr sr lf lrf srf (upR cr (sn * 5 + tn) true) IR (upR LR (sn * 5 + tn) (newR (lf sn).toNat dy (mz % 50) (9 * mz))) z)) hP) (D_R (E := [(ap, arI cs 2 fp), (ad, arI cs 6 (upI fd (2 * sn + tn) 0)), (al, arI cs 3 fl)]) (Wc := (OW cs oa IA (upR LA (sn * 5 + tn) nu1) sh it dy (lc + 1) pct lr sr lf lrf srf (upR cr (sn * 5 + tn) true) IR (upR LR (sn * 5 + tn) (newR (lf sn).toNat dy (mz % 50) (9 * mz))) z)) hD)) rfl rfl hl.1 rfl (lv_room (Nat.le_of_ble_eq_true rfl)) dL_law_375 ⟨rm_c (by omega), rm_s (by omega)⟩) hS (fun _ _ h => False.elim h) (fun _ h => False.elim h) (fun r u t H locs ht hvm hw hB hz1 hk1 hS => ?_)
    subst hw
    have hP := P_kept hP hk1
    refine my_cv0 (z := 9 * mz) (by rw [upR_same]; rfl) ?_
    refine lv_bipush (v := iI (9)) hx hb dL_law_378 (by decide) ?_
    refine lv_iload hx hb dL_law_380 (lv_at hl 15 rfl) ?_
    refine my_imul (z := 9 * mz) hx hb dL_law_382 (rfl) ?_
    refine my_icmp_ne (tgt := 409) hx hb (by omega) dL_law_383 (by decide) (fun bh5 => (by omega : False).elim) (fun bh5 => ?_)
    refine lv_aload_n hx hb dL_law_386 rfl (lv_at hl 4 rfl) ?_
    refine lv_iload hx hb dL_law_387 (lv_at hl 13 rfl) ?_
    refine lv_iload hx hb dL_law_389 (lv_at hl 14 rfl) ?_
    refine lv_iload hx hb dL_law_391 (lv_at hl 15 rfl) ?_
    refine lv_bipush (v := iI (7)) hx hb dL_law_393 (by decide) ?_
    refine my_irem hx hb dL_law_395 (by omega) rfl ?_
    refine va_calli (vx_runSW (As := [.ref (oa 0), .int (iI (((sn : Nat) : Int))), .int (iI (((tn : Nat) : Int))), .int (iI (mz % 7))]) (rest := []) ⟨hx, hb, hml, hown, hts⟩ (m_L_season_k l hst D cs oa IA (upR LA (sn * 5 + tn) nu1) sh it dy (lc + 1) pct lr sr lf lrf srf (upR cr (sn * 5 + tn) true) IR (upR LR (sn * 5 + tn) (newR (lf sn).toNat dy (mz % 50) (9 * mz))) z sn tn (mz % 7) (hI2) (htn) (hcr2) (by omega)) (vx_cwSW 4 hts (gS w_634 w_635 w_0 w_636) rfl rfl rfl (by decide +kernel) ⟨Nat.le_of_ble_eq_true rfl, Nat.le_of_ble_eq_true rfl⟩) (PE_Sa hK hN hE hS (fun _ h => False.elim h) (P_R (E := [(ap, arI cs 2 fp), (ad, arI cs 6 (upI fd (2 * sn + tn) 0)), (al, arI cs 3 fl)]) (Wc := (OW cs oa IA (upR LA (sn * 5 + tn) nu1) sh it dy (lc + 1) pct lr sr lf lrf srf (upR cr (sn * 5 + tn) true) IR (upR LR (sn * 5 + tn) (newR (lf sn).toNat dy (mz % 50) (9 * mz))) z)) hP) (D_R (E := [(ap, arI cs 2 fp), (ad, arI cs 6 (upI fd (2 * sn + tn) 0)), (al, arI cs 3 fl)]) (Wc := (OW cs oa IA (upR LA (sn * 5 + tn) nu1) sh it dy (lc + 1) pct lr sr lf lrf srf (upR cr (sn * 5 + tn) true) IR (upR LR (sn * 5 + tn) (newR (lf sn).toNat dy (mz % 50) (9 * mz))) z)) hD)) rfl rfl hl.1 rfl (lv_room (Nat.le_of_ble_eq_true rfl)) dL_law_396 ⟨rm_c (by omega), rm_s (by omega)⟩) hS (fun _ _ h => False.elim h) (fun _ h => False.elim h) (fun r u t H locs ht hvm hw hB hz1 hk1 hS => ?_)
    subst hw
    have hP := P_kept hP hk1
    refine my_cv0 (z := 1000) (by rw [upR_same]; rfl) ?_
    refine lv_sipush (v := iI (1000)) hx hb dL_law_399 (by decide) ?_
    refine my_icmp_ne (tgt := 409) hx hb (by omega) dL_law_402 (by decide) (fun bh6 => (by omega : False).elim) (fun bh6 => ?_)
    refine lv_iconst (v := iI (1)) hx hb dL_law_405 rfl ?_
    refine lv_goto (tgt := 410) hx hb dL_law_406 (by decide) ?_
    refine lv_istore (lv' := [(5, .int (iI (1))), (6, .long (lI (un + (mz % 50)))), (17, .int (iI (lc + 1))), (18, .int (iI (mz % 50))), (0, .ref b), (1, .ref (oa 0)), (2, .ref al), (3, .ref ap), (4, .ref ad), (8, .int (iI ((((7 + 4 * n) : Nat) : Int)))), (9, .int (iI (sa))), (10, .int (iI (((n : Nat) : Int)))), (11, .long (lI (bf))), (14, .int (iI (((sn : Nat) : Int)))), (15, .int (iI (((tn : Nat) : Int)))), (16, .int (iI (mz)))]) hx hb dL_law_410 hl (by decide) rfl (fun ls hl => ?_)
    refine lv_goto (tgt := 838) hx hb dL_law_412 (by decide) ?_
    exact c_tail (n := n) hC (hG2) (fun h => absurd h (by omega)) (by omega) hP hD hS (lv_sub hl [4, 5, 6, 7, 8, 0, 1, 9, 10, 11, 12, 2] rfl) (by omega) (by omega) (by omega) (by omega) (by omega) K
  · have hcs := cdC_s sh it (lnq cr LA) sz iz (mz % 50) (9 * mz)
    have hneg : exv (cdC sh it (lnq cr LA) sz iz (mz % 50) (9 * mz)) < 0 := exv_neg (by omega)
    have hxr := exv_rng (cdC sh it (lnq cr LA) sz iz (mz % 50) (9 * mz))
    refine lv_iload hx hb dL_law_297 (lv_at hl 13 rfl) ?_
    refine lv_bipush (v := iI (50)) hx hb dL_law_299 (by decide) ?_
    refine my_irem hx hb dL_law_301 (by omega) rfl ?_
    refine lv_istore (lv' := [(18, .int (iI (mz % 50))), (0, .ref b), (1, .ref (oa 0)), (2, .ref al), (3, .ref ap), (4, .ref ad), (5, .int (iI (1))), (6, .long (lI (un))), (8, .int (iI ((((7 + 4 * n) : Nat) : Int)))), (9, .int (iI (sa))), (10, .int (iI (((n : Nat) : Int)))), (11, .long (lI (bf))), (14, .int (iI (sz))), (15, .int (iI (iz))), (16, .int (iI (mz))), (17, .int (iI (0)))]) hx hb dL_law_302 hl (by decide) rfl (fun ls hl => ?_)
    refine lv_aload_n hx hb dL_law_304 rfl (lv_at hl 2 rfl) ?_
    refine lv_iload hx hb dL_law_305 (lv_at hl 12 rfl) ?_
    refine lv_iload hx hb dL_law_307 (lv_at hl 13 rfl) ?_
    refine lv_iload hx hb dL_law_309 (lv_at hl 0 rfl) ?_
    refine lv_bipush (v := iI (9)) hx hb dL_law_311 (by decide) ?_
    refine lv_iload hx hb dL_law_313 (lv_at hl 14 rfl) ?_
    refine my_imul (z := 9 * mz) hx hb dL_law_315 (rfl) ?_
    refine va_calli (vx_runSW (As := [.ref (oa 0), .int (iI (sz)), .int (iI (iz)), .int (iI (mz % 50)), .int (iI (9 * mz))]) (rest := []) ⟨hx, hb, hml, hown, hts⟩ (m_L_carry_no l hst D cs oa IA LA sh it dy lc pct lr sr lf lrf srf cr IR LR z sz iz (mz % 50) (9 * mz) (hI) (by omega) (by omega) (by omega) (by omega) (hcd)) (vx_cwSW 5 hts (gS w_269 w_270 w_0 w_271) rfl rfl rfl (by decide +kernel) ⟨Nat.le_of_ble_eq_true rfl, Nat.le_of_ble_eq_true rfl⟩) (PE_Sa hK hN hE hS (fun _ h => False.elim h) (P_R (E := [(ap, arI cs 2 fp), (ad, arI cs 6 fd), (al, arI cs 3 fl)]) (Wc := (OW cs oa IA LA sh it dy lc pct lr sr lf lrf srf cr IR LR z)) hP) (D_R (E := [(ap, arI cs 2 fp), (ad, arI cs 6 fd), (al, arI cs 3 fl)]) (Wc := (OW cs oa IA LA sh it dy lc pct lr sr lf lrf srf cr IR LR z)) hD)) rfl rfl hl.1 rfl (lv_room (Nat.le_of_ble_eq_true rfl)) dL_law_316 ⟨rm_c (by omega), rm_s (by omega)⟩) hS (fun _ _ h => False.elim h) (fun _ h => False.elim h) (fun r u t H locs ht hvm hw hB hz1 hk1 hS => ?_)
    subst hw
    have hP := P_kept hP hk1
    refine lv_istore (lv' := [(17, .int (iI (exv (cdC sh it (lnq cr LA) sz iz (mz % 50) (9 * mz))))), (18, .int (iI (mz % 50))), (0, .ref b), (1, .ref (oa 0)), (2, .ref al), (3, .ref ap), (4, .ref ad), (5, .int (iI (1))), (6, .long (lI (un))), (8, .int (iI ((((7 + 4 * n) : Nat) : Int)))), (9, .int (iI (sa))), (10, .int (iI (((n : Nat) : Int)))), (11, .long (lI (bf))), (14, .int (iI (sz))), (15, .int (iI (iz))), (16, .int (iI (mz)))]) hx hb dL_law_319 hl (by decide) rfl (fun ls hl => ?_)
    refine lv_iload hx hb dL_law_321 (lv_at hl 0 rfl) ?_
    refine my_if_le (tgt := 412) hx hb (by omega) dL_law_323 (by decide) (fun bh7 => ?_) (fun bh7 => (by omega : False).elim)
    refine lv_goto (tgt := 838) hx hb dL_law_412 (by decide) ?_
    exact c_tail (n := n) hC (GI_same hG) (fun _ => hbf) (by omega) hP hD hS (lv_sub hl [2, 3, 4, 5, 6, 7, 8, 9, 10, 11, 12, 0] rfl) (by omega) (by omega) (by omega) (by omega) (by omega) K

set_option maxHeartbeats 4000000 in
set_option maxRecDepth 100000 in
theorem c_supply {p : Program} {l : Launch} {e : Env} {s : State} {m : MethodId} {args : Array Value} {below : List Frame} {meth : Method} {c : Code} {b L : Nat} {xs : Nat → Int32} {A : Nat → Prop} {D : va_G} {cs : Nat → ClassId} {n : Nat} {H : Heap} {locs : List Loc} {ls : Array Slot} {cells slots c9 s9 : Nat} {Q : State → Prop} {oa : Nat → Nat} {IA LA : Nat → Nat → Nat} {sh it dy : Nat} {lc pct lr sr : Int} {lf lrf srf : Nat → Int} {cr : Nat → Bool} {IR : Nat → IT} {LR : Nat → LT} {z : SC} {ap al ad : Nat} {fp fl fd : Nat → Int} {un sa : Int} {bf sz iz mz : Int} (hC : CX p l s m args c b L xs A D cs) (hG : GI n sh it dy lc pct lr sr lf lrf srf cr IR LR fp fl fd un sa) (hbf : bf = suS it dy pct cr IR LR sh 6) (hsz : 0 ≤ sz ∧ sz ≤ 3) (hiz : 0 ≤ iz ∧ iz ≤ 2) (hmz : 0 ≤ mz ∧ mz ≤ 999) (hP : va_P D vwCl ([(ap, arI cs 2 fp), (ad, arI cs 6 fd), (al, arI cs 3 fl)] ++ (OW cs oa IA LA sh it dy lc pct lr sr lf lrf srf cr IR LR z)) H) (hD : va_D A ([(ap, arI cs 2 fp), (ad, arI cs 6 fd), (al, arI cs 3 fl)] ++ (OW cs oa IA LA sh it dy lc pct lr sr lf lrf srf cr IR LR z))) (hS : va_S A s.heap H locs) (hl : lv_has ls 22 [(0, .ref b), (1, .ref (oa 0)), (2, .ref al), (3, .ref ap), (4, .ref ad), (5, .int (iI (1))), (6, .long (lI (un))), (8, .int (iI ((((7 + 4 * n) : Nat) : Int)))), (9, .int (iI (sa))), (10, .int (iI (((n : Nat) : Int)))), (11, .long (lI (bf))), (14, .int (iI (sz))), (15, .int (iI (iz))), (16, .int (iI (mz))), (17, .int (iI (0)))]) (hn : n < 110) (hce : cells ≤ 600000) (hsl : slots ≤ 3000000) (hc9 : cells + 1900 ≤ c9) (hs9 : slots + 13000 ≤ s9)
    (K : ∀ (H : Heap) (locs : List Loc) (ls : Array Slot), RS s A D cs b (n + 1) H locs ls → W p l e room_1 s m args below meth c H locs c9 s9 Q (F0 m 191 ls [])) : W p l e room_1 s m args below meth c H locs cells slots Q (F0 m 422 ls []) := by
  obtain ⟨hx, hb, hml, hown, hts, hX, hbl, hK, hN, hE, hL, hst, hA, hbA⟩ := id hC
  obtain ⟨hI, hsi, hfp, hfl, hfd, hdn, hU, hsa, hun⟩ := id hG
  have hI1 := PI_1 hI
  by_cases hcd : cdS it iz = 0
  · have hcs := cdS_s it iz
    obtain ⟨tn, e2⟩ : ∃ tn : Nat, iz = ((tn : Nat) : Int) := ⟨iz.toNat, by omega⟩
    subst e2
    have htn : tn < it := by omega
    have hst9 := (PI_iOK hI tn).2
    by_cases hz : (if mz % 60 < 1 ∨ 9999 < mz % 60 then 3 else if 99999 < ist (IR tn) + mz % 60 then 4 else 0) = 0
    · have hw1 : ¬ (mz % 60 < 1 ∨ 9999 < mz % 60) := fun q => by rw [if_pos q] at hz; omega
      have hw2 : ¬ 99999 < ist (IR tn) + mz % 60 := fun q => by rw [if_neg hw1, if_pos q] at hz; omega
      have hG2 := GI_supply hG htn (u := mz % 60) (by omega) (by omega)
      have hI2 := hG2.1
      refine lv_aload_n hx hb dL_law_422 rfl (lv_at hl 1 rfl) ?_
      refine lv_iload hx hb dL_law_423 (lv_at hl 12 rfl) ?_
      refine lv_iload hx hb dL_law_425 (lv_at hl 13 rfl) ?_
      refine lv_bipush (v := iI (60)) hx hb dL_law_427 (by decide) ?_
      refine my_irem hx hb dL_law_429 (by omega) rfl ?_
      refine va_calli (vx_runSW (As := [.ref (oa 0), .int (iI (((tn : Nat) : Int))), .int (iI (mz % 60))]) (rest := []) ⟨hx, hb, hml, hown, hts⟩ (m_L_supply_R l hst D cs oa IA LA sh it dy lc pct lr sr lf lrf srf cr IR LR z tn (mz % 60) (hI) (htn) (by omega) (hz)) (vx_cwSW 3 hts (gS w_401 w_402 w_0 w_403) rfl rfl rfl (by decide +kernel) ⟨Nat.le_of_ble_eq_true rfl, Nat.le_of_ble_eq_true rfl⟩) (PE_Sa hK hN hE hS (fun q h => inW_suba (D_R (E := [(ap, arI cs 2 fp), (ad, arI cs 6 fd), (al, arI cs 3 fl)]) (Wc := (OW cs oa IA LA sh it dy lc pct lr sr lf lrf srf cr IR LR z)) hD) q h) (P_R (E := [(ap, arI cs 2 fp), (ad, arI cs 6 fd), (al, arI cs 3 fl)]) (Wc := (OW cs oa IA LA sh it dy lc pct lr sr lf lrf srf cr IR LR z)) hP) (D_R (E := [(ap, arI cs 2 fp), (ad, arI cs 6 fd), (al, arI cs 3 fl)]) (Wc := (OW cs oa IA LA sh it dy lc pct lr sr lf lrf srf cr IR LR z)) hD)) rfl rfl hl.1 rfl (lv_room (Nat.le_of_ble_eq_true rfl)) dL_law_430 ⟨rm_c (by omega), rm_s (by omega)⟩) hS (fun q _ h => inW_suba (D_R (E := [(ap, arI cs 2 fp), (ad, arI cs 6 fd), (al, arI cs 3 fl)]) (Wc := (OW cs oa IA LA sh it dy lc pct lr sr lf lrf srf cr IR LR z)) hD) q h) (fun q h => inW_suba (D_R (E := [(ap, arI cs 2 fp), (ad, arI cs 6 fd), (al, arI cs 3 fl)]) (Wc := (OW cs oa IA LA sh it dy lc pct lr sr lf lrf srf cr IR LR z)) hD) q h) (fun r u t H locs ht hvm hw hB hz1 hk1 hS => ?_)
      subst hw
      rw [ht] at hB
      obtain ⟨hP, hD⟩ := my_joinE (E := [(ap, arI cs 2 fp), (ad, arI cs 6 fd), (al, arI cs 3 fl)]) (Wc := (OW cs oa IA LA sh it dy lc pct lr sr lf lrf srf cr IR LR z)) (W2 := (OW cs oa IA LA sh it dy lc pct lr sr lf lrf srf cr (upR IR tn (imk (ipk (IR tn)) (ifs (IR tn)) (ist (IR tn) + (mz % 60)) (upI (iti (IR tn)) dy (iti (IR tn) dy + (mz % 60))) (igo (IR tn)) (ipr (IR tn)))) LR z)) hP hD OW_fst hk1 hB
      have hP : va_P D vwCl ([(ap, arI cs 2 fp), (ad, arI cs 6 fd), (al, arI cs 3 fl)] ++ (OW cs oa IA LA sh it dy lc pct lr sr lf lrf srf cr (upR IR tn (imk (ipk (IR tn)) (ifs (IR tn)) (ist (IR tn) + (mz % 60)) (upI (iti (IR tn)) dy (iti (IR tn) dy + (mz % 60))) (igo (IR tn)) (ipr (IR tn)))) LR z)) H := hP
      have hD : va_D A ([(ap, arI cs 2 fp), (ad, arI cs 6 fd), (al, arI cs 3 fl)] ++ (OW cs oa IA LA sh it dy lc pct lr sr lf lrf srf cr (upR IR tn (imk (ipk (IR tn)) (ifs (IR tn)) (ist (IR tn) + (mz % 60)) (upI (iti (IR tn)) dy (iti (IR tn) dy + (mz % 60))) (igo (IR tn)) (ipr (IR tn)))) LR z)) := hD
      refine lv_istore (lv' := [(17, .int (iI (ist (IR tn) + (mz % 60)))), (0, .ref b), (1, .ref (oa 0)), (2, .ref al), (3, .ref ap), (4, .ref ad), (5, .int (iI (1))), (6, .long (lI (un))), (8, .int (iI ((((7 + 4 * n) : Nat) : Int)))), (9, .int (iI (sa))), (10, .int (iI (((n : Nat) : Int)))), (11, .long (lI (bf))), (14, .int (iI (sz))), (15, .int (iI (((tn : Nat) : Int)))), (16, .int (iI (mz)))]) hx hb dL_law_433 hl (by decide) rfl (fun ls hl => ?_)
      refine lv_lload hx hb dL_law_435 (lv_at hl 7 rfl) ?_
      refine lv_iload hx hb dL_law_437 (lv_at hl 0 rfl) ?_
      refine my_if_ge (tgt := 446) hx hb (by omega) dL_law_439 (by decide) (fun bh1 => ?_) (fun bh1 => (by omega : False).elim)
      refine lv_iload hx hb dL_law_446 (lv_at hl 14 rfl) ?_
      refine lv_bipush (v := iI (60)) hx hb dL_law_448 (by decide) ?_
      refine my_irem hx hb dL_law_450 (by omega) rfl ?_
      refine my_i2l hx hb dL_law_451 (by omega) ?_
      refine my_ladd (z := un + (mz % 60)) hx hb dL_law_452 (rfl) ?_
      refine lv_lstore (lv' := [(6, .long (lI (un + (mz % 60)))), (17, .int (iI (ist (IR tn) + (mz % 60)))), (0, .ref b), (1, .ref (oa 0)), (2, .ref al), (3, .ref ap), (4, .ref ad), (5, .int (iI (1))), (8, .int (iI ((((7 + 4 * n) : Nat) : Int)))), (9, .int (iI (sa))), (10, .int (iI (((n : Nat) : Int)))), (11, .long (lI (bf))), (14, .int (iI (sz))), (15, .int (iI (((tn : Nat) : Int)))), (16, .int (iI (mz)))]) hx hb dL_law_453 hl (by decide) rfl (fun ls hl => ?_)
      refine lv_iload hx hb dL_law_455 (lv_at hl 1 rfl) ?_
      refine my_if_lt (tgt := 471) hx hb (by omega) dL_law_457 (by decide) (fun bh2 => (by omega : False).elim) (fun bh2 => ?_)
      refine lv_iload hx hb dL_law_460 (lv_at hl 1 rfl) ?_
      refine lv_aload_n hx hb dL_law_462 rfl (lv_at hl 3 rfl) ?_
      refine lv_iload hx hb dL_law_463 (lv_at hl 13 rfl) ?_
      refine va_calli (vx_runSW (As := [.ref (oa 0), .int (iI (((tn : Nat) : Int)))]) (rest := [.int (iI (ist (IR tn) + (mz % 60)))]) ⟨hx, hb, hml, hown, hts⟩ (m_L_centre_k l hst D cs oa IA LA sh it dy lc pct lr sr lf lrf srf cr (upR IR tn (imk (ipk (IR tn)) (ifs (IR tn)) (ist (IR tn) + (mz % 60)) (upI (iti (IR tn)) dy (iti (IR tn) dy + (mz % 60))) (igo (IR tn)) (ipr (IR tn)))) LR z tn (hI2) (htn)) (vx_cwSW 2 hts (gS w_650 w_651 w_0 w_652) rfl rfl rfl (by decide +kernel) ⟨Nat.le_of_ble_eq_true rfl, Nat.le_of_ble_eq_true rfl⟩) (PE_Sa hK hN hE hS (fun _ h => False.elim h) (P_R (E := [(ap, arI cs 2 fp), (ad, arI cs 6 fd), (al, arI cs 3 fl)]) (Wc := (OW cs oa IA LA sh it dy lc pct lr sr lf lrf srf cr (upR IR tn (imk (ipk (IR tn)) (ifs (IR tn)) (ist (IR tn) + (mz % 60)) (upI (iti (IR tn)) dy (iti (IR tn) dy + (mz % 60))) (igo (IR tn)) (ipr (IR tn)))) LR z)) hP) (D_R (E := [(ap, arI cs 2 fp), (ad, arI cs 6 fd), (al, arI cs 3 fl)]) (Wc := (OW cs oa IA LA sh it dy lc pct lr sr lf lrf srf cr (upR IR tn (imk (ipk (IR tn)) (ifs (IR tn)) (ist (IR tn) + (mz % 60)) (upI (iti (IR tn)) dy (iti (IR tn) dy + (mz % 60))) (igo (IR tn)) (ipr (IR tn)))) LR z)) hD)) rfl rfl hl.1 rfl (lv_room (Nat.le_of_ble_eq_true rfl)) dL_law_465 ⟨rm_c (by omega), rm_s (by omega)⟩) hS (fun _ _ h => False.elim h) (fun _ h => False.elim h) (fun r u t H locs ht hvm hw hB hz1 hk1 hS => ?_)
      subst hw
      have hP := P_kept hP hk1
      refine my_cv0 (z := ist (IR tn) + mz % 60) (by rw [upR_same]; rfl) ?_
      refine my_icmp_ne (tgt := 475) hx hb (by omega) dL_law_468 (by decide) (fun bh3 => (by omega : False).elim) (fun bh3 => ?_)
      refine lv_iconst (v := iI (1)) hx hb dL_law_471 rfl ?_
      refine lv_goto (tgt := 476) hx hb dL_law_472 (by decide) ?_
      refine lv_istore (lv' := [(5, .int (iI (1))), (6, .long (lI (un + (mz % 60)))), (17, .int (iI (ist (IR tn) + (mz % 60)))), (0, .ref b), (1, .ref (oa 0)), (2, .ref al), (3, .ref ap), (4, .ref ad), (8, .int (iI ((((7 + 4 * n) : Nat) : Int)))), (9, .int (iI (sa))), (10, .int (iI (((n : Nat) : Int)))), (11, .long (lI (bf))), (14, .int (iI (sz))), (15, .int (iI (((tn : Nat) : Int)))), (16, .int (iI (mz)))]) hx hb dL_law_476 hl (by decide) rfl (fun ls hl => ?_)
      refine lv_goto (tgt := 838) hx hb dL_law_478 (by decide) ?_
      exact c_tail (n := n) hC (hG2) (fun h => absurd h (by omega)) (by omega) hP hD hS (lv_sub hl [3, 4, 5, 6, 7, 0, 1, 8, 9, 10, 11, 2] rfl) (by omega) (by omega) (by omega) (by omega) (by omega) K
    · have hE9 : (if mz % 60 < 1 ∨ 9999 < mz % 60 then 3 else if 99999 < ist (IR tn) + mz % 60 then 4 else 0) ≠ 0 ∧ (if mz % 60 < 1 ∨ 9999 < mz % 60 then 3 else if 99999 < ist (IR tn) + mz % 60 then 4 else 0) ≤ 5 := ⟨hz, by split <;> (try split) <;> omega⟩
      have hneg := exv_neg hE9
      have hxr := exv_rng (if mz % 60 < 1 ∨ 9999 < mz % 60 then 3 else if 99999 < ist (IR tn) + mz % 60 then 4 else 0)
      refine lv_aload_n hx hb dL_law_422 rfl (lv_at hl 1 rfl) ?_
      refine lv_iload hx hb dL_law_423 (lv_at hl 12 rfl) ?_
      refine lv_iload hx hb dL_law_425 (lv_at hl 13 rfl) ?_
      refine lv_bipush (v := iI (60)) hx hb dL_law_427 (by decide) ?_
      refine my_irem hx hb dL_law_429 (by omega) rfl ?_
      refine va_calli (vx_runSW (As := [.ref (oa 0), .int (iI (((tn : Nat) : Int))), .int (iI (mz % 60))]) (rest := []) ⟨hx, hb, hml, hown, hts⟩ (m_L_supply_T l hst D cs oa IA LA sh it dy lc pct lr sr lf lrf srf cr IR LR z tn (mz % 60) (hI) (htn) (by omega) (hz)) (vx_cwSW 3 hts (gS w_401 w_402 w_0 w_403) rfl rfl rfl (by decide +kernel) ⟨Nat.le_of_ble_eq_true rfl, Nat.le_of_ble_eq_true rfl⟩) (PE_Sa hK hN hE hS (fun q h => inW_suba (D_R (E := [(ap, arI cs 2 fp), (ad, arI cs 6 fd), (al, arI cs 3 fl)]) (Wc := (OW cs oa IA LA sh it dy lc pct lr sr lf lrf srf cr IR LR z)) hD) q h) (P_R (E := [(ap, arI cs 2 fp), (ad, arI cs 6 fd), (al, arI cs 3 fl)]) (Wc := (OW cs oa IA LA sh it dy lc pct lr sr lf lrf srf cr IR LR z)) hP) (D_R (E := [(ap, arI cs 2 fp), (ad, arI cs 6 fd), (al, arI cs 3 fl)]) (Wc := (OW cs oa IA LA sh it dy lc pct lr sr lf lrf srf cr IR LR z)) hD)) rfl rfl hl.1 rfl (lv_room (Nat.le_of_ble_eq_true rfl)) dL_law_430 ⟨rm_c (by omega), rm_s (by omega)⟩) hS (fun q _ h => inW_suba (D_R (E := [(ap, arI cs 2 fp), (ad, arI cs 6 fd), (al, arI cs 3 fl)]) (Wc := (OW cs oa IA LA sh it dy lc pct lr sr lf lrf srf cr IR LR z)) hD) q h) (fun q h => inW_suba (D_R (E := [(ap, arI cs 2 fp), (ad, arI cs 6 fd), (al, arI cs 3 fl)]) (Wc := (OW cs oa IA LA sh it dy lc pct lr sr lf lrf srf cr IR LR z)) hD) q h) (fun r u t H locs ht hvm hw hB hz1 hk1 hS => ?_)
      subst hw
      rw [ht] at hB
      obtain ⟨hP, hD⟩ := my_joinE (E := [(ap, arI cs 2 fp), (ad, arI cs 6 fd), (al, arI cs 3 fl)]) (Wc := (OW cs oa IA LA sh it dy lc pct lr sr lf lrf srf cr IR LR z)) (W2 := (OW cs oa IA LA sh it dy lc pct lr sr lf lrf srf cr IR LR z)) hP hD OW_fst hk1 hB
      have hP : va_P D vwCl ([(ap, arI cs 2 fp), (ad, arI cs 6 fd), (al, arI cs 3 fl)] ++ (OW cs oa IA LA sh it dy lc pct lr sr lf lrf srf cr IR LR z)) H := hP
      have hD : va_D A ([(ap, arI cs 2 fp), (ad, arI cs 6 fd), (al, arI cs 3 fl)] ++ (OW cs oa IA LA sh it dy lc pct lr sr lf lrf srf cr IR LR z)) := hD
      refine lv_istore (lv' := [(17, .int (iI (exv (if (mz % 60) < 1 ∨ 9999 < (mz % 60) then 3 else if 99999 < ist (IR tn) + (mz % 60) then 4 else 0)))), (0, .ref b), (1, .ref (oa 0)), (2, .ref al), (3, .ref ap), (4, .ref ad), (5, .int (iI (1))), (6, .long (lI (un))), (8, .int (iI ((((7 + 4 * n) : Nat) : Int)))), (9, .int (iI (sa))), (10, .int (iI (((n : Nat) : Int)))), (11, .long (lI (bf))), (14, .int (iI (sz))), (15, .int (iI (((tn : Nat) : Int)))), (16, .int (iI (mz)))]) hx hb dL_law_433 hl (by decide) rfl (fun ls hl => ?_)
      refine lv_lload hx hb dL_law_435 (lv_at hl 7 rfl) ?_
      refine lv_iload hx hb dL_law_437 (lv_at hl 0 rfl) ?_
      refine my_if_ge (tgt := 446) hx hb (by omega) dL_law_439 (by decide) (fun bh4 => (by omega : False).elim) (fun bh4 => ?_)
      refine lv_lconst (v := lI 0) hx hb dL_law_442 (by decide) ?_
      refine lv_goto (tgt := 452) hx hb dL_law_443 (by decide) ?_
      refine my_ladd (z := un) hx hb dL_law_452 (by omega) ?_
      refine lv_lstore (lv' := [(6, .long (lI (un))), (17, .int (iI (exv (if (mz % 60) < 1 ∨ 9999 < (mz % 60) then 3 else if 99999 < ist (IR tn) + (mz % 60) then 4 else 0)))), (0, .ref b), (1, .ref (oa 0)), (2, .ref al), (3, .ref ap), (4, .ref ad), (5, .int (iI (1))), (8, .int (iI ((((7 + 4 * n) : Nat) : Int)))), (9, .int (iI (sa))), (10, .int (iI (((n : Nat) : Int)))), (11, .long (lI (bf))), (14, .int (iI (sz))), (15, .int (iI (((tn : Nat) : Int)))), (16, .int (iI (mz)))]) hx hb dL_law_453 hl (by decide) rfl (fun ls hl => ?_)
      refine lv_iload hx hb dL_law_455 (lv_at hl 1 rfl) ?_
      refine my_if_lt (tgt := 471) hx hb (by omega) dL_law_457 (by decide) (fun bh5 => ?_) (fun bh5 => (by omega : False).elim)
      refine lv_iconst (v := iI (1)) hx hb dL_law_471 rfl ?_
      refine lv_goto (tgt := 476) hx hb dL_law_472 (by decide) ?_
      refine lv_istore (lv' := [(5, .int (iI (1))), (6, .long (lI (un))), (17, .int (iI (exv (if (mz % 60) < 1 ∨ 9999 < (mz % 60) then 3 else if 99999 < ist (IR tn) + (mz % 60) then 4 else 0)))), (0, .ref b), (1, .ref (oa 0)), (2, .ref al), (3, .ref ap), (4, .ref ad), (8, .int (iI ((((7 + 4 * n) : Nat) : Int)))), (9, .int (iI (sa))), (10, .int (iI (((n : Nat) : Int)))), (11, .long (lI (bf))), (14, .int (iI (sz))), (15, .int (iI (((tn : Nat) : Int)))), (16, .int (iI (mz)))]) hx hb dL_law_476 hl (by decide) rfl (fun ls hl => ?_)
      refine lv_goto (tgt := 838) hx hb dL_law_478 (by decide) ?_
      exact c_tail (n := n) hC (GI_same hG) (fun _ => hbf) (by omega) hP hD hS (lv_sub hl [3, 4, 5, 6, 7, 0, 1, 8, 9, 10, 11, 2] rfl) (by omega) (by omega) (by omega) (by omega) (by omega) K
  · have hcs := cdS_s it iz
    have hneg : exv (cdS it iz) < 0 := exv_neg (by omega)
    have hxr := exv_rng (cdS it iz)
    refine lv_aload_n hx hb dL_law_422 rfl (lv_at hl 1 rfl) ?_
    refine lv_iload hx hb dL_law_423 (lv_at hl 12 rfl) ?_
    refine lv_iload hx hb dL_law_425 (lv_at hl 13 rfl) ?_
    refine lv_bipush (v := iI (60)) hx hb dL_law_427 (by decide) ?_
    refine my_irem hx hb dL_law_429 (by omega) rfl ?_
    refine va_calli (vx_runSW (As := [.ref (oa 0), .int (iI (iz)), .int (iI (mz % 60))]) (rest := []) ⟨hx, hb, hml, hown, hts⟩ (m_L_supply_no l hst D cs oa IA LA sh it dy lc pct lr sr lf lrf srf cr IR LR z iz (mz % 60) (hI) (by omega) (hcd)) (vx_cwSW 3 hts (gS w_401 w_402 w_0 w_403) rfl rfl rfl (by decide +kernel) ⟨Nat.le_of_ble_eq_true rfl, Nat.le_of_ble_eq_true rfl⟩) (PE_Sa hK hN hE hS (fun _ h => False.elim h) (P_R (E := [(ap, arI cs 2 fp), (ad, arI cs 6 fd), (al, arI cs 3 fl)]) (Wc := (OW cs oa IA LA sh it dy lc pct lr sr lf lrf srf cr IR LR z)) hP) (D_R (E := [(ap, arI cs 2 fp), (ad, arI cs 6 fd), (al, arI cs 3 fl)]) (Wc := (OW cs oa IA LA sh it dy lc pct lr sr lf lrf srf cr IR LR z)) hD)) rfl rfl hl.1 rfl (lv_room (Nat.le_of_ble_eq_true rfl)) dL_law_430 ⟨rm_c (by omega), rm_s (by omega)⟩) hS (fun _ _ h => False.elim h) (fun _ h => False.elim h) (fun r u t H locs ht hvm hw hB hz1 hk1 hS => ?_)
    subst hw
    have hP := P_kept hP hk1
    refine lv_istore (lv' := [(17, .int (iI (exv (cdS it iz)))), (0, .ref b), (1, .ref (oa 0)), (2, .ref al), (3, .ref ap), (4, .ref ad), (5, .int (iI (1))), (6, .long (lI (un))), (8, .int (iI ((((7 + 4 * n) : Nat) : Int)))), (9, .int (iI (sa))), (10, .int (iI (((n : Nat) : Int)))), (11, .long (lI (bf))), (14, .int (iI (sz))), (15, .int (iI (iz))), (16, .int (iI (mz)))]) hx hb dL_law_433 hl (by decide) rfl (fun ls hl => ?_)
    refine lv_lload hx hb dL_law_435 (lv_at hl 7 rfl) ?_
    refine lv_iload hx hb dL_law_437 (lv_at hl 0 rfl) ?_
    refine my_if_ge (tgt := 446) hx hb (by omega) dL_law_439 (by decide) (fun bh6 => (by omega : False).elim) (fun bh6 => ?_)
    refine lv_lconst (v := lI 0) hx hb dL_law_442 (by decide) ?_
    refine lv_goto (tgt := 452) hx hb dL_law_443 (by decide) ?_
    refine my_ladd (z := un) hx hb dL_law_452 (by omega) ?_
    refine lv_lstore (lv' := [(6, .long (lI (un))), (17, .int (iI (exv (cdS it iz)))), (0, .ref b), (1, .ref (oa 0)), (2, .ref al), (3, .ref ap), (4, .ref ad), (5, .int (iI (1))), (8, .int (iI ((((7 + 4 * n) : Nat) : Int)))), (9, .int (iI (sa))), (10, .int (iI (((n : Nat) : Int)))), (11, .long (lI (bf))), (14, .int (iI (sz))), (15, .int (iI (iz))), (16, .int (iI (mz)))]) hx hb dL_law_453 hl (by decide) rfl (fun ls hl => ?_)
    refine lv_iload hx hb dL_law_455 (lv_at hl 1 rfl) ?_
    refine my_if_lt (tgt := 471) hx hb (by omega) dL_law_457 (by decide) (fun bh7 => ?_) (fun bh7 => (by omega : False).elim)
    refine lv_iconst (v := iI (1)) hx hb dL_law_471 rfl ?_
    refine lv_goto (tgt := 476) hx hb dL_law_472 (by decide) ?_
    refine lv_istore (lv' := [(5, .int (iI (1))), (6, .long (lI (un))), (17, .int (iI (exv (cdS it iz)))), (0, .ref b), (1, .ref (oa 0)), (2, .ref al), (3, .ref ap), (4, .ref ad), (8, .int (iI ((((7 + 4 * n) : Nat) : Int)))), (9, .int (iI (sa))), (10, .int (iI (((n : Nat) : Int)))), (11, .long (lI (bf))), (14, .int (iI (sz))), (15, .int (iI (iz))), (16, .int (iI (mz)))]) hx hb dL_law_476 hl (by decide) rfl (fun ls hl => ?_)
    refine lv_goto (tgt := 838) hx hb dL_law_478 (by decide) ?_
    exact c_tail (n := n) hC (GI_same hG) (fun _ => hbf) (by omega) hP hD hS (lv_sub hl [3, 4, 5, 6, 7, 0, 1, 8, 9, 10, 11, 2] rfl) (by omega) (by omega) (by omega) (by omega) (by omega) K

set_option maxHeartbeats 4000000 in
set_option maxRecDepth 100000 in
theorem c_service {p : Program} {l : Launch} {e : Env} {s : State} {m : MethodId} {args : Array Value} {below : List Frame} {meth : Method} {c : Code} {b L : Nat} {xs : Nat → Int32} {A : Nat → Prop} {D : va_G} {cs : Nat → ClassId} {n : Nat} {H : Heap} {locs : List Loc} {ls : Array Slot} {cells slots c9 s9 : Nat} {Q : State → Prop} {oa : Nat → Nat} {IA LA : Nat → Nat → Nat} {sh it dy : Nat} {lc pct lr sr : Int} {lf lrf srf : Nat → Int} {cr : Nat → Bool} {IR : Nat → IT} {LR : Nat → LT} {z : SC} {ap al ad : Nat} {fp fl fd : Nat → Int} {un sa : Int} {bf sz iz mz : Int} (hC : CX p l s m args c b L xs A D cs) (hG : GI n sh it dy lc pct lr sr lf lrf srf cr IR LR fp fl fd un sa) (hbf : bf = suS it dy pct cr IR LR sh 6) (hsz : 0 ≤ sz ∧ sz ≤ 3) (hiz : 0 ≤ iz ∧ iz ≤ 2) (hmz : 0 ≤ mz ∧ mz ≤ 999) (hP : va_P D vwCl ([(ap, arI cs 2 fp), (ad, arI cs 6 fd), (al, arI cs 3 fl)] ++ (OW cs oa IA LA sh it dy lc pct lr sr lf lrf srf cr IR LR z)) H) (hD : va_D A ([(ap, arI cs 2 fp), (ad, arI cs 6 fd), (al, arI cs 3 fl)] ++ (OW cs oa IA LA sh it dy lc pct lr sr lf lrf srf cr IR LR z))) (hS : va_S A s.heap H locs) (hl : lv_has ls 22 [(0, .ref b), (1, .ref (oa 0)), (2, .ref al), (3, .ref ap), (4, .ref ad), (5, .int (iI (1))), (6, .long (lI (un))), (8, .int (iI ((((7 + 4 * n) : Nat) : Int)))), (9, .int (iI (sa))), (10, .int (iI (((n : Nat) : Int)))), (11, .long (lI (bf))), (14, .int (iI (sz))), (15, .int (iI (iz))), (16, .int (iI (mz))), (17, .int (iI (0)))]) (hn : n < 110) (hce : cells ≤ 600000) (hsl : slots ≤ 3000000) (hc9 : cells + 1900 ≤ c9) (hs9 : slots + 13000 ≤ s9)
    (K : ∀ (H : Heap) (locs : List Loc) (ls : Array Slot), RS s A D cs b (n + 1) H locs ls → W p l e room_1 s m args below meth c H locs c9 s9 Q (F0 m 191 ls [])) : W p l e room_1 s m args below meth c H locs cells slots Q (F0 m 488 ls []) := by
  obtain ⟨hx, hb, hml, hown, hts, hX, hbl, hK, hN, hE, hL, hst, hA, hbA⟩ := id hC
  obtain ⟨hI, hsi, hfp, hfl, hfd, hdn, hU, hsa, hun⟩ := id hG
  have hI1 := PI_1 hI
  by_cases hz : (if mz % 101 < 1 ∨ 100 < mz % 101 then 3 else 0) = 0
  · have hw1 : ¬ (mz % 101 < 1 ∨ 100 < mz % 101) := fun q => by rw [if_pos q] at hz; omega
    refine lv_aload_n hx hb dL_law_488 rfl (lv_at hl 1 rfl) ?_
    refine lv_iload hx hb dL_law_489 (lv_at hl 13 rfl) ?_
    refine lv_bipush (v := iI (101)) hx hb dL_law_491 (by decide) ?_
    refine my_irem hx hb dL_law_493 (by omega) rfl ?_
    refine va_calli (vx_runSW (As := [.ref (oa 0), .int (iI (mz % 101))]) (rest := []) ⟨hx, hb, hml, hown, hts⟩ (m_L_setService_R l hst D cs oa IA LA sh it dy lc pct lr sr lf lrf srf cr IR LR z (mz % 101) (hI) (by omega) (hz)) (vx_cwSW 2 hts (gS w_418 w_419 w_0 w_420) rfl rfl rfl (by decide +kernel) ⟨Nat.le_of_ble_eq_true rfl, Nat.le_of_ble_eq_true rfl⟩) (PE_Sa hK hN hE hS (fun q h => inW_suba (D_R (E := [(ap, arI cs 2 fp), (ad, arI cs 6 fd), (al, arI cs 3 fl)]) (Wc := (OW cs oa IA LA sh it dy lc pct lr sr lf lrf srf cr IR LR z)) hD) q h) (P_R (E := [(ap, arI cs 2 fp), (ad, arI cs 6 fd), (al, arI cs 3 fl)]) (Wc := (OW cs oa IA LA sh it dy lc pct lr sr lf lrf srf cr IR LR z)) hP) (D_R (E := [(ap, arI cs 2 fp), (ad, arI cs 6 fd), (al, arI cs 3 fl)]) (Wc := (OW cs oa IA LA sh it dy lc pct lr sr lf lrf srf cr IR LR z)) hD)) rfl rfl hl.1 rfl (lv_room (Nat.le_of_ble_eq_true rfl)) dL_law_494 ⟨rm_c (by omega), rm_s (by omega)⟩) hS (fun q _ h => inW_suba (D_R (E := [(ap, arI cs 2 fp), (ad, arI cs 6 fd), (al, arI cs 3 fl)]) (Wc := (OW cs oa IA LA sh it dy lc pct lr sr lf lrf srf cr IR LR z)) hD) q h) (fun q h => inW_suba (D_R (E := [(ap, arI cs 2 fp), (ad, arI cs 6 fd), (al, arI cs 3 fl)]) (Wc := (OW cs oa IA LA sh it dy lc pct lr sr lf lrf srf cr IR LR z)) hD) q h) (fun r u t H locs ht hvm hw hB hz1 hk1 hS => ?_)
    subst hw
    rw [ht] at hB
    obtain ⟨hP, hD⟩ := my_joinE (E := [(ap, arI cs 2 fp), (ad, arI cs 6 fd), (al, arI cs 3 fl)]) (Wc := (OW cs oa IA LA sh it dy lc pct lr sr lf lrf srf cr IR LR z)) (W2 := (OW cs oa IA LA sh it dy lc (mz % 101) lr sr lf lrf srf cr IR LR z)) hP hD OW_fst hk1 hB
    have hP : va_P D vwCl ([(ap, arI cs 2 fp), (ad, arI cs 6 fd), (al, arI cs 3 fl)] ++ (OW cs oa IA LA sh it dy lc (mz % 101) lr sr lf lrf srf cr IR LR z)) H := hP
    have hD : va_D A ([(ap, arI cs 2 fp), (ad, arI cs 6 fd), (al, arI cs 3 fl)] ++ (OW cs oa IA LA sh it dy lc (mz % 101) lr sr lf lrf srf cr IR LR z)) := hD
    refine lv_istore (lv' := [(17, .int (iI (pct))), (0, .ref b), (1, .ref (oa 0)), (2, .ref al), (3, .ref ap), (4, .ref ad), (5, .int (iI (1))), (6, .long (lI (un))), (8, .int (iI ((((7 + 4 * n) : Nat) : Int)))), (9, .int (iI (sa))), (10, .int (iI (((n : Nat) : Int)))), (11, .long (lI (bf))), (14, .int (iI (sz))), (15, .int (iI (iz))), (16, .int (iI (mz)))]) hx hb dL_law_497 hl (by decide) rfl (fun ls hl => ?_)
    refine lv_goto (tgt := 838) hx hb dL_law_499 (by decide) ?_
    exact c_tail (n := n) hC (GI_set hG (pct' := mz % 101) (lr' := lr) (sr' := sr) (by omega)) (fun h => absurd h (by omega)) (by omega) hP hD hS (lv_sub hl [1, 2, 3, 4, 5, 6, 7, 8, 9, 10, 11, 0] rfl) (by omega) (by omega) (by omega) (by omega) (by omega) K
  · have hE9 : (if mz % 101 < 1 ∨ 100 < mz % 101 then 3 else 0) = 3 := if_pos (Classical.byContradiction fun q => hz (if_neg q))
    have hneg : exv (if mz % 101 < 1 ∨ 100 < mz % 101 then 3 else 0) = -78 := by rw [hE9]; rfl
    refine lv_aload_n hx hb dL_law_488 rfl (lv_at hl 1 rfl) ?_
    refine lv_iload hx hb dL_law_489 (lv_at hl 13 rfl) ?_
    refine lv_bipush (v := iI (101)) hx hb dL_law_491 (by decide) ?_
    refine my_irem hx hb dL_law_493 (by omega) rfl ?_
    refine va_calli (vx_runSW (As := [.ref (oa 0), .int (iI (mz % 101))]) (rest := []) ⟨hx, hb, hml, hown, hts⟩ (m_L_setService_T l hst D cs oa IA LA sh it dy lc pct lr sr lf lrf srf cr IR LR z (mz % 101) (hI) (by omega) (hz)) (vx_cwSW 2 hts (gS w_418 w_419 w_0 w_420) rfl rfl rfl (by decide +kernel) ⟨Nat.le_of_ble_eq_true rfl, Nat.le_of_ble_eq_true rfl⟩) (PE_Sa hK hN hE hS (fun q h => inW_suba (D_R (E := [(ap, arI cs 2 fp), (ad, arI cs 6 fd), (al, arI cs 3 fl)]) (Wc := (OW cs oa IA LA sh it dy lc pct lr sr lf lrf srf cr IR LR z)) hD) q h) (P_R (E := [(ap, arI cs 2 fp), (ad, arI cs 6 fd), (al, arI cs 3 fl)]) (Wc := (OW cs oa IA LA sh it dy lc pct lr sr lf lrf srf cr IR LR z)) hP) (D_R (E := [(ap, arI cs 2 fp), (ad, arI cs 6 fd), (al, arI cs 3 fl)]) (Wc := (OW cs oa IA LA sh it dy lc pct lr sr lf lrf srf cr IR LR z)) hD)) rfl rfl hl.1 rfl (lv_room (Nat.le_of_ble_eq_true rfl)) dL_law_494 ⟨rm_c (by omega), rm_s (by omega)⟩) hS (fun q _ h => inW_suba (D_R (E := [(ap, arI cs 2 fp), (ad, arI cs 6 fd), (al, arI cs 3 fl)]) (Wc := (OW cs oa IA LA sh it dy lc pct lr sr lf lrf srf cr IR LR z)) hD) q h) (fun q h => inW_suba (D_R (E := [(ap, arI cs 2 fp), (ad, arI cs 6 fd), (al, arI cs 3 fl)]) (Wc := (OW cs oa IA LA sh it dy lc pct lr sr lf lrf srf cr IR LR z)) hD) q h) (fun r u t H locs ht hvm hw hB hz1 hk1 hS => ?_)
    subst hw
    rw [ht] at hB
    obtain ⟨hP, hD⟩ := my_joinE (E := [(ap, arI cs 2 fp), (ad, arI cs 6 fd), (al, arI cs 3 fl)]) (Wc := (OW cs oa IA LA sh it dy lc pct lr sr lf lrf srf cr IR LR z)) (W2 := (OW cs oa IA LA sh it dy lc pct lr sr lf lrf srf cr IR LR z)) hP hD OW_fst hk1 hB
    have hP : va_P D vwCl ([(ap, arI cs 2 fp), (ad, arI cs 6 fd), (al, arI cs 3 fl)] ++ (OW cs oa IA LA sh it dy lc pct lr sr lf lrf srf cr IR LR z)) H := hP
    have hD : va_D A ([(ap, arI cs 2 fp), (ad, arI cs 6 fd), (al, arI cs 3 fl)] ++ (OW cs oa IA LA sh it dy lc pct lr sr lf lrf srf cr IR LR z)) := hD
    refine lv_istore (lv' := [(17, .int (iI (exv (if (mz % 101) < 1 ∨ 100 < (mz % 101) then 3 else 0)))), (0, .ref b), (1, .ref (oa 0)), (2, .ref al), (3, .ref ap), (4, .ref ad), (5, .int (iI (1))), (6, .long (lI (un))), (8, .int (iI ((((7 + 4 * n) : Nat) : Int)))), (9, .int (iI (sa))), (10, .int (iI (((n : Nat) : Int)))), (11, .long (lI (bf))), (14, .int (iI (sz))), (15, .int (iI (iz))), (16, .int (iI (mz)))]) hx hb dL_law_497 hl (by decide) rfl (fun ls hl => ?_)
    refine lv_goto (tgt := 838) hx hb dL_law_499 (by decide) ?_
    exact c_tail (n := n) hC (GI_same hG) (fun _ => hbf) (by omega) hP hD hS (lv_sub hl [1, 2, 3, 4, 5, 6, 7, 8, 9, 10, 11, 0] rfl) (by omega) (by omega) (by omega) (by omega) (by omega) K

set_option maxHeartbeats 4000000 in
set_option maxRecDepth 100000 in
theorem c_rates {p : Program} {l : Launch} {e : Env} {s : State} {m : MethodId} {args : Array Value} {below : List Frame} {meth : Method} {c : Code} {b L : Nat} {xs : Nat → Int32} {A : Nat → Prop} {D : va_G} {cs : Nat → ClassId} {n : Nat} {H : Heap} {locs : List Loc} {ls : Array Slot} {cells slots c9 s9 : Nat} {Q : State → Prop} {oa : Nat → Nat} {IA LA : Nat → Nat → Nat} {sh it dy : Nat} {lc pct lr sr : Int} {lf lrf srf : Nat → Int} {cr : Nat → Bool} {IR : Nat → IT} {LR : Nat → LT} {z : SC} {ap al ad : Nat} {fp fl fd : Nat → Int} {un sa : Int} {bf sz iz mz : Int} (hC : CX p l s m args c b L xs A D cs) (hG : GI n sh it dy lc pct lr sr lf lrf srf cr IR LR fp fl fd un sa) (hbf : bf = suS it dy pct cr IR LR sh 6) (hsz : 0 ≤ sz ∧ sz ≤ 3) (hiz : 0 ≤ iz ∧ iz ≤ 2) (hmz : 0 ≤ mz ∧ mz ≤ 999) (hP : va_P D vwCl ([(ap, arI cs 2 fp), (ad, arI cs 6 fd), (al, arI cs 3 fl)] ++ (OW cs oa IA LA sh it dy lc pct lr sr lf lrf srf cr IR LR z)) H) (hD : va_D A ([(ap, arI cs 2 fp), (ad, arI cs 6 fd), (al, arI cs 3 fl)] ++ (OW cs oa IA LA sh it dy lc pct lr sr lf lrf srf cr IR LR z))) (hS : va_S A s.heap H locs) (hl : lv_has ls 22 [(0, .ref b), (1, .ref (oa 0)), (2, .ref al), (3, .ref ap), (4, .ref ad), (5, .int (iI (1))), (6, .long (lI (un))), (8, .int (iI ((((7 + 4 * n) : Nat) : Int)))), (9, .int (iI (sa))), (10, .int (iI (((n : Nat) : Int)))), (11, .long (lI (bf))), (14, .int (iI (sz))), (15, .int (iI (iz))), (16, .int (iI (mz))), (17, .int (iI (0)))]) (hn : n < 110) (hce : cells ≤ 600000) (hsl : slots ≤ 3000000) (hc9 : cells + 1900 ≤ c9) (hs9 : slots + 13000 ≤ s9)
    (K : ∀ (H : Heap) (locs : List Loc) (ls : Array Slot), RS s A D cs b (n + 1) H locs ls → W p l e room_1 s m args below meth c H locs c9 s9 Q (F0 m 191 ls [])) : W p l e room_1 s m args below meth c H locs cells slots Q (F0 m 509 ls []) := by
  obtain ⟨hx, hb, hml, hown, hts, hX, hbl, hK, hN, hE, hL, hst, hA, hbA⟩ := id hC
  obtain ⟨hI, hsi, hfp, hfl, hfd, hdn, hU, hsa, hun⟩ := id hG
  have hI1 := PI_1 hI
  have hz : (if (mz % 101 < 0 ∨ 100 < mz % 101) ∨ (mz % 60 < 0 ∨ 100 < mz % 60) then 3 else 0) = 0 := if_neg (by omega)
  refine lv_aload_n hx hb dL_law_509 rfl (lv_at hl 1 rfl) ?_
  refine lv_iload hx hb dL_law_510 (lv_at hl 13 rfl) ?_
  refine lv_bipush (v := iI (101)) hx hb dL_law_512 (by decide) ?_
  refine my_irem hx hb dL_law_514 (by omega) rfl ?_
  refine lv_iload hx hb dL_law_515 (lv_at hl 13 rfl) ?_
  refine lv_bipush (v := iI (60)) hx hb dL_law_517 (by decide) ?_
  refine my_irem hx hb dL_law_519 (by omega) rfl ?_
  refine va_calli (vx_runSW (As := [.ref (oa 0), .int (iI (mz % 101)), .int (iI (mz % 60))]) (rest := []) ⟨hx, hb, hml, hown, hts⟩ (m_L_setRates_R l hst D cs oa IA LA sh it dy lc pct lr sr lf lrf srf cr IR LR z (mz % 101) (mz % 60) (hI) (by omega) (by omega) (hz)) (vx_cwSW 3 hts (gS w_426 w_427 w_0 w_428) rfl rfl rfl (by decide +kernel) ⟨Nat.le_of_ble_eq_true rfl, Nat.le_of_ble_eq_true rfl⟩) (PE_Sa hK hN hE hS (fun q h => inW_suba (D_R (E := [(ap, arI cs 2 fp), (ad, arI cs 6 fd), (al, arI cs 3 fl)]) (Wc := (OW cs oa IA LA sh it dy lc pct lr sr lf lrf srf cr IR LR z)) hD) q h) (P_R (E := [(ap, arI cs 2 fp), (ad, arI cs 6 fd), (al, arI cs 3 fl)]) (Wc := (OW cs oa IA LA sh it dy lc pct lr sr lf lrf srf cr IR LR z)) hP) (D_R (E := [(ap, arI cs 2 fp), (ad, arI cs 6 fd), (al, arI cs 3 fl)]) (Wc := (OW cs oa IA LA sh it dy lc pct lr sr lf lrf srf cr IR LR z)) hD)) rfl rfl hl.1 rfl (lv_room (Nat.le_of_ble_eq_true rfl)) dL_law_520 ⟨rm_c (by omega), rm_s (by omega)⟩) hS (fun q _ h => inW_suba (D_R (E := [(ap, arI cs 2 fp), (ad, arI cs 6 fd), (al, arI cs 3 fl)]) (Wc := (OW cs oa IA LA sh it dy lc pct lr sr lf lrf srf cr IR LR z)) hD) q h) (fun q h => inW_suba (D_R (E := [(ap, arI cs 2 fp), (ad, arI cs 6 fd), (al, arI cs 3 fl)]) (Wc := (OW cs oa IA LA sh it dy lc pct lr sr lf lrf srf cr IR LR z)) hD) q h) (fun r u t H locs ht hvm hw hB hz1 hk1 hS => ?_)
  subst hw
  rw [ht] at hB
  obtain ⟨hP, hD⟩ := my_joinE (E := [(ap, arI cs 2 fp), (ad, arI cs 6 fd), (al, arI cs 3 fl)]) (Wc := (OW cs oa IA LA sh it dy lc pct lr sr lf lrf srf cr IR LR z)) (W2 := (OW cs oa IA LA sh it dy lc pct (mz % 101) (mz % 60) lf lrf srf cr IR LR z)) hP hD OW_fst hk1 hB
  have hP : va_P D vwCl ([(ap, arI cs 2 fp), (ad, arI cs 6 fd), (al, arI cs 3 fl)] ++ (OW cs oa IA LA sh it dy lc pct (mz % 101) (mz % 60) lf lrf srf cr IR LR z)) H := hP
  have hD : va_D A ([(ap, arI cs 2 fp), (ad, arI cs 6 fd), (al, arI cs 3 fl)] ++ (OW cs oa IA LA sh it dy lc pct (mz % 101) (mz % 60) lf lrf srf cr IR LR z)) := hD
  refine lv_istore (lv' := [(17, .int (iI (lr))), (0, .ref b), (1, .ref (oa 0)), (2, .ref al), (3, .ref ap), (4, .ref ad), (5, .int (iI (1))), (6, .long (lI (un))), (8, .int (iI ((((7 + 4 * n) : Nat) : Int)))), (9, .int (iI (sa))), (10, .int (iI (((n : Nat) : Int)))), (11, .long (lI (bf))), (14, .int (iI (sz))), (15, .int (iI (iz))), (16, .int (iI (mz)))]) hx hb dL_law_523 hl (by decide) rfl (fun ls hl => ?_)
  refine lv_goto (tgt := 838) hx hb dL_law_525 (by decide) ?_
  exact c_tail (n := n) hC (GI_set hG (pct' := pct) (lr' := mz % 101) (sr' := mz % 60) (by omega)) (fun h => absurd h (by omega)) (by omega) hP hD hS (lv_sub hl [1, 2, 3, 4, 5, 6, 7, 8, 9, 10, 11, 0] rfl) (by omega) (by omega) (by omega) (by omega) (by omega) K

set_option maxHeartbeats 4000000 in
set_option maxRecDepth 100000 in
theorem c_mark {p : Program} {l : Launch} {e : Env} {s : State} {m : MethodId} {args : Array Value} {below : List Frame} {meth : Method} {c : Code} {b L : Nat} {xs : Nat → Int32} {A : Nat → Prop} {D : va_G} {cs : Nat → ClassId} {n : Nat} {H : Heap} {locs : List Loc} {ls : Array Slot} {cells slots c9 s9 : Nat} {Q : State → Prop} {oa : Nat → Nat} {IA LA : Nat → Nat → Nat} {sh it dy : Nat} {lc pct lr sr : Int} {lf lrf srf : Nat → Int} {cr : Nat → Bool} {IR : Nat → IT} {LR : Nat → LT} {z : SC} {ap al ad : Nat} {fp fl fd : Nat → Int} {un sa : Int} {bf sz iz mz : Int} (hC : CX p l s m args c b L xs A D cs) (hG : GI n sh it dy lc pct lr sr lf lrf srf cr IR LR fp fl fd un sa) (hbf : bf = suS it dy pct cr IR LR sh 6) (hsz : 0 ≤ sz ∧ sz ≤ 3) (hiz : 0 ≤ iz ∧ iz ≤ 2) (hmz : 0 ≤ mz ∧ mz ≤ 999) (hP : va_P D vwCl ([(ap, arI cs 2 fp), (ad, arI cs 6 fd), (al, arI cs 3 fl)] ++ (OW cs oa IA LA sh it dy lc pct lr sr lf lrf srf cr IR LR z)) H) (hD : va_D A ([(ap, arI cs 2 fp), (ad, arI cs 6 fd), (al, arI cs 3 fl)] ++ (OW cs oa IA LA sh it dy lc pct lr sr lf lrf srf cr IR LR z))) (hS : va_S A s.heap H locs) (hl : lv_has ls 22 [(0, .ref b), (1, .ref (oa 0)), (2, .ref al), (3, .ref ap), (4, .ref ad), (5, .int (iI (1))), (6, .long (lI (un))), (8, .int (iI ((((7 + 4 * n) : Nat) : Int)))), (9, .int (iI (sa))), (10, .int (iI (((n : Nat) : Int)))), (11, .long (lI (bf))), (14, .int (iI (sz))), (15, .int (iI (iz))), (16, .int (iI (mz))), (17, .int (iI (0)))]) (hn : n < 110) (hce : cells ≤ 600000) (hsl : slots ≤ 3000000) (hc9 : cells + 1900 ≤ c9) (hs9 : slots + 13000 ≤ s9)
    (K : ∀ (H : Heap) (locs : List Loc) (ls : Array Slot), RS s A D cs b (n + 1) H locs ls → W p l e room_1 s m args below meth c H locs c9 s9 Q (F0 m 191 ls [])) : W p l e room_1 s m args below meth c H locs cells slots Q (F0 m 535 ls []) := by
  obtain ⟨hx, hb, hml, hown, hts, hX, hbl, hK, hN, hE, hL, hst, hA, hbA⟩ := id hC
  obtain ⟨hI, hsi, hfp, hfl, hfd, hdn, hU, hsa, hun⟩ := id hG
  have hI1 := PI_1 hI
  by_cases hcd : cdS it iz = 0
  · have hcs := cdS_s it iz
    obtain ⟨tn, e2⟩ : ∃ tn : Nat, iz = ((tn : Nat) : Int) := ⟨iz.toNat, by omega⟩
    subst e2
    have htn : tn < it := by omega
    obtain ⟨zq, hzq⟩ : ∃ zq : Int, ((dy : Nat) : Int) + mz % 3 = zq := ⟨_, rfl⟩
    have hz : (if zq < (dy : Int) ∨ 999 < zq then 3 else 0) = 0 := if_neg (by omega)
    have hG2 := GI_mark hG htn (z := zq.toNat) (by omega)
    have hI2 := hG2.1
    have hpr9 := PI_pr hI tn zq.toNat
    refine lv_aload_n hx hb dL_law_535 rfl (lv_at hl 1 rfl) ?_
    refine lv_iload hx hb dL_law_536 (lv_at hl 12 rfl) ?_
    refine lv_aload_n hx hb dL_law_538 rfl (lv_at hl 1 rfl) ?_
    refine va_calli (va_runV (As := []) (rest := [.int (iI (((tn : Nat) : Int))), .ref (oa 0)]) ⟨hx, hb, hml, hown, hts⟩ (m_X5_today_w l D cs oa IA LA sh it dy lc pct lr sr lf lrf srf cr IR LR z) (cwV 0 hts (gV w_112 w_113 w_114 w_1 w_115) rfl rfl rfl (by decide +kernel) ⟨Nat.le_of_ble_eq_true rfl, Nat.le_of_ble_eq_true rfl⟩) (PC_Va hK hN (P_R (E := [(ap, arI cs 2 fp), (ad, arI cs 6 fd), (al, arI cs 3 fl)]) (Wc := (OW cs oa IA LA sh it dy lc pct lr sr lf lrf srf cr IR LR z)) hP) (D_R (E := [(ap, arI cs 2 fp), (ad, arI cs 6 fd), (al, arI cs 3 fl)]) (Wc := (OW cs oa IA LA sh it dy lc pct lr sr lf lrf srf cr IR LR z)) hD) rfl rfl) rfl rfl hl.1 rfl (lv_room (Nat.le_of_ble_eq_true rfl)) dL_law_539 ⟨rm_c (by omega), rm_s (by omega)⟩) hS (fun _ _ h => False.elim h) (fun _ h => False.elim h) (fun r u t H locs ht hvm hw hB hz1 hk1 hS => ?_)
    subst hw
    have hP := P_kept hP hk1
    refine lv_iload hx hb dL_law_542 (lv_at hl 13 rfl) ?_
    refine lv_iconst (v := iI (3)) hx hb dL_law_544 rfl ?_
    refine my_irem hx hb dL_law_545 (by omega) rfl ?_
    refine my_iadd (z := ((dy : Nat) : Int) + (mz % 3)) hx hb dL_law_546 (rfl) ?_
    refine my_cv0 (z := zq) (hzq) ?_
    refine va_calli (vx_runSW (As := [.ref (oa 0), .int (iI (((tn : Nat) : Int))), .int (iI (zq))]) (rest := []) ⟨hx, hb, hml, hown, hts⟩ (m_L_mark_R l hst D cs oa IA LA sh it dy lc pct lr sr lf lrf srf cr IR LR z tn zq (hI) (htn) (by omega) (hz)) (vx_cwSW 3 hts (gS w_435 w_436 w_0 w_437) rfl rfl rfl (by decide +kernel) ⟨Nat.le_of_ble_eq_true rfl, Nat.le_of_ble_eq_true rfl⟩) (PE_Sa hK hN hE hS (fun q h => inW_suba (D_R (E := [(ap, arI cs 2 fp), (ad, arI cs 6 fd), (al, arI cs 3 fl)]) (Wc := (OW cs oa IA LA sh it dy lc pct lr sr lf lrf srf cr IR LR z)) hD) q h) (P_R (E := [(ap, arI cs 2 fp), (ad, arI cs 6 fd), (al, arI cs 3 fl)]) (Wc := (OW cs oa IA LA sh it dy lc pct lr sr lf lrf srf cr IR LR z)) hP) (D_R (E := [(ap, arI cs 2 fp), (ad, arI cs 6 fd), (al, arI cs 3 fl)]) (Wc := (OW cs oa IA LA sh it dy lc pct lr sr lf lrf srf cr IR LR z)) hD)) rfl rfl hl.1 rfl (lv_room (Nat.le_of_ble_eq_true rfl)) dL_law_547 ⟨rm_c (by omega), rm_s (by omega)⟩) hS (fun q _ h => inW_suba (D_R (E := [(ap, arI cs 2 fp), (ad, arI cs 6 fd), (al, arI cs 3 fl)]) (Wc := (OW cs oa IA LA sh it dy lc pct lr sr lf lrf srf cr IR LR z)) hD) q h) (fun q h => inW_suba (D_R (E := [(ap, arI cs 2 fp), (ad, arI cs 6 fd), (al, arI cs 3 fl)]) (Wc := (OW cs oa IA LA sh it dy lc pct lr sr lf lrf srf cr IR LR z)) hD) q h) (fun r u t H locs ht hvm hw hB hz1 hk1 hS => ?_)
    subst hw
    rw [ht] at hB
    obtain ⟨hP, hD⟩ := my_joinE (E := [(ap, arI cs 2 fp), (ad, arI cs 6 fd), (al, arI cs 3 fl)]) (Wc := (OW cs oa IA LA sh it dy lc pct lr sr lf lrf srf cr IR LR z)) (W2 := (OW cs oa IA LA sh it dy lc pct lr sr lf lrf srf cr (upR IR tn (imk (ipk (IR tn)) (ifs (IR tn)) (ist (IR tn)) (iti (IR tn)) (igo (IR tn)) (upI (ipr (IR tn)) zq.toNat 1))) LR z)) hP hD OW_fst hk1 hB
    have hP : va_P D vwCl ([(ap, arI cs 2 fp), (ad, arI cs 6 fd), (al, arI cs 3 fl)] ++ (OW cs oa IA LA sh it dy lc pct lr sr lf lrf srf cr (upR IR tn (imk (ipk (IR tn)) (ifs (IR tn)) (ist (IR tn)) (iti (IR tn)) (igo (IR tn)) (upI (ipr (IR tn)) zq.toNat 1))) LR z)) H := hP
    have hD : va_D A ([(ap, arI cs 2 fp), (ad, arI cs 6 fd), (al, arI cs 3 fl)] ++ (OW cs oa IA LA sh it dy lc pct lr sr lf lrf srf cr (upR IR tn (imk (ipk (IR tn)) (ifs (IR tn)) (ist (IR tn)) (iti (IR tn)) (igo (IR tn)) (upI (ipr (IR tn)) zq.toNat 1))) LR z)) := hD
    refine lv_istore (lv' := [(17, .int (iI (ipr (IR tn) zq.toNat))), (0, .ref b), (1, .ref (oa 0)), (2, .ref al), (3, .ref ap), (4, .ref ad), (5, .int (iI (1))), (6, .long (lI (un))), (8, .int (iI ((((7 + 4 * n) : Nat) : Int)))), (9, .int (iI (sa))), (10, .int (iI (((n : Nat) : Int)))), (11, .long (lI (bf))), (14, .int (iI (sz))), (15, .int (iI (((tn : Nat) : Int)))), (16, .int (iI (mz)))]) hx hb dL_law_550 hl (by decide) rfl (fun ls hl => ?_)
    refine lv_iload hx hb dL_law_552 (lv_at hl 0 rfl) ?_
    refine my_if_lt (tgt := 576) hx hb (by omega) dL_law_554 (by decide) (fun bh1 => (by omega : False).elim) (fun bh1 => ?_)
    refine lv_aload_n hx hb dL_law_557 rfl (lv_at hl 2 rfl) ?_
    refine lv_iload hx hb dL_law_558 (lv_at hl 13 rfl) ?_
    refine lv_aload_n hx hb dL_law_560 rfl (lv_at hl 2 rfl) ?_
    refine va_calli (va_runV (As := []) (rest := [.int (iI (((tn : Nat) : Int))), .ref (oa 0)]) ⟨hx, hb, hml, hown, hts⟩ (m_X5_today_w l D cs oa IA LA sh it dy lc pct lr sr lf lrf srf cr (upR IR tn (imk (ipk (IR tn)) (ifs (IR tn)) (ist (IR tn)) (iti (IR tn)) (igo (IR tn)) (upI (ipr (IR tn)) zq.toNat 1))) LR z) (cwV 0 hts (gV w_112 w_113 w_114 w_1 w_115) rfl rfl rfl (by decide +kernel) ⟨Nat.le_of_ble_eq_true rfl, Nat.le_of_ble_eq_true rfl⟩) (PC_Va hK hN (P_R (E := [(ap, arI cs 2 fp), (ad, arI cs 6 fd), (al, arI cs 3 fl)]) (Wc := (OW cs oa IA LA sh it dy lc pct lr sr lf lrf srf cr (upR IR tn (imk (ipk (IR tn)) (ifs (IR tn)) (ist (IR tn)) (iti (IR tn)) (igo (IR tn)) (upI (ipr (IR tn)) zq.toNat 1))) LR z)) hP) (D_R (E := [(ap, arI cs 2 fp), (ad, arI cs 6 fd), (al, arI cs 3 fl)]) (Wc := (OW cs oa IA LA sh it dy lc pct lr sr lf lrf srf cr (upR IR tn (imk (ipk (IR tn)) (ifs (IR tn)) (ist (IR tn)) (iti (IR tn)) (igo (IR tn)) (upI (ipr (IR tn)) zq.toNat 1))) LR z)) hD) rfl rfl) rfl rfl hl.1 rfl (lv_room (Nat.le_of_ble_eq_true rfl)) dL_law_561 ⟨rm_c (by omega), rm_s (by omega)⟩) hS (fun _ _ h => False.elim h) (fun _ h => False.elim h) (fun r u t H locs ht hvm hw hB hz1 hk1 hS => ?_)
    subst hw
    have hP := P_kept hP hk1
    refine lv_iload hx hb dL_law_564 (lv_at hl 14 rfl) ?_
    refine lv_iconst (v := iI (3)) hx hb dL_law_566 rfl ?_
    refine my_irem hx hb dL_law_567 (by omega) rfl ?_
    refine my_iadd (z := ((dy : Nat) : Int) + (mz % 3)) hx hb dL_law_568 (rfl) ?_
    refine my_cv0 (z := zq) (hzq) ?_
    refine va_calli (vx_runSW (As := [.ref (oa 0), .int (iI (((tn : Nat) : Int))), .int (iI (zq))]) (rest := []) ⟨hx, hb, hml, hown, hts⟩ (m_L_isMarked_k l hst D cs oa IA LA sh it dy lc pct lr sr lf lrf srf cr (upR IR tn (imk (ipk (IR tn)) (ifs (IR tn)) (ist (IR tn)) (iti (IR tn)) (igo (IR tn)) (upI (ipr (IR tn)) zq.toNat 1))) LR z tn zq (hI2) (htn) (by omega)) (vx_cwSW 3 hts (gS w_449 w_450 w_0 w_451) rfl rfl rfl (by decide +kernel) ⟨Nat.le_of_ble_eq_true rfl, Nat.le_of_ble_eq_true rfl⟩) (PE_Sa hK hN hE hS (fun _ h => False.elim h) (P_R (E := [(ap, arI cs 2 fp), (ad, arI cs 6 fd), (al, arI cs 3 fl)]) (Wc := (OW cs oa IA LA sh it dy lc pct lr sr lf lrf srf cr (upR IR tn (imk (ipk (IR tn)) (ifs (IR tn)) (ist (IR tn)) (iti (IR tn)) (igo (IR tn)) (upI (ipr (IR tn)) zq.toNat 1))) LR z)) hP) (D_R (E := [(ap, arI cs 2 fp), (ad, arI cs 6 fd), (al, arI cs 3 fl)]) (Wc := (OW cs oa IA LA sh it dy lc pct lr sr lf lrf srf cr (upR IR tn (imk (ipk (IR tn)) (ifs (IR tn)) (ist (IR tn)) (iti (IR tn)) (igo (IR tn)) (upI (ipr (IR tn)) zq.toNat 1))) LR z)) hD)) rfl rfl hl.1 rfl (lv_room (Nat.le_of_ble_eq_true rfl)) dL_law_569 ⟨rm_c (by omega), rm_s (by omega)⟩) hS (fun _ _ h => False.elim h) (fun _ h => False.elim h) (fun r u t H locs ht hvm hw hB hz1 hk1 hS => ?_)
    subst hw
    have hP := P_kept hP hk1
    refine my_cv0 (z := 1) (by rw [upR_same]; exact upI_same) ?_
    refine lv_iconst (v := iI (1)) hx hb dL_law_572 rfl ?_
    refine my_icmp_ne (tgt := 580) hx hb (by omega) dL_law_573 (by decide) (fun bh2 => (by omega : False).elim) (fun bh2 => ?_)
    refine lv_iconst (v := iI (1)) hx hb dL_law_576 rfl ?_
    refine lv_goto (tgt := 581) hx hb dL_law_577 (by decide) ?_
    refine lv_istore (lv' := [(5, .int (iI (1))), (17, .int (iI (ipr (IR tn) zq.toNat))), (0, .ref b), (1, .ref (oa 0)), (2, .ref al), (3, .ref ap), (4, .ref ad), (6, .long (lI (un))), (8, .int (iI ((((7 + 4 * n) : Nat) : Int)))), (9, .int (iI (sa))), (10, .int (iI (((n : Nat) : Int)))), (11, .long (lI (bf))), (14, .int (iI (sz))), (15, .int (iI (((tn : Nat) : Int)))), (16, .int (iI (mz)))]) hx hb dL_law_581 hl (by decide) rfl (fun ls hl => ?_)
    refine lv_goto (tgt := 838) hx hb dL_law_583 (by decide) ?_
    exact c_tail (n := n) hC (hG2) (fun h => absurd h (by omega)) (by omega) hP hD hS (lv_sub hl [2, 3, 4, 5, 6, 0, 7, 8, 9, 10, 11, 1] rfl) (by omega) (by omega) (by omega) (by omega) (by omega) K
  · have hcs := cdS_s it iz
    have hneg : exv (cdS it iz) < 0 := exv_neg (by omega)
    have hxr := exv_rng (cdS it iz)
    refine lv_aload_n hx hb dL_law_535 rfl (lv_at hl 1 rfl) ?_
    refine lv_iload hx hb dL_law_536 (lv_at hl 12 rfl) ?_
    refine lv_aload_n hx hb dL_law_538 rfl (lv_at hl 1 rfl) ?_
    refine va_calli (va_runV (As := []) (rest := [.int (iI (iz)), .ref (oa 0)]) ⟨hx, hb, hml, hown, hts⟩ (m_X5_today_w l D cs oa IA LA sh it dy lc pct lr sr lf lrf srf cr IR LR z) (cwV 0 hts (gV w_112 w_113 w_114 w_1 w_115) rfl rfl rfl (by decide +kernel) ⟨Nat.le_of_ble_eq_true rfl, Nat.le_of_ble_eq_true rfl⟩) (PC_Va hK hN (P_R (E := [(ap, arI cs 2 fp), (ad, arI cs 6 fd), (al, arI cs 3 fl)]) (Wc := (OW cs oa IA LA sh it dy lc pct lr sr lf lrf srf cr IR LR z)) hP) (D_R (E := [(ap, arI cs 2 fp), (ad, arI cs 6 fd), (al, arI cs 3 fl)]) (Wc := (OW cs oa IA LA sh it dy lc pct lr sr lf lrf srf cr IR LR z)) hD) rfl rfl) rfl rfl hl.1 rfl (lv_room (Nat.le_of_ble_eq_true rfl)) dL_law_539 ⟨rm_c (by omega), rm_s (by omega)⟩) hS (fun _ _ h => False.elim h) (fun _ h => False.elim h) (fun r u t H locs ht hvm hw hB hz1 hk1 hS => ?_)
    subst hw
    have hP := P_kept hP hk1
    refine lv_iload hx hb dL_law_542 (lv_at hl 13 rfl) ?_
    refine lv_iconst (v := iI (3)) hx hb dL_law_544 rfl ?_
    refine my_irem hx hb dL_law_545 (by omega) rfl ?_
    refine my_iadd (z := ((dy : Nat) : Int) + (mz % 3)) hx hb dL_law_546 (rfl) ?_
    refine va_calli (vx_runSW (As := [.ref (oa 0), .int (iI (iz)), .int (iI (((dy : Nat) : Int) + (mz % 3)))]) (rest := []) ⟨hx, hb, hml, hown, hts⟩ (m_L_mark_no l hst D cs oa IA LA sh it dy lc pct lr sr lf lrf srf cr IR LR z iz (((dy : Nat) : Int) + (mz % 3)) (hI) (by omega) (hcd)) (vx_cwSW 3 hts (gS w_435 w_436 w_0 w_437) rfl rfl rfl (by decide +kernel) ⟨Nat.le_of_ble_eq_true rfl, Nat.le_of_ble_eq_true rfl⟩) (PE_Sa hK hN hE hS (fun _ h => False.elim h) (P_R (E := [(ap, arI cs 2 fp), (ad, arI cs 6 fd), (al, arI cs 3 fl)]) (Wc := (OW cs oa IA LA sh it dy lc pct lr sr lf lrf srf cr IR LR z)) hP) (D_R (E := [(ap, arI cs 2 fp), (ad, arI cs 6 fd), (al, arI cs 3 fl)]) (Wc := (OW cs oa IA LA sh it dy lc pct lr sr lf lrf srf cr IR LR z)) hD)) rfl rfl hl.1 rfl (lv_room (Nat.le_of_ble_eq_true rfl)) dL_law_547 ⟨rm_c (by omega), rm_s (by omega)⟩) hS (fun _ _ h => False.elim h) (fun _ h => False.elim h) (fun r u t H locs ht hvm hw hB hz1 hk1 hS => ?_)
    subst hw
    have hP := P_kept hP hk1
    refine lv_istore (lv' := [(17, .int (iI (exv (cdS it iz)))), (0, .ref b), (1, .ref (oa 0)), (2, .ref al), (3, .ref ap), (4, .ref ad), (5, .int (iI (1))), (6, .long (lI (un))), (8, .int (iI ((((7 + 4 * n) : Nat) : Int)))), (9, .int (iI (sa))), (10, .int (iI (((n : Nat) : Int)))), (11, .long (lI (bf))), (14, .int (iI (sz))), (15, .int (iI (iz))), (16, .int (iI (mz)))]) hx hb dL_law_550 hl (by decide) rfl (fun ls hl => ?_)
    refine lv_iload hx hb dL_law_552 (lv_at hl 0 rfl) ?_
    refine my_if_lt (tgt := 576) hx hb (by omega) dL_law_554 (by decide) (fun bh3 => ?_) (fun bh3 => (by omega : False).elim)
    refine lv_iconst (v := iI (1)) hx hb dL_law_576 rfl ?_
    refine lv_goto (tgt := 581) hx hb dL_law_577 (by decide) ?_
    refine lv_istore (lv' := [(5, .int (iI (1))), (17, .int (iI (exv (cdS it iz)))), (0, .ref b), (1, .ref (oa 0)), (2, .ref al), (3, .ref ap), (4, .ref ad), (6, .long (lI (un))), (8, .int (iI ((((7 + 4 * n) : Nat) : Int)))), (9, .int (iI (sa))), (10, .int (iI (((n : Nat) : Int)))), (11, .long (lI (bf))), (14, .int (iI (sz))), (15, .int (iI (iz))), (16, .int (iI (mz)))]) hx hb dL_law_581 hl (by decide) rfl (fun ls hl => ?_)
    refine lv_goto (tgt := 838) hx hb dL_law_583 (by decide) ?_
    exact c_tail (n := n) hC (GI_same hG) (fun _ => hbf) (by omega) hP hD hS (lv_sub hl [2, 3, 4, 5, 6, 0, 7, 8, 9, 10, 11, 1] rfl) (by omega) (by omega) (by omega) (by omega) (by omega) K

set_option maxHeartbeats 4000000 in
set_option maxRecDepth 100000 in
theorem c_demand {p : Program} {l : Launch} {e : Env} {s : State} {m : MethodId} {args : Array Value} {below : List Frame} {meth : Method} {c : Code} {b L : Nat} {xs : Nat → Int32} {A : Nat → Prop} {D : va_G} {cs : Nat → ClassId} {n : Nat} {H : Heap} {locs : List Loc} {ls : Array Slot} {cells slots c9 s9 : Nat} {Q : State → Prop} {oa : Nat → Nat} {IA LA : Nat → Nat → Nat} {sh it dy : Nat} {lc pct lr sr : Int} {lf lrf srf : Nat → Int} {cr : Nat → Bool} {IR : Nat → IT} {LR : Nat → LT} {z : SC} {ap al ad : Nat} {fp fl fd : Nat → Int} {un sa : Int} {bf sz iz mz : Int} (hC : CX p l s m args c b L xs A D cs) (hG : GI n sh it dy lc pct lr sr lf lrf srf cr IR LR fp fl fd un sa) (hbf : bf = suS it dy pct cr IR LR sh 6) (hsz : 0 ≤ sz ∧ sz ≤ 3) (hiz : 0 ≤ iz ∧ iz ≤ 2) (hmz : 0 ≤ mz ∧ mz ≤ 999) (hP : va_P D vwCl ([(ap, arI cs 2 fp), (ad, arI cs 6 fd), (al, arI cs 3 fl)] ++ (OW cs oa IA LA sh it dy lc pct lr sr lf lrf srf cr IR LR z)) H) (hD : va_D A ([(ap, arI cs 2 fp), (ad, arI cs 6 fd), (al, arI cs 3 fl)] ++ (OW cs oa IA LA sh it dy lc pct lr sr lf lrf srf cr IR LR z))) (hS : va_S A s.heap H locs) (hl : lv_has ls 22 [(0, .ref b), (1, .ref (oa 0)), (2, .ref al), (3, .ref ap), (4, .ref ad), (5, .int (iI (1))), (6, .long (lI (un))), (8, .int (iI ((((7 + 4 * n) : Nat) : Int)))), (9, .int (iI (sa))), (10, .int (iI (((n : Nat) : Int)))), (11, .long (lI (bf))), (14, .int (iI (sz))), (15, .int (iI (iz))), (16, .int (iI (mz))), (17, .int (iI (0)))]) (hn : n < 110) (hce : cells ≤ 600000) (hsl : slots ≤ 3000000) (hc9 : cells + 1900 ≤ c9) (hs9 : slots + 13000 ≤ s9)
    (K : ∀ (H : Heap) (locs : List Loc) (ls : Array Slot), RS s A D cs b (n + 1) H locs ls → W p l e room_1 s m args below meth c H locs c9 s9 Q (F0 m 191 ls [])) : W p l e room_1 s m args below meth c H locs cells slots Q (F0 m 593 ls []) := by
  obtain ⟨hx, hb, hml, hown, hts, hX, hbl, hK, hN, hE, hL, hst, hA, hbA⟩ := id hC
  obtain ⟨hI, hsi, hfp, hfl, hfd, hdn, hU, hsa, hun⟩ := id hG
  have hI1 := PI_1 hI
  obtain ⟨mny, hmny, hm0, hm1⟩ : ∃ mny : Int, mny = (if mz % 31 = 0 then 0 else 1 + mz % 20) ∧ 0 ≤ mny ∧ mny ≤ 20 := ⟨_, rfl, by split <;> omega, by split <;> omega⟩
  by_cases hcd : cdK sh it cr sz iz = 0
  · obtain ⟨sn, tn, e1, e2, hsn, htn, hcr⟩ := cdK_ok hcd
    subst e1
    subst e2
    have hlk := PI_lOK hI (sn * 5 + tn)
    have hdm9 := PI_ldm hI (sn * 5 + tn) dy
    have hmn := @mnI_le mny (lsk (LR (sn * 5 + tn)))
    have hsk9 := hlk.2.2.2.2.2.1
    have hllo : 0 ≤ llo (LR (sn * 5 + tn)) ∧ llo (LR (sn * 5 + tn)) ≤ 1000000 := by
      have c3 := (PI_CI hI hcr).2.2.2.2.2.1
      have c11 := (PI_CI hI hcr).2.2.2.2.2.2.2.2.2.2.2.2.2
      have a1 := smI_le (f := ldm (LR (sn * 5 + tn))) (B := 999) c3 (dy + 1)
      omega
    by_cases hz : (if mny < 1 ∨ 99 < mny then 3 else if 999 < ldm (LR (sn * 5 + tn)) dy + mny then 5 else 0) = 0
    · have hw1 : ¬ (mny < 1 ∨ 99 < mny) := fun q => by rw [if_pos q] at hz; omega
      have hw2 : ¬ 999 < ldm (LR (sn * 5 + tn)) dy + mny := fun q => by rw [if_neg hw1, if_pos q] at hz; omega
      have hG2 := GI_demand hG hcr (u := mny) (by omega) (by omega)
      have hI2 := hG2.1
      refine lv_aload_n hx hb dL_law_593 rfl (lv_at hl 1 rfl) ?_
      refine lv_iload hx hb dL_law_594 (lv_at hl 11 rfl) ?_
      refine lv_iload hx hb dL_law_596 (lv_at hl 12 rfl) ?_
      refine va_calli (vx_runSW (As := [.ref (oa 0), .int (iI (((sn : Nat) : Int))), .int (iI (((tn : Nat) : Int)))]) (rest := []) ⟨hx, hb, hml, hown, hts⟩ (m_L_stock_k l hst D cs oa IA LA sh it dy lc pct lr sr lf lrf srf cr IR LR z sn tn (hI) (htn) (hcr)) (vx_cwSW 3 hts (gS w_643 w_644 w_0 w_645) rfl rfl rfl (by decide +kernel) ⟨Nat.le_of_ble_eq_true rfl, Nat.le_of_ble_eq_true rfl⟩) (PE_Sa hK hN hE hS (fun _ h => False.elim h) (P_R (E := [(ap, arI cs 2 fp), (ad, arI cs 6 fd), (al, arI cs 3 fl)]) (Wc := (OW cs oa IA LA sh it dy lc pct lr sr lf lrf srf cr IR LR z)) hP) (D_R (E := [(ap, arI cs 2 fp), (ad, arI cs 6 fd), (al, arI cs 3 fl)]) (Wc := (OW cs oa IA LA sh it dy lc pct lr sr lf lrf srf cr IR LR z)) hD)) rfl rfl hl.1 rfl (lv_room (Nat.le_of_ble_eq_true rfl)) dL_law_598 ⟨rm_c (by omega), rm_s (by omega)⟩) hS (fun _ _ h => False.elim h) (fun _ h => False.elim h) (fun r u t H locs ht hvm hw hB hz1 hk1 hS => ?_)
      subst hw
      have hP := P_kept hP hk1
      refine lv_istore (lv' := [(18, .int (iI (lsk (LR (sn * 5 + tn))))), (0, .ref b), (1, .ref (oa 0)), (2, .ref al), (3, .ref ap), (4, .ref ad), (5, .int (iI (1))), (6, .long (lI (un))), (8, .int (iI ((((7 + 4 * n) : Nat) : Int)))), (9, .int (iI (sa))), (10, .int (iI (((n : Nat) : Int)))), (11, .long (lI (bf))), (14, .int (iI (((sn : Nat) : Int)))), (15, .int (iI (((tn : Nat) : Int)))), (16, .int (iI (mz))), (17, .int (iI (0)))]) hx hb dL_law_601 hl (by decide) rfl (fun ls hl => ?_)
      refine lv_aload_n hx hb dL_law_603 rfl (lv_at hl 2 rfl) ?_
      refine lv_iload hx hb dL_law_604 (lv_at hl 12 rfl) ?_
      refine lv_iload hx hb dL_law_606 (lv_at hl 13 rfl) ?_
      refine va_calli (vx_runSW (As := [.ref (oa 0), .int (iI (((sn : Nat) : Int))), .int (iI (((tn : Nat) : Int)))]) (rest := []) ⟨hx, hb, hml, hown, hts⟩ (m_L_demandToday_k l hst D cs oa IA LA sh it dy lc pct lr sr lf lrf srf cr IR LR z sn tn (hI) (htn) (hcr)) (vx_cwSW 3 hts (gS w_620 w_621 w_0 w_622) rfl rfl rfl (by decide +kernel) ⟨Nat.le_of_ble_eq_true rfl, Nat.le_of_ble_eq_true rfl⟩) (PE_Sa hK hN hE hS (fun _ h => False.elim h) (P_R (E := [(ap, arI cs 2 fp), (ad, arI cs 6 fd), (al, arI cs 3 fl)]) (Wc := (OW cs oa IA LA sh it dy lc pct lr sr lf lrf srf cr IR LR z)) hP) (D_R (E := [(ap, arI cs 2 fp), (ad, arI cs 6 fd), (al, arI cs 3 fl)]) (Wc := (OW cs oa IA LA sh it dy lc pct lr sr lf lrf srf cr IR LR z)) hD)) rfl rfl hl.1 rfl (lv_room (Nat.le_of_ble_eq_true rfl)) dL_law_608 ⟨rm_c (by omega), rm_s (by omega)⟩) hS (fun _ _ h => False.elim h) (fun _ h => False.elim h) (fun r u t H locs ht hvm hw hB hz1 hk1 hS => ?_)
      subst hw
      have hP := P_kept hP hk1
      refine lv_istore (lv' := [(19, .int (iI (ldm (LR (sn * 5 + tn)) dy))), (18, .int (iI (lsk (LR (sn * 5 + tn))))), (0, .ref b), (1, .ref (oa 0)), (2, .ref al), (3, .ref ap), (4, .ref ad), (5, .int (iI (1))), (6, .long (lI (un))), (8, .int (iI ((((7 + 4 * n) : Nat) : Int)))), (9, .int (iI (sa))), (10, .int (iI (((n : Nat) : Int)))), (11, .long (lI (bf))), (14, .int (iI (((sn : Nat) : Int)))), (15, .int (iI (((tn : Nat) : Int)))), (16, .int (iI (mz))), (17, .int (iI (0)))]) hx hb dL_law_611 hl (by decide) rfl (fun ls hl => ?_)
      refine lv_aload_n hx hb dL_law_613 rfl (lv_at hl 3 rfl) ?_
      refine lv_iload hx hb dL_law_614 (lv_at hl 13 rfl) ?_
      refine lv_iload hx hb dL_law_616 (lv_at hl 14 rfl) ?_
      refine va_calli (vx_runSW (As := [.ref (oa 0), .int (iI (((sn : Nat) : Int))), .int (iI (((tn : Nat) : Int)))]) (rest := []) ⟨hx, hb, hml, hown, hts⟩ (m_L_lost_k l hst D cs oa IA LA sh it dy lc pct lr sr lf lrf srf cr IR LR z sn tn (hI) (htn) (hcr)) (vx_cwSW 3 hts (gS w_657 w_658 w_0 w_659) rfl rfl rfl (by decide +kernel) ⟨Nat.le_of_ble_eq_true rfl, Nat.le_of_ble_eq_true rfl⟩) (PE_Sa hK hN hE hS (fun _ h => False.elim h) (P_R (E := [(ap, arI cs 2 fp), (ad, arI cs 6 fd), (al, arI cs 3 fl)]) (Wc := (OW cs oa IA LA sh it dy lc pct lr sr lf lrf srf cr IR LR z)) hP) (D_R (E := [(ap, arI cs 2 fp), (ad, arI cs 6 fd), (al, arI cs 3 fl)]) (Wc := (OW cs oa IA LA sh it dy lc pct lr sr lf lrf srf cr IR LR z)) hD)) rfl rfl hl.1 rfl (lv_room (Nat.le_of_ble_eq_true rfl)) dL_law_618 ⟨rm_c (by omega), rm_s (by omega)⟩) hS (fun _ _ h => False.elim h) (fun _ h => False.elim h) (fun r u t H locs ht hvm hw hB hz1 hk1 hS => ?_)
      subst hw
      have hP := P_kept hP hk1
      refine lv_istore (lv' := [(20, .int (iI (llo (LR (sn * 5 + tn))))), (19, .int (iI (ldm (LR (sn * 5 + tn)) dy))), (18, .int (iI (lsk (LR (sn * 5 + tn))))), (0, .ref b), (1, .ref (oa 0)), (2, .ref al), (3, .ref ap), (4, .ref ad), (5, .int (iI (1))), (6, .long (lI (un))), (8, .int (iI ((((7 + 4 * n) : Nat) : Int)))), (9, .int (iI (sa))), (10, .int (iI (((n : Nat) : Int)))), (11, .long (lI (bf))), (14, .int (iI (((sn : Nat) : Int)))), (15, .int (iI (((tn : Nat) : Int)))), (16, .int (iI (mz))), (17, .int (iI (0)))]) hx hb dL_law_621 hl (by decide) rfl (fun ls hl => ?_)
      refine lv_iload hx hb dL_law_623 (lv_at hl 16 rfl) ?_
      refine lv_bipush (v := iI (31)) hx hb dL_law_625 (by decide) ?_
      refine my_irem hx hb dL_law_627 (by omega) rfl ?_
      refine my_jn (pc2 := 642) (stk := [.int (iI (mny))]) (n := 22) (loc := [(20, .int (iI (llo (LR (sn * 5 + tn))))), (19, .int (iI (ldm (LR (sn * 5 + tn)) dy))), (18, .int (iI (lsk (LR (sn * 5 + tn))))), (0, .ref b), (1, .ref (oa 0)), (2, .ref al), (3, .ref ap), (4, .ref ad), (5, .int (iI (1))), (6, .long (lI (un))), (8, .int (iI ((((7 + 4 * n) : Nat) : Int)))), (9, .int (iI (sa))), (10, .int (iI (((n : Nat) : Int)))), (11, .long (lI (bf))), (14, .int (iI (((sn : Nat) : Int)))), (15, .int (iI (((tn : Nat) : Int)))), (16, .int (iI (mz))), (17, .int (iI (0)))]) (fun ls hl => ?_) (fun J642 => ?_)
      · refine lv_istore (lv' := [(21, .int (iI (mny))), (20, .int (iI (llo (LR (sn * 5 + tn))))), (19, .int (iI (ldm (LR (sn * 5 + tn)) dy))), (18, .int (iI (lsk (LR (sn * 5 + tn))))), (0, .ref b), (1, .ref (oa 0)), (2, .ref al), (3, .ref ap), (4, .ref ad), (5, .int (iI (1))), (6, .long (lI (un))), (8, .int (iI ((((7 + 4 * n) : Nat) : Int)))), (9, .int (iI (sa))), (10, .int (iI (((n : Nat) : Int)))), (11, .long (lI (bf))), (14, .int (iI (((sn : Nat) : Int)))), (15, .int (iI (((tn : Nat) : Int)))), (16, .int (iI (mz))), (17, .int (iI (0)))]) hx hb dL_law_642 hl (by decide) rfl (fun ls hl => ?_)
        refine lv_aload_n hx hb dL_law_644 rfl (lv_at hl 5 rfl) ?_
        refine lv_iload hx hb dL_law_645 (lv_at hl 15 rfl) ?_
        refine lv_iload hx hb dL_law_647 (lv_at hl 16 rfl) ?_
        refine lv_iload hx hb dL_law_649 (lv_at hl 0 rfl) ?_
        refine va_calli (vx_runSW (As := [.ref (oa 0), .int (iI (((sn : Nat) : Int))), .int (iI (((tn : Nat) : Int))), .int (iI (mny))]) (rest := []) ⟨hx, hb, hml, hown, hts⟩ (m_L_demand_R l hst D cs oa IA LA sh it dy lc pct lr sr lf lrf srf cr IR LR z sn tn mny (hI) (htn) (hcr) (by omega) (hz)) (vx_cwSW 4 hts (gS w_457 w_458 w_0 w_459) rfl rfl rfl (by decide +kernel) ⟨Nat.le_of_ble_eq_true rfl, Nat.le_of_ble_eq_true rfl⟩) (PE_Sa hK hN hE hS (fun q h => inW_suba (D_R (E := [(ap, arI cs 2 fp), (ad, arI cs 6 fd), (al, arI cs 3 fl)]) (Wc := (OW cs oa IA LA sh it dy lc pct lr sr lf lrf srf cr IR LR z)) hD) q h) (P_R (E := [(ap, arI cs 2 fp), (ad, arI cs 6 fd), (al, arI cs 3 fl)]) (Wc := (OW cs oa IA LA sh it dy lc pct lr sr lf lrf srf cr IR LR z)) hP) (D_R (E := [(ap, arI cs 2 fp), (ad, arI cs 6 fd), (al, arI cs 3 fl)]) (Wc := (OW cs oa IA LA sh it dy lc pct lr sr lf lrf srf cr IR LR z)) hD)) rfl rfl hl.1 rfl (lv_room (Nat.le_of_ble_eq_true rfl)) dL_law_651 ⟨rm_c (by omega), rm_s (by omega)⟩) hS (fun q _ h => inW_suba (D_R (E := [(ap, arI cs 2 fp), (ad, arI cs 6 fd), (al, arI cs 3 fl)]) (Wc := (OW cs oa IA LA sh it dy lc pct lr sr lf lrf srf cr IR LR z)) hD) q h) (fun q h => inW_suba (D_R (E := [(ap, arI cs 2 fp), (ad, arI cs 6 fd), (al, arI cs 3 fl)]) (Wc := (OW cs oa IA LA sh it dy lc pct lr sr lf lrf srf cr IR LR z)) hD) q h) (fun r u t H locs ht hvm hw hB hz1 hk1 hS => ?_)
        subst hw
        rw [ht] at hB
        obtain ⟨hP, hD⟩ := my_joinE (E := [(ap, arI cs 2 fp), (ad, arI cs 6 fd), (al, arI cs 3 fl)]) (Wc := (OW cs oa IA LA sh it dy lc pct lr sr lf lrf srf cr IR LR z)) (W2 := (OW cs oa IA LA sh it dy lc pct lr sr lf lrf srf cr IR (upR LR (sn * 5 + tn) (sllR dy mny (LR (sn * 5 + tn)))) z)) hP hD OW_fst hk1 hB
        have hP : va_P D vwCl ([(ap, arI cs 2 fp), (ad, arI cs 6 fd), (al, arI cs 3 fl)] ++ (OW cs oa IA LA sh it dy lc pct lr sr lf lrf srf cr IR (upR LR (sn * 5 + tn) (sllR dy mny (LR (sn * 5 + tn)))) z)) H := hP
        have hD : va_D A ([(ap, arI cs 2 fp), (ad, arI cs 6 fd), (al, arI cs 3 fl)] ++ (OW cs oa IA LA sh it dy lc pct lr sr lf lrf srf cr IR (upR LR (sn * 5 + tn) (sllR dy mny (LR (sn * 5 + tn)))) z)) := hD
        refine lv_istore (lv' := [(17, .int (iI (mnI mny (lsk (LR (sn * 5 + tn)))))), (21, .int (iI (mny))), (20, .int (iI (llo (LR (sn * 5 + tn))))), (19, .int (iI (ldm (LR (sn * 5 + tn)) dy))), (18, .int (iI (lsk (LR (sn * 5 + tn))))), (0, .ref b), (1, .ref (oa 0)), (2, .ref al), (3, .ref ap), (4, .ref ad), (5, .int (iI (1))), (6, .long (lI (un))), (8, .int (iI ((((7 + 4 * n) : Nat) : Int)))), (9, .int (iI (sa))), (10, .int (iI (((n : Nat) : Int)))), (11, .long (lI (bf))), (14, .int (iI (((sn : Nat) : Int)))), (15, .int (iI (((tn : Nat) : Int)))), (16, .int (iI (mz)))]) hx hb dL_law_654 hl (by decide) rfl (fun ls hl => ?_)
        refine lv_iload hx hb dL_law_656 (lv_at hl 0 rfl) ?_
        refine my_if_lt (tgt := 738) hx hb (by omega) dL_law_658 (by decide) (fun bh1 => (by omega : False).elim) (fun bh1 => ?_)
        refine lv_iload hx hb dL_law_661 (lv_at hl 13 rfl) ?_
        refine lv_iload hx hb dL_law_663 (lv_at hl 0 rfl) ?_
        refine my_iadd (z := sa + (mnI mny (lsk (LR (sn * 5 + tn))))) hx hb dL_law_665 (rfl) ?_
        refine lv_istore (lv' := [(9, .int (iI (sa + (mnI mny (lsk (LR (sn * 5 + tn))))))), (17, .int (iI (mnI mny (lsk (LR (sn * 5 + tn)))))), (21, .int (iI (mny))), (20, .int (iI (llo (LR (sn * 5 + tn))))), (19, .int (iI (ldm (LR (sn * 5 + tn)) dy))), (18, .int (iI (lsk (LR (sn * 5 + tn))))), (0, .ref b), (1, .ref (oa 0)), (2, .ref al), (3, .ref ap), (4, .ref ad), (5, .int (iI (1))), (6, .long (lI (un))), (8, .int (iI ((((7 + 4 * n) : Nat) : Int)))), (10, .int (iI (((n : Nat) : Int)))), (11, .long (lI (bf))), (14, .int (iI (((sn : Nat) : Int)))), (15, .int (iI (((tn : Nat) : Int)))), (16, .int (iI (mz)))]) hx hb dL_law_666 hl (by decide) rfl (fun ls hl => ?_)
        refine lv_iload hx hb dL_law_668 (lv_at hl 1 rfl) ?_
        refine lv_iload hx hb dL_law_670 (lv_at hl 2 rfl) ?_
        refine lv_iload hx hb dL_law_672 (lv_at hl 5 rfl) ?_
        refine va_mmin hx hb (hml.trans hl.1.symm) hown (hts _ w_804) (hts _ w_509) (hts _ w_15) (hts _ w_510) (Nat.le_of_ble_eq_true rfl) (Nat.le_of_ble_eq_true rfl) (rm_c (by omega)) (rm_s (by omega)) dL_law_674 ?_
        rw [my_min (by omega)]
        refine my_icmp_ne (tgt := 735) hx hb (by omega) dL_law_677 (by decide) (fun bh2 => (by omega : False).elim) (fun bh2 => ?_)
        refine lv_aload_n hx hb dL_law_680 rfl (lv_at hl 7 rfl) ?_
        refine lv_iload hx hb dL_law_681 (lv_at hl 16 rfl) ?_
        refine lv_iload hx hb dL_law_683 (lv_at hl 17 rfl) ?_
        refine va_calli (vx_runSW (As := [.ref (oa 0), .int (iI (((sn : Nat) : Int))), .int (iI (((tn : Nat) : Int)))]) (rest := []) ⟨hx, hb, hml, hown, hts⟩ (m_L_stock_k l hst D cs oa IA LA sh it dy lc pct lr sr lf lrf srf cr IR (upR LR (sn * 5 + tn) (sllR dy mny (LR (sn * 5 + tn)))) z sn tn (hI2) (htn) (hcr)) (vx_cwSW 3 hts (gS w_643 w_644 w_0 w_645) rfl rfl rfl (by decide +kernel) ⟨Nat.le_of_ble_eq_true rfl, Nat.le_of_ble_eq_true rfl⟩) (PE_Sa hK hN hE hS (fun _ h => False.elim h) (P_R (E := [(ap, arI cs 2 fp), (ad, arI cs 6 fd), (al, arI cs 3 fl)]) (Wc := (OW cs oa IA LA sh it dy lc pct lr sr lf lrf srf cr IR (upR LR (sn * 5 + tn) (sllR dy mny (LR (sn * 5 + tn)))) z)) hP) (D_R (E := [(ap, arI cs 2 fp), (ad, arI cs 6 fd), (al, arI cs 3 fl)]) (Wc := (OW cs oa IA LA sh it dy lc pct lr sr lf lrf srf cr IR (upR LR (sn * 5 + tn) (sllR dy mny (LR (sn * 5 + tn)))) z)) hD)) rfl rfl hl.1 rfl (lv_room (Nat.le_of_ble_eq_true rfl)) dL_law_685 ⟨rm_c (by omega), rm_s (by omega)⟩) hS (fun _ _ h => False.elim h) (fun _ h => False.elim h) (fun r u t H locs ht hvm hw hB hz1 hk1 hS => ?_)
        subst hw
        have hP := P_kept hP hk1
        refine my_cv0 (z := lsk (LR (sn * 5 + tn)) - mnI mny (lsk (LR (sn * 5 + tn)))) (by rw [upR_same]; rfl) ?_
        refine lv_iload hx hb dL_law_688 (lv_at hl 5 rfl) ?_
        refine lv_iload hx hb dL_law_690 (lv_at hl 1 rfl) ?_
        refine my_isub (z := (lsk (LR (sn * 5 + tn))) - (mnI mny (lsk (LR (sn * 5 + tn))))) hx hb dL_law_692 (rfl) ?_
        refine my_icmp_ne (tgt := 735) hx hb (by omega) dL_law_693 (by decide) (fun bh3 => (by omega : False).elim) (fun bh3 => ?_)
        refine lv_aload_n hx hb dL_law_696 rfl (lv_at hl 7 rfl) ?_
        refine lv_iload hx hb dL_law_697 (lv_at hl 16 rfl) ?_
        refine lv_iload hx hb dL_law_699 (lv_at hl 17 rfl) ?_
        refine va_calli (vx_runSW (As := [.ref (oa 0), .int (iI (((sn : Nat) : Int))), .int (iI (((tn : Nat) : Int)))]) (rest := []) ⟨hx, hb, hml, hown, hts⟩ (m_L_demandToday_k l hst D cs oa IA LA sh it dy lc pct lr sr lf lrf srf cr IR (upR LR (sn * 5 + tn) (sllR dy mny (LR (sn * 5 + tn)))) z sn tn (hI2) (htn) (hcr)) (vx_cwSW 3 hts (gS w_620 w_621 w_0 w_622) rfl rfl rfl (by decide +kernel) ⟨Nat.le_of_ble_eq_true rfl, Nat.le_of_ble_eq_true rfl⟩) (PE_Sa hK hN hE hS (fun _ h => False.elim h) (P_R (E := [(ap, arI cs 2 fp), (ad, arI cs 6 fd), (al, arI cs 3 fl)]) (Wc := (OW cs oa IA LA sh it dy lc pct lr sr lf lrf srf cr IR (upR LR (sn * 5 + tn) (sllR dy mny (LR (sn * 5 + tn)))) z)) hP) (D_R (E := [(ap, arI cs 2 fp), (ad, arI cs 6 fd), (al, arI cs 3 fl)]) (Wc := (OW cs oa IA LA sh it dy lc pct lr sr lf lrf srf cr IR (upR LR (sn * 5 + tn) (sllR dy mny (LR (sn * 5 + tn)))) z)) hD)) rfl rfl hl.1 rfl (lv_room (Nat.le_of_ble_eq_true rfl)) dL_law_701 ⟨rm_c (by omega), rm_s (by omega)⟩) hS (fun _ _ h => False.elim h) (fun _ h => False.elim h) (fun r u t H locs ht hvm hw hB hz1 hk1 hS => ?_)
        subst hw
        have hP := P_kept hP hk1
        refine my_cv0 (z := ldm (LR (sn * 5 + tn)) dy + mny) (by rw [upR_same]; exact upI_same) ?_
        refine lv_iload hx hb dL_law_704 (lv_at hl 4 rfl) ?_
        refine lv_iload hx hb dL_law_706 (lv_at hl 2 rfl) ?_
        refine my_iadd (z := (ldm (LR (sn * 5 + tn)) dy) + mny) hx hb dL_law_708 (rfl) ?_
        refine my_icmp_ne (tgt := 735) hx hb (by omega) dL_law_709 (by decide) (fun bh4 => (by omega : False).elim) (fun bh4 => ?_)
        refine lv_aload_n hx hb dL_law_712 rfl (lv_at hl 7 rfl) ?_
        refine lv_iload hx hb dL_law_713 (lv_at hl 16 rfl) ?_
        refine lv_iload hx hb dL_law_715 (lv_at hl 17 rfl) ?_
        refine va_calli (vx_runSW (As := [.ref (oa 0), .int (iI (((sn : Nat) : Int))), .int (iI (((tn : Nat) : Int)))]) (rest := []) ⟨hx, hb, hml, hown, hts⟩ (m_L_lost_k l hst D cs oa IA LA sh it dy lc pct lr sr lf lrf srf cr IR (upR LR (sn * 5 + tn) (sllR dy mny (LR (sn * 5 + tn)))) z sn tn (hI2) (htn) (hcr)) (vx_cwSW 3 hts (gS w_657 w_658 w_0 w_659) rfl rfl rfl (by decide +kernel) ⟨Nat.le_of_ble_eq_true rfl, Nat.le_of_ble_eq_true rfl⟩) (PE_Sa hK hN hE hS (fun _ h => False.elim h) (P_R (E := [(ap, arI cs 2 fp), (ad, arI cs 6 fd), (al, arI cs 3 fl)]) (Wc := (OW cs oa IA LA sh it dy lc pct lr sr lf lrf srf cr IR (upR LR (sn * 5 + tn) (sllR dy mny (LR (sn * 5 + tn)))) z)) hP) (D_R (E := [(ap, arI cs 2 fp), (ad, arI cs 6 fd), (al, arI cs 3 fl)]) (Wc := (OW cs oa IA LA sh it dy lc pct lr sr lf lrf srf cr IR (upR LR (sn * 5 + tn) (sllR dy mny (LR (sn * 5 + tn)))) z)) hD)) rfl rfl hl.1 rfl (lv_room (Nat.le_of_ble_eq_true rfl)) dL_law_717 ⟨rm_c (by omega), rm_s (by omega)⟩) hS (fun _ _ h => False.elim h) (fun _ h => False.elim h) (fun r u t H locs ht hvm hw hB hz1 hk1 hS => ?_)
        subst hw
        have hP := P_kept hP hk1
        refine my_cv0 (z := llo (LR (sn * 5 + tn)) + (mny - mnI mny (lsk (LR (sn * 5 + tn))))) (by rw [upR_same]; rfl) ?_
        refine lv_iload hx hb dL_law_720 (lv_at hl 3 rfl) ?_
        refine lv_iload hx hb dL_law_722 (lv_at hl 2 rfl) ?_
        refine my_iadd (z := (llo (LR (sn * 5 + tn))) + mny) hx hb dL_law_724 (rfl) ?_
        refine lv_iload hx hb dL_law_725 (lv_at hl 1 rfl) ?_
        refine my_isub (z := ((llo (LR (sn * 5 + tn))) + mny) - (mnI mny (lsk (LR (sn * 5 + tn))))) hx hb dL_law_727 (rfl) ?_
        refine my_icmp_ne (tgt := 735) hx hb (by omega) dL_law_728 (by decide) (fun bh5 => (by omega : False).elim) (fun bh5 => ?_)
        refine lv_iconst (v := iI (1)) hx hb dL_law_731 rfl ?_
        refine lv_goto (tgt := 736) hx hb dL_law_732 (by decide) ?_
        refine lv_istore (lv' := [(5, .int (iI (1))), (9, .int (iI (sa + (mnI mny (lsk (LR (sn * 5 + tn))))))), (17, .int (iI (mnI mny (lsk (LR (sn * 5 + tn)))))), (21, .int (iI (mny))), (20, .int (iI (llo (LR (sn * 5 + tn))))), (19, .int (iI (ldm (LR (sn * 5 + tn)) dy))), (18, .int (iI (lsk (LR (sn * 5 + tn))))), (0, .ref b), (1, .ref (oa 0)), (2, .ref al), (3, .ref ap), (4, .ref ad), (6, .long (lI (un))), (8, .int (iI ((((7 + 4 * n) : Nat) : Int)))), (10, .int (iI (((n : Nat) : Int)))), (11, .long (lI (bf))), (14, .int (iI (((sn : Nat) : Int)))), (15, .int (iI (((tn : Nat) : Int)))), (16, .int (iI (mz)))]) hx hb dL_law_736 hl (by decide) rfl (fun ls hl => ?_)
        refine lv_goto (tgt := 838) hx hb dL_law_738 (by decide) ?_
        exact c_tail (n := n) hC (hG2) (fun h => absurd h (by omega)) (by omega) hP hD hS (lv_sub hl [7, 8, 9, 10, 11, 0, 12, 13, 1, 14, 15, 2] rfl) (by omega) (by omega) (by omega) (by omega) (by omega) K
      refine my_if_ne (tgt := 635) hx hb (by omega) dL_law_628 (by decide) (fun bh6 => ?_) (fun bh6 => ?_)
      · refine lv_iconst (v := iI (1)) hx hb dL_law_635 rfl ?_
        refine lv_iload hx hb dL_law_636 (lv_at hl 16 rfl) ?_
        refine lv_bipush (v := iI (20)) hx hb dL_law_638 (by decide) ?_
        refine my_irem hx hb dL_law_640 (by omega) rfl ?_
        refine my_iadd (z := 1 + (mz % 20)) hx hb dL_law_641 (rfl) ?_
        refine my_cv0 (z := mny) (by rw [hmny, if_neg (by omega)]) ?_
        exact J642 ls (lv_sub hl [0, 1, 2, 3, 4, 5, 6, 7, 8, 9, 10, 11, 12, 13, 14, 15, 16, 17] rfl)
      · refine lv_iconst (v := iI (0)) hx hb dL_law_631 rfl ?_
        refine my_cv0 (z := mny) (by rw [hmny, if_pos (by omega)]) ?_
        refine lv_goto (tgt := 642) hx hb dL_law_632 (by decide) ?_
        exact J642 ls (lv_sub hl [0, 1, 2, 3, 4, 5, 6, 7, 8, 9, 10, 11, 12, 13, 14, 15, 16, 17] rfl)
    · have hE9 : (if mny < 1 ∨ 99 < mny then 3 else if 999 < ldm (LR (sn * 5 + tn)) dy + mny then 5 else 0) ≠ 0 ∧ (if mny < 1 ∨ 99 < mny then 3 else if 999 < ldm (LR (sn * 5 + tn)) dy + mny then 5 else 0) ≤ 5 := ⟨hz, by split <;> (try split) <;> omega⟩
      have hneg := exv_neg hE9
      have hxr := exv_rng (if mny < 1 ∨ 99 < mny then 3 else if 999 < ldm (LR (sn * 5 + tn)) dy + mny then 5 else 0)
      refine lv_aload_n hx hb dL_law_593 rfl (lv_at hl 1 rfl) ?_
      refine lv_iload hx hb dL_law_594 (lv_at hl 11 rfl) ?_
      refine lv_iload hx hb dL_law_596 (lv_at hl 12 rfl) ?_
      refine va_calli (vx_runSW (As := [.ref (oa 0), .int (iI (((sn : Nat) : Int))), .int (iI (((tn : Nat) : Int)))]) (rest := []) ⟨hx, hb, hml, hown, hts⟩ (m_L_stock_k l hst D cs oa IA LA sh it dy lc pct lr sr lf lrf srf cr IR LR z sn tn (hI) (htn) (hcr)) (vx_cwSW 3 hts (gS w_643 w_644 w_0 w_645) rfl rfl rfl (by decide +kernel) ⟨Nat.le_of_ble_eq_true rfl, Nat.le_of_ble_eq_true rfl⟩) (PE_Sa hK hN hE hS (fun _ h => False.elim h) (P_R (E := [(ap, arI cs 2 fp), (ad, arI cs 6 fd), (al, arI cs 3 fl)]) (Wc := (OW cs oa IA LA sh it dy lc pct lr sr lf lrf srf cr IR LR z)) hP) (D_R (E := [(ap, arI cs 2 fp), (ad, arI cs 6 fd), (al, arI cs 3 fl)]) (Wc := (OW cs oa IA LA sh it dy lc pct lr sr lf lrf srf cr IR LR z)) hD)) rfl rfl hl.1 rfl (lv_room (Nat.le_of_ble_eq_true rfl)) dL_law_598 ⟨rm_c (by omega), rm_s (by omega)⟩) hS (fun _ _ h => False.elim h) (fun _ h => False.elim h) (fun r u t H locs ht hvm hw hB hz1 hk1 hS => ?_)
      subst hw
      have hP := P_kept hP hk1
      refine lv_istore (lv' := [(18, .int (iI (lsk (LR (sn * 5 + tn))))), (0, .ref b), (1, .ref (oa 0)), (2, .ref al), (3, .ref ap), (4, .ref ad), (5, .int (iI (1))), (6, .long (lI (un))), (8, .int (iI ((((7 + 4 * n) : Nat) : Int)))), (9, .int (iI (sa))), (10, .int (iI (((n : Nat) : Int)))), (11, .long (lI (bf))), (14, .int (iI (((sn : Nat) : Int)))), (15, .int (iI (((tn : Nat) : Int)))), (16, .int (iI (mz))), (17, .int (iI (0)))]) hx hb dL_law_601 hl (by decide) rfl (fun ls hl => ?_)
      refine lv_aload_n hx hb dL_law_603 rfl (lv_at hl 2 rfl) ?_
      refine lv_iload hx hb dL_law_604 (lv_at hl 12 rfl) ?_
      refine lv_iload hx hb dL_law_606 (lv_at hl 13 rfl) ?_
      refine va_calli (vx_runSW (As := [.ref (oa 0), .int (iI (((sn : Nat) : Int))), .int (iI (((tn : Nat) : Int)))]) (rest := []) ⟨hx, hb, hml, hown, hts⟩ (m_L_demandToday_k l hst D cs oa IA LA sh it dy lc pct lr sr lf lrf srf cr IR LR z sn tn (hI) (htn) (hcr)) (vx_cwSW 3 hts (gS w_620 w_621 w_0 w_622) rfl rfl rfl (by decide +kernel) ⟨Nat.le_of_ble_eq_true rfl, Nat.le_of_ble_eq_true rfl⟩) (PE_Sa hK hN hE hS (fun _ h => False.elim h) (P_R (E := [(ap, arI cs 2 fp), (ad, arI cs 6 fd), (al, arI cs 3 fl)]) (Wc := (OW cs oa IA LA sh it dy lc pct lr sr lf lrf srf cr IR LR z)) hP) (D_R (E := [(ap, arI cs 2 fp), (ad, arI cs 6 fd), (al, arI cs 3 fl)]) (Wc := (OW cs oa IA LA sh it dy lc pct lr sr lf lrf srf cr IR LR z)) hD)) rfl rfl hl.1 rfl (lv_room (Nat.le_of_ble_eq_true rfl)) dL_law_608 ⟨rm_c (by omega), rm_s (by omega)⟩) hS (fun _ _ h => False.elim h) (fun _ h => False.elim h) (fun r u t H locs ht hvm hw hB hz1 hk1 hS => ?_)
      subst hw
      have hP := P_kept hP hk1
      refine lv_istore (lv' := [(19, .int (iI (ldm (LR (sn * 5 + tn)) dy))), (18, .int (iI (lsk (LR (sn * 5 + tn))))), (0, .ref b), (1, .ref (oa 0)), (2, .ref al), (3, .ref ap), (4, .ref ad), (5, .int (iI (1))), (6, .long (lI (un))), (8, .int (iI ((((7 + 4 * n) : Nat) : Int)))), (9, .int (iI (sa))), (10, .int (iI (((n : Nat) : Int)))), (11, .long (lI (bf))), (14, .int (iI (((sn : Nat) : Int)))), (15, .int (iI (((tn : Nat) : Int)))), (16, .int (iI (mz))), (17, .int (iI (0)))]) hx hb dL_law_611 hl (by decide) rfl (fun ls hl => ?_)
      refine lv_aload_n hx hb dL_law_613 rfl (lv_at hl 3 rfl) ?_
      refine lv_iload hx hb dL_law_614 (lv_at hl 13 rfl) ?_
      refine lv_iload hx hb dL_law_616 (lv_at hl 14 rfl) ?_
      refine va_calli (vx_runSW (As := [.ref (oa 0), .int (iI (((sn : Nat) : Int))), .int (iI (((tn : Nat) : Int)))]) (rest := []) ⟨hx, hb, hml, hown, hts⟩ (m_L_lost_k l hst D cs oa IA LA sh it dy lc pct lr sr lf lrf srf cr IR LR z sn tn (hI) (htn) (hcr)) (vx_cwSW 3 hts (gS w_657 w_658 w_0 w_659) rfl rfl rfl (by decide +kernel) ⟨Nat.le_of_ble_eq_true rfl, Nat.le_of_ble_eq_true rfl⟩) (PE_Sa hK hN hE hS (fun _ h => False.elim h) (P_R (E := [(ap, arI cs 2 fp), (ad, arI cs 6 fd), (al, arI cs 3 fl)]) (Wc := (OW cs oa IA LA sh it dy lc pct lr sr lf lrf srf cr IR LR z)) hP) (D_R (E := [(ap, arI cs 2 fp), (ad, arI cs 6 fd), (al, arI cs 3 fl)]) (Wc := (OW cs oa IA LA sh it dy lc pct lr sr lf lrf srf cr IR LR z)) hD)) rfl rfl hl.1 rfl (lv_room (Nat.le_of_ble_eq_true rfl)) dL_law_618 ⟨rm_c (by omega), rm_s (by omega)⟩) hS (fun _ _ h => False.elim h) (fun _ h => False.elim h) (fun r u t H locs ht hvm hw hB hz1 hk1 hS => ?_)
      subst hw
      have hP := P_kept hP hk1
      refine lv_istore (lv' := [(20, .int (iI (llo (LR (sn * 5 + tn))))), (19, .int (iI (ldm (LR (sn * 5 + tn)) dy))), (18, .int (iI (lsk (LR (sn * 5 + tn))))), (0, .ref b), (1, .ref (oa 0)), (2, .ref al), (3, .ref ap), (4, .ref ad), (5, .int (iI (1))), (6, .long (lI (un))), (8, .int (iI ((((7 + 4 * n) : Nat) : Int)))), (9, .int (iI (sa))), (10, .int (iI (((n : Nat) : Int)))), (11, .long (lI (bf))), (14, .int (iI (((sn : Nat) : Int)))), (15, .int (iI (((tn : Nat) : Int)))), (16, .int (iI (mz))), (17, .int (iI (0)))]) hx hb dL_law_621 hl (by decide) rfl (fun ls hl => ?_)
      refine lv_iload hx hb dL_law_623 (lv_at hl 16 rfl) ?_
      refine lv_bipush (v := iI (31)) hx hb dL_law_625 (by decide) ?_
      refine my_irem hx hb dL_law_627 (by omega) rfl ?_
      refine my_jn (pc2 := 642) (stk := [.int (iI (mny))]) (n := 22) (loc := [(20, .int (iI (llo (LR (sn * 5 + tn))))), (19, .int (iI (ldm (LR (sn * 5 + tn)) dy))), (18, .int (iI (lsk (LR (sn * 5 + tn))))), (0, .ref b), (1, .ref (oa 0)), (2, .ref al), (3, .ref ap), (4, .ref ad), (5, .int (iI (1))), (6, .long (lI (un))), (8, .int (iI ((((7 + 4 * n) : Nat) : Int)))), (9, .int (iI (sa))), (10, .int (iI (((n : Nat) : Int)))), (11, .long (lI (bf))), (14, .int (iI (((sn : Nat) : Int)))), (15, .int (iI (((tn : Nat) : Int)))), (16, .int (iI (mz))), (17, .int (iI (0)))]) (fun ls hl => ?_) (fun J642 => ?_)
      · refine lv_istore (lv' := [(21, .int (iI (mny))), (20, .int (iI (llo (LR (sn * 5 + tn))))), (19, .int (iI (ldm (LR (sn * 5 + tn)) dy))), (18, .int (iI (lsk (LR (sn * 5 + tn))))), (0, .ref b), (1, .ref (oa 0)), (2, .ref al), (3, .ref ap), (4, .ref ad), (5, .int (iI (1))), (6, .long (lI (un))), (8, .int (iI ((((7 + 4 * n) : Nat) : Int)))), (9, .int (iI (sa))), (10, .int (iI (((n : Nat) : Int)))), (11, .long (lI (bf))), (14, .int (iI (((sn : Nat) : Int)))), (15, .int (iI (((tn : Nat) : Int)))), (16, .int (iI (mz))), (17, .int (iI (0)))]) hx hb dL_law_642 hl (by decide) rfl (fun ls hl => ?_)
        refine lv_aload_n hx hb dL_law_644 rfl (lv_at hl 5 rfl) ?_
        refine lv_iload hx hb dL_law_645 (lv_at hl 15 rfl) ?_
        refine lv_iload hx hb dL_law_647 (lv_at hl 16 rfl) ?_
        refine lv_iload hx hb dL_law_649 (lv_at hl 0 rfl) ?_
        refine va_calli (vx_runSW (As := [.ref (oa 0), .int (iI (((sn : Nat) : Int))), .int (iI (((tn : Nat) : Int))), .int (iI (mny))]) (rest := []) ⟨hx, hb, hml, hown, hts⟩ (m_L_demand_T l hst D cs oa IA LA sh it dy lc pct lr sr lf lrf srf cr IR LR z sn tn mny (hI) (htn) (hcr) (by omega) (hz)) (vx_cwSW 4 hts (gS w_457 w_458 w_0 w_459) rfl rfl rfl (by decide +kernel) ⟨Nat.le_of_ble_eq_true rfl, Nat.le_of_ble_eq_true rfl⟩) (PE_Sa hK hN hE hS (fun q h => inW_suba (D_R (E := [(ap, arI cs 2 fp), (ad, arI cs 6 fd), (al, arI cs 3 fl)]) (Wc := (OW cs oa IA LA sh it dy lc pct lr sr lf lrf srf cr IR LR z)) hD) q h) (P_R (E := [(ap, arI cs 2 fp), (ad, arI cs 6 fd), (al, arI cs 3 fl)]) (Wc := (OW cs oa IA LA sh it dy lc pct lr sr lf lrf srf cr IR LR z)) hP) (D_R (E := [(ap, arI cs 2 fp), (ad, arI cs 6 fd), (al, arI cs 3 fl)]) (Wc := (OW cs oa IA LA sh it dy lc pct lr sr lf lrf srf cr IR LR z)) hD)) rfl rfl hl.1 rfl (lv_room (Nat.le_of_ble_eq_true rfl)) dL_law_651 ⟨rm_c (by omega), rm_s (by omega)⟩) hS (fun q _ h => inW_suba (D_R (E := [(ap, arI cs 2 fp), (ad, arI cs 6 fd), (al, arI cs 3 fl)]) (Wc := (OW cs oa IA LA sh it dy lc pct lr sr lf lrf srf cr IR LR z)) hD) q h) (fun q h => inW_suba (D_R (E := [(ap, arI cs 2 fp), (ad, arI cs 6 fd), (al, arI cs 3 fl)]) (Wc := (OW cs oa IA LA sh it dy lc pct lr sr lf lrf srf cr IR LR z)) hD) q h) (fun r u t H locs ht hvm hw hB hz1 hk1 hS => ?_)
        subst hw
        rw [ht] at hB
        obtain ⟨hP, hD⟩ := my_joinE (E := [(ap, arI cs 2 fp), (ad, arI cs 6 fd), (al, arI cs 3 fl)]) (Wc := (OW cs oa IA LA sh it dy lc pct lr sr lf lrf srf cr IR LR z)) (W2 := (OW cs oa IA LA sh it dy lc pct lr sr lf lrf srf cr IR LR z)) hP hD OW_fst hk1 hB
        have hP : va_P D vwCl ([(ap, arI cs 2 fp), (ad, arI cs 6 fd), (al, arI cs 3 fl)] ++ (OW cs oa IA LA sh it dy lc pct lr sr lf lrf srf cr IR LR z)) H := hP
        have hD : va_D A ([(ap, arI cs 2 fp), (ad, arI cs 6 fd), (al, arI cs 3 fl)] ++ (OW cs oa IA LA sh it dy lc pct lr sr lf lrf srf cr IR LR z)) := hD
        refine lv_istore (lv' := [(17, .int (iI (exv (if mny < 1 ∨ 99 < mny then 3 else if 999 < ldm (LR (sn * 5 + tn)) dy + mny then 5 else 0)))), (21, .int (iI (mny))), (20, .int (iI (llo (LR (sn * 5 + tn))))), (19, .int (iI (ldm (LR (sn * 5 + tn)) dy))), (18, .int (iI (lsk (LR (sn * 5 + tn))))), (0, .ref b), (1, .ref (oa 0)), (2, .ref al), (3, .ref ap), (4, .ref ad), (5, .int (iI (1))), (6, .long (lI (un))), (8, .int (iI ((((7 + 4 * n) : Nat) : Int)))), (9, .int (iI (sa))), (10, .int (iI (((n : Nat) : Int)))), (11, .long (lI (bf))), (14, .int (iI (((sn : Nat) : Int)))), (15, .int (iI (((tn : Nat) : Int)))), (16, .int (iI (mz)))]) hx hb dL_law_654 hl (by decide) rfl (fun ls hl => ?_)
        refine lv_iload hx hb dL_law_656 (lv_at hl 0 rfl) ?_
        refine my_if_lt (tgt := 738) hx hb (by omega) dL_law_658 (by decide) (fun bh7 => ?_) (fun bh7 => (by omega : False).elim)
        refine lv_goto (tgt := 838) hx hb dL_law_738 (by decide) ?_
        exact c_tail (n := n) hC (GI_same hG) (fun _ => hbf) (by omega) hP hD hS (lv_sub hl [5, 6, 7, 8, 9, 10, 11, 12, 13, 14, 15, 0] rfl) (by omega) (by omega) (by omega) (by omega) (by omega) K
      refine my_if_ne (tgt := 635) hx hb (by omega) dL_law_628 (by decide) (fun bh8 => ?_) (fun bh8 => ?_)
      · refine lv_iconst (v := iI (1)) hx hb dL_law_635 rfl ?_
        refine lv_iload hx hb dL_law_636 (lv_at hl 16 rfl) ?_
        refine lv_bipush (v := iI (20)) hx hb dL_law_638 (by decide) ?_
        refine my_irem hx hb dL_law_640 (by omega) rfl ?_
        refine my_iadd (z := 1 + (mz % 20)) hx hb dL_law_641 (rfl) ?_
        refine my_cv0 (z := mny) (by rw [hmny, if_neg (by omega)]) ?_
        exact J642 ls (lv_sub hl [0, 1, 2, 3, 4, 5, 6, 7, 8, 9, 10, 11, 12, 13, 14, 15, 16, 17] rfl)
      · refine lv_iconst (v := iI (0)) hx hb dL_law_631 rfl ?_
        refine my_cv0 (z := mny) (by rw [hmny, if_pos (by omega)]) ?_
        refine lv_goto (tgt := 642) hx hb dL_law_632 (by decide) ?_
        exact J642 ls (lv_sub hl [0, 1, 2, 3, 4, 5, 6, 7, 8, 9, 10, 11, 12, 13, 14, 15, 16, 17] rfl)
  · have hcs := cdK_le sh it cr sz iz
    have hneg : exv (cdK sh it cr sz iz) < 0 := exv_neg (by omega)
    have hxr := exv_rng (cdK sh it cr sz iz)
    refine lv_aload_n hx hb dL_law_593 rfl (lv_at hl 1 rfl) ?_
    refine lv_iload hx hb dL_law_594 (lv_at hl 11 rfl) ?_
    refine lv_iload hx hb dL_law_596 (lv_at hl 12 rfl) ?_
    refine va_calli (vx_runSW (As := [.ref (oa 0), .int (iI (sz)), .int (iI (iz))]) (rest := []) ⟨hx, hb, hml, hown, hts⟩ (m_L_stock_w l hst D cs oa IA LA sh it dy lc pct lr sr lf lrf srf cr IR LR z sz iz (hI) (by omega) (by omega)) (vx_cwSW 3 hts (gS w_643 w_644 w_0 w_645) rfl rfl rfl (by decide +kernel) ⟨Nat.le_of_ble_eq_true rfl, Nat.le_of_ble_eq_true rfl⟩) (PE_Sa hK hN hE hS (fun _ h => False.elim h) (P_R (E := [(ap, arI cs 2 fp), (ad, arI cs 6 fd), (al, arI cs 3 fl)]) (Wc := (OW cs oa IA LA sh it dy lc pct lr sr lf lrf srf cr IR LR z)) hP) (D_R (E := [(ap, arI cs 2 fp), (ad, arI cs 6 fd), (al, arI cs 3 fl)]) (Wc := (OW cs oa IA LA sh it dy lc pct lr sr lf lrf srf cr IR LR z)) hD)) rfl rfl hl.1 rfl (lv_room (Nat.le_of_ble_eq_true rfl)) dL_law_598 ⟨rm_c (by omega), rm_s (by omega)⟩) hS (fun _ _ h => False.elim h) (fun _ h => False.elim h) (fun r u t H locs ht hvm hw hB hz1 hk1 hS => ?_)
    subst hw
    have hP := P_kept hP hk1
    have hr_stock := (PI_wr hI (sz) (iz)).1
    refine lv_istore (lv' := [(18, .int (iI (qC (cdK sh it cr sz iz) (lsk (LR (sz * 5 + iz).toNat))))), (0, .ref b), (1, .ref (oa 0)), (2, .ref al), (3, .ref ap), (4, .ref ad), (5, .int (iI (1))), (6, .long (lI (un))), (8, .int (iI ((((7 + 4 * n) : Nat) : Int)))), (9, .int (iI (sa))), (10, .int (iI (((n : Nat) : Int)))), (11, .long (lI (bf))), (14, .int (iI (sz))), (15, .int (iI (iz))), (16, .int (iI (mz))), (17, .int (iI (0)))]) hx hb dL_law_601 hl (by decide) rfl (fun ls hl => ?_)
    refine lv_aload_n hx hb dL_law_603 rfl (lv_at hl 2 rfl) ?_
    refine lv_iload hx hb dL_law_604 (lv_at hl 12 rfl) ?_
    refine lv_iload hx hb dL_law_606 (lv_at hl 13 rfl) ?_
    refine va_calli (vx_runSW (As := [.ref (oa 0), .int (iI (sz)), .int (iI (iz))]) (rest := []) ⟨hx, hb, hml, hown, hts⟩ (m_L_demandToday_w l hst D cs oa IA LA sh it dy lc pct lr sr lf lrf srf cr IR LR z sz iz (hI) (by omega) (by omega)) (vx_cwSW 3 hts (gS w_620 w_621 w_0 w_622) rfl rfl rfl (by decide +kernel) ⟨Nat.le_of_ble_eq_true rfl, Nat.le_of_ble_eq_true rfl⟩) (PE_Sa hK hN hE hS (fun _ h => False.elim h) (P_R (E := [(ap, arI cs 2 fp), (ad, arI cs 6 fd), (al, arI cs 3 fl)]) (Wc := (OW cs oa IA LA sh it dy lc pct lr sr lf lrf srf cr IR LR z)) hP) (D_R (E := [(ap, arI cs 2 fp), (ad, arI cs 6 fd), (al, arI cs 3 fl)]) (Wc := (OW cs oa IA LA sh it dy lc pct lr sr lf lrf srf cr IR LR z)) hD)) rfl rfl hl.1 rfl (lv_room (Nat.le_of_ble_eq_true rfl)) dL_law_608 ⟨rm_c (by omega), rm_s (by omega)⟩) hS (fun _ _ h => False.elim h) (fun _ h => False.elim h) (fun r u t H locs ht hvm hw hB hz1 hk1 hS => ?_)
    subst hw
    have hP := P_kept hP hk1
    have hr_demandToday := (PI_wr hI (sz) (iz)).2.2.2.2.1
    refine lv_istore (lv' := [(19, .int (iI (qC (cdK sh it cr sz iz) (ldm (LR (sz * 5 + iz).toNat) dy)))), (18, .int (iI (qC (cdK sh it cr sz iz) (lsk (LR (sz * 5 + iz).toNat))))), (0, .ref b), (1, .ref (oa 0)), (2, .ref al), (3, .ref ap), (4, .ref ad), (5, .int (iI (1))), (6, .long (lI (un))), (8, .int (iI ((((7 + 4 * n) : Nat) : Int)))), (9, .int (iI (sa))), (10, .int (iI (((n : Nat) : Int)))), (11, .long (lI (bf))), (14, .int (iI (sz))), (15, .int (iI (iz))), (16, .int (iI (mz))), (17, .int (iI (0)))]) hx hb dL_law_611 hl (by decide) rfl (fun ls hl => ?_)
    refine lv_aload_n hx hb dL_law_613 rfl (lv_at hl 3 rfl) ?_
    refine lv_iload hx hb dL_law_614 (lv_at hl 13 rfl) ?_
    refine lv_iload hx hb dL_law_616 (lv_at hl 14 rfl) ?_
    refine va_calli (vx_runSW (As := [.ref (oa 0), .int (iI (sz)), .int (iI (iz))]) (rest := []) ⟨hx, hb, hml, hown, hts⟩ (m_L_lost_w l hst D cs oa IA LA sh it dy lc pct lr sr lf lrf srf cr IR LR z sz iz (hI) (by omega) (by omega)) (vx_cwSW 3 hts (gS w_657 w_658 w_0 w_659) rfl rfl rfl (by decide +kernel) ⟨Nat.le_of_ble_eq_true rfl, Nat.le_of_ble_eq_true rfl⟩) (PE_Sa hK hN hE hS (fun _ h => False.elim h) (P_R (E := [(ap, arI cs 2 fp), (ad, arI cs 6 fd), (al, arI cs 3 fl)]) (Wc := (OW cs oa IA LA sh it dy lc pct lr sr lf lrf srf cr IR LR z)) hP) (D_R (E := [(ap, arI cs 2 fp), (ad, arI cs 6 fd), (al, arI cs 3 fl)]) (Wc := (OW cs oa IA LA sh it dy lc pct lr sr lf lrf srf cr IR LR z)) hD)) rfl rfl hl.1 rfl (lv_room (Nat.le_of_ble_eq_true rfl)) dL_law_618 ⟨rm_c (by omega), rm_s (by omega)⟩) hS (fun _ _ h => False.elim h) (fun _ h => False.elim h) (fun r u t H locs ht hvm hw hB hz1 hk1 hS => ?_)
    subst hw
    have hP := P_kept hP hk1
    have hr_lost := (PI_wr hI (sz) (iz)).2.2.2.2.2.2
    refine lv_istore (lv' := [(20, .int (iI (qC (cdK sh it cr sz iz) (llo (LR (sz * 5 + iz).toNat))))), (19, .int (iI (qC (cdK sh it cr sz iz) (ldm (LR (sz * 5 + iz).toNat) dy)))), (18, .int (iI (qC (cdK sh it cr sz iz) (lsk (LR (sz * 5 + iz).toNat))))), (0, .ref b), (1, .ref (oa 0)), (2, .ref al), (3, .ref ap), (4, .ref ad), (5, .int (iI (1))), (6, .long (lI (un))), (8, .int (iI ((((7 + 4 * n) : Nat) : Int)))), (9, .int (iI (sa))), (10, .int (iI (((n : Nat) : Int)))), (11, .long (lI (bf))), (14, .int (iI (sz))), (15, .int (iI (iz))), (16, .int (iI (mz))), (17, .int (iI (0)))]) hx hb dL_law_621 hl (by decide) rfl (fun ls hl => ?_)
    refine lv_iload hx hb dL_law_623 (lv_at hl 16 rfl) ?_
    refine lv_bipush (v := iI (31)) hx hb dL_law_625 (by decide) ?_
    refine my_irem hx hb dL_law_627 (by omega) rfl ?_
    refine my_jn (pc2 := 642) (stk := [.int (iI (mny))]) (n := 22) (loc := [(20, .int (iI (qC (cdK sh it cr sz iz) (llo (LR (sz * 5 + iz).toNat))))), (19, .int (iI (qC (cdK sh it cr sz iz) (ldm (LR (sz * 5 + iz).toNat) dy)))), (18, .int (iI (qC (cdK sh it cr sz iz) (lsk (LR (sz * 5 + iz).toNat))))), (0, .ref b), (1, .ref (oa 0)), (2, .ref al), (3, .ref ap), (4, .ref ad), (5, .int (iI (1))), (6, .long (lI (un))), (8, .int (iI ((((7 + 4 * n) : Nat) : Int)))), (9, .int (iI (sa))), (10, .int (iI (((n : Nat) : Int)))), (11, .long (lI (bf))), (14, .int (iI (sz))), (15, .int (iI (iz))), (16, .int (iI (mz))), (17, .int (iI (0)))]) (fun ls hl => ?_) (fun J642 => ?_)
    · refine lv_istore (lv' := [(21, .int (iI (mny))), (20, .int (iI (qC (cdK sh it cr sz iz) (llo (LR (sz * 5 + iz).toNat))))), (19, .int (iI (qC (cdK sh it cr sz iz) (ldm (LR (sz * 5 + iz).toNat) dy)))), (18, .int (iI (qC (cdK sh it cr sz iz) (lsk (LR (sz * 5 + iz).toNat))))), (0, .ref b), (1, .ref (oa 0)), (2, .ref al), (3, .ref ap), (4, .ref ad), (5, .int (iI (1))), (6, .long (lI (un))), (8, .int (iI ((((7 + 4 * n) : Nat) : Int)))), (9, .int (iI (sa))), (10, .int (iI (((n : Nat) : Int)))), (11, .long (lI (bf))), (14, .int (iI (sz))), (15, .int (iI (iz))), (16, .int (iI (mz))), (17, .int (iI (0)))]) hx hb dL_law_642 hl (by decide) rfl (fun ls hl => ?_)
      refine lv_aload_n hx hb dL_law_644 rfl (lv_at hl 5 rfl) ?_
      refine lv_iload hx hb dL_law_645 (lv_at hl 15 rfl) ?_
      refine lv_iload hx hb dL_law_647 (lv_at hl 16 rfl) ?_
      refine lv_iload hx hb dL_law_649 (lv_at hl 0 rfl) ?_
      refine va_calli (vx_runSW (As := [.ref (oa 0), .int (iI (sz)), .int (iI (iz)), .int (iI (mny))]) (rest := []) ⟨hx, hb, hml, hown, hts⟩ (m_L_demand_no l hst D cs oa IA LA sh it dy lc pct lr sr lf lrf srf cr IR LR z sz iz mny (hI) (by omega) (by omega) (hcd)) (vx_cwSW 4 hts (gS w_457 w_458 w_0 w_459) rfl rfl rfl (by decide +kernel) ⟨Nat.le_of_ble_eq_true rfl, Nat.le_of_ble_eq_true rfl⟩) (PE_Sa hK hN hE hS (fun _ h => False.elim h) (P_R (E := [(ap, arI cs 2 fp), (ad, arI cs 6 fd), (al, arI cs 3 fl)]) (Wc := (OW cs oa IA LA sh it dy lc pct lr sr lf lrf srf cr IR LR z)) hP) (D_R (E := [(ap, arI cs 2 fp), (ad, arI cs 6 fd), (al, arI cs 3 fl)]) (Wc := (OW cs oa IA LA sh it dy lc pct lr sr lf lrf srf cr IR LR z)) hD)) rfl rfl hl.1 rfl (lv_room (Nat.le_of_ble_eq_true rfl)) dL_law_651 ⟨rm_c (by omega), rm_s (by omega)⟩) hS (fun _ _ h => False.elim h) (fun _ h => False.elim h) (fun r u t H locs ht hvm hw hB hz1 hk1 hS => ?_)
      subst hw
      have hP := P_kept hP hk1
      refine lv_istore (lv' := [(17, .int (iI (exv (cdK sh it cr sz iz)))), (21, .int (iI (mny))), (20, .int (iI (qC (cdK sh it cr sz iz) (llo (LR (sz * 5 + iz).toNat))))), (19, .int (iI (qC (cdK sh it cr sz iz) (ldm (LR (sz * 5 + iz).toNat) dy)))), (18, .int (iI (qC (cdK sh it cr sz iz) (lsk (LR (sz * 5 + iz).toNat))))), (0, .ref b), (1, .ref (oa 0)), (2, .ref al), (3, .ref ap), (4, .ref ad), (5, .int (iI (1))), (6, .long (lI (un))), (8, .int (iI ((((7 + 4 * n) : Nat) : Int)))), (9, .int (iI (sa))), (10, .int (iI (((n : Nat) : Int)))), (11, .long (lI (bf))), (14, .int (iI (sz))), (15, .int (iI (iz))), (16, .int (iI (mz)))]) hx hb dL_law_654 hl (by decide) rfl (fun ls hl => ?_)
      refine lv_iload hx hb dL_law_656 (lv_at hl 0 rfl) ?_
      refine my_if_lt (tgt := 738) hx hb (by omega) dL_law_658 (by decide) (fun bh9 => ?_) (fun bh9 => (by omega : False).elim)
      refine lv_goto (tgt := 838) hx hb dL_law_738 (by decide) ?_
      exact c_tail (n := n) hC (GI_same hG) (fun _ => hbf) (by omega) hP hD hS (lv_sub hl [5, 6, 7, 8, 9, 10, 11, 12, 13, 14, 15, 0] rfl) (by omega) (by omega) (by omega) (by omega) (by omega) K
    refine my_if_ne (tgt := 635) hx hb (by omega) dL_law_628 (by decide) (fun bh10 => ?_) (fun bh10 => ?_)
    · refine lv_iconst (v := iI (1)) hx hb dL_law_635 rfl ?_
      refine lv_iload hx hb dL_law_636 (lv_at hl 16 rfl) ?_
      refine lv_bipush (v := iI (20)) hx hb dL_law_638 (by decide) ?_
      refine my_irem hx hb dL_law_640 (by omega) rfl ?_
      refine my_iadd (z := 1 + (mz % 20)) hx hb dL_law_641 (rfl) ?_
      refine my_cv0 (z := mny) (by rw [hmny, if_neg (by omega)]) ?_
      exact J642 ls (lv_sub hl [0, 1, 2, 3, 4, 5, 6, 7, 8, 9, 10, 11, 12, 13, 14, 15, 16, 17] rfl)
    · refine lv_iconst (v := iI (0)) hx hb dL_law_631 rfl ?_
      refine my_cv0 (z := mny) (by rw [hmny, if_pos (by omega)]) ?_
      refine lv_goto (tgt := 642) hx hb dL_law_632 (by decide) ?_
      exact J642 ls (lv_sub hl [0, 1, 2, 3, 4, 5, 6, 7, 8, 9, 10, 11, 12, 13, 14, 15, 16, 17] rfl)

set_option maxHeartbeats 4000000 in
set_option maxRecDepth 100000 in
theorem c_night {p : Program} {l : Launch} {e : Env} {s : State} {m : MethodId} {args : Array Value} {below : List Frame} {meth : Method} {c : Code} {b L : Nat} {xs : Nat → Int32} {A : Nat → Prop} {D : va_G} {cs : Nat → ClassId} {n : Nat} {H : Heap} {locs : List Loc} {ls : Array Slot} {cells slots c9 s9 : Nat} {Q : State → Prop} {oa : Nat → Nat} {IA LA : Nat → Nat → Nat} {sh it dy : Nat} {lc pct lr sr : Int} {lf lrf srf : Nat → Int} {cr : Nat → Bool} {IR : Nat → IT} {LR : Nat → LT} {z : SC} {ap al ad : Nat} {fp fl fd : Nat → Int} {un sa : Int} {bf sz iz mz : Int} (hC : CX p l s m args c b L xs A D cs) (hG : GI n sh it dy lc pct lr sr lf lrf srf cr IR LR fp fl fd un sa) (hbf : bf = suS it dy pct cr IR LR sh 6) (hsz : 0 ≤ sz ∧ sz ≤ 3) (hiz : 0 ≤ iz ∧ iz ≤ 2) (hmz : 0 ≤ mz ∧ mz ≤ 999) (hP : va_P D vwCl ([(ap, arI cs 2 fp), (ad, arI cs 6 fd), (al, arI cs 3 fl)] ++ (OW cs oa IA LA sh it dy lc pct lr sr lf lrf srf cr IR LR z)) H) (hD : va_D A ([(ap, arI cs 2 fp), (ad, arI cs 6 fd), (al, arI cs 3 fl)] ++ (OW cs oa IA LA sh it dy lc pct lr sr lf lrf srf cr IR LR z))) (hS : va_S A s.heap H locs) (hl : lv_has ls 22 [(0, .ref b), (1, .ref (oa 0)), (2, .ref al), (3, .ref ap), (4, .ref ad), (5, .int (iI (1))), (6, .long (lI (un))), (8, .int (iI ((((7 + 4 * n) : Nat) : Int)))), (9, .int (iI (sa))), (10, .int (iI (((n : Nat) : Int)))), (11, .long (lI (bf))), (14, .int (iI (sz))), (15, .int (iI (iz))), (16, .int (iI (mz))), (17, .int (iI (0)))]) (hn : n < 110) (hce : cells ≤ 600000) (hsl : slots ≤ 3000000) (hc9 : cells + 1900 ≤ c9) (hs9 : slots + 13000 ≤ s9)
    (K : ∀ (H : Heap) (locs : List Loc) (ls : Array Slot), RS s A D cs b (n + 1) H locs ls → W p l e room_1 s m args below meth c H locs c9 s9 Q (F0 m 191 ls [])) : W p l e room_1 s m args below meth c H locs cells slots Q (F0 m 741 ls []) := by
  obtain ⟨hx, hb, hml, hown, hts, hX, hbl, hK, hN, hE, hL, hst, hA, hbA⟩ := id hC
  obtain ⟨hI, hsi, hfp, hfl, hfd, hdn, hU, hsa, hun⟩ := id hG
  have hI1 := PI_1 hI
  have hd6 : dy < 600 := by omega
  have hNt := PI_night hI hd6 z.2.1 z.2.2.2.2
  have hG2 := GI_night hG hd6 z.2.1 z.2.2.2.2
  have hI2 := hG2.1
  have hitn : (it : Int) = 2 := by omega
  refine lv_aload_n hx hb dL_law_741 rfl (lv_at hl 1 rfl) ?_
  refine va_calli (va_runV (As := []) (rest := []) ⟨hx, hb, hml, hown, hts⟩ (m_X5_today_w l D cs oa IA LA sh it dy lc pct lr sr lf lrf srf cr IR LR z) (cwV 0 hts (gV w_112 w_113 w_114 w_1 w_115) rfl rfl rfl (by decide +kernel) ⟨Nat.le_of_ble_eq_true rfl, Nat.le_of_ble_eq_true rfl⟩) (PC_Va hK hN (P_R (E := [(ap, arI cs 2 fp), (ad, arI cs 6 fd), (al, arI cs 3 fl)]) (Wc := (OW cs oa IA LA sh it dy lc pct lr sr lf lrf srf cr IR LR z)) hP) (D_R (E := [(ap, arI cs 2 fp), (ad, arI cs 6 fd), (al, arI cs 3 fl)]) (Wc := (OW cs oa IA LA sh it dy lc pct lr sr lf lrf srf cr IR LR z)) hD) rfl rfl) rfl rfl hl.1 rfl (lv_room (Nat.le_of_ble_eq_true rfl)) dL_law_742 ⟨rm_c (by omega), rm_s (by omega)⟩) hS (fun _ _ h => False.elim h) (fun _ h => False.elim h) (fun r u t H locs ht hvm hw hB hz1 hk1 hS => ?_)
  subst hw
  have hP := P_kept hP hk1
  refine lv_istore (lv' := [(18, .int (iI (((dy : Nat) : Int)))), (0, .ref b), (1, .ref (oa 0)), (2, .ref al), (3, .ref ap), (4, .ref ad), (5, .int (iI (1))), (6, .long (lI (un))), (8, .int (iI ((((7 + 4 * n) : Nat) : Int)))), (9, .int (iI (sa))), (10, .int (iI (((n : Nat) : Int)))), (11, .long (lI (bf))), (14, .int (iI (sz))), (15, .int (iI (iz))), (16, .int (iI (mz))), (17, .int (iI (0)))]) hx hb dL_law_745 hl (by decide) rfl (fun ls hl => ?_)
  refine lv_iconst (v := iI (0)) hx hb dL_law_747 rfl ?_
  refine lv_istore (lv' := [(19, .int (iI (0))), (18, .int (iI (((dy : Nat) : Int)))), (0, .ref b), (1, .ref (oa 0)), (2, .ref al), (3, .ref ap), (4, .ref ad), (5, .int (iI (1))), (6, .long (lI (un))), (8, .int (iI ((((7 + 4 * n) : Nat) : Int)))), (9, .int (iI (sa))), (10, .int (iI (((n : Nat) : Int)))), (11, .long (lI (bf))), (14, .int (iI (sz))), (15, .int (iI (iz))), (16, .int (iI (mz))), (17, .int (iI (0)))]) hx hb dL_law_748 hl (by decide) rfl (fun ls hl => ?_)
  suffices KL1 : ∀ (n1 : Nat) (i : Nat), i ≤ 6 → 6 - i < n1 → ∀ (H : Heap) (locs : List Loc) (ls : Array Slot), va_P D vwCl ([(ap, arI cs 2 fp), (ad, arI cs 6 (flF fd (ndF dy IR fd) i)), (al, arI cs 3 fl)] ++ (OW cs oa IA LA sh it dy lc pct lr sr lf lrf srf cr IR LR z)) H → va_D A ([(ap, arI cs 2 fp), (ad, arI cs 6 (flF fd (ndF dy IR fd) i)), (al, arI cs 3 fl)] ++ (OW cs oa IA LA sh it dy lc pct lr sr lf lrf srf cr IR LR z)) → va_S A s.heap H locs → lv_has ls 22 [(19, .int (iI (((i : Nat) : Int)))), (18, .int (iI (((dy : Nat) : Int)))), (0, .ref b), (1, .ref (oa 0)), (2, .ref al), (3, .ref ap), (4, .ref ad), (5, .int (iI (1))), (6, .long (lI (un))), (8, .int (iI ((((7 + 4 * n) : Nat) : Int)))), (9, .int (iI (sa))), (10, .int (iI (((n : Nat) : Int)))), (11, .long (lI (bf))), (17, .int (iI (0)))] → W p l e _ s m _ below meth c H locs ((cells + 2 * i)) ((slots + 12 * i)) _ (F0 m 750 ls []) from
    KL1 _ 0 (Nat.zero_le _) (Nat.lt_succ_self _) _ _ _ (by rw [flF_0]; exact hP) (by rw [flF_0]; exact hD) hS (lv_sub hl [0, 1, 2, 3, 4, 5, 6, 7, 8, 9, 10, 11, 12, 16] rfl)
  intro n1
  induction n1 with
  | zero => intro i hil h0; exact absurd h0 (Nat.not_lt_zero _)
  | succ n1 ih1 =>
    intro i hil hmu1 H locs ls hP hD hS hl
    have hprr := PI_pr hI (i % 2) dy
    refine lv_iload hx hb dL_law_750 (lv_at hl 0 rfl) ?_
    refine lv_bipush (v := iI (6)) hx hb dL_law_752 (by decide) ?_
    refine my_icmp_ge (tgt := 797) hx hb (by omega) dL_law_754 (by decide) (fun bh1 => ?_) (fun bh1 => ?_)
    · have ei : i = 6 := by omega
      rw [ei] at hl hP hD
      refine lv_aload_n hx hb dL_law_797 rfl (lv_at hl 3 rfl) ?_
      refine va_calli (vx_runSW (As := [.ref (oa 0)]) (rest := []) ⟨hx, hb, hml, hown, hts⟩ (m_L_night_k l hst D cs oa IA LA sh it dy lc pct lr sr lf lrf srf cr IR LR z (hI) (hd6)) (vx_cwSW 1 hts (gS w_512 w_513 w_0 w_514) rfl rfl rfl (by decide +kernel) ⟨Nat.le_of_ble_eq_true rfl, Nat.le_of_ble_eq_true rfl⟩) (PE_Sa hK hN hE hS (fun q h => inW_suba (D_R (E := [(ap, arI cs 2 fp), (ad, arI cs 6 (flF fd (ndF dy IR fd) 6)), (al, arI cs 3 fl)]) (Wc := (OW cs oa IA LA sh it dy lc pct lr sr lf lrf srf cr IR LR z)) hD) q h) (P_R (E := [(ap, arI cs 2 fp), (ad, arI cs 6 (flF fd (ndF dy IR fd) 6)), (al, arI cs 3 fl)]) (Wc := (OW cs oa IA LA sh it dy lc pct lr sr lf lrf srf cr IR LR z)) hP) (D_R (E := [(ap, arI cs 2 fp), (ad, arI cs 6 (flF fd (ndF dy IR fd) 6)), (al, arI cs 3 fl)]) (Wc := (OW cs oa IA LA sh it dy lc pct lr sr lf lrf srf cr IR LR z)) hD)) rfl rfl hl.1 rfl (lv_room (Nat.le_of_ble_eq_true rfl)) dL_law_798 ⟨rm_c (by omega), rm_s (by omega)⟩) hS (fun q _ h => inW_suba (D_R (E := [(ap, arI cs 2 fp), (ad, arI cs 6 (flF fd (ndF dy IR fd) 6)), (al, arI cs 3 fl)]) (Wc := (OW cs oa IA LA sh it dy lc pct lr sr lf lrf srf cr IR LR z)) hD) q h) (fun q h => inW_suba (D_R (E := [(ap, arI cs 2 fp), (ad, arI cs 6 (flF fd (ndF dy IR fd) 6)), (al, arI cs 3 fl)]) (Wc := (OW cs oa IA LA sh it dy lc pct lr sr lf lrf srf cr IR LR z)) hD) q h) (fun r u t H locs ht hvm hw hB hz1 hk1 hS => ?_)
      subst hw
      rw [ht] at hB
      obtain ⟨hP, hD⟩ := my_joinE (E := [(ap, arI cs 2 fp), (ad, arI cs 6 (flF fd (ndF dy IR fd) 6)), (al, arI cs 3 fl)]) (Wc := (OW cs oa IA LA sh it dy lc pct lr sr lf lrf srf cr IR LR z)) (W2 := (OW cs oa IA LA sh it (dy + 1) lc pct lr sr lf (upI lrf dy (lrf dy + lr)) (upI srf dy (srf dy + sr)) cr ((ntS (dy + 1) pct cr sh (IR, LRn dy lr sr cr IR LR, z.2.1, z.2.2.2.2, 0) it).1) ((ntS (dy + 1) pct cr sh (IR, LRn dy lr sr cr IR LR, z.2.1, z.2.2.2.2, 0) it).2.1) (z.1, (ntS (dy + 1) pct cr sh (IR, LRn dy lr sr cr IR LR, z.2.1, z.2.2.2.2, 0) it).2.2.1, z.2.2.1, z.2.2.2.1, (ntS (dy + 1) pct cr sh (IR, LRn dy lr sr cr IR LR, z.2.1, z.2.2.2.2, 0) it).2.2.2.1))) hP hD OW_fst hk1 hB
      have hP : va_P D vwCl ([(ap, arI cs 2 fp), (ad, arI cs 6 (flF fd (ndF dy IR fd) 6)), (al, arI cs 3 fl)] ++ (OW cs oa IA LA sh it (dy + 1) lc pct lr sr lf (upI lrf dy (lrf dy + lr)) (upI srf dy (srf dy + sr)) cr ((ntS (dy + 1) pct cr sh (IR, LRn dy lr sr cr IR LR, z.2.1, z.2.2.2.2, 0) it).1) ((ntS (dy + 1) pct cr sh (IR, LRn dy lr sr cr IR LR, z.2.1, z.2.2.2.2, 0) it).2.1) (z.1, (ntS (dy + 1) pct cr sh (IR, LRn dy lr sr cr IR LR, z.2.1, z.2.2.2.2, 0) it).2.2.1, z.2.2.1, z.2.2.2.1, (ntS (dy + 1) pct cr sh (IR, LRn dy lr sr cr IR LR, z.2.1, z.2.2.2.2, 0) it).2.2.2.1))) H := hP
      have hD : va_D A ([(ap, arI cs 2 fp), (ad, arI cs 6 (flF fd (ndF dy IR fd) 6)), (al, arI cs 3 fl)] ++ (OW cs oa IA LA sh it (dy + 1) lc pct lr sr lf (upI lrf dy (lrf dy + lr)) (upI srf dy (srf dy + sr)) cr ((ntS (dy + 1) pct cr sh (IR, LRn dy lr sr cr IR LR, z.2.1, z.2.2.2.2, 0) it).1) ((ntS (dy + 1) pct cr sh (IR, LRn dy lr sr cr IR LR, z.2.1, z.2.2.2.2, 0) it).2.1) (z.1, (ntS (dy + 1) pct cr sh (IR, LRn dy lr sr cr IR LR, z.2.1, z.2.2.2.2, 0) it).2.2.1, z.2.2.1, z.2.2.2.1, (ntS (dy + 1) pct cr sh (IR, LRn dy lr sr cr IR LR, z.2.1, z.2.2.2.2, 0) it).2.2.2.1))) := hD
      refine lv_istore (lv' := [(17, .int (iI ((ntS (dy + 1) pct cr sh (IR, LRn dy lr sr cr IR LR, z.2.1, z.2.2.2.2, 0) it).2.2.2.2))), (19, .int (iI (((6 : Nat) : Int)))), (18, .int (iI (((dy : Nat) : Int)))), (0, .ref b), (1, .ref (oa 0)), (2, .ref al), (3, .ref ap), (4, .ref ad), (5, .int (iI (1))), (6, .long (lI (un))), (8, .int (iI ((((7 + 4 * n) : Nat) : Int)))), (9, .int (iI (sa))), (10, .int (iI (((n : Nat) : Int)))), (11, .long (lI (bf)))]) hx hb dL_law_801 hl (by decide) rfl (fun ls hl => ?_)
      refine lv_iload hx hb dL_law_803 (lv_at hl 0 rfl) ?_
      refine my_if_lt (tgt := 835) hx hb (by omega) dL_law_805 (by decide) (fun bh2 => (by omega : False).elim) (fun bh2 => ?_)
      refine lv_aload_n hx hb dL_law_808 rfl (lv_at hl 4 rfl) ?_
      refine va_calli (va_runV (As := []) (rest := []) ⟨hx, hb, hml, hown, hts⟩ (m_X5_today_w l D cs oa IA LA sh it (dy + 1) lc pct lr sr lf (upI lrf dy (lrf dy + lr)) (upI srf dy (srf dy + sr)) cr ((ntS (dy + 1) pct cr sh (IR, LRn dy lr sr cr IR LR, z.2.1, z.2.2.2.2, 0) it).1) ((ntS (dy + 1) pct cr sh (IR, LRn dy lr sr cr IR LR, z.2.1, z.2.2.2.2, 0) it).2.1) (z.1, (ntS (dy + 1) pct cr sh (IR, LRn dy lr sr cr IR LR, z.2.1, z.2.2.2.2, 0) it).2.2.1, z.2.2.1, z.2.2.2.1, (ntS (dy + 1) pct cr sh (IR, LRn dy lr sr cr IR LR, z.2.1, z.2.2.2.2, 0) it).2.2.2.1)) (cwV 0 hts (gV w_112 w_113 w_114 w_1 w_115) rfl rfl rfl (by decide +kernel) ⟨Nat.le_of_ble_eq_true rfl, Nat.le_of_ble_eq_true rfl⟩) (PC_Va hK hN (P_R (E := [(ap, arI cs 2 fp), (ad, arI cs 6 (flF fd (ndF dy IR fd) 6)), (al, arI cs 3 fl)]) (Wc := (OW cs oa IA LA sh it (dy + 1) lc pct lr sr lf (upI lrf dy (lrf dy + lr)) (upI srf dy (srf dy + sr)) cr ((ntS (dy + 1) pct cr sh (IR, LRn dy lr sr cr IR LR, z.2.1, z.2.2.2.2, 0) it).1) ((ntS (dy + 1) pct cr sh (IR, LRn dy lr sr cr IR LR, z.2.1, z.2.2.2.2, 0) it).2.1) (z.1, (ntS (dy + 1) pct cr sh (IR, LRn dy lr sr cr IR LR, z.2.1, z.2.2.2.2, 0) it).2.2.1, z.2.2.1, z.2.2.2.1, (ntS (dy + 1) pct cr sh (IR, LRn dy lr sr cr IR LR, z.2.1, z.2.2.2.2, 0) it).2.2.2.1))) hP) (D_R (E := [(ap, arI cs 2 fp), (ad, arI cs 6 (flF fd (ndF dy IR fd) 6)), (al, arI cs 3 fl)]) (Wc := (OW cs oa IA LA sh it (dy + 1) lc pct lr sr lf (upI lrf dy (lrf dy + lr)) (upI srf dy (srf dy + sr)) cr ((ntS (dy + 1) pct cr sh (IR, LRn dy lr sr cr IR LR, z.2.1, z.2.2.2.2, 0) it).1) ((ntS (dy + 1) pct cr sh (IR, LRn dy lr sr cr IR LR, z.2.1, z.2.2.2.2, 0) it).2.1) (z.1, (ntS (dy + 1) pct cr sh (IR, LRn dy lr sr cr IR LR, z.2.1, z.2.2.2.2, 0) it).2.2.1, z.2.2.1, z.2.2.2.1, (ntS (dy + 1) pct cr sh (IR, LRn dy lr sr cr IR LR, z.2.1, z.2.2.2.2, 0) it).2.2.2.1))) hD) rfl rfl) rfl rfl hl.1 rfl (lv_room (Nat.le_of_ble_eq_true rfl)) dL_law_809 ⟨rm_c (by omega), rm_s (by omega)⟩) hS (fun _ _ h => False.elim h) (fun _ h => False.elim h) (fun r u t H locs ht hvm hw hB hz1 hk1 hS => ?_)
      subst hw
      have hP := P_kept hP hk1
      refine lv_iload hx hb dL_law_812 (lv_at hl 2 rfl) ?_
      refine lv_iconst (v := iI (1)) hx hb dL_law_814 rfl ?_
      refine my_iadd (z := ((dy : Nat) : Int) + 1) hx hb dL_law_815 (rfl) ?_
      refine my_icmp_ne (tgt := 835) hx hb (by omega) dL_law_816 (by decide) (fun bh3 => (by omega : False).elim) (fun bh3 => ?_)
      refine lv_aload_n hx hb dL_law_819 rfl (lv_at hl 4 rfl) ?_
      refine lv_aload_n hx hb dL_law_820 rfl (lv_at hl 5 rfl) ?_
      refine lv_iload hx hb dL_law_821 (lv_at hl 2 rfl) ?_
      refine lv_iconst (v := iI (1)) hx hb dL_law_823 rfl ?_
      refine my_iadd (z := ((dy : Nat) : Int) + 1) hx hb dL_law_824 (rfl) ?_
      refine my_cv0 (z := (((dy + 1) : Nat) : Int)) (by omega) ?_
      refine va_calli (va_runS (As := [.ref (oa 0), .ref al, .int (iI ((((dy + 1) : Nat) : Int)))]) (rest := []) ⟨hx, hb, hml, hown, hts⟩ (m_L_areEven l hst D cs oa IA LA sh it (dy + 1) lc pct lr sr lf (upI lrf dy (lrf dy + lr)) (upI srf dy (srf dy + sr)) cr ((ntS (dy + 1) pct cr sh (IR, LRn dy lr sr cr IR LR, z.2.1, z.2.2.2.2, 0) it).1) ((ntS (dy + 1) pct cr sh (IR, LRn dy lr sr cr IR LR, z.2.1, z.2.2.2.2, 0) it).2.1) (z.1, (ntS (dy + 1) pct cr sh (IR, LRn dy lr sr cr IR LR, z.2.1, z.2.2.2.2, 0) it).2.2.1, z.2.2.1, z.2.2.2.1, (ntS (dy + 1) pct cr sh (IR, LRn dy lr sr cr IR LR, z.2.1, z.2.2.2.2, 0) it).2.2.2.1) al fl (hI2) (hsi.2) (hsi.1) (hfl) (hNt.2.1)) (va_cwS 3 hts (gS w_694 w_695 w_0 w_696) rfl rfl rfl (by decide +kernel) ⟨Nat.le_of_ble_eq_true rfl, Nat.le_of_ble_eq_true rfl⟩) (PE_Sa hK hN hE hS (fun _ h => False.elim h) (P_R (E := [(ap, arI cs 2 fp), (ad, arI cs 6 (flF fd (ndF dy IR fd) 6))]) (Wc := ([(al, arI cs 3 fl)] ++ (OW cs oa IA LA sh it (dy + 1) lc pct lr sr lf (upI lrf dy (lrf dy + lr)) (upI srf dy (srf dy + sr)) cr ((ntS (dy + 1) pct cr sh (IR, LRn dy lr sr cr IR LR, z.2.1, z.2.2.2.2, 0) it).1) ((ntS (dy + 1) pct cr sh (IR, LRn dy lr sr cr IR LR, z.2.1, z.2.2.2.2, 0) it).2.1) (z.1, (ntS (dy + 1) pct cr sh (IR, LRn dy lr sr cr IR LR, z.2.1, z.2.2.2.2, 0) it).2.2.1, z.2.2.1, z.2.2.2.1, (ntS (dy + 1) pct cr sh (IR, LRn dy lr sr cr IR LR, z.2.1, z.2.2.2.2, 0) it).2.2.2.1)))) hP) (D_R (E := [(ap, arI cs 2 fp), (ad, arI cs 6 (flF fd (ndF dy IR fd) 6))]) (Wc := ([(al, arI cs 3 fl)] ++ (OW cs oa IA LA sh it (dy + 1) lc pct lr sr lf (upI lrf dy (lrf dy + lr)) (upI srf dy (srf dy + sr)) cr ((ntS (dy + 1) pct cr sh (IR, LRn dy lr sr cr IR LR, z.2.1, z.2.2.2.2, 0) it).1) ((ntS (dy + 1) pct cr sh (IR, LRn dy lr sr cr IR LR, z.2.1, z.2.2.2.2, 0) it).2.1) (z.1, (ntS (dy + 1) pct cr sh (IR, LRn dy lr sr cr IR LR, z.2.1, z.2.2.2.2, 0) it).2.2.1, z.2.2.1, z.2.2.2.1, (ntS (dy + 1) pct cr sh (IR, LRn dy lr sr cr IR LR, z.2.1, z.2.2.2.2, 0) it).2.2.2.1)))) hD)) rfl rfl hl.1 rfl (lv_room (Nat.le_of_ble_eq_true rfl)) dL_law_825 ⟨rm_c (by omega), rm_s (by omega)⟩) hS (fun _ _ h => False.elim h) (fun _ h => False.elim h) (fun r u t H locs ht hvm hw hB hz1 hk1 hS => ?_)
      subst hw
      have hP := P_kept hP hk1
      refine my_if_eq (tgt := 835) hx hb (by omega) dL_law_828 (by decide) (fun bh4 => (by omega : False).elim) (fun bh4 => ?_)
      refine lv_iconst (v := iI (1)) hx hb dL_law_831 rfl ?_
      refine lv_goto (tgt := 836) hx hb dL_law_832 (by decide) ?_
      refine lv_istore (lv' := [(5, .int (iI (1))), (17, .int (iI ((ntS (dy + 1) pct cr sh (IR, LRn dy lr sr cr IR LR, z.2.1, z.2.2.2.2, 0) it).2.2.2.2))), (19, .int (iI (((6 : Nat) : Int)))), (18, .int (iI (((dy : Nat) : Int)))), (0, .ref b), (1, .ref (oa 0)), (2, .ref al), (3, .ref ap), (4, .ref ad), (6, .long (lI (un))), (8, .int (iI ((((7 + 4 * n) : Nat) : Int)))), (9, .int (iI (sa))), (10, .int (iI (((n : Nat) : Int)))), (11, .long (lI (bf)))]) hx hb dL_law_836 hl (by decide) rfl (fun ls hl => ?_)
      exact c_tail (n := n) hC (hG2) (fun h => absurd h (by omega)) (by omega) hP hD hS (lv_sub hl [4, 5, 6, 7, 8, 0, 9, 10, 11, 12, 13, 1] rfl) (by omega) (by omega) (by omega) (by omega) (by omega) K
    · have h9 := hfd (i / 2) (i % 2) (by omega) (by omega)
      rw [show 2 * (i / 2) + i % 2 = i from by omega] at h9
      have h8 := (PI_lOK hI (i / 2 * 5 + i % 2)).2.2.2.1
      have hfdr : -1 ≤ fd i ∧ fd i ≤ 1000 := by rw [h9]; split <;> omega
      refine lv_aload hx hb dL_law_757 (lv_at hl 6 rfl) ?_
      refine lv_iload hx hb dL_law_759 (lv_at hl 0 rfl) ?_
      refine lv_dup2_11 hx hb dL_law_761 rfl rfl ?_
      refine my_iald hx hb hK hP 1 rfl (by omega) (k := i) (Int.toNat_natCast _) dL_law_762 ?_
      refine my_cv0 (z := fd i) (by simp only [flF]; rw [if_neg (by omega)]) ?_
      refine lv_aload hx hb dL_law_763 (lv_at hl 6 rfl) ?_
      refine lv_iload hx hb dL_law_765 (lv_at hl 0 rfl) ?_
      refine my_iald hx hb hK hP 1 rfl (by omega) (k := i) (Int.toNat_natCast _) dL_law_767 ?_
      refine my_cv0 (z := fd i) (by simp only [flF]; rw [if_neg (by omega)]) ?_
      refine my_if_lt (tgt := 788) hx hb (by omega) dL_law_768 (by decide) (fun bh5 => ?_) (fun bh5 => ?_)
      · refine lv_iconst (v := iI (0)) hx hb dL_law_788 rfl ?_
        refine my_iadd (z := fd i) hx hb dL_law_789 (by omega) ?_
        refine my_cv0 (z := ndF dy IR fd i) (by unfold ndF; rw [if_neg (by omega)]) ?_
        refine my_iast hx hb hK hP hD hS 1 rfl (by omega) (k := i) (Int.toNat_natCast _) dL_law_790 (fun H locs hP hD hS => ?_)
        have hP : va_P D vwCl ([(ap, arI cs 2 fp), (ad, arI cs 6 (upI (flF fd (ndF dy IR fd) i) i (ndF dy IR fd i))), (al, arI cs 3 fl)] ++ (OW cs oa IA LA sh it dy lc pct lr sr lf lrf srf cr IR LR z)) H := hP
        have hD : va_D A ([(ap, arI cs 2 fp), (ad, arI cs 6 (upI (flF fd (ndF dy IR fd) i) i (ndF dy IR fd i))), (al, arI cs 3 fl)] ++ (OW cs oa IA LA sh it dy lc pct lr sr lf lrf srf cr IR LR z)) := hD
        refine lv_iinc (v := iI (((i : Nat) : Int) + 1)) (lv' := [(19, .int (iI (((i : Nat) : Int) + 1))), (18, .int (iI (((dy : Nat) : Int)))), (0, .ref b), (1, .ref (oa 0)), (2, .ref al), (3, .ref ap), (4, .ref ad), (5, .int (iI (1))), (6, .long (lI (un))), (8, .int (iI ((((7 + 4 * n) : Nat) : Int)))), (9, .int (iI (sa))), (10, .int (iI (((n : Nat) : Int)))), (11, .long (lI (bf))), (17, .int (iI (0)))]) hx hb dL_law_791 hl (k := 0) rfl (by rw [show (((i : Nat) : Int) + 1 : Int) = ((i : Nat) : Int) + 1 from rfl]; exact iI_add _ _) (by decide) rfl (fun ls hl => ?_)
        refine lv_goto (tgt := 750) hx hb dL_law_794 (by decide) ?_
        have e1 : ((i : Nat) : Int) + 1 = ((i + 1 : Nat) : Int) := by omega
        rw [e1] at hl
        rw [flF_s] at hP hD
        refine W.widen (k := (cells + 2 * (i + 1))) (n := (slots + 12 * (i + 1))) (by omega) (by omega) ?_
        exact ih1 (i + 1) (by omega) (by omega) _ _ _ hP hD hS (lv_sub hl [0, 1, 2, 3, 4, 5, 6, 7, 8, 9, 10, 11, 12, 13] rfl)
      · refine lv_aload_n hx hb dL_law_771 rfl (lv_at hl 3 rfl) ?_
        refine lv_iload hx hb dL_law_772 (lv_at hl 0 rfl) ?_
        refine lv_iconst (v := iI (2)) hx hb dL_law_774 rfl ?_
        refine my_irem hx hb dL_law_775 (by omega) rfl ?_
        refine my_cv0 (z := (((i % 2) : Nat) : Int)) (by omega) ?_
        refine lv_iload hx hb dL_law_776 (lv_at hl 1 rfl) ?_
        refine va_calli (vx_runSW (As := [.ref (oa 0), .int (iI ((((i % 2) : Nat) : Int))), .int (iI (((dy : Nat) : Int)))]) (rest := [.int (iI (fd i)), .int (iI (((i : Nat) : Int))), .ref ad]) ⟨hx, hb, hml, hown, hts⟩ (m_L_isMarked_k l hst D cs oa IA LA sh it dy lc pct lr sr lf lrf srf cr IR LR z (i % 2) ((dy : Nat) : Int) (hI) (by omega) (by omega)) (vx_cwSW 3 hts (gS w_449 w_450 w_0 w_451) rfl rfl rfl (by decide +kernel) ⟨Nat.le_of_ble_eq_true rfl, Nat.le_of_ble_eq_true rfl⟩) (PE_Sa hK hN hE hS (fun _ h => False.elim h) (P_R (E := [(ap, arI cs 2 fp), (ad, arI cs 6 (flF fd (ndF dy IR fd) i)), (al, arI cs 3 fl)]) (Wc := (OW cs oa IA LA sh it dy lc pct lr sr lf lrf srf cr IR LR z)) hP) (D_R (E := [(ap, arI cs 2 fp), (ad, arI cs 6 (flF fd (ndF dy IR fd) i)), (al, arI cs 3 fl)]) (Wc := (OW cs oa IA LA sh it dy lc pct lr sr lf lrf srf cr IR LR z)) hD)) rfl rfl hl.1 rfl (lv_room (Nat.le_of_ble_eq_true rfl)) dL_law_778 ⟨rm_c (by omega), rm_s (by omega)⟩) hS (fun _ _ h => False.elim h) (fun _ h => False.elim h) (fun r u t H locs ht hvm hw hB hz1 hk1 hS => ?_)
        subst hw
        have hP := P_kept hP hk1
        refine my_cv0 (z := ipr (IR (i % 2)) dy) (by rw [Int.toNat_natCast]) ?_
        refine my_if_ne (tgt := 788) hx hb (by omega) dL_law_781 (by decide) (fun bh6 => ?_) (fun bh6 => ?_)
        · refine lv_iconst (v := iI (0)) hx hb dL_law_788 rfl ?_
          refine my_iadd (z := fd i) hx hb dL_law_789 (by omega) ?_
          refine my_cv0 (z := ndF dy IR fd i) (by unfold ndF; rw [if_neg (by omega)]) ?_
          refine my_iast hx hb hK hP hD hS 1 rfl (by omega) (k := i) (Int.toNat_natCast _) dL_law_790 (fun H locs hP hD hS => ?_)
          have hP : va_P D vwCl ([(ap, arI cs 2 fp), (ad, arI cs 6 (upI (flF fd (ndF dy IR fd) i) i (ndF dy IR fd i))), (al, arI cs 3 fl)] ++ (OW cs oa IA LA sh it dy lc pct lr sr lf lrf srf cr IR LR z)) H := hP
          have hD : va_D A ([(ap, arI cs 2 fp), (ad, arI cs 6 (upI (flF fd (ndF dy IR fd) i) i (ndF dy IR fd i))), (al, arI cs 3 fl)] ++ (OW cs oa IA LA sh it dy lc pct lr sr lf lrf srf cr IR LR z)) := hD
          refine lv_iinc (v := iI (((i : Nat) : Int) + 1)) (lv' := [(19, .int (iI (((i : Nat) : Int) + 1))), (18, .int (iI (((dy : Nat) : Int)))), (0, .ref b), (1, .ref (oa 0)), (2, .ref al), (3, .ref ap), (4, .ref ad), (5, .int (iI (1))), (6, .long (lI (un))), (8, .int (iI ((((7 + 4 * n) : Nat) : Int)))), (9, .int (iI (sa))), (10, .int (iI (((n : Nat) : Int)))), (11, .long (lI (bf))), (17, .int (iI (0)))]) hx hb dL_law_791 hl (k := 0) rfl (by rw [show (((i : Nat) : Int) + 1 : Int) = ((i : Nat) : Int) + 1 from rfl]; exact iI_add _ _) (by decide) rfl (fun ls hl => ?_)
          refine lv_goto (tgt := 750) hx hb dL_law_794 (by decide) ?_
          have e1 : ((i : Nat) : Int) + 1 = ((i + 1 : Nat) : Int) := by omega
          rw [e1] at hl
          rw [flF_s] at hP hD
          refine W.widen (k := (cells + 2 * (i + 1))) (n := (slots + 12 * (i + 1))) (by omega) (by omega) ?_
          exact ih1 (i + 1) (by omega) (by omega) _ _ _ hP hD hS (lv_sub hl [0, 1, 2, 3, 4, 5, 6, 7, 8, 9, 10, 11, 12, 13] rfl)
        · refine lv_iconst (v := iI (1)) hx hb dL_law_784 rfl ?_
          refine lv_goto (tgt := 789) hx hb dL_law_785 (by decide) ?_
          refine my_iadd (z := (fd i) + 1) hx hb dL_law_789 (rfl) ?_
          refine my_cv0 (z := ndF dy IR fd i) (by unfold ndF; rw [if_pos ⟨by omega, by omega⟩]) ?_
          refine my_iast hx hb hK hP hD hS 1 rfl (by omega) (k := i) (Int.toNat_natCast _) dL_law_790 (fun H locs hP hD hS => ?_)
          have hP : va_P D vwCl ([(ap, arI cs 2 fp), (ad, arI cs 6 (upI (flF fd (ndF dy IR fd) i) i (ndF dy IR fd i))), (al, arI cs 3 fl)] ++ (OW cs oa IA LA sh it dy lc pct lr sr lf lrf srf cr IR LR z)) H := hP
          have hD : va_D A ([(ap, arI cs 2 fp), (ad, arI cs 6 (upI (flF fd (ndF dy IR fd) i) i (ndF dy IR fd i))), (al, arI cs 3 fl)] ++ (OW cs oa IA LA sh it dy lc pct lr sr lf lrf srf cr IR LR z)) := hD
          refine lv_iinc (v := iI (((i : Nat) : Int) + 1)) (lv' := [(19, .int (iI (((i : Nat) : Int) + 1))), (18, .int (iI (((dy : Nat) : Int)))), (0, .ref b), (1, .ref (oa 0)), (2, .ref al), (3, .ref ap), (4, .ref ad), (5, .int (iI (1))), (6, .long (lI (un))), (8, .int (iI ((((7 + 4 * n) : Nat) : Int)))), (9, .int (iI (sa))), (10, .int (iI (((n : Nat) : Int)))), (11, .long (lI (bf))), (17, .int (iI (0)))]) hx hb dL_law_791 hl (k := 0) rfl (by rw [show (((i : Nat) : Int) + 1 : Int) = ((i : Nat) : Int) + 1 from rfl]; exact iI_add _ _) (by decide) rfl (fun ls hl => ?_)
          refine lv_goto (tgt := 750) hx hb dL_law_794 (by decide) ?_
          have e1 : ((i : Nat) : Int) + 1 = ((i + 1 : Nat) : Int) := by omega
          rw [e1] at hl
          rw [flF_s] at hP hD
          refine W.widen (k := (cells + 2 * (i + 1))) (n := (slots + 12 * (i + 1))) (by omega) (by omega) ?_
          exact ih1 (i + 1) (by omega) (by omega) _ _ _ hP hD hS (lv_sub hl [0, 1, 2, 3, 4, 5, 6, 7, 8, 9, 10, 11, 12, 13] rfl)
