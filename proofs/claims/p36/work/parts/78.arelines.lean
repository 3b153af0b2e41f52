abbrev ws_L_areLines : List Cond := Cond.code yL_areLines cL_areLines 13 (some .boolean) :: ALL
set_option maxHeartbeats 4000000 in
set_option maxRecDepth 100000 in
theorem m_L_areLines (l : Launch) (hst : l.stackTraces = false) (D : va_G) (cs : Nat → ClassId) (oa : Nat → Nat) (IA LA : Nat → Nat → Nat) (sh it dy : Nat) (lc pct lr sr : Int) (lf lrf srf : Nat → Int) (cr : Nat → Bool) (IR : Nat → IT) (LR : Nat → LT) (z : SC) (ap al ad : Nat) (fp fl fd : Nat → Int) (hI : PI sh it dy pct lr sr lf lrf srf cr IR LR) (hit2 : it = 2) (hsh3 : sh = 3) (hfp : ∀ i, i < 2 → fp i = ipk (IR i)) (hfl : ∀ s, s < 3 → fl s = lf s) (hfd : ∀ s i, s < 3 → i < 2 → fd (2 * s + i) = if cr (s * 5 + i) = true then les (LR (s * 5 + i)) else -1) : Met l yL_areLines ws_L_areLines ({ frames := 11, cells := 1400, slots := 8400, locals := 211 }) (va_Pc [.ref (oa 0), .ref ap, .ref al, .ref ad] (PE D cs ([(ap, arI cs 2 fp), (ad, arI cs 6 fd), (al, arI cs 3 fl)] ++ (OW cs oa IA LA sh it dy lc pct lr sr lf lrf srf cr IR LR z)) (inW ([(ap, arI cs 2 fp), (ad, arI cs 6 fd), (al, arI cs 3 fl)] ++ (OW cs oa IA LA sh it dy lc pct lr sr lf lrf srf cr IR LR z))))) (va_Qi (fun r (zu : SC) => r = iI (1)) (fun (zu : SC) t => va_P D vwCl ([(ap, arI cs 2 fp), (ad, arI cs 6 fd), (al, arI cs 3 fl)] ++ (OW cs oa IA LA sh it dy lc pct lr sr lf lrf srf cr IR LR zu)) t.heap) (inW ([(ap, arI cs 2 fp), (ad, arI cs 6 fd), (al, arI cs 3 fl)] ++ (OW cs oa IA LA sh it dy lc pct lr sr lf lrf srf cr IR LR z)))) 1400 8400 (inW ([(ap, arI cs 2 fp), (ad, arI cs 6 fd), (al, arI cs 3 fl)] ++ (OW cs oa IA LA sh it dy lc pct lr sr lf lrf srf cr IR LR z))) := by
  refine Met.ofW (cc := cL_areLines) (maxL := 13) (ret := (some .boolean)) (by decide +kernel) rfl ?_
  intro p e s m args below meth c s₁ B hml hv
  obtain ⟨rfl, ⟨hP, hK, hD, hN⟩, hE⟩ := hv
  have hx := B.exec
  have hb := B.bytes
  have hr := B.returns
  have hts : ∀ w ∈ ALL, w.before _ s = true := fun w h => atoms_spec (ws := ws_L_areLines) B.pre w (List.mem_cons_of_mem _ h)
  have hown : s.vm.findClass RL = some m.cls := findClass_of_methodNamed B.named
  have hlocks := B.notSynchronized
  generalize hAe : inW ([(ap, arI cs 2 fp), (ad, arI cs 6 fd), (al, arI cs 3 fl)] ++ (OW cs oa IA LA sh it dy lc pct lr sr lf lrf srf cr IR LR z)) = A at hD hE ⊢
  have hS : va_S A s.heap s.heap [] := va_S.rf
  have hl := lv_entry ([.ref (oa 0), .ref ap, .ref al, .ref ad]) (n := 13) (Nat.le_of_ble_eq_true rfl)
  rw [lg_entry_eq]
  generalize (lg_sl ([.ref (oa 0), .ref ap, .ref al, .ref ad]) ++ List.replicate (13 - (lg_sl ([.ref (oa 0), .ref ap, .ref al, .ref ad])).length) Slot.unset).toArray = ls at hl ⊢
  have hl : lv_has ls 13 [(0, .ref (oa 0)), (1, .ref ap), (2, .ref al), (3, .ref ad)] := hl
  have hH := rfl (a := s.heap)
  have hI1 := PI_1 hI
  refine lv_iconst (v := iI (1)) hx hb dL_areLines_0 rfl ?_
  refine lv_istore (lv' := [(4, .int (iI (1))), (0, .ref (oa 0)), (1, .ref ap), (2, .ref al), (3, .ref ad)]) hx hb dL_areLines_1 hl (by decide) rfl (fun ls hl => ?_)
  refine lv_iconst (v := iI (0)) hx hb dL_areLines_3 rfl ?_
  refine lv_istore (lv' := [(5, .int (iI (0))), (4, .int (iI (1))), (0, .ref (oa 0)), (1, .ref ap), (2, .ref al), (3, .ref ad)]) hx hb dL_areLines_4 hl (by decide) rfl (fun ls hl => ?_)
  suffices KL : ∀ (n : Nat) (i : Nat) (z : SC), i ≤ 2 → 2 - i < n → ∀ (H : Heap) (locs : List Loc) (ls : Array Slot), va_P D vwCl ([(ap, arI cs 2 fp), (ad, arI cs 6 fd), (al, arI cs 3 fl)] ++ (OW cs oa IA LA sh it dy lc pct lr sr lf lrf srf cr IR LR z)) H → va_D A ([(ap, arI cs 2 fp), (ad, arI cs 6 fd), (al, arI cs 3 fl)] ++ (OW cs oa IA LA sh it dy lc pct lr sr lf lrf srf cr IR LR z)) → va_S A s.heap H locs → lv_has ls 13 [(5, .int (iI (((i : Nat) : Int)))), (4, .int (iI (1))), (0, .ref (oa 0)), (1, .ref ap), (2, .ref al), (3, .ref ad)] → W p l e _ s m _ below meth c H locs ((0 + 700 * i)) ((0 + 4200 * i)) _ (F0 m 6 ls []) from
    KL _ 0 z (Nat.zero_le _) (Nat.lt_succ_self _) _ _ _ hP hD hS (lv_sub hl [0, 1, 2, 3, 4, 5] rfl)
  intro n
  induction n with
  | zero => intro i z hil h0; exact absurd h0 (Nat.not_lt_zero _)
  | succ n ih =>
    intro i z hil hmu H locs ls hP hD hS hl
    refine lv_iload hx hb dL_areLines_6 (lv_at hl 0 rfl) ?_
    refine lv_iconst (v := iI (2)) hx hb dL_areLines_8 rfl ?_
    refine my_icmp_ge (tgt := 308) hx hb (by omega) dL_areLines_9 (by decide) (fun bh1 => ?_) (fun bh1 => ?_)
    · refine lv_iload hx hb dL_areLines_308 (lv_at hl 1 rfl) ?_
      subst hAe
      refine W.widen (k := 1400) (n := 8400) (by omega) (by omega) ?_
      have hres : iI (1) = iI (1) := congrArg iI (by
          rfl)
      exact W.zret hx hb hr (by decide) (fun t ht hW => ⟨⟨_, z, rfl, hres, by show va_P D vwCl _ t.heap; rw [ht]; exact hP⟩, hS.F ht⟩) hS.2.2 dL_areLines_310
    · refine lv_iconst (v := iI (0)) hx hb dL_areLines_12 rfl ?_
      refine lv_istore (lv' := [(6, .int (iI (0))), (5, .int (iI (((i : Nat) : Int)))), (4, .int (iI (1))), (0, .ref (oa 0)), (1, .ref ap), (2, .ref al), (3, .ref ad)]) hx hb dL_areLines_13 hl (by decide) rfl (fun ls hl => ?_)
      refine lv_iconst (v := iI (0)) hx hb dL_areLines_15 rfl ?_
      refine lv_istore (lv' := [(7, .int (iI (0))), (6, .int (iI (0))), (5, .int (iI (((i : Nat) : Int)))), (4, .int (iI (1))), (0, .ref (oa 0)), (1, .ref ap), (2, .ref al), (3, .ref ad)]) hx hb dL_areLines_16 hl (by decide) rfl (fun ls hl => ?_)
      refine lv_iconst (v := iI (0)) hx hb dL_areLines_18 rfl ?_
      refine lv_istore (lv' := [(8, .int (iI (0))), (7, .int (iI (0))), (6, .int (iI (0))), (5, .int (iI (((i : Nat) : Int)))), (4, .int (iI (1))), (0, .ref (oa 0)), (1, .ref ap), (2, .ref al), (3, .ref ad)]) hx hb dL_areLines_19 hl (by decide) rfl (fun ls hl => ?_)
      suffices KL1 : ∀ (n1 : Nat) (j : Nat) (z : SC), j ≤ 3 → 3 - j < n1 → ∀ (H : Heap) (locs : List Loc) (ls : Array Slot), va_P D vwCl ([(ap, arI cs 2 fp), (ad, arI cs 6 fd), (al, arI cs 3 fl)] ++ (OW cs oa IA LA sh it dy lc pct lr sr lf lrf srf cr IR LR z)) H → va_D A ([(ap, arI cs 2 fp), (ad, arI cs 6 fd), (al, arI cs 3 fl)] ++ (OW cs oa IA LA sh it dy lc pct lr sr lf lrf srf cr IR LR z)) → va_S A s.heap H locs → lv_has ls 13 [(8, .int (iI (((j : Nat) : Int)))), (7, .int (iI (opS dy pct cr IR LR sh i j))), (6, .int (iI (shS dy pct cr IR LR sh i j))), (5, .int (iI (((i : Nat) : Int)))), (4, .int (iI (1))), (0, .ref (oa 0)), (1, .ref ap), (2, .ref al), (3, .ref ad)] → W p l e _ s m _ below meth c H locs (((0 + 700 * i) + 222 * j)) (((0 + 4200 * i) + 1332 * j)) _ (F0 m 21 ls []) from
        KL1 _ 0 z (Nat.zero_le _) (Nat.lt_succ_self _) _ _ _ hP hD hS (lv_sub hl [0, 1, 2, 3, 4, 5, 6, 7, 8] rfl)
      intro n1
      induction n1 with
      | zero => intro j z hjl h0; exact absurd h0 (Nat.not_lt_zero _)
      | succ n1 ih1 =>
        intro j z hjl hmu1 H locs ls hP hD hS hl
        refine lv_iload hx hb dL_areLines_21 (lv_at hl 0 rfl) ?_
        refine lv_iconst (v := iI (3)) hx hb dL_areLines_23 rfl ?_
        refine my_icmp_ge (tgt := 245) hx hb (by omega) dL_areLines_24 (by decide) (fun bh2 => ?_) (fun bh2 => ?_)
        · have ej : j = 3 := by omega
          rw [ej] at hl
          have hov := PI_over hI hsh3 i
          have hpko := (PI_iOK hI i).1
          have hsto := (PI_iOK hI i).2
          have hfpv := hfp i (by omega)
          have hcj := PI_it hI (i := i) (by omega)
          refine lv_aload_n hx hb dL_areLines_245 rfl (lv_at hl 5 rfl) ?_
          refine lv_iload hx hb dL_areLines_246 (lv_at hl 3 rfl) ?_
          refine va_calli (vx_runSW (As := [.ref (oa 0), .int (iI (((i : Nat) : Int)))]) (rest := []) ⟨hx, hb, hml, hown, hts⟩ (m_L_centre_k l hst D cs oa IA LA sh it dy lc pct lr sr lf lrf srf cr IR LR z i (hI) (by omega)) (vx_cwSW 2 hts (gS w_650 w_651 w_0 w_652) rfl rfl rfl (by decide +kernel) ⟨Nat.le_of_ble_eq_true rfl, Nat.le_of_ble_eq_true rfl⟩) (PE_Sa hK hN hE hS (fun _ h => False.elim h) (P_R (E := [(ap, arI cs 2 fp), (ad, arI cs 6 fd), (al, arI cs 3 fl)]) (Wc := (OW cs oa IA LA sh it dy lc pct lr sr lf lrf srf cr IR LR z)) hP) (D_R (E := [(ap, arI cs 2 fp), (ad, arI cs 6 fd), (al, arI cs 3 fl)]) (Wc := (OW cs oa IA LA sh it dy lc pct lr sr lf lrf srf cr IR LR z)) hD)) rfl rfl hl.1 rfl (lv_room (Nat.le_of_ble_eq_true rfl)) dL_areLines_248 ⟨by show _ ≤ 1400; omega, by show _ ≤ 8400; omega⟩) hS (fun _ _ h => False.elim h) (fun _ h => False.elim h) (fun r u t H locs ht hvm hw hB hz1 hk1 hS => ?_)
          subst hw
          have hP := P_kept hP hk1
          have hr_centre := (PI_iOK hI i).2
          refine lv_aload_n hx hb dL_areLines_251 rfl (lv_at hl 6 rfl) ?_
          refine lv_iload hx hb dL_areLines_252 (lv_at hl 3 rfl) ?_
          refine my_iald hx hb hK hP 0 rfl (by omega) (k := i) (Int.toNat_natCast _) dL_areLines_254 ?_
          refine my_cv0 (z := ipk (IR i)) (by omega) ?_
          refine my_idiv hx hb dL_areLines_255 (by omega) rfl ?_
          refine lv_istore (lv' := [(8, .int (iI ((ist (IR i)) / (ipk (IR i))))), (7, .int (iI (opS dy pct cr IR LR sh i 3))), (6, .int (iI (shS dy pct cr IR LR sh i 3))), (5, .int (iI (((i : Nat) : Int)))), (4, .int (iI (1))), (0, .ref (oa 0)), (1, .ref ap), (2, .ref al), (3, .ref ad)]) hx hb dL_areLines_256 hl (by decide) rfl (fun ls hl => ?_)
          refine lv_iload hx hb dL_areLines_258 (lv_at hl 4 rfl) ?_
          refine lv_iload hx hb dL_areLines_260 (lv_at hl 2 rfl) ?_
          refine lv_iload hx hb dL_areLines_262 (lv_at hl 0 rfl) ?_
          refine my_icmp_gt (tgt := 298) hx hb (by omega) dL_areLines_264 (by decide) (fun bh3 => (by omega : False).elim) (fun bh3 => ?_)
          refine lv_iload hx hb dL_areLines_267 (lv_at hl 1 rfl) ?_
          refine my_jn (pc2 := 279) (stk := [.int (iI (1))]) (n := 13) (loc := [(8, .int (iI ((ist (IR i)) / (ipk (IR i))))), (7, .int (iI (opS dy pct cr IR LR sh i 3))), (6, .int (iI (shS dy pct cr IR LR sh i 3))), (5, .int (iI (((i : Nat) : Int)))), (4, .int (iI (1))), (0, .ref (oa 0)), (1, .ref ap), (2, .ref al), (3, .ref ad)]) (fun ls hl => ?_) (fun J279 => ?_)
          · refine lv_aload_n hx hb dL_areLines_279 rfl (lv_at hl 5 rfl) ?_
            refine lv_iload hx hb dL_areLines_280 (lv_at hl 3 rfl) ?_
            refine va_calli (vx_runSW (As := [.ref (oa 0), .int (iI (((i : Nat) : Int)))]) (rest := [.int (iI (1))]) ⟨hx, hb, hml, hown, hts⟩ (m_L_centre_k l hst D cs oa IA LA sh it dy lc pct lr sr lf lrf srf cr IR LR z i (hI) (by omega)) (vx_cwSW 2 hts (gS w_650 w_651 w_0 w_652) rfl rfl rfl (by decide +kernel) ⟨Nat.le_of_ble_eq_true rfl, Nat.le_of_ble_eq_true rfl⟩) (PE_Sa hK hN hE hS (fun _ h => False.elim h) (P_R (E := [(ap, arI cs 2 fp), (ad, arI cs 6 fd), (al, arI cs 3 fl)]) (Wc := (OW cs oa IA LA sh it dy lc pct lr sr lf lrf srf cr IR LR z)) hP) (D_R (E := [(ap, arI cs 2 fp), (ad, arI cs 6 fd), (al, arI cs 3 fl)]) (Wc := (OW cs oa IA LA sh it dy lc pct lr sr lf lrf srf cr IR LR z)) hD)) rfl rfl hl.1 rfl (lv_room (Nat.le_of_ble_eq_true rfl)) dL_areLines_282 ⟨by show _ ≤ 1400; omega, by show _ ≤ 8400; omega⟩) hS (fun _ _ h => False.elim h) (fun _ h => False.elim h) (fun r u t H locs ht hvm hw hB hz1 hk1 hS => ?_)
            subst hw
            have hP := P_kept hP hk1
            have hr_centre := (PI_iOK hI i).2
            refine lv_aload_n hx hb dL_areLines_285 rfl (lv_at hl 5 rfl) ?_
            refine lv_iload hx hb dL_areLines_286 (lv_at hl 3 rfl) ?_
            refine va_calli (vx_runSW (As := [.ref (oa 0), .int (iI (((i : Nat) : Int)))]) (rest := [.int (iI (ist (IR i))), .int (iI (1))]) ⟨hx, hb, hml, hown, hts⟩ (m_L_centreByJournal_k l hst D cs oa IA LA sh it dy lc pct lr sr lf lrf srf cr IR LR z i (hI) (by omega)) (vx_cwSW 2 hts (gS w_792 w_793 w_0 w_794) rfl rfl rfl (by decide +kernel) ⟨Nat.le_of_ble_eq_true rfl, Nat.le_of_ble_eq_true rfl⟩) (PE_Sa hK hN hE hS (fun _ h => False.elim h) (P_R (E := [(ap, arI cs 2 fp), (ad, arI cs 6 fd), (al, arI cs 3 fl)]) (Wc := (OW cs oa IA LA sh it dy lc pct lr sr lf lrf srf cr IR LR z)) hP) (D_R (E := [(ap, arI cs 2 fp), (ad, arI cs 6 fd), (al, arI cs 3 fl)]) (Wc := (OW cs oa IA LA sh it dy lc pct lr sr lf lrf srf cr IR LR z)) hD)) rfl rfl hl.1 rfl (lv_room (Nat.le_of_ble_eq_true rfl)) dL_areLines_288 ⟨by show _ ≤ 1400; omega, by show _ ≤ 8400; omega⟩) hS (fun _ _ h => False.elim h) (fun _ h => False.elim h) (fun r u t H locs ht hvm hw hB hz1 hk1 hS => ?_)
            subst hw
            have hP := P_kept hP hk1
            refine my_icmp_ne (tgt := 298) hx hb (by omega) dL_areLines_291 (by decide) (fun bh4 => (by omega : False).elim) (fun bh4 => ?_)
            refine lv_iconst (v := iI (1)) hx hb dL_areLines_294 rfl ?_
            refine lv_goto (tgt := 299) hx hb dL_areLines_295 (by decide) ?_
            refine my_iand11 hx hb dL_areLines_299 ?_
            refine lv_istore (lv' := [(4, .int (iI (1))), (8, .int (iI ((ist (IR i)) / (ipk (IR i))))), (7, .int (iI (opS dy pct cr IR LR sh i 3))), (6, .int (iI (shS dy pct cr IR LR sh i 3))), (5, .int (iI (((i : Nat) : Int)))), (0, .ref (oa 0)), (1, .ref ap), (2, .ref al), (3, .ref ad)]) hx hb dL_areLines_300 hl (by decide) rfl (fun ls hl => ?_)
            refine lv_iinc (v := iI (((i : Nat) : Int) + 1)) (lv' := [(5, .int (iI (((i : Nat) : Int) + 1))), (4, .int (iI (1))), (8, .int (iI ((ist (IR i)) / (ipk (IR i))))), (7, .int (iI (opS dy pct cr IR LR sh i 3))), (6, .int (iI (shS dy pct cr IR LR sh i 3))), (0, .ref (oa 0)), (1, .ref ap), (2, .ref al), (3, .ref ad)]) hx hb dL_areLines_302 hl (k := 4) rfl (by rw [show (((i : Nat) : Int) + 1 : Int) = ((i : Nat) : Int) + 1 from rfl]; exact iI_add _ _) (by decide) rfl (fun ls hl => ?_)
            refine lv_goto (tgt := 6) hx hb dL_areLines_305 (by decide) ?_
            have e1 : ((i : Nat) : Int) + 1 = ((i + 1 : Nat) : Int) := by omega
            rw [e1] at hl
            refine W.widen (k := (0 + 700 * (i + 1))) (n := (0 + 4200 * (i + 1))) (by omega) (by omega) ?_
            exact ih (i + 1) z (by omega) (by omega) _ _ _ hP hD hS (lv_sub hl [0, 1, 5, 6, 7, 8] rfl)
          refine my_if_eq (tgt := 279) hx hb (by omega) dL_areLines_269 (by decide) (fun bh5 => ?_) (fun bh5 => ?_)
          · exact J279 ls (lv_sub hl [0, 1, 2, 3, 4, 5, 6, 7, 8] rfl)
          · refine lv_iload hx hb dL_areLines_272 (lv_at hl 2 rfl) ?_
            refine lv_iload hx hb dL_areLines_274 (lv_at hl 0 rfl) ?_
            refine my_icmp_ne (tgt := 298) hx hb (by omega) dL_areLines_276 (by decide) (fun bh6 => (by omega : False).elim) (fun bh6 => ?_)
            exact J279 ls (lv_sub hl [0, 1, 2, 3, 4, 5, 6, 7, 8] rfl)
        · refine lv_aload_n hx hb dL_areLines_27 rfl (lv_at hl 8 rfl) ?_
          refine lv_iconst (v := iI (2)) hx hb dL_areLines_28 rfl ?_
          refine lv_iload hx hb dL_areLines_29 (lv_at hl 0 rfl) ?_
          refine my_imul (z := 2 * ((j : Nat) : Int)) hx hb dL_areLines_31 (rfl) ?_
          refine lv_iload hx hb dL_areLines_32 (lv_at hl 3 rfl) ?_
          refine my_iadd (z := (2 * ((j : Nat) : Int)) + ((i : Nat) : Int)) hx hb dL_areLines_34 (rfl) ?_
          refine my_cv0 (z := (((2 * j + i) : Nat) : Int)) (by omega) ?_
          refine my_iald hx hb hK hP 1 rfl (by omega) (k := 2 * j + i) (Int.toNat_natCast _) dL_areLines_35 ?_
          have hlk := PI_lOK hI (j * 5 + i)
          have hfdv := hfd j i (by omega) (by omega)
          have hesj := hlk.2.2.2.1
          have hfdr : -1 ≤ fd (2 * j + i) ∧ fd (2 * j + i) ≤ 1000 := by rw [hfdv]; split <;> omega
          refine my_if_lt (tgt := 43) hx hb (by omega) dL_areLines_36 (by decide) (fun bh7 => ?_) (fun bh7 => ?_)
          · have hcr : ¬ cr (j * 5 + i) = true := fun hcr => by rw [if_pos hcr] at hfdv; omega
            have hcd2 := cdK_2 (sh := sh) (it := it) (sn := j) (tn := i) (by omega) (by omega) hcr
            refine lv_iconst (v := iI (0)) hx hb dL_areLines_43 rfl ?_
            refine lv_istore (lv' := [(9, .int (iI (0))), (8, .int (iI (((j : Nat) : Int)))), (7, .int (iI (opS dy pct cr IR LR sh i j))), (6, .int (iI (shS dy pct cr IR LR sh i j))), (5, .int (iI (((i : Nat) : Int)))), (4, .int (iI (1))), (0, .ref (oa 0)), (1, .ref ap), (2, .ref al), (3, .ref ad)]) hx hb dL_areLines_44 hl (by decide) rfl (fun ls hl => ?_)
            refine lv_aload_n hx hb dL_areLines_46 rfl (lv_at hl 6 rfl) ?_
            refine lv_iload hx hb dL_areLines_47 (lv_at hl 1 rfl) ?_
            refine lv_iload hx hb dL_areLines_49 (lv_at hl 4 rfl) ?_
            refine va_calli (vx_runSW (As := [.ref (oa 0), .int (iI (((j : Nat) : Int))), .int (iI (((i : Nat) : Int)))]) (rest := []) ⟨hx, hb, hml, hown, hts⟩ (m_L_share_w l hst D cs oa IA LA sh it dy lc pct lr sr lf lrf srf cr IR LR z ((j : Nat) : Int) ((i : Nat) : Int) (hI) (by omega) (by omega)) (vx_cwSW 3 hts (gS w_670 w_671 w_0 w_672) rfl rfl rfl (by decide +kernel) ⟨Nat.le_of_ble_eq_true rfl, Nat.le_of_ble_eq_true rfl⟩) (PE_Sa hK hN hE hS (fun q h => inW_suba (D_R (E := [(ap, arI cs 2 fp), (ad, arI cs 6 fd), (al, arI cs 3 fl)]) (Wc := (OW cs oa IA LA sh it dy lc pct lr sr lf lrf srf cr IR LR z)) hD) q h) (P_R (E := [(ap, arI cs 2 fp), (ad, arI cs 6 fd), (al, arI cs 3 fl)]) (Wc := (OW cs oa IA LA sh it dy lc pct lr sr lf lrf srf cr IR LR z)) hP) (D_R (E := [(ap, arI cs 2 fp), (ad, arI cs 6 fd), (al, arI cs 3 fl)]) (Wc := (OW cs oa IA LA sh it dy lc pct lr sr lf lrf srf cr IR LR z)) hD)) rfl rfl hl.1 rfl (lv_room (Nat.le_of_ble_eq_true rfl)) dL_areLines_51 ⟨by show _ ≤ 1400; omega, by show _ ≤ 8400; omega⟩) hS (fun q _ h => inW_suba (D_R (E := [(ap, arI cs 2 fp), (ad, arI cs 6 fd), (al, arI cs 3 fl)]) (Wc := (OW cs oa IA LA sh it dy lc pct lr sr lf lrf srf cr IR LR z)) hD) q h) (fun q h => inW_suba (D_R (E := [(ap, arI cs 2 fp), (ad, arI cs 6 fd), (al, arI cs 3 fl)]) (Wc := (OW cs oa IA LA sh it dy lc pct lr sr lf lrf srf cr IR LR z)) hD) q h) (fun r zu8 t H locs ht hvm hw hB hz1 hk1 hS => ?_)
            subst hw
            rw [ht] at hB
            obtain ⟨hP, hD⟩ := my_joinE (E := [(ap, arI cs 2 fp), (ad, arI cs 6 fd), (al, arI cs 3 fl)]) (Wc := (OW cs oa IA LA sh it dy lc pct lr sr lf lrf srf cr IR LR z)) (W2 := (OW cs oa IA LA sh it dy lc pct lr sr lf lrf srf cr IR LR zu8)) hP hD OW_fst hk1 hB
            have hP : va_P D vwCl ([(ap, arI cs 2 fp), (ad, arI cs 6 fd), (al, arI cs 3 fl)] ++ (OW cs oa IA LA sh it dy lc pct lr sr lf lrf srf cr IR LR zu8)) H := hP
            have hD : va_D A ([(ap, arI cs 2 fp), (ad, arI cs 6 fd), (al, arI cs 3 fl)] ++ (OW cs oa IA LA sh it dy lc pct lr sr lf lrf srf cr IR LR zu8)) := hD
            have hr_share := PI_ws hI (((j : Nat) : Int)) (((i : Nat) : Int))
            refine my_cv0 (z := -75) (by rw [hcd2]; rfl) ?_
            refine lv_istore (lv' := [(10, .int (iI (-75))), (9, .int (iI (0))), (8, .int (iI (((j : Nat) : Int)))), (7, .int (iI (opS dy pct cr IR LR sh i j))), (6, .int (iI (shS dy pct cr IR LR sh i j))), (5, .int (iI (((i : Nat) : Int)))), (4, .int (iI (1))), (0, .ref (oa 0)), (1, .ref ap), (2, .ref al), (3, .ref ad)]) hx hb dL_areLines_54 hl (by decide) rfl (fun ls hl => ?_)
            refine lv_aload_n hx hb dL_areLines_56 rfl (lv_at hl 7 rfl) ?_
            refine lv_iload hx hb dL_areLines_57 (lv_at hl 2 rfl) ?_
            refine lv_iload hx hb dL_areLines_59 (lv_at hl 5 rfl) ?_
            refine va_calli (vx_runSW (As := [.ref (oa 0), .int (iI (((j : Nat) : Int))), .int (iI (((i : Nat) : Int)))]) (rest := []) ⟨hx, hb, hml, hown, hts⟩ (m_L_request_w l hst D cs oa IA LA sh it dy lc pct lr sr lf lrf srf cr IR LR zu8 ((j : Nat) : Int) ((i : Nat) : Int) (hI) (by omega) (by omega)) (vx_cwSW 3 hts (gS w_712 w_713 w_0 w_714) rfl rfl rfl (by decide +kernel) ⟨Nat.le_of_ble_eq_true rfl, Nat.le_of_ble_eq_true rfl⟩) (PE_Sa hK hN hE hS (fun _ h => False.elim h) (P_R (E := [(ap, arI cs 2 fp), (ad, arI cs 6 fd), (al, arI cs 3 fl)]) (Wc := (OW cs oa IA LA sh it dy lc pct lr sr lf lrf srf cr IR LR zu8)) hP) (D_R (E := [(ap, arI cs 2 fp), (ad, arI cs 6 fd), (al, arI cs 3 fl)]) (Wc := (OW cs oa IA LA sh it dy lc pct lr sr lf lrf srf cr IR LR zu8)) hD)) rfl rfl hl.1 rfl (lv_room (Nat.le_of_ble_eq_true rfl)) dL_areLines_61 ⟨by show _ ≤ 1400; omega, by show _ ≤ 8400; omega⟩) hS (fun _ _ h => False.elim h) (fun _ h => False.elim h) (fun r u t H locs ht hvm hw hB hz1 hk1 hS => ?_)
            subst hw
            have hP := P_kept hP hk1
            have hr_request := (PI_wr hI (((j : Nat) : Int)) (((i : Nat) : Int))).2.2.2.2.2.1
            refine my_cv0 (z := -75) (by rw [hcd2]; rfl) ?_
            refine lv_istore (lv' := [(11, .int (iI (-75))), (10, .int (iI (-75))), (9, .int (iI (0))), (8, .int (iI (((j : Nat) : Int)))), (7, .int (iI (opS dy pct cr IR LR sh i j))), (6, .int (iI (shS dy pct cr IR LR sh i j))), (5, .int (iI (((i : Nat) : Int)))), (4, .int (iI (1))), (0, .ref (oa 0)), (1, .ref ap), (2, .ref al), (3, .ref ad)]) hx hb dL_areLines_64 hl (by decide) rfl (fun ls hl => ?_)
            refine lv_aload_n hx hb dL_areLines_66 rfl (lv_at hl 8 rfl) ?_
            refine lv_iload hx hb dL_areLines_67 (lv_at hl 3 rfl) ?_
            refine lv_iload hx hb dL_areLines_69 (lv_at hl 6 rfl) ?_
            refine va_calli (vx_runSW (As := [.ref (oa 0), .int (iI (((j : Nat) : Int))), .int (iI (((i : Nat) : Int)))]) (rest := []) ⟨hx, hb, hml, hown, hts⟩ (m_L_need_w l hst D cs oa IA LA sh it dy lc pct lr sr lf lrf srf cr IR LR zu8 ((j : Nat) : Int) ((i : Nat) : Int) (hI) (by omega) (by omega)) (vx_cwSW 3 hts (gS w_678 w_679 w_0 w_680) rfl rfl rfl (by decide +kernel) ⟨Nat.le_of_ble_eq_true rfl, Nat.le_of_ble_eq_true rfl⟩) (PE_Sa hK hN hE hS (fun _ h => False.elim h) (P_R (E := [(ap, arI cs 2 fp), (ad, arI cs 6 fd), (al, arI cs 3 fl)]) (Wc := (OW cs oa IA LA sh it dy lc pct lr sr lf lrf srf cr IR LR zu8)) hP) (D_R (E := [(ap, arI cs 2 fp), (ad, arI cs 6 fd), (al, arI cs 3 fl)]) (Wc := (OW cs oa IA LA sh it dy lc pct lr sr lf lrf srf cr IR LR zu8)) hD)) rfl rfl hl.1 rfl (lv_room (Nat.le_of_ble_eq_true rfl)) dL_areLines_71 ⟨by show _ ≤ 1400; omega, by show _ ≤ 8400; omega⟩) hS (fun _ _ h => False.elim h) (fun _ h => False.elim h) (fun r u t H locs ht hvm hw hB hz1 hk1 hS => ?_)
            subst hw
            have hP := P_kept hP hk1
            have hr_need := (PI_wr hI (((j : Nat) : Int)) (((i : Nat) : Int))).2.2.1
            refine my_cv0 (z := -75) (by rw [hcd2]; rfl) ?_
            refine lv_istore (lv' := [(12, .int (iI (-75))), (11, .int (iI (-75))), (10, .int (iI (-75))), (9, .int (iI (0))), (8, .int (iI (((j : Nat) : Int)))), (7, .int (iI (opS dy pct cr IR LR sh i j))), (6, .int (iI (shS dy pct cr IR LR sh i j))), (5, .int (iI (((i : Nat) : Int)))), (4, .int (iI (1))), (0, .ref (oa 0)), (1, .ref ap), (2, .ref al), (3, .ref ad)]) hx hb dL_areLines_74 hl (by decide) rfl (fun ls hl => ?_)
            refine lv_iload hx hb dL_areLines_76 (lv_at hl 8 rfl) ?_
            refine lv_aload_n hx hb dL_areLines_78 rfl (lv_at hl 9 rfl) ?_
            refine lv_iload hx hb dL_areLines_79 (lv_at hl 4 rfl) ?_
            refine lv_iload hx hb dL_areLines_81 (lv_at hl 7 rfl) ?_
            refine va_calli (vx_runSW (As := [.ref (oa 0), .int (iI (((j : Nat) : Int))), .int (iI (((i : Nat) : Int)))]) (rest := [.int (iI (1))]) ⟨hx, hb, hml, hown, hts⟩ (m_L_carries_k l hst D cs oa IA LA sh it dy lc pct lr sr lf lrf srf cr IR LR zu8 j i (hI) (by omega) (by omega)) (vx_cwSW 3 hts (gS w_390 w_391 w_0 w_392) rfl rfl rfl (by decide +kernel) ⟨Nat.le_of_ble_eq_true rfl, Nat.le_of_ble_eq_true rfl⟩) (PE_Sa hK hN hE hS (fun _ h => False.elim h) (P_R (E := [(ap, arI cs 2 fp), (ad, arI cs 6 fd), (al, arI cs 3 fl)]) (Wc := (OW cs oa IA LA sh it dy lc pct lr sr lf lrf srf cr IR LR zu8)) hP) (D_R (E := [(ap, arI cs 2 fp), (ad, arI cs 6 fd), (al, arI cs 3 fl)]) (Wc := (OW cs oa IA LA sh it dy lc pct lr sr lf lrf srf cr IR LR zu8)) hD)) rfl rfl hl.1 rfl (lv_room (Nat.le_of_ble_eq_true rfl)) dL_areLines_83 ⟨by show _ ≤ 1400; omega, by show _ ≤ 8400; omega⟩) hS (fun _ _ h => False.elim h) (fun _ h => False.elim h) (fun r u t H locs ht hvm hw hB hz1 hk1 hS => ?_)
            subst hw
            have hP := P_kept hP hk1
            refine my_cv0 (z := 0) (if_neg hcr) ?_
            refine lv_iload hx hb dL_areLines_86 (lv_at hl 3 rfl) ?_
            refine my_if_eq (tgt := 95) hx hb (by omega) dL_areLines_88 (by decide) (fun bh9 => ?_) (fun bh9 => (by omega : False).elim)
            refine lv_iconst (v := iI (0)) hx hb dL_areLines_95 rfl ?_
            refine my_icmp_ne (tgt := 118) hx hb (by omega) dL_areLines_96 (by decide) (fun bh10 => (by omega : False).elim) (fun bh10 => ?_)
            refine lv_iload hx hb dL_areLines_99 (lv_at hl 3 rfl) ?_
            refine lv_iload hx hb dL_areLines_101 (lv_at hl 2 rfl) ?_
            refine my_if_lt (tgt := 110) hx hb (by omega) dL_areLines_103 (by decide) (fun bh11 => ?_) (fun bh11 => (by omega : False).elim)
            refine lv_iconst (v := iI (0)) hx hb dL_areLines_110 rfl ?_
            refine my_icmp_ne (tgt := 118) hx hb (by omega) dL_areLines_111 (by decide) (fun bh12 => (by omega : False).elim) (fun bh12 => ?_)
            refine lv_iconst (v := iI (1)) hx hb dL_areLines_114 rfl ?_
            refine lv_goto (tgt := 119) hx hb dL_areLines_115 (by decide) ?_
            refine my_iand11 hx hb dL_areLines_119 ?_
            refine lv_istore (lv' := [(4, .int (iI (1))), (12, .int (iI (-75))), (11, .int (iI (-75))), (10, .int (iI (-75))), (9, .int (iI (0))), (8, .int (iI (((j : Nat) : Int)))), (7, .int (iI (opS dy pct cr IR LR sh i j))), (6, .int (iI (shS dy pct cr IR LR sh i j))), (5, .int (iI (((i : Nat) : Int)))), (0, .ref (oa 0)), (1, .ref ap), (2, .ref al), (3, .ref ad)]) hx hb dL_areLines_120 hl (by decide) rfl (fun ls hl => ?_)
            refine lv_iload hx hb dL_areLines_122 (lv_at hl 4 rfl) ?_
            refine my_if_eq (tgt := 239) hx hb (by omega) dL_areLines_124 (by decide) (fun bh13 => ?_) (fun bh13 => (by omega : False).elim)
            refine lv_iinc (v := iI (((j : Nat) : Int) + 1)) (lv' := [(8, .int (iI (((j : Nat) : Int) + 1))), (4, .int (iI (1))), (12, .int (iI (-75))), (11, .int (iI (-75))), (10, .int (iI (-75))), (9, .int (iI (0))), (7, .int (iI (opS dy pct cr IR LR sh i j))), (6, .int (iI (shS dy pct cr IR LR sh i j))), (5, .int (iI (((i : Nat) : Int)))), (0, .ref (oa 0)), (1, .ref ap), (2, .ref al), (3, .ref ad)]) hx hb dL_areLines_239 hl (k := 5) rfl (by rw [show (((j : Nat) : Int) + 1 : Int) = ((j : Nat) : Int) + 1 from rfl]; exact iI_add _ _) (by decide) rfl (fun ls hl => ?_)
            refine lv_goto (tgt := 21) hx hb dL_areLines_242 (by decide) ?_
            have e1 : ((j : Nat) : Int) + 1 = ((j + 1 : Nat) : Int) := by omega
            have e2 : shS dy pct cr IR LR sh i j = shS dy pct cr IR LR sh i (j + 1) := shS_0 hcr
            have e3 : opS dy pct cr IR LR sh i j = opS dy pct cr IR LR sh i (j + 1) := opS_0 hcr
            rw [e1, e2, e3] at hl
            refine W.widen (k := ((0 + 700 * i) + 222 * (j + 1))) (n := ((0 + 4200 * i) + 1332 * (j + 1))) (by omega) (by omega) ?_
            exact ih1 (j + 1) zu8 (by omega) (by omega) _ _ _ hP hD hS (lv_sub hl [0, 6, 7, 8, 1, 9, 10, 11, 12] rfl)
          · have htn : i < it := by omega
            have hcr : cr (j * 5 + i) = true := Classical.byContradiction fun hcr => by rw [if_neg hcr] at hfdv; omega
            have hfd1 : fd (2 * j + i) = les (LR (j * 5 + i)) := by rw [hfdv, if_pos hcr]
            have hCI := (PI_CI hI hcr).2.2.2
            have hlld := hCI.1
            rw [show (j * 5 + i) / 5 = j from by omega] at hlld
            have hlfj := PI_lf hI (s := j) (by omega)
            have hflj := hfl j (by omega)
            have hshj := PI_sh hI i (sn := j) (by omega)
            have hrqj := PI_rqL hI (s := j) (i := i) (by omega) hcr
            have hrqr := PI_rq hI i j
            rw [hrqj] at hrqr hshj
            have hndj := lOK_nd hlk (show 1 ≤ pct ∧ pct ≤ 100 by omega)
            have hgrj := PI_gr hI i (sn := j) (by omega)
            have hpkj := (PI_iOK hI i).1
            have hfpj := hfp i (by omega)
            have hrqf : _ ∧ _ := rq_facts (nd := ndL dy pct (LR (j * 5 + i))) hpkj.1
            rw [show rqI (ndL dy pct (LR (j * 5 + i))) (ipk (IR i)) = rqL dy pct (ipk (IR i)) (LR (j * 5 + i)) from rfl] at hrqf
            refine lv_iconst (v := iI (1)) hx hb dL_areLines_39 rfl ?_
            refine lv_goto (tgt := 44) hx hb dL_areLines_40 (by decide) ?_
            refine lv_istore (lv' := [(9, .int (iI (1))), (8, .int (iI (((j : Nat) : Int)))), (7, .int (iI (opS dy pct cr IR LR sh i j))), (6, .int (iI (shS dy pct cr IR LR sh i j))), (5, .int (iI (((i : Nat) : Int)))), (4, .int (iI (1))), (0, .ref (oa 0)), (1, .ref ap), (2, .ref al), (3, .ref ad)]) hx hb dL_areLines_44 hl (by decide) rfl (fun ls hl => ?_)
            refine lv_aload_n hx hb dL_areLines_46 rfl (lv_at hl 6 rfl) ?_
            refine lv_iload hx hb dL_areLines_47 (lv_at hl 1 rfl) ?_
            refine lv_iload hx hb dL_areLines_49 (lv_at hl 4 rfl) ?_
            refine va_calli (vx_runSW (As := [.ref (oa 0), .int (iI (((j : Nat) : Int))), .int (iI (((i : Nat) : Int)))]) (rest := []) ⟨hx, hb, hml, hown, hts⟩ (m_L_share_k l hst D cs oa IA LA sh it dy lc pct lr sr lf lrf srf cr IR LR z j i (hI) (htn) (hcr)) (vx_cwSW 3 hts (gS w_670 w_671 w_0 w_672) rfl rfl rfl (by decide +kernel) ⟨Nat.le_of_ble_eq_true rfl, Nat.le_of_ble_eq_true rfl⟩) (PE_Sa hK hN hE hS (fun q h => inW_suba (D_R (E := [(ap, arI cs 2 fp), (ad, arI cs 6 fd), (al, arI cs 3 fl)]) (Wc := (OW cs oa IA LA sh it dy lc pct lr sr lf lrf srf cr IR LR z)) hD) q h) (P_R (E := [(ap, arI cs 2 fp), (ad, arI cs 6 fd), (al, arI cs 3 fl)]) (Wc := (OW cs oa IA LA sh it dy lc pct lr sr lf lrf srf cr IR LR z)) hP) (D_R (E := [(ap, arI cs 2 fp), (ad, arI cs 6 fd), (al, arI cs 3 fl)]) (Wc := (OW cs oa IA LA sh it dy lc pct lr sr lf lrf srf cr IR LR z)) hD)) rfl rfl hl.1 rfl (lv_room (Nat.le_of_ble_eq_true rfl)) dL_areLines_51 ⟨by show _ ≤ 1400; omega, by show _ ≤ 8400; omega⟩) hS (fun q _ h => inW_suba (D_R (E := [(ap, arI cs 2 fp), (ad, arI cs 6 fd), (al, arI cs 3 fl)]) (Wc := (OW cs oa IA LA sh it dy lc pct lr sr lf lrf srf cr IR LR z)) hD) q h) (fun q h => inW_suba (D_R (E := [(ap, arI cs 2 fp), (ad, arI cs 6 fd), (al, arI cs 3 fl)]) (Wc := (OW cs oa IA LA sh it dy lc pct lr sr lf lrf srf cr IR LR z)) hD) q h) (fun r zu14 t H locs ht hvm hw hB hz1 hk1 hS => ?_)
            subst hw
            rw [ht] at hB
            obtain ⟨hP, hD⟩ := my_joinE (E := [(ap, arI cs 2 fp), (ad, arI cs 6 fd), (al, arI cs 3 fl)]) (Wc := (OW cs oa IA LA sh it dy lc pct lr sr lf lrf srf cr IR LR z)) (W2 := (OW cs oa IA LA sh it dy lc pct lr sr lf lrf srf cr IR LR zu14)) hP hD OW_fst hk1 hB
            have hP : va_P D vwCl ([(ap, arI cs 2 fp), (ad, arI cs 6 fd), (al, arI cs 3 fl)] ++ (OW cs oa IA LA sh it dy lc pct lr sr lf lrf srf cr IR LR zu14)) H := hP
            have hD : va_D A ([(ap, arI cs 2 fp), (ad, arI cs 6 fd), (al, arI cs 3 fl)] ++ (OW cs oa IA LA sh it dy lc pct lr sr lf lrf srf cr IR LR zu14)) := hD
            refine lv_istore (lv' := [(10, .int (iI (shF dy pct cr IR LR sh i j))), (9, .int (iI (1))), (8, .int (iI (((j : Nat) : Int)))), (7, .int (iI (opS dy pct cr IR LR sh i j))), (6, .int (iI (shS dy pct cr IR LR sh i j))), (5, .int (iI (((i : Nat) : Int)))), (4, .int (iI (1))), (0, .ref (oa 0)), (1, .ref ap), (2, .ref al), (3, .ref ad)]) hx hb dL_areLines_54 hl (by decide) rfl (fun ls hl => ?_)
            refine lv_aload_n hx hb dL_areLines_56 rfl (lv_at hl 7 rfl) ?_
            refine lv_iload hx hb dL_areLines_57 (lv_at hl 2 rfl) ?_
            refine lv_iload hx hb dL_areLines_59 (lv_at hl 5 rfl) ?_
            refine va_calli (vx_runSW (As := [.ref (oa 0), .int (iI (((j : Nat) : Int))), .int (iI (((i : Nat) : Int)))]) (rest := []) ⟨hx, hb, hml, hown, hts⟩ (m_L_request_k l hst D cs oa IA LA sh it dy lc pct lr sr lf lrf srf cr IR LR zu14 j i (hI) (htn) (hcr)) (vx_cwSW 3 hts (gS w_712 w_713 w_0 w_714) rfl rfl rfl (by decide +kernel) ⟨Nat.le_of_ble_eq_true rfl, Nat.le_of_ble_eq_true rfl⟩) (PE_Sa hK hN hE hS (fun _ h => False.elim h) (P_R (E := [(ap, arI cs 2 fp), (ad, arI cs 6 fd), (al, arI cs 3 fl)]) (Wc := (OW cs oa IA LA sh it dy lc pct lr sr lf lrf srf cr IR LR zu14)) hP) (D_R (E := [(ap, arI cs 2 fp), (ad, arI cs 6 fd), (al, arI cs 3 fl)]) (Wc := (OW cs oa IA LA sh it dy lc pct lr sr lf lrf srf cr IR LR zu14)) hD)) rfl rfl hl.1 rfl (lv_room (Nat.le_of_ble_eq_true rfl)) dL_areLines_61 ⟨by show _ ≤ 1400; omega, by show _ ≤ 8400; omega⟩) hS (fun _ _ h => False.elim h) (fun _ h => False.elim h) (fun r u t H locs ht hvm hw hB hz1 hk1 hS => ?_)
            subst hw
            have hP := P_kept hP hk1
            refine lv_istore (lv' := [(11, .int (iI (rqL dy pct (ipk (IR i)) (LR (j * 5 + i))))), (10, .int (iI (shF dy pct cr IR LR sh i j))), (9, .int (iI (1))), (8, .int (iI (((j : Nat) : Int)))), (7, .int (iI (opS dy pct cr IR LR sh i j))), (6, .int (iI (shS dy pct cr IR LR sh i j))), (5, .int (iI (((i : Nat) : Int)))), (4, .int (iI (1))), (0, .ref (oa 0)), (1, .ref ap), (2, .ref al), (3, .ref ad)]) hx hb dL_areLines_64 hl (by decide) rfl (fun ls hl => ?_)
            refine lv_aload_n hx hb dL_areLines_66 rfl (lv_at hl 8 rfl) ?_
            refine lv_iload hx hb dL_areLines_67 (lv_at hl 3 rfl) ?_
            refine lv_iload hx hb dL_areLines_69 (lv_at hl 6 rfl) ?_
            refine va_calli (vx_runSW (As := [.ref (oa 0), .int (iI (((j : Nat) : Int))), .int (iI (((i : Nat) : Int)))]) (rest := []) ⟨hx, hb, hml, hown, hts⟩ (m_L_need_k l hst D cs oa IA LA sh it dy lc pct lr sr lf lrf srf cr IR LR zu14 j i (hI) (htn) (hcr)) (vx_cwSW 3 hts (gS w_678 w_679 w_0 w_680) rfl rfl rfl (by decide +kernel) ⟨Nat.le_of_ble_eq_true rfl, Nat.le_of_ble_eq_true rfl⟩) (PE_Sa hK hN hE hS (fun _ h => False.elim h) (P_R (E := [(ap, arI cs 2 fp), (ad, arI cs 6 fd), (al, arI cs 3 fl)]) (Wc := (OW cs oa IA LA sh it dy lc pct lr sr lf lrf srf cr IR LR zu14)) hP) (D_R (E := [(ap, arI cs 2 fp), (ad, arI cs 6 fd), (al, arI cs 3 fl)]) (Wc := (OW cs oa IA LA sh it dy lc pct lr sr lf lrf srf cr IR LR zu14)) hD)) rfl rfl hl.1 rfl (lv_room (Nat.le_of_ble_eq_true rfl)) dL_areLines_71 ⟨by show _ ≤ 1400; omega, by show _ ≤ 8400; omega⟩) hS (fun _ _ h => False.elim h) (fun _ h => False.elim h) (fun r u t H locs ht hvm hw hB hz1 hk1 hS => ?_)
            subst hw
            have hP := P_kept hP hk1
            refine lv_istore (lv' := [(12, .int (iI (ndL dy pct (LR (j * 5 + i))))), (11, .int (iI (rqL dy pct (ipk (IR i)) (LR (j * 5 + i))))), (10, .int (iI (shF dy pct cr IR LR sh i j))), (9, .int (iI (1))), (8, .int (iI (((j : Nat) : Int)))), (7, .int (iI (opS dy pct cr IR LR sh i j))), (6, .int (iI (shS dy pct cr IR LR sh i j))), (5, .int (iI (((i : Nat) : Int)))), (4, .int (iI (1))), (0, .ref (oa 0)), (1, .ref ap), (2, .ref al), (3, .ref ad)]) hx hb dL_areLines_74 hl (by decide) rfl (fun ls hl => ?_)
            refine lv_iload hx hb dL_areLines_76 (lv_at hl 8 rfl) ?_
            refine lv_aload_n hx hb dL_areLines_78 rfl (lv_at hl 9 rfl) ?_
            refine lv_iload hx hb dL_areLines_79 (lv_at hl 4 rfl) ?_
            refine lv_iload hx hb dL_areLines_81 (lv_at hl 7 rfl) ?_
            refine va_calli (vx_runSW (As := [.ref (oa 0), .int (iI (((j : Nat) : Int))), .int (iI (((i : Nat) : Int)))]) (rest := [.int (iI (1))]) ⟨hx, hb, hml, hown, hts⟩ (m_L_carries_k l hst D cs oa IA LA sh it dy lc pct lr sr lf lrf srf cr IR LR zu14 j i (hI) (by omega) (by omega)) (vx_cwSW 3 hts (gS w_390 w_391 w_0 w_392) rfl rfl rfl (by decide +kernel) ⟨Nat.le_of_ble_eq_true rfl, Nat.le_of_ble_eq_true rfl⟩) (PE_Sa hK hN hE hS (fun _ h => False.elim h) (P_R (E := [(ap, arI cs 2 fp), (ad, arI cs 6 fd), (al, arI cs 3 fl)]) (Wc := (OW cs oa IA LA sh it dy lc pct lr sr lf lrf srf cr IR LR zu14)) hP) (D_R (E := [(ap, arI cs 2 fp), (ad, arI cs 6 fd), (al, arI cs 3 fl)]) (Wc := (OW cs oa IA LA sh it dy lc pct lr sr lf lrf srf cr IR LR zu14)) hD)) rfl rfl hl.1 rfl (lv_room (Nat.le_of_ble_eq_true rfl)) dL_areLines_83 ⟨by show _ ≤ 1400; omega, by show _ ≤ 8400; omega⟩) hS (fun _ _ h => False.elim h) (fun _ h => False.elim h) (fun r u t H locs ht hvm hw hB hz1 hk1 hS => ?_)
            subst hw
            have hP := P_kept hP hk1
            refine my_cv0 (z := 1) (if_pos hcr) ?_
            refine lv_iload hx hb dL_areLines_86 (lv_at hl 3 rfl) ?_
            refine my_if_eq (tgt := 95) hx hb (by omega) dL_areLines_88 (by decide) (fun bh15 => (by omega : False).elim) (fun bh15 => ?_)
            refine lv_iconst (v := iI (1)) hx hb dL_areLines_91 rfl ?_
            refine lv_goto (tgt := 96) hx hb dL_areLines_92 (by decide) ?_
            refine my_icmp_ne (tgt := 118) hx hb (by omega) dL_areLines_96 (by decide) (fun bh16 => (by omega : False).elim) (fun bh16 => ?_)
            refine lv_iload hx hb dL_areLines_99 (lv_at hl 3 rfl) ?_
            refine lv_iload hx hb dL_areLines_101 (lv_at hl 2 rfl) ?_
            refine my_if_lt (tgt := 110) hx hb (by omega) dL_areLines_103 (by decide) (fun bh17 => (by omega : False).elim) (fun bh17 => ?_)
            refine lv_iconst (v := iI (1)) hx hb dL_areLines_106 rfl ?_
            refine lv_goto (tgt := 111) hx hb dL_areLines_107 (by decide) ?_
            refine my_icmp_ne (tgt := 118) hx hb (by omega) dL_areLines_111 (by decide) (fun bh18 => (by omega : False).elim) (fun bh18 => ?_)
            refine lv_iconst (v := iI (1)) hx hb dL_areLines_114 rfl ?_
            refine lv_goto (tgt := 119) hx hb dL_areLines_115 (by decide) ?_
            refine my_iand11 hx hb dL_areLines_119 ?_
            refine lv_istore (lv' := [(4, .int (iI (1))), (12, .int (iI (ndL dy pct (LR (j * 5 + i))))), (11, .int (iI (rqL dy pct (ipk (IR i)) (LR (j * 5 + i))))), (10, .int (iI (shF dy pct cr IR LR sh i j))), (9, .int (iI (1))), (8, .int (iI (((j : Nat) : Int)))), (7, .int (iI (opS dy pct cr IR LR sh i j))), (6, .int (iI (shS dy pct cr IR LR sh i j))), (5, .int (iI (((i : Nat) : Int)))), (0, .ref (oa 0)), (1, .ref ap), (2, .ref al), (3, .ref ad)]) hx hb dL_areLines_120 hl (by decide) rfl (fun ls hl => ?_)
            refine lv_iload hx hb dL_areLines_122 (lv_at hl 4 rfl) ?_
            refine my_if_eq (tgt := 239) hx hb (by omega) dL_areLines_124 (by decide) (fun bh19 => (by omega : False).elim) (fun bh19 => ?_)
            refine lv_iload hx hb dL_areLines_127 (lv_at hl 7 rfl) ?_
            refine lv_iload hx hb dL_areLines_129 (lv_at hl 3 rfl) ?_
            refine my_iadd (z := (shS dy pct cr IR LR sh i j) + (shF dy pct cr IR LR sh i j)) hx hb dL_areLines_131 (rfl) ?_
            refine lv_istore (lv' := [(6, .int (iI ((shS dy pct cr IR LR sh i j) + (shF dy pct cr IR LR sh i j)))), (4, .int (iI (1))), (12, .int (iI (ndL dy pct (LR (j * 5 + i))))), (11, .int (iI (rqL dy pct (ipk (IR i)) (LR (j * 5 + i))))), (10, .int (iI (shF dy pct cr IR LR sh i j))), (9, .int (iI (1))), (8, .int (iI (((j : Nat) : Int)))), (7, .int (iI (opS dy pct cr IR LR sh i j))), (5, .int (iI (((i : Nat) : Int)))), (0, .ref (oa 0)), (1, .ref ap), (2, .ref al), (3, .ref ad)]) hx hb dL_areLines_132 hl (by decide) rfl (fun ls hl => ?_)
            refine lv_iload hx hb dL_areLines_134 (lv_at hl 7 rfl) ?_
            refine lv_iload hx hb dL_areLines_136 (lv_at hl 3 rfl) ?_
            refine lv_iload hx hb dL_areLines_138 (lv_at hl 4 rfl) ?_
            refine my_isub (z := (rqL dy pct (ipk (IR i)) (LR (j * 5 + i))) - (shF dy pct cr IR LR sh i j)) hx hb dL_areLines_140 (rfl) ?_
            refine my_iadd (z := (opS dy pct cr IR LR sh i j) + ((rqL dy pct (ipk (IR i)) (LR (j * 5 + i))) - (shF dy pct cr IR LR sh i j))) hx hb dL_areLines_141 (rfl) ?_
            refine lv_istore (lv' := [(7, .int (iI ((opS dy pct cr IR LR sh i j) + ((rqL dy pct (ipk (IR i)) (LR (j * 5 + i))) - (shF dy pct cr IR LR sh i j))))), (6, .int (iI ((shS dy pct cr IR LR sh i j) + (shF dy pct cr IR LR sh i j)))), (4, .int (iI (1))), (12, .int (iI (ndL dy pct (LR (j * 5 + i))))), (11, .int (iI (rqL dy pct (ipk (IR i)) (LR (j * 5 + i))))), (10, .int (iI (shF dy pct cr IR LR sh i j))), (9, .int (iI (1))), (8, .int (iI (((j : Nat) : Int)))), (5, .int (iI (((i : Nat) : Int)))), (0, .ref (oa 0)), (1, .ref ap), (2, .ref al), (3, .ref ad)]) hx hb dL_areLines_142 hl (by decide) rfl (fun ls hl => ?_)
            refine lv_iload hx hb dL_areLines_144 (lv_at hl 2 rfl) ?_
            refine lv_iload hx hb dL_areLines_146 (lv_at hl 5 rfl) ?_
            refine lv_aload_n hx hb dL_areLines_148 rfl (lv_at hl 9 rfl) ?_
            refine lv_iload hx hb dL_areLines_149 (lv_at hl 7 rfl) ?_
            refine lv_iload hx hb dL_areLines_151 (lv_at hl 8 rfl) ?_
            refine va_calli (vx_runSW (As := [.ref (oa 0), .int (iI (((j : Nat) : Int))), .int (iI (((i : Nat) : Int)))]) (rest := [.int (iI (shF dy pct cr IR LR sh i j)), .int (iI (1))]) ⟨hx, hb, hml, hown, hts⟩ (m_L_shareByPacks_k l hst D cs oa IA LA sh it dy lc pct lr sr lf lrf srf cr IR LR zu14 j i (hI) (htn) (hcr)) (vx_cwSW 3 hts (gS w_719 w_720 w_0 w_721) rfl rfl rfl (by decide +kernel) ⟨Nat.le_of_ble_eq_true rfl, Nat.le_of_ble_eq_true rfl⟩) (PE_Sa hK hN hE hS (fun q h => inW_suba (D_R (E := [(ap, arI cs 2 fp), (ad, arI cs 6 fd), (al, arI cs 3 fl)]) (Wc := (OW cs oa IA LA sh it dy lc pct lr sr lf lrf srf cr IR LR zu14)) hD) q h) (P_R (E := [(ap, arI cs 2 fp), (ad, arI cs 6 fd), (al, arI cs 3 fl)]) (Wc := (OW cs oa IA LA sh it dy lc pct lr sr lf lrf srf cr IR LR zu14)) hP) (D_R (E := [(ap, arI cs 2 fp), (ad, arI cs 6 fd), (al, arI cs 3 fl)]) (Wc := (OW cs oa IA LA sh it dy lc pct lr sr lf lrf srf cr IR LR zu14)) hD)) rfl rfl hl.1 rfl (lv_room (Nat.le_of_ble_eq_true rfl)) dL_areLines_153 ⟨by show _ ≤ 1400; omega, by show _ ≤ 8400; omega⟩) hS (fun q _ h => inW_suba (D_R (E := [(ap, arI cs 2 fp), (ad, arI cs 6 fd), (al, arI cs 3 fl)]) (Wc := (OW cs oa IA LA sh it dy lc pct lr sr lf lrf srf cr IR LR zu14)) hD) q h) (fun q h => inW_suba (D_R (E := [(ap, arI cs 2 fp), (ad, arI cs 6 fd), (al, arI cs 3 fl)]) (Wc := (OW cs oa IA LA sh it dy lc pct lr sr lf lrf srf cr IR LR zu14)) hD) q h) (fun r zu20 t H locs ht hvm hw hB hz1 hk1 hS => ?_)
            subst hw
            rw [ht] at hB
            obtain ⟨hP, hD⟩ := my_joinE (E := [(ap, arI cs 2 fp), (ad, arI cs 6 fd), (al, arI cs 3 fl)]) (Wc := (OW cs oa IA LA sh it dy lc pct lr sr lf lrf srf cr IR LR zu14)) (W2 := (OW cs oa IA LA sh it dy lc pct lr sr lf lrf srf cr IR LR zu20)) hP hD OW_fst hk1 hB
            have hP : va_P D vwCl ([(ap, arI cs 2 fp), (ad, arI cs 6 fd), (al, arI cs 3 fl)] ++ (OW cs oa IA LA sh it dy lc pct lr sr lf lrf srf cr IR LR zu20)) H := hP
            have hD : va_D A ([(ap, arI cs 2 fp), (ad, arI cs 6 fd), (al, arI cs 3 fl)] ++ (OW cs oa IA LA sh it dy lc pct lr sr lf lrf srf cr IR LR zu20)) := hD
            refine my_icmp_ne (tgt := 235) hx hb (by omega) dL_areLines_156 (by decide) (fun bh21 => (by omega : False).elim) (fun bh21 => ?_)
            refine lv_iload hx hb dL_areLines_159 (lv_at hl 5 rfl) ?_
            refine lv_iload hx hb dL_areLines_161 (lv_at hl 4 rfl) ?_
            refine my_icmp_gt (tgt := 235) hx hb (by omega) dL_areLines_163 (by decide) (fun bh22 => (by omega : False).elim) (fun bh22 => ?_)
            refine lv_iload hx hb dL_areLines_166 (lv_at hl 3 rfl) ?_
            refine my_jn (pc2 := 205) (stk := [.int (iI (1))]) (n := 13) (loc := [(7, .int (iI ((opS dy pct cr IR LR sh i j) + ((rqL dy pct (ipk (IR i)) (LR (j * 5 + i))) - (shF dy pct cr IR LR sh i j))))), (6, .int (iI ((shS dy pct cr IR LR sh i j) + (shF dy pct cr IR LR sh i j)))), (4, .int (iI (1))), (12, .int (iI (ndL dy pct (LR (j * 5 + i))))), (11, .int (iI (rqL dy pct (ipk (IR i)) (LR (j * 5 + i))))), (10, .int (iI (shF dy pct cr IR LR sh i j))), (9, .int (iI (1))), (8, .int (iI (((j : Nat) : Int)))), (5, .int (iI (((i : Nat) : Int)))), (0, .ref (oa 0)), (1, .ref ap), (2, .ref al), (3, .ref ad)]) (fun ls hl => ?_) (fun J205 => ?_)
            · refine lv_aload_n hx hb dL_areLines_205 rfl (lv_at hl 9 rfl) ?_
              refine lv_iload hx hb dL_areLines_206 (lv_at hl 7 rfl) ?_
              refine lv_iload hx hb dL_areLines_208 (lv_at hl 8 rfl) ?_
              refine lv_aload_n hx hb dL_areLines_210 rfl (lv_at hl 11 rfl) ?_
              refine lv_iload hx hb dL_areLines_211 (lv_at hl 7 rfl) ?_
              refine my_iald hx hb hK hP 2 rfl (by omega) (k := j) (Int.toNat_natCast _) dL_areLines_213 ?_
              refine my_cv0 (z := (((lld (LR (j * 5 + i))) : Nat) : Int)) (by omega) ?_
              refine lv_aload_n hx hb dL_areLines_214 rfl (lv_at hl 12 rfl) ?_
              refine lv_iconst (v := iI (2)) hx hb dL_areLines_215 rfl ?_
              refine lv_iload hx hb dL_areLines_216 (lv_at hl 7 rfl) ?_
              refine my_imul (z := 2 * ((j : Nat) : Int)) hx hb dL_areLines_218 (rfl) ?_
              refine lv_iload hx hb dL_areLines_219 (lv_at hl 8 rfl) ?_
              refine my_iadd (z := (2 * ((j : Nat) : Int)) + ((i : Nat) : Int)) hx hb dL_areLines_221 (rfl) ?_
              refine my_cv0 (z := (((2 * j + i) : Nat) : Int)) (by omega) ?_
              refine my_iald hx hb hK hP 1 rfl (by omega) (k := 2 * j + i) (Int.toNat_natCast _) dL_areLines_222 ?_
              refine my_cv0 (z := les (LR (j * 5 + i))) (by omega) ?_
              refine lv_iload hx hb dL_areLines_223 (lv_at hl 3 rfl) ?_
              refine va_calli (va_runS (As := [.ref (oa 0), .int (iI (((j : Nat) : Int))), .int (iI (((i : Nat) : Int))), .int (iI ((((lld (LR (j * 5 + i))) : Nat) : Int))), .int (iI (les (LR (j * 5 + i)))), .int (iI (ndL dy pct (LR (j * 5 + i))))]) (rest := [.int (iI (1))]) ⟨hx, hb, hml, hown, hts⟩ (m_L_isLine l hst D cs oa IA LA sh it dy lc pct lr sr lf lrf srf cr IR LR zu20 j i (hI) (by omega) (by assumption)) (va_cwS 6 hts (gS w_734 w_735 w_0 w_736) rfl rfl rfl (by decide +kernel) ⟨Nat.le_of_ble_eq_true rfl, Nat.le_of_ble_eq_true rfl⟩) (PE_Sa hK hN hE hS (fun q h => inW_suba (D_R (E := [(ap, arI cs 2 fp), (ad, arI cs 6 fd), (al, arI cs 3 fl)]) (Wc := (OW cs oa IA LA sh it dy lc pct lr sr lf lrf srf cr IR LR zu20)) hD) q h) (P_R (E := [(ap, arI cs 2 fp), (ad, arI cs 6 fd), (al, arI cs 3 fl)]) (Wc := (OW cs oa IA LA sh it dy lc pct lr sr lf lrf srf cr IR LR zu20)) hP) (D_R (E := [(ap, arI cs 2 fp), (ad, arI cs 6 fd), (al, arI cs 3 fl)]) (Wc := (OW cs oa IA LA sh it dy lc pct lr sr lf lrf srf cr IR LR zu20)) hD)) rfl rfl hl.1 rfl (lv_room (Nat.le_of_ble_eq_true rfl)) dL_areLines_225 ⟨by show _ ≤ 1400; omega, by show _ ≤ 8400; omega⟩) hS (fun q _ h => inW_suba (D_R (E := [(ap, arI cs 2 fp), (ad, arI cs 6 fd), (al, arI cs 3 fl)]) (Wc := (OW cs oa IA LA sh it dy lc pct lr sr lf lrf srf cr IR LR zu20)) hD) q h) (fun q h => inW_suba (D_R (E := [(ap, arI cs 2 fp), (ad, arI cs 6 fd), (al, arI cs 3 fl)]) (Wc := (OW cs oa IA LA sh it dy lc pct lr sr lf lrf srf cr IR LR zu20)) hD) q h) (fun r zu23 t H locs ht hvm hw hB hz1 hk1 hS => ?_)
              subst hw
              rw [ht] at hB
              obtain ⟨hP, hD⟩ := my_joinE (E := [(ap, arI cs 2 fp), (ad, arI cs 6 fd), (al, arI cs 3 fl)]) (Wc := (OW cs oa IA LA sh it dy lc pct lr sr lf lrf srf cr IR LR zu20)) (W2 := (OW cs oa IA LA sh it dy lc pct lr sr lf lrf srf cr IR LR zu23)) hP hD OW_fst hk1 hB
              have hP : va_P D vwCl ([(ap, arI cs 2 fp), (ad, arI cs 6 fd), (al, arI cs 3 fl)] ++ (OW cs oa IA LA sh it dy lc pct lr sr lf lrf srf cr IR LR zu23)) H := hP
              have hD : va_D A ([(ap, arI cs 2 fp), (ad, arI cs 6 fd), (al, arI cs 3 fl)] ++ (OW cs oa IA LA sh it dy lc pct lr sr lf lrf srf cr IR LR zu23)) := hD
              refine my_if_eq (tgt := 235) hx hb (by omega) dL_areLines_228 (by decide) (fun bh24 => (by omega : False).elim) (fun bh24 => ?_)
              refine lv_iconst (v := iI (1)) hx hb dL_areLines_231 rfl ?_
              refine lv_goto (tgt := 236) hx hb dL_areLines_232 (by decide) ?_
              refine my_iand11 hx hb dL_areLines_236 ?_
              refine lv_istore (lv' := [(4, .int (iI (1))), (7, .int (iI ((opS dy pct cr IR LR sh i j) + ((rqL dy pct (ipk (IR i)) (LR (j * 5 + i))) - (shF dy pct cr IR LR sh i j))))), (6, .int (iI ((shS dy pct cr IR LR sh i j) + (shF dy pct cr IR LR sh i j)))), (12, .int (iI (ndL dy pct (LR (j * 5 + i))))), (11, .int (iI (rqL dy pct (ipk (IR i)) (LR (j * 5 + i))))), (10, .int (iI (shF dy pct cr IR LR sh i j))), (9, .int (iI (1))), (8, .int (iI (((j : Nat) : Int)))), (5, .int (iI (((i : Nat) : Int)))), (0, .ref (oa 0)), (1, .ref ap), (2, .ref al), (3, .ref ad)]) hx hb dL_areLines_237 hl (by decide) rfl (fun ls hl => ?_)
              refine lv_iinc (v := iI (((j : Nat) : Int) + 1)) (lv' := [(8, .int (iI (((j : Nat) : Int) + 1))), (4, .int (iI (1))), (7, .int (iI ((opS dy pct cr IR LR sh i j) + ((rqL dy pct (ipk (IR i)) (LR (j * 5 + i))) - (shF dy pct cr IR LR sh i j))))), (6, .int (iI ((shS dy pct cr IR LR sh i j) + (shF dy pct cr IR LR sh i j)))), (12, .int (iI (ndL dy pct (LR (j * 5 + i))))), (11, .int (iI (rqL dy pct (ipk (IR i)) (LR (j * 5 + i))))), (10, .int (iI (shF dy pct cr IR LR sh i j))), (9, .int (iI (1))), (5, .int (iI (((i : Nat) : Int)))), (0, .ref (oa 0)), (1, .ref ap), (2, .ref al), (3, .ref ad)]) hx hb dL_areLines_239 hl (k := 7) rfl (by rw [show (((j : Nat) : Int) + 1 : Int) = ((j : Nat) : Int) + 1 from rfl]; exact iI_add _ _) (by decide) rfl (fun ls hl => ?_)
              refine lv_goto (tgt := 21) hx hb dL_areLines_242 (by decide) ?_
              have e1 : ((j : Nat) : Int) + 1 = ((j + 1 : Nat) : Int) := by omega
              have e2 : (shS dy pct cr IR LR sh i j) + (shF dy pct cr IR LR sh i j) = shS dy pct cr IR LR sh i (j + 1) := shS_1 hcr
              have e3 : (opS dy pct cr IR LR sh i j) + ((rqL dy pct (ipk (IR i)) (LR (j * 5 + i))) - (shF dy pct cr IR LR sh i j)) = opS dy pct cr IR LR sh i (j + 1) := opS_1 hcr
              rw [e1, e2, e3] at hl
              refine W.widen (k := ((0 + 700 * i) + 222 * (j + 1))) (n := ((0 + 4200 * i) + 1332 * (j + 1))) (by omega) (by omega) ?_
              exact ih1 (j + 1) zu23 (by omega) (by omega) _ _ _ hP hD hS (lv_sub hl [0, 2, 3, 8, 1, 9, 10, 11, 12] rfl)
            refine my_if_gt (tgt := 179) hx hb (by omega) dL_areLines_168 (by decide) (fun bh25 => ?_) (fun bh25 => ?_)
            · refine lv_iload hx hb dL_areLines_179 (lv_at hl 4 rfl) ?_
              refine lv_aload_n hx hb dL_areLines_181 rfl (lv_at hl 10 rfl) ?_
              refine lv_iload hx hb dL_areLines_182 (lv_at hl 8 rfl) ?_
              refine my_iald hx hb hK hP 0 rfl (by omega) (k := i) (Int.toNat_natCast _) dL_areLines_184 ?_
              refine my_cv0 (z := ipk (IR i)) (by omega) ?_
              refine my_imul (z := (rqL dy pct (ipk (IR i)) (LR (j * 5 + i))) * (ipk (IR i))) hx hb dL_areLines_185 (rfl) ?_
              refine lv_iload hx hb dL_areLines_186 (lv_at hl 3 rfl) ?_
              have hrq2 := hrqf.2 (by omega)
              have hrq3 : (rqL dy pct (ipk (IR i)) (LR (j * 5 + i)) - 1) * ipk (IR i) = rqL dy pct (ipk (IR i)) (LR (j * 5 + i)) * ipk (IR i) - ipk (IR i) := by rw [Int.sub_mul, Int.one_mul]
              refine my_icmp_lt (tgt := 235) hx hb (by omega) dL_areLines_188 (by decide) (fun bh26 => (by omega : False).elim) (fun bh26 => ?_)
              refine lv_iload hx hb dL_areLines_191 (lv_at hl 4 rfl) ?_
              refine lv_iconst (v := iI (1)) hx hb dL_areLines_193 rfl ?_
              refine my_isub (z := (rqL dy pct (ipk (IR i)) (LR (j * 5 + i))) - 1) hx hb dL_areLines_194 (rfl) ?_
              refine lv_aload_n hx hb dL_areLines_195 rfl (lv_at hl 10 rfl) ?_
              refine lv_iload hx hb dL_areLines_196 (lv_at hl 8 rfl) ?_
              refine my_iald hx hb hK hP 0 rfl (by omega) (k := i) (Int.toNat_natCast _) dL_areLines_198 ?_
              refine my_cv0 (z := ipk (IR i)) (by omega) ?_
              refine my_imul (z := ((rqL dy pct (ipk (IR i)) (LR (j * 5 + i))) - 1) * (ipk (IR i))) hx hb dL_areLines_199 (rfl) ?_
              refine lv_iload hx hb dL_areLines_200 (lv_at hl 3 rfl) ?_
              refine my_icmp_ge (tgt := 235) hx hb (by omega) dL_areLines_202 (by decide) (fun bh27 => (by omega : False).elim) (fun bh27 => ?_)
              exact J205 ls (lv_sub hl [0, 1, 2, 3, 4, 5, 6, 7, 8, 9, 10, 11, 12] rfl)
            · refine lv_iload hx hb dL_areLines_171 (lv_at hl 4 rfl) ?_
              refine my_if_ne (tgt := 235) hx hb (by omega) dL_areLines_173 (by decide) (fun bh28 => (by omega : False).elim) (fun bh28 => ?_)
              refine lv_goto (tgt := 205) hx hb dL_areLines_176 (by decide) ?_
              exact J205 ls (lv_sub hl [0, 1, 2, 3, 4, 5, 6, 7, 8, 9, 10, 11, 12] rfl)
