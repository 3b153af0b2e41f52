set_option maxHeartbeats 4000000 in
set_option maxRecDepth 100000 in
theorem c_disp {p : Program} {l : Launch} {e : Env} {s : State} {m : MethodId} {args : Array Value} {below : List Frame} {meth : Method} {c : Code} {b L : Nat} {xs : Nat → Int32} {A : Nat → Prop} {D : va_G} {cs : Nat → ClassId} {n : Nat} {H : Heap} {locs : List Loc} {ls : Array Slot} {cells slots c9 s9 : Nat} {Q : State → Prop} {oa : Nat → Nat} {IA LA : Nat → Nat → Nat} {sh it dy : Nat} {lc pct lr sr : Int} {lf lrf srf : Nat → Int} {cr : Nat → Bool} {IR : Nat → IT} {LR : Nat → LT} {z : SC} {ap al ad : Nat} {fp fl fd : Nat → Int} {un sa : Int} {bf kd sz iz mz : Int} (hC : CX p l s m args c b L xs A D cs) (hG : GI n sh it dy lc pct lr sr lf lrf srf cr IR LR fp fl fd un sa) (hbf : bf = suS it dy pct cr IR LR sh 6) (hsz : 0 ≤ sz ∧ sz ≤ 3) (hiz : 0 ≤ iz ∧ iz ≤ 2) (hmz : 0 ≤ mz ∧ mz ≤ 999) (hkd : 0 ≤ kd ∧ kd ≤ 23) (hP : va_P D vwCl ([(ap, arI cs 2 fp), (ad, arI cs 6 fd), (al, arI cs 3 fl)] ++ (OW cs oa IA LA sh it dy lc pct lr sr lf lrf srf cr IR LR z)) H) (hD : va_D A ([(ap, arI cs 2 fp), (ad, arI cs 6 fd), (al, arI cs 3 fl)] ++ (OW cs oa IA LA sh it dy lc pct lr sr lf lrf srf cr IR LR z))) (hS : va_S A s.heap H locs) (hl : lv_has ls 22 [(0, .ref b), (1, .ref (oa 0)), (2, .ref al), (3, .ref ap), (4, .ref ad), (5, .int (iI (1))), (6, .long (lI (un))), (8, .int (iI ((((7 + 4 * n) : Nat) : Int)))), (9, .int (iI (sa))), (10, .int (iI (((n : Nat) : Int)))), (11, .long (lI (bf))), (14, .int (iI (sz))), (15, .int (iI (iz))), (16, .int (iI (mz))), (17, .int (iI (0))), (13, .int (iI (kd)))]) (hn : n < 110) (hce : cells ≤ 600000) (hsl : slots ≤ 3000000) (hc9 : cells + 1900 ≤ c9) (hs9 : slots + 13000 ≤ s9)
    (K : ∀ (H : Heap) (locs : List Loc) (ls : Array Slot), RS s A D cs b (n + 1) H locs ls → W p l e room_1 s m args below meth c H locs c9 s9 Q (F0 m 191 ls [])) : W p l e room_1 s m args below meth c H locs cells slots Q (F0 m 291 ls []) := by
  obtain ⟨hx, hb, hml, hown, hts, hX, hbl, hK, hN, hE, hL, hst, hA, hbA⟩ := id hC
  obtain ⟨hI, hsi, hfp, hfl, hfd, hdn, hU, hsa, hun⟩ := id hG
  have hI1 := PI_1 hI
  refine lv_iload hx hb dL_law_291 (lv_at hl 15 rfl) ?_
  refine lv_iconst (v := iI (3)) hx hb dL_law_293 rfl ?_
  refine my_icmp_ge (tgt := 415) hx hb (by omega) dL_law_294 (by decide) (fun bh1 => ?_) (fun bh1 => ?_)
  · refine lv_iload hx hb dL_law_415 (lv_at hl 15 rfl) ?_
    refine lv_bipush (v := iI (6)) hx hb dL_law_417 (by decide) ?_
    refine my_icmp_ge (tgt := 481) hx hb (by omega) dL_law_419 (by decide) (fun bh2 => ?_) (fun bh2 => ?_)
    · refine lv_iload hx hb dL_law_481 (lv_at hl 15 rfl) ?_
      refine lv_bipush (v := iI (6)) hx hb dL_law_483 (by decide) ?_
      refine my_icmp_ne (tgt := 502) hx hb (by omega) dL_law_485 (by decide) (fun bh3 => ?_) (fun bh3 => ?_)
      · refine lv_iload hx hb dL_law_502 (lv_at hl 15 rfl) ?_
        refine lv_bipush (v := iI (7)) hx hb dL_law_504 (by decide) ?_
        refine my_icmp_ne (tgt := 528) hx hb (by omega) dL_law_506 (by decide) (fun bh4 => ?_) (fun bh4 => ?_)
        · refine lv_iload hx hb dL_law_528 (lv_at hl 15 rfl) ?_
          refine lv_bipush (v := iI (8)) hx hb dL_law_530 (by decide) ?_
          refine my_icmp_ne (tgt := 586) hx hb (by omega) dL_law_532 (by decide) (fun bh5 => ?_) (fun bh5 => ?_)
          · refine lv_iload hx hb dL_law_586 (lv_at hl 15 rfl) ?_
            refine lv_bipush (v := iI (17)) hx hb dL_law_588 (by decide) ?_
            refine my_icmp_ge (tgt := 741) hx hb (by omega) dL_law_590 (by decide) (fun bh6 => ?_) (fun bh6 => ?_)
            · exact c_night hC hG hbf hsz hiz hmz hP hD hS (lv_sub hl [0, 1, 2, 3, 4, 5, 6, 7, 8, 9, 10, 11, 12, 13, 14] rfl) hn hce hsl hc9 hs9 K
            · exact c_demand hC hG hbf hsz hiz hmz hP hD hS (lv_sub hl [0, 1, 2, 3, 4, 5, 6, 7, 8, 9, 10, 11, 12, 13, 14] rfl) hn hce hsl hc9 hs9 K
          · exact c_mark hC hG hbf hsz hiz hmz hP hD hS (lv_sub hl [0, 1, 2, 3, 4, 5, 6, 7, 8, 9, 10, 11, 12, 13, 14] rfl) hn hce hsl hc9 hs9 K
        · exact c_rates hC hG hbf hsz hiz hmz hP hD hS (lv_sub hl [0, 1, 2, 3, 4, 5, 6, 7, 8, 9, 10, 11, 12, 13, 14] rfl) hn hce hsl hc9 hs9 K
      · exact c_service hC hG hbf hsz hiz hmz hP hD hS (lv_sub hl [0, 1, 2, 3, 4, 5, 6, 7, 8, 9, 10, 11, 12, 13, 14] rfl) hn hce hsl hc9 hs9 K
    · exact c_supply hC hG hbf hsz hiz hmz hP hD hS (lv_sub hl [0, 1, 2, 3, 4, 5, 6, 7, 8, 9, 10, 11, 12, 13, 14] rfl) hn hce hsl hc9 hs9 K
  · exact c_carry hC hG hbf hsz hiz hmz hP hD hS (lv_sub hl [0, 1, 2, 3, 4, 5, 6, 7, 8, 9, 10, 11, 12, 13, 14] rfl) hn hce hsl hc9 hs9 K
set_option maxHeartbeats 4000000 in
set_option maxRecDepth 100000 in
theorem law_loop {p : Program} {l : Launch} {e : Env} {s : State} {m : MethodId} {below : List Frame} {meth : Method} {c : Code} {b L : Nat} {xs : Nat → Int32} {A : Nat → Prop} {D : va_G} {cs : Nat → ClassId} (hr : meth.sig.returnType = ret) (hlocks : meth.locks = false) (hAe : A = fun q : Nat => s.heap.size ≤ q) (hC : CX p l s m #[Value.ref b] c b L xs A D cs) :
    ∀ (f n : Nat), n ≤ 110 → 111 ≤ n + f → ∀ (H : Heap) (locs : List Loc) (ls : Array Slot), RS s A D cs b n H locs ls → W p l e room_1 s m #[Value.ref b] below meth c H locs (100 + 2200 * n) (20000 + 15000 * n) (lw_Z below #[Value.ref b] s) (F0 m 191 ls [])
  | 0, n, h1, h2, _, _, _, _ => absurd h2 (by omega)
  | f + 1, n, h1, h2, H, locs, ls, hR => by
    obtain ⟨hx, hb, hml, hown, hts, hX, hbl, hK, hN, hE, hL, hst, hA, hbA⟩ := id hC
    obtain ⟨oa, IA, LA, sh, it, dy, lc, pct, lr, sr, lf, lrf, srf, cr, IR, LR, z, ap, al, ad, fp, fl, fd, un, sa, hG, hP, hD, hS, hl⟩ := id hR
    obtain ⟨hI, hsi, hfp, hfl, hfd, hdn, hU, hsa, hun⟩ := id hG
    have hI1 := PI_1 hI
    refine lv_iload hx hb dL_law_191 (lv_at hl 9 rfl) ?_
    refine lv_bipush (v := iI (110)) hx hb dL_law_193 (by decide) ?_
    refine my_icmp_ge (tgt := 907) hx hb (by omega) dL_law_195 (by decide) (fun bh1 => ?_) (fun bh1 => ?_)
    · refine lv_iload hx hb dL_law_907 (lv_at hl 5 rfl) ?_
      refine va_forget (fun q hq => by have h9 := hS.2.2 q hq; rw [hAe] at h9; exact h9) ?_
      refine W.widen (k := 1038756) (n := 5985355) (by omega) (by omega) ?_
      exact lw_ret hx hb hr hlocks dL_law_909
    · have hn : n < 110 := by omega
      have K : ∀ (H : Heap) (locs : List Loc) (ls : Array Slot), RS s A D cs b (n + 1) H locs ls → W p l e room_1 s m #[Value.ref b] below meth c H locs (100 + 2200 * (n + 1)) (20000 + 15000 * (n + 1)) (lw_Z below #[Value.ref b] s) (F0 m 191 ls []) := fun H locs ls h => law_loop (e := e) (below := below) hr hlocks hAe hC f (n + 1) (by omega) (by omega) H locs ls h
      refine lv_iload hx hb dL_law_198 (lv_at hl 5 rfl) ?_
      refine my_if_eq (tgt := 907) hx hb (by omega) dL_law_200 (by decide) (fun bh2 => (by omega : False).elim) (fun bh2 => ?_)
      refine lv_aload_n hx hb dL_law_203 rfl (lv_at hl 1 rfl) ?_
      refine va_calll (va_runS (As := [.ref (oa 0)]) (rest := []) ⟨hx, hb, hml, hown, hts⟩ (m_L_sum l hst D cs oa IA LA sh it dy lc pct lr sr lf lrf srf cr IR LR z (hI) (by omega)) (va_cwS 1 hts (gS w_664 w_665 w_0 w_666) rfl rfl rfl (by decide +kernel) ⟨Nat.le_of_ble_eq_true rfl, Nat.le_of_ble_eq_true rfl⟩) (PE_Sa hK hN hE hS (fun q h => inW_suba (D_R (E := [(ap, arI cs 2 fp), (ad, arI cs 6 fd), (al, arI cs 3 fl)]) (Wc := (OW cs oa IA LA sh it dy lc pct lr sr lf lrf srf cr IR LR z)) hD) q h) (P_R (E := [(ap, arI cs 2 fp), (ad, arI cs 6 fd), (al, arI cs 3 fl)]) (Wc := (OW cs oa IA LA sh it dy lc pct lr sr lf lrf srf cr IR LR z)) hP) (D_R (E := [(ap, arI cs 2 fp), (ad, arI cs 6 fd), (al, arI cs 3 fl)]) (Wc := (OW cs oa IA LA sh it dy lc pct lr sr lf lrf srf cr IR LR z)) hD)) rfl rfl hl.1 rfl (lv_room (Nat.le_of_ble_eq_true rfl)) dL_law_204 ⟨rm_c (by omega), rm_s (by omega)⟩) hS (fun q _ h => inW_suba (D_R (E := [(ap, arI cs 2 fp), (ad, arI cs 6 fd), (al, arI cs 3 fl)]) (Wc := (OW cs oa IA LA sh it dy lc pct lr sr lf lrf srf cr IR LR z)) hD) q h) (fun q h => inW_suba (D_R (E := [(ap, arI cs 2 fp), (ad, arI cs 6 fd), (al, arI cs 3 fl)]) (Wc := (OW cs oa IA LA sh it dy lc pct lr sr lf lrf srf cr IR LR z)) hD) q h) (fun r zu3 t H locs ht hvm hw hB hz1 hk1 hS => ?_)
      subst hw
      rw [ht] at hB
      obtain ⟨hP, hD⟩ := my_joinE (E := [(ap, arI cs 2 fp), (ad, arI cs 6 fd), (al, arI cs 3 fl)]) (Wc := (OW cs oa IA LA sh it dy lc pct lr sr lf lrf srf cr IR LR z)) (W2 := (OW cs oa IA LA sh it dy lc pct lr sr lf lrf srf cr IR LR zu3)) hP hD OW_fst hk1 hB
      have hP : va_P D vwCl ([(ap, arI cs 2 fp), (ad, arI cs 6 fd), (al, arI cs 3 fl)] ++ (OW cs oa IA LA sh it dy lc pct lr sr lf lrf srf cr IR LR zu3)) H := hP
      have hD : va_D A ([(ap, arI cs 2 fp), (ad, arI cs 6 fd), (al, arI cs 3 fl)] ++ (OW cs oa IA LA sh it dy lc pct lr sr lf lrf srf cr IR LR zu3)) := hD
      refine lv_lstore (lv' := [(11, .long (lI (suS it dy pct cr IR LR sh 6))), (0, .ref b), (1, .ref (oa 0)), (2, .ref al), (3, .ref ap), (4, .ref ad), (5, .int (iI (1))), (6, .long (lI (un))), (8, .int (iI ((((7 + 4 * n) : Nat) : Int)))), (9, .int (iI (sa))), (10, .int (iI (((n : Nat) : Int))))]) hx hb dL_law_207 hl (by decide) rfl (fun ls hl => ?_)
      refine lv_aload_n hx hb dL_law_209 rfl (lv_at hl 1 rfl) ?_
      refine lv_iload hx hb dL_law_210 (lv_at hl 8 rfl) ?_
      refine lv_bipush (v := iI (24)) hx hb dL_law_212 (by decide) ?_
      refine va_calli (va_runS (As := [.ref b, .int (iI ((((7 + 4 * n) : Nat) : Int))), .int (iI (24))]) (rest := []) ⟨hx, hb, hml, hown, hts⟩ (m_L_pick l b L xs (7 + 4 * n) 24 (by omega) (by omega) hL) (va_cwS 3 hts (gS w_128 w_129 w_0 w_130) rfl rfl rfl (by decide +kernel) ⟨Nat.le_of_ble_eq_true rfl, Nat.le_of_ble_eq_true rfl⟩) (PX_S (va_X.kept hX (hS.2.1 b hbl hbA))) rfl rfl hl.1 rfl (lv_room (Nat.le_of_ble_eq_true rfl)) dL_law_214 ⟨rm_c (by omega), rm_s (by omega)⟩) hS (fun _ _ h => False.elim h) (fun _ h => False.elim h) (fun r pz4 t H locs ht hvm hw hB hz1 hk1 hS => ?_)
      obtain ⟨hw, hpz4⟩ := hw
      subst hw
      have hP := P_kept hP hk1
      refine lv_istore (lv' := [(13, .int (iI (pz4))), (11, .long (lI (suS it dy pct cr IR LR sh 6))), (0, .ref b), (1, .ref (oa 0)), (2, .ref al), (3, .ref ap), (4, .ref ad), (5, .int (iI (1))), (6, .long (lI (un))), (8, .int (iI ((((7 + 4 * n) : Nat) : Int)))), (9, .int (iI (sa))), (10, .int (iI (((n : Nat) : Int))))]) hx hb dL_law_217 hl (by decide) rfl (fun ls hl => ?_)
      refine lv_aload_n hx hb dL_law_219 rfl (lv_at hl 2 rfl) ?_
      refine lv_iload hx hb dL_law_220 (lv_at hl 9 rfl) ?_
      refine lv_iconst (v := iI (1)) hx hb dL_law_222 rfl ?_
      refine my_iadd (z := (((7 + 4 * n) : Nat) : Int) + 1) hx hb dL_law_223 (rfl) ?_
      refine my_cv0 (z := (((7 + 4 * n + 1) : Nat) : Int)) (by omega) ?_
      refine lv_bipush (v := iI (40)) hx hb dL_law_224 (by decide) ?_
      refine va_calli (va_runS (As := [.ref b, .int (iI ((((7 + 4 * n + 1) : Nat) : Int))), .int (iI (40))]) (rest := []) ⟨hx, hb, hml, hown, hts⟩ (m_L_pick l b L xs (7 + 4 * n + 1) 40 (by omega) (by omega) hL) (va_cwS 3 hts (gS w_128 w_129 w_0 w_130) rfl rfl rfl (by decide +kernel) ⟨Nat.le_of_ble_eq_true rfl, Nat.le_of_ble_eq_true rfl⟩) (PX_S (va_X.kept hX (hS.2.1 b hbl hbA))) rfl rfl hl.1 rfl (lv_room (Nat.le_of_ble_eq_true rfl)) dL_law_226 ⟨rm_c (by omega), rm_s (by omega)⟩) hS (fun _ _ h => False.elim h) (fun _ h => False.elim h) (fun r pz5 t H locs ht hvm hw hB hz1 hk1 hS => ?_)
      obtain ⟨hw, hpz5⟩ := hw
      subst hw
      have hP := P_kept hP hk1
      refine my_if_ne (tgt := 236) hx hb (by omega) dL_law_229 (by decide) (fun bh6 => ?_) (fun bh6 => ?_)
      · refine lv_aload_n hx hb dL_law_236 rfl (lv_at hl 2 rfl) ?_
        refine lv_iload hx hb dL_law_237 (lv_at hl 9 rfl) ?_
        refine lv_iconst (v := iI (1)) hx hb dL_law_239 rfl ?_
        refine my_iadd (z := (((7 + 4 * n) : Nat) : Int) + 1) hx hb dL_law_240 (rfl) ?_
        refine my_cv0 (z := (((7 + 4 * n + 1) : Nat) : Int)) (by omega) ?_
        refine lv_iconst (v := iI (3)) hx hb dL_law_241 rfl ?_
        refine va_calli (va_runS (As := [.ref b, .int (iI ((((7 + 4 * n + 1) : Nat) : Int))), .int (iI (3))]) (rest := []) ⟨hx, hb, hml, hown, hts⟩ (m_L_pick l b L xs (7 + 4 * n + 1) 3 (by omega) (by omega) hL) (va_cwS 3 hts (gS w_128 w_129 w_0 w_130) rfl rfl rfl (by decide +kernel) ⟨Nat.le_of_ble_eq_true rfl, Nat.le_of_ble_eq_true rfl⟩) (PX_S (va_X.kept hX (hS.2.1 b hbl hbA))) rfl rfl hl.1 rfl (lv_room (Nat.le_of_ble_eq_true rfl)) dL_law_242 ⟨rm_c (by omega), rm_s (by omega)⟩) hS (fun _ _ h => False.elim h) (fun _ h => False.elim h) (fun r pz7 t H locs ht hvm hw hB hz1 hk1 hS => ?_)
        obtain ⟨hw, hpz7⟩ := hw
        subst hw
        have hP := P_kept hP hk1
        refine lv_istore (lv' := [(14, .int (iI (pz7))), (13, .int (iI (pz4))), (11, .long (lI (suS it dy pct cr IR LR sh 6))), (0, .ref b), (1, .ref (oa 0)), (2, .ref al), (3, .ref ap), (4, .ref ad), (5, .int (iI (1))), (6, .long (lI (un))), (8, .int (iI ((((7 + 4 * n) : Nat) : Int)))), (9, .int (iI (sa))), (10, .int (iI (((n : Nat) : Int))))]) hx hb dL_law_245 hl (by decide) rfl (fun ls hl => ?_)
        refine lv_aload_n hx hb dL_law_247 rfl (lv_at hl 3 rfl) ?_
        refine lv_iload hx hb dL_law_248 (lv_at hl 10 rfl) ?_
        refine lv_iconst (v := iI (2)) hx hb dL_law_250 rfl ?_
        refine my_iadd (z := (((7 + 4 * n) : Nat) : Int) + 2) hx hb dL_law_251 (rfl) ?_
        refine my_cv0 (z := (((7 + 4 * n + 2) : Nat) : Int)) (by omega) ?_
        refine lv_bipush (v := iI (40)) hx hb dL_law_252 (by decide) ?_
        refine va_calli (va_runS (As := [.ref b, .int (iI ((((7 + 4 * n + 2) : Nat) : Int))), .int (iI (40))]) (rest := []) ⟨hx, hb, hml, hown, hts⟩ (m_L_pick l b L xs (7 + 4 * n + 2) 40 (by omega) (by omega) hL) (va_cwS 3 hts (gS w_128 w_129 w_0 w_130) rfl rfl rfl (by decide +kernel) ⟨Nat.le_of_ble_eq_true rfl, Nat.le_of_ble_eq_true rfl⟩) (PX_S (va_X.kept hX (hS.2.1 b hbl hbA))) rfl rfl hl.1 rfl (lv_room (Nat.le_of_ble_eq_true rfl)) dL_law_254 ⟨rm_c (by omega), rm_s (by omega)⟩) hS (fun _ _ h => False.elim h) (fun _ h => False.elim h) (fun r pz8 t H locs ht hvm hw hB hz1 hk1 hS => ?_)
        obtain ⟨hw, hpz8⟩ := hw
        subst hw
        have hP := P_kept hP hk1
        refine my_if_ne (tgt := 264) hx hb (by omega) dL_law_257 (by decide) (fun bh9 => ?_) (fun bh9 => ?_)
        · refine lv_aload_n hx hb dL_law_264 rfl (lv_at hl 3 rfl) ?_
          refine lv_iload hx hb dL_law_265 (lv_at hl 10 rfl) ?_
          refine lv_iconst (v := iI (2)) hx hb dL_law_267 rfl ?_
          refine my_iadd (z := (((7 + 4 * n) : Nat) : Int) + 2) hx hb dL_law_268 (rfl) ?_
          refine my_cv0 (z := (((7 + 4 * n + 2) : Nat) : Int)) (by omega) ?_
          refine lv_iconst (v := iI (2)) hx hb dL_law_269 rfl ?_
          refine va_calli (va_runS (As := [.ref b, .int (iI ((((7 + 4 * n + 2) : Nat) : Int))), .int (iI (2))]) (rest := []) ⟨hx, hb, hml, hown, hts⟩ (m_L_pick l b L xs (7 + 4 * n + 2) 2 (by omega) (by omega) hL) (va_cwS 3 hts (gS w_128 w_129 w_0 w_130) rfl rfl rfl (by decide +kernel) ⟨Nat.le_of_ble_eq_true rfl, Nat.le_of_ble_eq_true rfl⟩) (PX_S (va_X.kept hX (hS.2.1 b hbl hbA))) rfl rfl hl.1 rfl (lv_room (Nat.le_of_ble_eq_true rfl)) dL_law_270 ⟨rm_c (by omega), rm_s (by omega)⟩) hS (fun _ _ h => False.elim h) (fun _ h => False.elim h) (fun r pz10 t H locs ht hvm hw hB hz1 hk1 hS => ?_)
          obtain ⟨hw, hpz10⟩ := hw
          subst hw
          have hP := P_kept hP hk1
          refine lv_istore (lv' := [(15, .int (iI (pz10))), (14, .int (iI (pz7))), (13, .int (iI (pz4))), (11, .long (lI (suS it dy pct cr IR LR sh 6))), (0, .ref b), (1, .ref (oa 0)), (2, .ref al), (3, .ref ap), (4, .ref ad), (5, .int (iI (1))), (6, .long (lI (un))), (8, .int (iI ((((7 + 4 * n) : Nat) : Int)))), (9, .int (iI (sa))), (10, .int (iI (((n : Nat) : Int))))]) hx hb dL_law_273 hl (by decide) rfl (fun ls hl => ?_)
          refine lv_aload_n hx hb dL_law_275 rfl (lv_at hl 4 rfl) ?_
          refine lv_iload hx hb dL_law_276 (lv_at hl 11 rfl) ?_
          refine lv_iconst (v := iI (3)) hx hb dL_law_278 rfl ?_
          refine my_iadd (z := (((7 + 4 * n) : Nat) : Int) + 3) hx hb dL_law_279 (rfl) ?_
          refine my_cv0 (z := (((7 + 4 * n + 3) : Nat) : Int)) (by omega) ?_
          refine lv_sipush (v := iI (1000)) hx hb dL_law_280 (by decide) ?_
          refine va_calli (va_runS (As := [.ref b, .int (iI ((((7 + 4 * n + 3) : Nat) : Int))), .int (iI (1000))]) (rest := []) ⟨hx, hb, hml, hown, hts⟩ (m_L_pick l b L xs (7 + 4 * n + 3) 1000 (by omega) (by omega) hL) (va_cwS 3 hts (gS w_128 w_129 w_0 w_130) rfl rfl rfl (by decide +kernel) ⟨Nat.le_of_ble_eq_true rfl, Nat.le_of_ble_eq_true rfl⟩) (PX_S (va_X.kept hX (hS.2.1 b hbl hbA))) rfl rfl hl.1 rfl (lv_room (Nat.le_of_ble_eq_true rfl)) dL_law_283 ⟨rm_c (by omega), rm_s (by omega)⟩) hS (fun _ _ h => False.elim h) (fun _ h => False.elim h) (fun r pz11 t H locs ht hvm hw hB hz1 hk1 hS => ?_)
          obtain ⟨hw, hpz11⟩ := hw
          subst hw
          have hP := P_kept hP hk1
          refine lv_istore (lv' := [(16, .int (iI (pz11))), (15, .int (iI (pz10))), (14, .int (iI (pz7))), (13, .int (iI (pz4))), (11, .long (lI (suS it dy pct cr IR LR sh 6))), (0, .ref b), (1, .ref (oa 0)), (2, .ref al), (3, .ref ap), (4, .ref ad), (5, .int (iI (1))), (6, .long (lI (un))), (8, .int (iI ((((7 + 4 * n) : Nat) : Int)))), (9, .int (iI (sa))), (10, .int (iI (((n : Nat) : Int))))]) hx hb dL_law_286 hl (by decide) rfl (fun ls hl => ?_)
          refine lv_iconst (v := iI (0)) hx hb dL_law_288 rfl ?_
          refine lv_istore (lv' := [(17, .int (iI (0))), (16, .int (iI (pz11))), (15, .int (iI (pz10))), (14, .int (iI (pz7))), (13, .int (iI (pz4))), (11, .long (lI (suS it dy pct cr IR LR sh 6))), (0, .ref b), (1, .ref (oa 0)), (2, .ref al), (3, .ref ap), (4, .ref ad), (5, .int (iI (1))), (6, .long (lI (un))), (8, .int (iI ((((7 + 4 * n) : Nat) : Int)))), (9, .int (iI (sa))), (10, .int (iI (((n : Nat) : Int))))]) hx hb dL_law_289 hl (by decide) rfl (fun ls hl => ?_)
          exact c_disp (n := n) hC hG rfl (by omega) (by omega) (by omega) (by omega) hP hD hS (lv_sub hl [6, 7, 8, 9, 10, 11, 12, 13, 14, 15, 5, 3, 2, 1, 0, 4] rfl) hn (by omega) (by omega) (by omega) (by omega) K
        · refine lv_iconst (v := iI (2)) hx hb dL_law_260 rfl ?_
          refine lv_goto (tgt := 273) hx hb dL_law_261 (by decide) ?_
          refine lv_istore (lv' := [(15, .int (iI (2))), (14, .int (iI (pz7))), (13, .int (iI (pz4))), (11, .long (lI (suS it dy pct cr IR LR sh 6))), (0, .ref b), (1, .ref (oa 0)), (2, .ref al), (3, .ref ap), (4, .ref ad), (5, .int (iI (1))), (6, .long (lI (un))), (8, .int (iI ((((7 + 4 * n) : Nat) : Int)))), (9, .int (iI (sa))), (10, .int (iI (((n : Nat) : Int))))]) hx hb dL_law_273 hl (by decide) rfl (fun ls hl => ?_)
          refine lv_aload_n hx hb dL_law_275 rfl (lv_at hl 4 rfl) ?_
          refine lv_iload hx hb dL_law_276 (lv_at hl 11 rfl) ?_
          refine lv_iconst (v := iI (3)) hx hb dL_law_278 rfl ?_
          refine my_iadd (z := (((7 + 4 * n) : Nat) : Int) + 3) hx hb dL_law_279 (rfl) ?_
          refine my_cv0 (z := (((7 + 4 * n + 3) : Nat) : Int)) (by omega) ?_
          refine lv_sipush (v := iI (1000)) hx hb dL_law_280 (by decide) ?_
          refine va_calli (va_runS (As := [.ref b, .int (iI ((((7 + 4 * n + 3) : Nat) : Int))), .int (iI (1000))]) (rest := []) ⟨hx, hb, hml, hown, hts⟩ (m_L_pick l b L xs (7 + 4 * n + 3) 1000 (by omega) (by omega) hL) (va_cwS 3 hts (gS w_128 w_129 w_0 w_130) rfl rfl rfl (by decide +kernel) ⟨Nat.le_of_ble_eq_true rfl, Nat.le_of_ble_eq_true rfl⟩) (PX_S (va_X.kept hX (hS.2.1 b hbl hbA))) rfl rfl hl.1 rfl (lv_room (Nat.le_of_ble_eq_true rfl)) dL_law_283 ⟨rm_c (by omega), rm_s (by omega)⟩) hS (fun _ _ h => False.elim h) (fun _ h => False.elim h) (fun r pz12 t H locs ht hvm hw hB hz1 hk1 hS => ?_)
          obtain ⟨hw, hpz12⟩ := hw
          subst hw
          have hP := P_kept hP hk1
          refine lv_istore (lv' := [(16, .int (iI (pz12))), (15, .int (iI (2))), (14, .int (iI (pz7))), (13, .int (iI (pz4))), (11, .long (lI (suS it dy pct cr IR LR sh 6))), (0, .ref b), (1, .ref (oa 0)), (2, .ref al), (3, .ref ap), (4, .ref ad), (5, .int (iI (1))), (6, .long (lI (un))), (8, .int (iI ((((7 + 4 * n) : Nat) : Int)))), (9, .int (iI (sa))), (10, .int (iI (((n : Nat) : Int))))]) hx hb dL_law_286 hl (by decide) rfl (fun ls hl => ?_)
          refine lv_iconst (v := iI (0)) hx hb dL_law_288 rfl ?_
          refine lv_istore (lv' := [(17, .int (iI (0))), (16, .int (iI (pz12))), (15, .int (iI (2))), (14, .int (iI (pz7))), (13, .int (iI (pz4))), (11, .long (lI (suS it dy pct cr IR LR sh 6))), (0, .ref b), (1, .ref (oa 0)), (2, .ref al), (3, .ref ap), (4, .ref ad), (5, .int (iI (1))), (6, .long (lI (un))), (8, .int (iI ((((7 + 4 * n) : Nat) : Int)))), (9, .int (iI (sa))), (10, .int (iI (((n : Nat) : Int))))]) hx hb dL_law_289 hl (by decide) rfl (fun ls hl => ?_)
          exact c_disp (n := n) hC hG rfl (by omega) (by omega) (by omega) (by omega) hP hD hS (lv_sub hl [6, 7, 8, 9, 10, 11, 12, 13, 14, 15, 5, 3, 2, 1, 0, 4] rfl) hn (by omega) (by omega) (by omega) (by omega) K
      · refine lv_iconst (v := iI (3)) hx hb dL_law_232 rfl ?_
        refine lv_goto (tgt := 245) hx hb dL_law_233 (by decide) ?_
        refine lv_istore (lv' := [(14, .int (iI (3))), (13, .int (iI (pz4))), (11, .long (lI (suS it dy pct cr IR LR sh 6))), (0, .ref b), (1, .ref (oa 0)), (2, .ref al), (3, .ref ap), (4, .ref ad), (5, .int (iI (1))), (6, .long (lI (un))), (8, .int (iI ((((7 + 4 * n) : Nat) : Int)))), (9, .int (iI (sa))), (10, .int (iI (((n : Nat) : Int))))]) hx hb dL_law_245 hl (by decide) rfl (fun ls hl => ?_)
        refine lv_aload_n hx hb dL_law_247 rfl (lv_at hl 3 rfl) ?_
        refine lv_iload hx hb dL_law_248 (lv_at hl 10 rfl) ?_
        refine lv_iconst (v := iI (2)) hx hb dL_law_250 rfl ?_
        refine my_iadd (z := (((7 + 4 * n) : Nat) : Int) + 2) hx hb dL_law_251 (rfl) ?_
        refine my_cv0 (z := (((7 + 4 * n + 2) : Nat) : Int)) (by omega) ?_
        refine lv_bipush (v := iI (40)) hx hb dL_law_252 (by decide) ?_
        refine va_calli (va_runS (As := [.ref b, .int (iI ((((7 + 4 * n + 2) : Nat) : Int))), .int (iI (40))]) (rest := []) ⟨hx, hb, hml, hown, hts⟩ (m_L_pick l b L xs (7 + 4 * n + 2) 40 (by omega) (by omega) hL) (va_cwS 3 hts (gS w_128 w_129 w_0 w_130) rfl rfl rfl (by decide +kernel) ⟨Nat.le_of_ble_eq_true rfl, Nat.le_of_ble_eq_true rfl⟩) (PX_S (va_X.kept hX (hS.2.1 b hbl hbA))) rfl rfl hl.1 rfl (lv_room (Nat.le_of_ble_eq_true rfl)) dL_law_254 ⟨rm_c (by omega), rm_s (by omega)⟩) hS (fun _ _ h => False.elim h) (fun _ h => False.elim h) (fun r pz13 t H locs ht hvm hw hB hz1 hk1 hS => ?_)
        obtain ⟨hw, hpz13⟩ := hw
        subst hw
        have hP := P_kept hP hk1
        refine my_if_ne (tgt := 264) hx hb (by omega) dL_law_257 (by decide) (fun bh14 => ?_) (fun bh14 => ?_)
        · refine lv_aload_n hx hb dL_law_264 rfl (lv_at hl 3 rfl) ?_
          refine lv_iload hx hb dL_law_265 (lv_at hl 10 rfl) ?_
          refine lv_iconst (v := iI (2)) hx hb dL_law_267 rfl ?_
          refine my_iadd (z := (((7 + 4 * n) : Nat) : Int) + 2) hx hb dL_law_268 (rfl) ?_
          refine my_cv0 (z := (((7 + 4 * n + 2) : Nat) : Int)) (by omega) ?_
          refine lv_iconst (v := iI (2)) hx hb dL_law_269 rfl ?_
          refine va_calli (va_runS (As := [.ref b, .int (iI ((((7 + 4 * n + 2) : Nat) : Int))), .int (iI (2))]) (rest := []) ⟨hx, hb, hml, hown, hts⟩ (m_L_pick l b L xs (7 + 4 * n + 2) 2 (by omega) (by omega) hL) (va_cwS 3 hts (gS w_128 w_129 w_0 w_130) rfl rfl rfl (by decide +kernel) ⟨Nat.le_of_ble_eq_true rfl, Nat.le_of_ble_eq_true rfl⟩) (PX_S (va_X.kept hX (hS.2.1 b hbl hbA))) rfl rfl hl.1 rfl (lv_room (Nat.le_of_ble_eq_true rfl)) dL_law_270 ⟨rm_c (by omega), rm_s (by omega)⟩) hS (fun _ _ h => False.elim h) (fun _ h => False.elim h) (fun r pz15 t H locs ht hvm hw hB hz1 hk1 hS => ?_)
          obtain ⟨hw, hpz15⟩ := hw
          subst hw
          have hP := P_kept hP hk1
          refine lv_istore (lv' := [(15, .int (iI (pz15))), (14, .int (iI (3))), (13, .int (iI (pz4))), (11, .long (lI (suS it dy pct cr IR LR sh 6))), (0, .ref b), (1, .ref (oa 0)), (2, .ref al), (3, .ref ap), (4, .ref ad), (5, .int (iI (1))), (6, .long (lI (un))), (8, .int (iI ((((7 + 4 * n) : Nat) : Int)))), (9, .int (iI (sa))), (10, .int (iI (((n : Nat) : Int))))]) hx hb dL_law_273 hl (by decide) rfl (fun ls hl => ?_)
          refine lv_aload_n hx hb dL_law_275 rfl (lv_at hl 4 rfl) ?_
          refine lv_iload hx hb dL_law_276 (lv_at hl 11 rfl) ?_
          refine lv_iconst (v := iI (3)) hx hb dL_law_278 rfl ?_
          refine my_iadd (z := (((7 + 4 * n) : Nat) : Int) + 3) hx hb dL_law_279 (rfl) ?_
          refine my_cv0 (z := (((7 + 4 * n + 3) : Nat) : Int)) (by omega) ?_
          refine lv_sipush (v := iI (1000)) hx hb dL_law_280 (by decide) ?_
          refine va_calli (va_runS (As := [.ref b, .int (iI ((((7 + 4 * n + 3) : Nat) : Int))), .int (iI (1000))]) (rest := []) ⟨hx, hb, hml, hown, hts⟩ (m_L_pick l b L xs (7 + 4 * n + 3) 1000 (by omega) (by omega) hL) (va_cwS 3 hts (gS w_128 w_129 w_0 w_130) rfl rfl rfl (by decide +kernel) ⟨Nat.le_of_ble_eq_true rfl, Nat.le_of_ble_eq_true rfl⟩) (PX_S (va_X.kept hX (hS.2.1 b hbl hbA))) rfl rfl hl.1 rfl (lv_room (Nat.le_of_ble_eq_true rfl)) dL_law_283 ⟨rm_c (by omega), rm_s (by omega)⟩) hS (fun _ _ h => False.elim h) (fun _ h => False.elim h) (fun r pz16 t H locs ht hvm hw hB hz1 hk1 hS => ?_)
          obtain ⟨hw, hpz16⟩ := hw
          subst hw
          have hP := P_kept hP hk1
          refine lv_istore (lv' := [(16, .int (iI (pz16))), (15, .int (iI (pz15))), (14, .int (iI (3))), (13, .int (iI (pz4))), (11, .long (lI (suS it dy pct cr IR LR sh 6))), (0, .ref b), (1, .ref (oa 0)), (2, .ref al), (3, .ref ap), (4, .ref ad), (5, .int (iI (1))), (6, .long (lI (un))), (8, .int (iI ((((7 + 4 * n) : Nat) : Int)))), (9, .int (iI (sa))), (10, .int (iI (((n : Nat) : Int))))]) hx hb dL_law_286 hl (by decide) rfl (fun ls hl => ?_)
          refine lv_iconst (v := iI (0)) hx hb dL_law_288 rfl ?_
          refine lv_istore (lv' := [(17, .int (iI (0))), (16, .int (iI (pz16))), (15, .int (iI (pz15))), (14, .int (iI (3))), (13, .int (iI (pz4))), (11, .long (lI (suS it dy pct cr IR LR sh 6))), (0, .ref b), (1, .ref (oa 0)), (2, .ref al), (3, .ref ap), (4, .ref ad), (5, .int (iI (1))), (6, .long (lI (un))), (8, .int (iI ((((7 + 4 * n) : Nat) : Int)))), (9, .int (iI (sa))), (10, .int (iI (((n : Nat) : Int))))]) hx hb dL_law_289 hl (by decide) rfl (fun ls hl => ?_)
          exact c_disp (n := n) hC hG rfl (by omega) (by omega) (by omega) (by omega) hP hD hS (lv_sub hl [6, 7, 8, 9, 10, 11, 12, 13, 14, 15, 5, 3, 2, 1, 0, 4] rfl) hn (by omega) (by omega) (by omega) (by omega) K
        · refine lv_iconst (v := iI (2)) hx hb dL_law_260 rfl ?_
          refine lv_goto (tgt := 273) hx hb dL_law_261 (by decide) ?_
          refine lv_istore (lv' := [(15, .int (iI (2))), (14, .int (iI (3))), (13, .int (iI (pz4))), (11, .long (lI (suS it dy pct cr IR LR sh 6))), (0, .ref b), (1, .ref (oa 0)), (2, .ref al), (3, .ref ap), (4, .ref ad), (5, .int (iI (1))), (6, .long (lI (un))), (8, .int (iI ((((7 + 4 * n) : Nat) : Int)))), (9, .int (iI (sa))), (10, .int (iI (((n : Nat) : Int))))]) hx hb dL_law_273 hl (by decide) rfl (fun ls hl => ?_)
          refine lv_aload_n hx hb dL_law_275 rfl (lv_at hl 4 rfl) ?_
          refine lv_iload hx hb dL_law_276 (lv_at hl 11 rfl) ?_
          refine lv_iconst (v := iI (3)) hx hb dL_law_278 rfl ?_
          refine my_iadd (z := (((7 + 4 * n) : Nat) : Int) + 3) hx hb dL_law_279 (rfl) ?_
          refine my_cv0 (z := (((7 + 4 * n + 3) : Nat) : Int)) (by omega) ?_
          refine lv_sipush (v := iI (1000)) hx hb dL_law_280 (by decide) ?_
          refine va_calli (va_runS (As := [.ref b, .int (iI ((((7 + 4 * n + 3) : Nat) : Int))), .int (iI (1000))]) (rest := []) ⟨hx, hb, hml, hown, hts⟩ (m_L_pick l b L xs (7 + 4 * n + 3) 1000 (by omega) (by omega) hL) (va_cwS 3 hts (gS w_128 w_129 w_0 w_130) rfl rfl rfl (by decide +kernel) ⟨Nat.le_of_ble_eq_true rfl, Nat.le_of_ble_eq_true rfl⟩) (PX_S (va_X.kept hX (hS.2.1 b hbl hbA))) rfl rfl hl.1 rfl (lv_room (Nat.le_of_ble_eq_true rfl)) dL_law_283 ⟨rm_c (by omega), rm_s (by omega)⟩) hS (fun _ _ h => False.elim h) (fun _ h => False.elim h) (fun r pz17 t H locs ht hvm hw hB hz1 hk1 hS => ?_)
          obtain ⟨hw, hpz17⟩ := hw
          subst hw
          have hP := P_kept hP hk1
          refine lv_istore (lv' := [(16, .int (iI (pz17))), (15, .int (iI (2))), (14, .int (iI (3))), (13, .int (iI (pz4))), (11, .long (lI (suS it dy pct cr IR LR sh 6))), (0, .ref b), (1, .ref (oa 0)), (2, .ref al), (3, .ref ap), (4, .ref ad), (5, .int (iI (1))), (6, .long (lI (un))), (8, .int (iI ((((7 + 4 * n) : Nat) : Int)))), (9, .int (iI (sa))), (10, .int (iI (((n : Nat) : Int))))]) hx hb dL_law_286 hl (by decide) rfl (fun ls hl => ?_)
          refine lv_iconst (v := iI (0)) hx hb dL_law_288 rfl ?_
          refine lv_istore (lv' := [(17, .int (iI (0))), (16, .int (iI (pz17))), (15, .int (iI (2))), (14, .int (iI (3))), (13, .int (iI (pz4))), (11, .long (lI (suS it dy pct cr IR LR sh 6))), (0, .ref b), (1, .ref (oa 0)), (2, .ref al), (3, .ref ap), (4, .ref ad), (5, .int (iI (1))), (6, .long (lI (un))), (8, .int (iI ((((7 + 4 * n) : Nat) : Int)))), (9, .int (iI (sa))), (10, .int (iI (((n : Nat) : Int))))]) hx hb dL_law_289 hl (by decide) rfl (fun ls hl => ?_)
          exact c_disp (n := n) hC hG rfl (by omega) (by omega) (by omega) (by omega) hP hD hS (lv_sub hl [6, 7, 8, 9, 10, 11, 12, 13, 14, 15, 5, 3, 2, 1, 0, 4] rfl) hn (by omega) (by omega) (by omega) (by omega) K
