/-! the law's loop -/
theorem and63 (x : Int32) : 0 ≤ (x &&& iI 63).toInt ∧ (x &&& iI 63).toInt ≤ 63 := by
  have h : (x &&& iI 63).toBitVec.toNat ≤ 63 := by
    rw [Int32.toBitVec_and, BitVec.toNat_and]
    exact Nat.le_trans Nat.and_le_right (Nat.le_of_ble_eq_true rfl)
  rw [← Int32.toInt_toBitVec, BitVec.toInt_eq_toNat_of_lt (by omega)]
  omega
set_option maxHeartbeats 4000000 in
set_option maxRecDepth 100000 in
theorem law_loop {p : Program} {l : Launch} {e : Env} {s : State} {m : MethodId} {below : List Frame} {meth : Method} {c : Code} {b L : Nat} {xs : Nat → Int32} {A : Nat → Prop} {D : va_G} {cs : Nat → ClassId} (hr : meth.sig.returnType = ret) (hlocks : meth.locks = false) (hAe : A = fun q : Nat => s.heap.size ≤ q) (hC : CX p l s m #[Value.ref b] c b L xs A D cs) :
    ∀ (f n : Nat), n ≤ 512 → 513 ≤ n + f → ∀ (H : Heap) (locs : List Loc) (ls : Array Slot), RS s A D cs b n (5 * n) H locs ls → W p l e room_1 s m #[Value.ref b] below meth c H locs (100 + 12 * n) (20000 + 3074 * n) (lw_Z below #[Value.ref b] s) (F0 m 28 ls [])
  | 0, n, h1, h2, _, _, _, _ => absurd h2 (by omega)
  | f + 1, n, h1, h2, H, locs, ls, hR => by
    obtain ⟨hx, hb, hml, hown, hts, hX, hbl, hK, hN, hE, hL, hst, hA, hbA⟩ := id hC
    obtain ⟨po, pd, kr, la, ia, na, b4, b6, b8, b10, ulr, usr, ur, uq, ug, km, pL, pP, pC, pI, pM, pS, pV, pN, pE, pA, pO, pT, pD, pG, pW, sh, it, dy, ov, od, lc, pct, lr, sr, rv, pn, th, lf, lrf, srf, rse, rq, gv, IA, LA, cr, IR, LR, mL, mP, mC, mI, mM, mS, mV, mN, mE, mA, mO, mT, mD, mG, mW, hJ, hdn, hlc, hP, hD, hS, hl⟩ := id hR
    refine lv_iload hx hb dL_law_28 (lv_at hl 5 rfl) ?_
    refine lv_aload_n hx hb dL_law_30 rfl (lv_at hl 0 rfl) ?_
    refine va_slen hx hb hX hbl hbA hS dL_law_31 ?_
    rw [iI_ofNat]
    refine lv_iconst (v := iI 5) hx hb dL_law_32 rfl ?_
    refine my_isub (z := ((L : Nat) : Int) - 5) hx hb dL_law_33 rfl ?_
    refine my_icmp_gt (tgt := 2364) hx hb (by omega) dL_law_34 (by decide) (fun g1 => ?_) (fun g1 => ?_)
    · refine lv_iconst (v := 1) hx hb dL_law_2364 (by decide) ?_
      refine va_forget (fun q hq => by have h9 := hS.2.2 q hq; rw [hAe] at h9; exact h9) ?_
      refine W.widen (k := 61024) (n := 8913034) (by omega) (by omega) ?_
      refine W.base ?_
      exact lw_ret (Drawn.sameBut.refl s.drawn lw_cs) hx hb hr hlocks dL_law_2365
    have hn5 : 5 * n + 5 ≤ L := by omega
    have hce : 100 + 12 * n ≤ 50000 := by omega
    have hsl : 20000 + 3074 * n ≤ 8000000 := by omega
    have nx : ∀ (H : Heap) (locs : List Loc) (ls : Array Slot), RS s A D cs b (n + 1) (5 * (n + 1)) H locs ls → W p l e room_1 s m #[Value.ref b] below meth c H locs (100 + 12 * n + 12) (20000 + 3074 * n + 3074) (lw_Z below #[Value.ref b] s) (F0 m 28 ls []) := fun H locs ls h => by
      have h8 := law_loop (e := e) (below := below) hr hlocks hAe hC f (n + 1) (by omega) (by omega) H locs ls h
      rw [show 100 + 12 * (n + 1) = 100 + 12 * n + 12 from by omega, show 20000 + 3074 * (n + 1) = 20000 + 3074 * n + 3074 from by omega] at h8
      exact h8
    obtain ⟨z0, e0⟩ : ∃ z : Int, (xs (5 * n)).toInt = z := ⟨_, rfl⟩
    refine lv_aload_n hx hb dL_law_37 rfl (lv_at hl 0 rfl) ?_
    refine lv_iload hx hb dL_law_38 (lv_at hl 5 rfl) ?_
    refine my_sld hx hb hX hbl hbA hS (k := 5 * n) (by omega) (z := z0) e0 dL_law_40 ?_
    refine lv_bipush (v := iI 63) hx hb dL_law_41 (by decide) ?_
    refine lv_iand hx hb dL_law_43 ?_
    have hw := and63 (iI z0)
    generalize iI z0 &&& iI 63 = w at hw
    rcases (show w.toInt = 0 ∨ w.toInt = 1 ∨ w.toInt = 2 ∨ w.toInt = 3 ∨ w.toInt = 4 ∨ w.toInt = 5 ∨ w.toInt = 6 ∨ w.toInt = 7 ∨ w.toInt = 8 ∨ w.toInt = 9 ∨ w.toInt = 10 ∨ w.toInt = 11 ∨ w.toInt = 12 ∨ w.toInt = 13 ∨ w.toInt = 14 ∨ w.toInt = 15 ∨ w.toInt = 16 ∨ w.toInt = 17 ∨ w.toInt = 18 ∨ w.toInt = 19 ∨ w.toInt = 20 ∨ w.toInt = 21 ∨ w.toInt = 22 ∨ w.toInt = 23 ∨ w.toInt = 24 ∨ w.toInt = 25 ∨ w.toInt = 26 ∨ w.toInt = 27 ∨ w.toInt = 28 ∨ w.toInt = 29 ∨ w.toInt = 30 ∨ w.toInt = 31 ∨ w.toInt = 32 ∨ 32 < w.toInt by omega) with h | h | h | h | h | h | h | h | h | h | h | h | h | h | h | h | h | h | h | h | h | h | h | h | h | h | h | h | h | h | h | h | h | h
    · exact lv_tableIn (tgt := 192) (off := 148) hx hb dL_law_44 (by omega) (by omega) (by rw [h]; rfl) (by decide) (c_addShop hC hJ hdn hlc hP hD hS hl hn5 hce hsl nx)
    · exact lv_tableIn (tgt := 248) (off := 204) hx hb dL_law_44 (by omega) (by omega) (by rw [h]; rfl) (by decide) (c_addItem hC hJ hdn hlc hP hD hS hl hn5 hce hsl nx)
    · exact lv_tableIn (tgt := 316) (off := 272) hx hb dL_law_44 (by omega) (by omega) (by rw [h]; rfl) (by decide) (c_carry hC hJ hdn hlc hP hD hS hl hn5 hce hsl nx)
    · exact lv_tableIn (tgt := 408) (off := 364) hx hb dL_law_44 (by omega) (by omega) (by rw [h]; rfl) (by decide) (c_carries hC hJ hdn hlc hP hD hS hl hn5 hce hsl nx)
    · exact lv_tableIn (tgt := 483) (off := 439) hx hb dL_law_44 (by omega) (by omega) (by rw [h]; rfl) (by decide) (c_supply hC hJ hdn hlc hP hD hS hl hn5 hce hsl nx)
    · exact lv_tableIn (tgt := 551) (off := 507) hx hb dL_law_44 (by omega) (by omega) (by rw [h]; rfl) (by decide) (c_setService hC hJ hdn hlc hP hD hS hl hn5 hce hsl nx)
    · exact lv_tableIn (tgt := 607) (off := 563) hx hb dL_law_44 (by omega) (by omega) (by rw [h]; rfl) (by decide) (c_setRates hC hJ hdn hlc hP hD hS hl hn5 hce hsl nx)
    · exact lv_tableIn (tgt := 675) (off := 631) hx hb dL_law_44 (by omega) (by omega) (by rw [h]; rfl) (by decide) (c_mark hC hJ hdn hlc hP hD hS hl hn5 hce hsl nx)
    · exact lv_tableIn (tgt := 750) (off := 706) hx hb dL_law_44 (by omega) (by omega) (by rw [h]; rfl) (by decide) (c_isMarked hC hJ hdn hlc hP hD hS hl hn5 hce hsl nx)
    · exact lv_tableIn (tgt := 825) (off := 781) hx hb dL_law_44 (by omega) (by omega) (by rw [h]; rfl) (by decide) (c_demand hC hJ hdn hlc hP hD hS hl hn5 hce hsl nx)
    · exact lv_tableIn (tgt := 905) (off := 861) hx hb dL_law_44 (by omega) (by omega) (by rw [h]; rfl) (by decide) (c_night hC hJ hdn hlc hP hD hS hl hn5 hce hsl nx)
    · exact lv_tableIn (tgt := 949) (off := 905) hx hb dL_law_44 (by omega) (by omega) (by rw [h]; rfl) (by decide) (c_today hC hJ hdn hlc hP hD hS hl hn5 hce hsl nx)
    · exact lv_tableIn (tgt := 962) (off := 918) hx hb dL_law_44 (by omega) (by omega) (by rw [h]; rfl) (by decide) (c_demandToday hC hJ hdn hlc hP hD hS hl hn5 hce hsl nx)
    · exact lv_tableIn (tgt := 1030) (off := 986) hx hb dL_law_44 (by omega) (by omega) (by rw [h]; rfl) (by decide) (c_level hC hJ hdn hlc hP hD hS hl hn5 hce hsl nx)
    · exact lv_tableIn (tgt := 1098) (off := 1054) hx hb dL_law_44 (by omega) (by omega) (by rw [h]; rfl) (by decide) (c_levelByDays hC hJ hdn hlc hP hD hS hl hn5 hce hsl nx)
    · exact lv_tableIn (tgt := 1166) (off := 1122) hx hb dL_law_44 (by omega) (by omega) (by rw [h]; rfl) (by decide) (c_season hC hJ hdn hlc hP hD hS hl hn5 hce hsl nx)
    · exact lv_tableIn (tgt := 1246) (off := 1202) hx hb dL_law_44 (by omega) (by omega) (by rw [h]; rfl) (by decide) (c_forecast hC hJ hdn hlc hP hD hS hl hn5 hce hsl nx)
    · exact lv_tableIn (tgt := 1326) (off := 1282) hx hb dL_law_44 (by omega) (by omega) (by rw [h]; rfl) (by decide) (c_errors hC hJ hdn hlc hP hD hS hl hn5 hce hsl nx)
    · exact lv_tableIn (tgt := 1406) (off := 1362) hx hb dL_law_44 (by omega) (by omega) (by rw [h]; rfl) (by decide) (c_safety hC hJ hdn hlc hP hD hS hl hn5 hce hsl nx)
    · exact lv_tableIn (tgt := 1474) (off := 1430) hx hb dL_law_44 (by omega) (by omega) (by rw [h]; rfl) (by decide) (c_stock hC hJ hdn hlc hP hD hS hl hn5 hce hsl nx)
    · exact lv_tableIn (tgt := 1542) (off := 1498) hx hb dL_law_44 (by omega) (by omega) (by rw [h]; rfl) (by decide) (c_stockByJournal hC hJ hdn hlc hP hD hS hl hn5 hce hsl nx)
    · exact lv_tableIn (tgt := 1610) (off := 1566) hx hb dL_law_44 (by omega) (by omega) (by rw [h]; rfl) (by decide) (c_onWay hC hJ hdn hlc hP hD hS hl hn5 hce hsl nx)
    · exact lv_tableIn (tgt := 1678) (off := 1634) hx hb dL_law_44 (by omega) (by omega) (by rw [h]; rfl) (by decide) (c_nextArrival hC hJ hdn hlc hP hD hS hl hn5 hce hsl nx)
    · exact lv_tableIn (tgt := 1746) (off := 1702) hx hb dL_law_44 (by omega) (by omega) (by rw [h]; rfl) (by decide) (c_need hC hJ hdn hlc hP hD hS hl hn5 hce hsl nx)
    · exact lv_tableIn (tgt := 1814) (off := 1770) hx hb dL_law_44 (by omega) (by omega) (by rw [h]; rfl) (by decide) (c_request hC hJ hdn hlc hP hD hS hl hn5 hce hsl nx)
    · exact lv_tableIn (tgt := 1882) (off := 1838) hx hb dL_law_44 (by omega) (by omega) (by rw [h]; rfl) (by decide) (c_share hC hJ hdn hlc hP hD hS hl hn5 hce hsl nx)
    · exact lv_tableIn (tgt := 1950) (off := 1906) hx hb dL_law_44 (by omega) (by omega) (by rw [h]; rfl) (by decide) (c_shareByPacks hC hJ hdn hlc hP hD hS hl hn5 hce hsl nx)
    · exact lv_tableIn (tgt := 2018) (off := 1974) hx hb dL_law_44 (by omega) (by omega) (by rw [h]; rfl) (by decide) (c_centre hC hJ hdn hlc hP hD hS hl hn5 hce hsl nx)
    · exact lv_tableIn (tgt := 2074) (off := 2030) hx hb dL_law_44 (by omega) (by omega) (by rw [h]; rfl) (by decide) (c_centreByJournal hC hJ hdn hlc hP hD hS hl hn5 hce hsl nx)
    · exact lv_tableIn (tgt := 2130) (off := 2086) hx hb dL_law_44 (by omega) (by omega) (by rw [h]; rfl) (by decide) (c_sold hC hJ hdn hlc hP hD hS hl hn5 hce hsl nx)
    · exact lv_tableIn (tgt := 2198) (off := 2154) hx hb dL_law_44 (by omega) (by omega) (by rw [h]; rfl) (by decide) (c_lost hC hJ hdn hlc hP hD hS hl hn5 hce hsl nx)
    · exact lv_tableIn (tgt := 2266) (off := 2222) hx hb dL_law_44 (by omega) (by omega) (by rw [h]; rfl) (by decide) (c_units hC hJ hdn hlc hP hD hS hl hn5 hce hsl nx)
    · exact lv_tableIn (tgt := 2280) (off := 2236) hx hb dL_law_44 (by omega) (by omega) (by rw [h]; rfl) (by decide) (c_service hC hJ hdn hlc hP hD hS hl hn5 hce hsl nx)
    · refine lv_tableOut (tgt := 2358) hx hb dL_law_44 (Or.inr (by omega)) (by decide) ?_
      refine W.widen (k := 100 + 12 * n + 12) (n := 20000 + 3074 * n + 3074) (by omega) (by omega) ?_
      refine lv_iinc (v := iI ((5 * (n + 1) : Nat) : Int)) (lv' := [(5, .int (iI ((5 * (n + 1) : Nat) : Int))), (0, .ref b), (1, .ref kr), (2, .ref km), (3, .ref po), (4, .ref pd)]) hx hb dL_law_2358 hl (k := 5) rfl (by rw [show ((5 * (n + 1) : Nat) : Int) = ((5 * n : Nat) : Int) + 5 from by omega]; exact iI_add _ _) (by decide) rfl (fun ls hl => ?_)
      refine lv_goto (tgt := 28) hx hb dL_law_2361 (by decide) ?_
      exact nx H locs ls (RS_mk hJ (by omega) (by omega) hP hD hS (lv_sub hl [1, 2, 3, 4, 5, 0] rfl))
