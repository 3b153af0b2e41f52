/-! the start: what the Statement gives -/
set_option maxRecDepth 100000 in
theorem str_ok : strL.all (fun q => decide (Cond.stringRef RX5 q.1 q.2 ∈ lw_tbl) && decide (Cond.exactly (Term.string RX5 q.1) "java/lang/String" ∈ flatC (Jvm.Cond.and given_1 narrow_1))) = true := by decide +kernel
set_option maxRecDepth 100000 in
theorem dec_ok : decL.all (fun y => decide (Cond.declares y ∈ lw_tbl)) = true := by decide +kernel
set_option maxRecDepth 100000 in
theorem cas_ok : casL.all (fun c => decide (Cond.castable c c ∈ lw_tbl)) = true := by decide +kernel
set_option maxRecDepth 100000 in
theorem nc_ok : ncL.all (fun q => decide (Cond.not (.castable q.1 q.2) ∈ flatC (Jvm.Cond.and given_1 narrow_1))) = true := by decide +kernel
set_option maxRecDepth 100000 in
theorem nf_ok : nestF.all (fun q => decide (Cond.fieldLinkNest q.1 q.2.1 q.2.2.1 q.2.2.2.1 q.2.2.2.2 "Replen" ∈ lw_tbl)) = true := by decide +kernel
set_option maxRecDepth 100000 in
theorem nm_ok : nestM.all (fun q => decide (Cond.methodLinkNest q.1 q.2.1 q.2.2 "Replen" ∈ lw_tbl)) = true := by decide +kernel
set_option maxRecDepth 100000 in
theorem un_ok : decide (Cond.laysStatic Bundle.tN "UNASSIGNED_STACK" Bundle.steD ∈ lw_tbl) && decide (Cond.laysStatic Bundle.tN "SUPPRESSED_SENTINEL" Bundle.listD ∈ lw_tbl) && decide (Cond.initialized Bundle.tN ∈ lw_tbl) && decide (Cond.isRef (.static Bundle.tN "UNASSIGNED_STACK" Bundle.steD) ∈ flatC (Jvm.Cond.and given_1 narrow_1)) && decide (Cond.isRef (.static Bundle.tN "SUPPRESSED_SENTINEL" Bundle.listD) ∈ flatC (Jvm.Cond.and given_1 narrow_1)) = true := by decide +kernel
theorem ev_start {s : State} {args : Array Value} (hts : ∀ w ∈ lw_tbl, w.before args s = true) (hgv : (Jvm.Cond.and given_1 narrow_1).before args s = true) : EV (fun q : Nat => s.heap.size ≤ q) s := by
  have hn := flat_of_before _ hgv
  have hA : ∀ a : Nat, a < s.heap.size → ¬ (fun q : Nat => s.heap.size ≤ q) a := fun a h => Nat.not_le.mpr h
  have hu := un_ok
  simp only [Bool.and_eq_true, decide_eq_true_eq] at hu
  obtain ⟨⟨⟨⟨u1, u2⟩, u3⟩, u4⟩, u5⟩ := hu
  refine ⟨vx_Zqof (hts _ u1) (hts _ u3) (hn _ u4) hA, vx_Zqof (hts _ u2) (hts _ u3) (hn _ u5) hA, fun q hq => ?_, fun y hy => ?_, fun c hc => ?_, fun q hq => ?_⟩
  · have h1 := List.all_eq_true.mp str_ok q hq
    simp only [Bool.and_eq_true, decide_eq_true_eq] at h1
    obtain ⟨a, c, cell, k, ht, -⟩ := Cond.exactly_spec (hn _ h1.2)
    exact ⟨a, vk_R.of (hts _ h1.1) ht⟩
  · exact va_Nw.of rfl (hts _ (of_decide_eq_true (List.all_eq_true.mp dec_ok y hy)))
  · exact va_Nw.of rfl (hts _ (of_decide_eq_true (List.all_eq_true.mp cas_ok c hc)))
  · exact va_Nc.of (hn _ (of_decide_eq_true (List.all_eq_true.mp nc_ok q hq)))
theorem nn_start {s : State} {args : Array Value} (hts : ∀ w ∈ lw_tbl, w.before args s = true) : NN s :=
  ⟨fun q hq => va_Nw.of rfl (hts _ (of_decide_eq_true (List.all_eq_true.mp nf_ok q hq))), fun q hq => va_Nw.of rfl (hts _ (of_decide_eq_true (List.all_eq_true.mp nm_ok q hq)))⟩

theorem ac_int {s : State} {args : Array Value} (h : (Cond.arrayClass .int).before args s = true) : ∃ cA : ClassId, ArrOfT s cA .int ∧ va_RA s cA .int := by
  obtain ⟨cA, kA, comp, h1, h2, h3⟩ := Cond.arrayClass_spec h
  exact ⟨cA, fun n z => ⟨(fun k h => by cases h), kA, h2, comp, h3⟩, h1⟩
theorem ac_obj {s : State} {args : Array Value} {C : String} (h : (Cond.arrayOver (.object C)).before args s = true) : ∃ cA : ClassId, ArrOfT s cA (.object C) ∧ va_RA s cA (.object C) := by
  obtain ⟨comp, cA, kA, h1, -, h3, h4, h5⟩ := Cond.arrayOver_spec h
  exact ⟨cA, fun n z => ⟨(fun k h => by cases h), kA, h3, comp, h4⟩, kA, comp, h3, h4, h1, h5⟩
theorem kk_start {s : State} {args : Array Value} (hts : ∀ w ∈ lw_tbl, w.before args s = true) : ∃ (D : va_G) (cs : Nat → ClassId), KK D cs s ∧ va_AO "Replen$Item" s ∧ va_AO "Replen$Line" s := by
  have hts2 : ∀ w ∈ ALL, w.before args s = true := fun w h => hts w (ALL_tbl w h)
  obtain ⟨c0, i0, k0⟩ := u_known (C := RX0) (T := TX0) (N := 1) (n := 1) hts2 inAX0 (hts2 _ w_29)
  obtain ⟨c1, i1, k1⟩ := u_known (C := RX1) (T := TX1) (N := 6) (n := 6) hts2 inAX1 (hts2 _ w_240)
  obtain ⟨c2, i2, k2⟩ := u_known (C := RX2) (T := TX2) (N := 2) (n := 2) hts2 inAX2 (hts2 _ w_40)
  obtain ⟨c3, i3, k3⟩ := u_known (C := RX3) (T := TX3) (N := 14) (n := 14) hts2 inAX3 (hts2 _ w_322)
  obtain ⟨c4, i4, k4⟩ := u_known (C := RX4) (T := TX4) (N := 3) (n := 3) hts2 inAX4 (hts2 _ w_54)
  obtain ⟨c5, i5, k5⟩ := u_known (C := RX5) (T := TX5) (N := 14) (n := 14) hts2 inAX5 (hts2 _ w_17)
  have hI : (Cond.arrayOver (.object "Replen$Item")).before args s = true := hts _ (List.mem_of_getElem? (i := 41) rfl)
  have hL : (Cond.arrayOver (.object "Replen$Line")).before args s = true := hts _ (List.mem_of_getElem? (i := 43) rfl)
  obtain ⟨a0, x0, y0⟩ := ac_int (hts2 _ w_38)
  obtain ⟨a2, x2, y2⟩ := ac_obj hI
  obtain ⟨a3, x3, y3⟩ := ac_obj hL
  refine ⟨(fun k => ([c0, c1, c2, c3, c4, c5] : List ClassId).getD k c0, fun k => ([i0, i1, i2, i3, i4, i5] : List (Nat → Nat)).getD k i0), fun k => ([a0, a0, a2, a3, a0, a0] : List ClassId).getD k a0, ⟨fun k q hq => ?_, fun k q hq => ?_⟩, va_AO.of hI, va_AO.of hL⟩
  · match k, hq with
    | 0, hq => cases hq; exact k0
    | 1, hq => cases hq; exact k1
    | 2, hq => cases hq; exact k2
    | 3, hq => cases hq; exact k3
    | 4, hq => cases hq; exact k4
    | 5, hq => cases hq; exact k5
    | k + 6, hq => simp [vwCl] at hq
  · match k, hq with
    | 0, hq => cases hq; exact ⟨x0, y0⟩
    | 1, hq => cases hq; exact ⟨x0, y0⟩
    | 2, hq => cases hq; exact ⟨x2, y2⟩
    | 3, hq => cases hq; exact ⟨x3, y3⟩
    | 4, hq => cases hq; exact ⟨x0, y0⟩
    | 5, hq => cases hq; exact ⟨x0, y0⟩
    | k + 6, hq => simp [TY] at hq
theorem PAO_S {D : va_G} {cs : Nat → ClassId} {W ws : va_W} {s : State} {H : Heap} {As : List Value} {A0 : Nat → Prop} (hK : KK D cs s) (hN : NN s) (h1 : va_AO "Replen$Item" s) (h2 : va_AO "Replen$Line" s) (hP : va_P D vwCl ws H) (hD : va_D A0 ws) (is : List Nat) (hn : va_nd is = true) (hp : picks ws is W) : PreS s H (va_Pc As (fun U => PA D cs W H.size U ∧ va_AO "Replen$Item" U ∧ va_AO "Replen$Line" U)) As :=
  ⟨fun a U g mk q => by
    obtain ⟨q0, qC, q1, q2⟩ := q
    exact ⟨q0, (PA_blind (av := As) a U g mk ⟨q0, qC⟩).2, q1.moved (u := U) (U := U.calling g mk a) (Vm.Alike.refl U.vm), q2.moved (u := U) (U := U.calling g mk a) (Vm.Alike.refl U.vm)⟩, fun U hU hW => ⟨rfl, ⟨by rw [hU], by rw [hU]; exact P_pick hP is hp, va_K.moved hW.alike hK, inW_D (D_pick hD is hn hp), hN.warm hW⟩, h1.moved hW.alike, h2.moved hW.alike⟩⟩
theorem itq_0 {IA : Nat → Nat → Nat} : itq 0 IA = fun _ => none := by funext i; simp [itq]
theorem lnq_0 {LA : Nat → Nat → Nat} : lnq (fun _ => false) LA = fun _ => none := by funext i; simp [lnq]
theorem aW_0 {cs : Nat → ClassId} {IA LA : Nat → Nat → Nat} {IR : Nat → IT} {LR : Nat → LT} : aW cs IA LA 0 (fun _ => false) IR LR = [] := by
  unfold aW fAll
  have e1 : itC cs IA 0 IR = fun _ => [] := by funext i; unfold itC; rw [if_neg (by omega)]
  have e2 : lnC cs IA LA (fun _ => false) LR = fun _ => [] := by funext i; unfold lnC; rw [if_neg (by simp)]
  rw [e1, e2]; simp

