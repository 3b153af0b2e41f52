/-! the script's cells -/
theorem PX_S {b L : Nat} {xs : Nat → Int32} {s : State} {H : Heap} {As : List Value} (hX : va_X b L xs s H) : PreS s H (va_Pc As (fun U => va_X b L xs U U.heap)) As :=
  ⟨fun a U g mk q => ⟨q.1, va_X.moved (u := U) (U := U.calling g mk a) (Vm.Alike.refl U.vm) q.2⟩, fun U hU hW => ⟨rfl, by show va_X b L xs U U.heap; rw [hU]; exact va_X.moved hW.alike hX⟩⟩
theorem ushr1 (x : Int32) : ∃ z : Int, (x.toUInt32 >>> ((iI 1).toUInt32 &&& Int32.toUInt32 31)).toInt32 = iI z ∧ 0 ≤ z ∧ z < 2147483648 := by
  have e1 : ((iI 1).toUInt32 &&& Int32.toUInt32 31) = 1 := by decide
  rw [e1]
  obtain ⟨y, hy⟩ : ∃ y : UInt32, y = x.toUInt32 >>> 1 := ⟨_, rfl⟩
  have h : y.toNat < 2147483648 := by
    rw [hy, UInt32.toNat_shiftRight]
    have h1 : x.toUInt32.toNat < 4294967296 := x.toUInt32.toNat_lt
    have h2 : (1 : UInt32).toNat % 32 = 1 := by decide
    rw [h2, Nat.shiftRight_eq_div_pow]
    omega
  rw [← hy]
  refine ⟨(y.toInt32).toInt, iI_of _, ?_, (iI_rng _).2⟩
  rw [← Int32.toInt_toBitVec]
  have h3 : y.toInt32.toBitVec.toNat = y.toNat := rfl
  rw [BitVec.toInt_eq_toNat_of_lt (by rw [h3]; omega)]
  exact Int.natCast_nonneg _
abbrev ws_L_cell : List Cond := Cond.code yL_cell cL_cell 2 (some .int) :: ALL
set_option maxHeartbeats 4000000 in
set_option maxRecDepth 100000 in
theorem m_L_cell (l : Launch) (b L : Nat) (xs : Nat → Int32) (kz : Nat) (hk : kz < 2147483648) (hL : L ≤ 260) : Met l yL_cell ws_L_cell ({ frames := 0, cells := 0, slots := 0, locals := 0 }) (va_Pc [.ref b, .int (iI ((kz : Nat) : Int))] (fun U => va_X b L xs U U.heap)) (va_Qi (fun r (_ : Unit) => True) (fun _ _ => True) noA) 0 0 noA := by
  refine Met.ofW (cc := cL_cell) (maxL := 2) (ret := (some .int)) (by decide +kernel) rfl ?_
  intro p e s m args below meth c s₁ B hml hv
  obtain ⟨rfl, hX⟩ := hv
  have hx := B.exec
  have hb := B.bytes
  have hr := B.returns
  have hts : ∀ w ∈ ALL, w.before _ s = true := fun w h => atoms_spec (ws := ws_L_cell) B.pre w (List.mem_cons_of_mem _ h)
  have hown : s.vm.findClass RL = some m.cls := findClass_of_methodNamed B.named
  have hlocks := B.notSynchronized
  have hS : va_S noA s.heap s.heap [] := va_S.rf
  have hbl : b < s.heap.size := by obtain ⟨scr, h, -⟩ := hX; exact (Array.getElem?_eq_some_iff.mp h).1
  have hl := lv_entry ([.ref b, .int (iI ((kz : Nat) : Int))]) (n := 2) (Nat.le_of_ble_eq_true rfl)
  rw [lg_entry_eq]
  generalize (lg_sl ([.ref b, .int (iI ((kz : Nat) : Int))]) ++ List.replicate (2 - (lg_sl ([.ref b, .int (iI ((kz : Nat) : Int))])).length) Slot.unset).toArray = ls at hl ⊢
  have hl : lv_has ls 2 [(0, .ref b), (1, .int (iI ((kz : Nat) : Int)))] := hl
  refine lv_iload_n hx hb dL_cell_0 rfl (lv_at hl 1 rfl) ?_
  refine lv_aload_n hx hb dL_cell_1 rfl (lv_at hl 0 rfl) ?_
  refine va_slen hx hb hX hbl (fun h => h) hS dL_cell_2 ?_
  rw [iI_ofNat]
  refine my_icmp_ge (tgt := 12) hx hb (by omega) dL_cell_3 (by decide) (fun g1 => ?_) (fun g1 => ?_)
  · refine lv_ldc (v := iI 40503) hx hb hown (hts _ w_134) dL_cell_12 ?_
    refine lv_iload_n hx hb dL_cell_14 rfl (lv_at hl 1 rfl) ?_
    refine my_imul hx hb dL_cell_15 rfl ?_
    exact W.iret hx hb hr (fun t ht hW => ⟨⟨_, (), rfl, trivial, trivial⟩, hS.F ht⟩) hS.2.2 dL_cell_16
  · refine lv_aload_n hx hb dL_cell_6 rfl (lv_at hl 0 rfl) ?_
    refine lv_iload_n hx hb dL_cell_7 rfl (lv_at hl 1 rfl) ?_
    refine va_sld hx hb hX hbl (fun h => h) hS (iI_in (by omega)) dL_cell_8 ?_
    refine lv_goto (tgt := 16) hx hb dL_cell_9 (by decide) ?_
    exact W.iret hx hb hr (fun t ht hW => ⟨⟨_, (), rfl, trivial, trivial⟩, hS.F ht⟩) hS.2.2 dL_cell_16
abbrev ws_L_pick : List Cond := Cond.code yL_pick cL_pick 3 (some .int) :: ALL
set_option maxHeartbeats 4000000 in
set_option maxRecDepth 100000 in
theorem m_L_pick (l : Launch) (b L : Nat) (xs : Nat → Int32) (kz : Nat) (nz : Int) (hk : kz < 2147483648) (hn : 0 < nz ∧ nz ≤ 1000) (hL : L ≤ 260) : Met l yL_pick ws_L_pick ({ frames := 1, cells := 0, slots := 0, locals := 21 }) (va_Pc [.ref b, .int (iI ((kz : Nat) : Int)), .int (iI nz)] (fun U => va_X b L xs U U.heap)) (va_Qi (fun r (u : Int) => r = iI u ∧ 0 ≤ u ∧ u < nz) (fun _ _ => True) noA) 0 0 noA := by
  refine Met.ofW (cc := cL_pick) (maxL := 3) (ret := (some .int)) (by decide +kernel) rfl ?_
  intro p e s m args below meth c s₁ B hml hv
  obtain ⟨rfl, hX⟩ := hv
  have hx := B.exec
  have hb := B.bytes
  have hr := B.returns
  have hts : ∀ w ∈ ALL, w.before _ s = true := fun w h => atoms_spec (ws := ws_L_pick) B.pre w (List.mem_cons_of_mem _ h)
  have hown : s.vm.findClass RL = some m.cls := findClass_of_methodNamed B.named
  have hlocks := B.notSynchronized
  have hS : va_S noA s.heap s.heap [] := va_S.rf
  have hbl : b < s.heap.size := by obtain ⟨scr, h, -⟩ := hX; exact (Array.getElem?_eq_some_iff.mp h).1
  have hl := lv_entry ([.ref b, .int (iI ((kz : Nat) : Int)), .int (iI nz)]) (n := 3) (Nat.le_of_ble_eq_true rfl)
  rw [lg_entry_eq]
  generalize (lg_sl ([.ref b, .int (iI ((kz : Nat) : Int)), .int (iI nz)]) ++ List.replicate (3 - (lg_sl ([.ref b, .int (iI ((kz : Nat) : Int)), .int (iI nz)])).length) Slot.unset).toArray = ls at hl ⊢
  have hl : lv_has ls 3 [(0, .ref b), (1, .int (iI ((kz : Nat) : Int))), (2, .int (iI nz))] := hl
  refine lv_aload_n hx hb dL_pick_0 rfl (lv_at hl 0 rfl) ?_
  refine lv_iload_n hx hb dL_pick_1 rfl (lv_at hl 1 rfl) ?_
  refine va_calli (va_runS (As := [.ref b, .int (iI ((kz : Nat) : Int))]) (rest := []) ⟨hx, hb, hml, hown, hts⟩ (m_L_cell l b L xs kz hk hL) (va_cwS 2 hts (gS w_131 w_132 w_0 w_133) rfl rfl rfl (by decide +kernel) ⟨Nat.le_of_ble_eq_true rfl, Nat.le_of_ble_eq_true rfl⟩) (PX_S hX) rfl rfl hl.1 rfl (lv_room (Nat.le_of_ble_eq_true rfl)) dL_pick_2 ⟨Nat.le_of_ble_eq_true rfl, Nat.le_of_ble_eq_true rfl⟩) hS (fun _ _ h => False.elim h) (fun _ h => False.elim h) (fun r u t H locs ht hvm hw hB hz1 hk1 hS => ?_)
  refine lv_iconst (v := iI 1) hx hb dL_pick_5 rfl ?_
  refine lv_iushr hx hb dL_pick_6 rfl ?_
  obtain ⟨z, hz, h0, h1⟩ := ushr1 r
  rw [hz]
  refine lv_iload_n hx hb dL_pick_7 rfl (lv_at hl 2 rfl) ?_
  refine my_irem hx hb dL_pick_8 (by omega) rfl ?_
  exact W.iret hx hb hr (fun t ht hW => ⟨⟨_, z % nz, rfl, ⟨rfl, Int.emod_nonneg _ (by omega), Int.emod_lt_of_pos _ hn.1⟩, trivial⟩, hS.F ht⟩) hS.2.2 dL_pick_9
