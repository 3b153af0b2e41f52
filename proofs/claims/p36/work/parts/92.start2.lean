set_option maxHeartbeats 4000000 in
set_option maxRecDepth 100000 in
theorem whole_start {p : Program} {e : Env} {s : State} {m : MethodId} {below : List Frame} {meth : Method} {c : Code} (l : Launch) (hflags : l.flags = flags0) {b L : Nat} {xs : Nat → Int32} (hL : L ≤ 260) (C0 : lw_At p s m meth c b L xs) : W p l e room_1 s m #[Value.ref b] below meth c s.heap [] 0 0 (lw_Z below #[Value.ref b] s) (entryFrame m ([Value.ref b] : List Value).toArray 22) := by
  obtain ⟨hx, hb, hr, hml, hown, hts0, hX, hbl, hlocks, hgv⟩ := C0
  obtain ⟨D, cs, hK, hao1, hao2⟩ := kk_start hts0
  have hts : ∀ w ∈ ALL, w.before #[Value.ref b] s = true := fun w h => hts0 w (ALL_tbl w h)
  have hN := nn_start hts0
  obtain ⟨A, hAe⟩ : ∃ A : Nat → Prop, A = fun q : Nat => s.heap.size ≤ q := ⟨_, rfl⟩
  have hE : EV A s := by rw [hAe]; exact ev_start hts0 hgv
  have hA : ∀ q : Nat, s.heap.size ≤ q → A q := fun q h => by rw [hAe]; exact h
  have hbA : ¬ A b := by rw [hAe]; exact Nat.not_le.mpr hbl
  have hst : l.stackTraces = false := by unfold Launch.stackTraces; rw [hflags]; decide
  have hC : CX p l s m #[Value.ref b] c b L xs A D cs := ⟨hx, hb, hml, hown, hts, hX, hbl, hK, hN, hE, hL, hst, hA, hbA⟩
  have hS : va_S A s.heap s.heap [] := va_S.rf
  have hP : va_P D vwCl [] s.heap := fun k q h => by simp at h
  have hD : va_D A [] := ⟨fun i j p q h => by simp at h, fun k q h => by simp at h⟩
  have hl := lv_entry ([.ref b]) (n := 22) (Nat.le_of_ble_eq_true rfl)
  rw [lg_entry_eq]
  generalize (lg_sl ([.ref b]) ++ List.replicate (22 - (lg_sl ([.ref b])).length) Slot.unset).toArray = ls at hl ⊢
  have hl : lv_has ls 22 [(0, .ref b)] := hl
  refine va_new (ci := 5) (fs := [.null, .null, .null, .null, .null, .null, .null, .int (iI (0)), .int (iI (0)), .int (iI (0)), .int (iI (0)), .int (iI (0)), .int (iI (0)), .int (iI (0))]) (C := RX5) (T := TX5) (N := 14) hx hb hts inAX5 tyX5 tyX5_ok hown (hts _ w_16) (hts _ w_17) (hts _ w_1) hK hP hD hS hA rfl (fun j hj => by rcases (show j = 0 ∨ j = 1 ∨ j = 2 ∨ j = 3 ∨ j = 4 ∨ j = 5 ∨ j = 6 ∨ j = 7 ∨ j = 8 ∨ j = 9 ∨ j = 10 ∨ j = 11 ∨ j = 12 ∨ j = 13 by omega) with rfl | rfl | rfl | rfl | rfl | rfl | rfl | rfl | rfl | rfl | rfl | rfl | rfl | rfl <;> rfl) (Nat.le_of_ble_eq_true rfl) (Nat.le_of_ble_eq_true rfl) dL_law_0 (fun q1 H hP hD hS => ?_)
  have hP : va_P D vwCl [(q1, .inr (5, [.null, .null, .null, .null, .null, .null, .null, .int (iI (0)), .int (iI (0)), .int (iI (0)), .int (iI (0)), .int (iI (0)), .int (iI (0)), .int (iI (0))]))] H := hP
  have hD : va_D A [(q1, .inr (5, [.null, .null, .null, .null, .null, .null, .null, .int (iI (0)), .int (iI (0)), .int (iI (0)), .int (iI (0)), .int (iI (0)), .int (iI (0)), .int (iI (0))]))] := hD
  refine lv_dup hx hb dL_law_3 rfl ?_
  have pk2 : picks [(q1, .inr (5, [.null, .null, .null, .null, .null, .null, .null, .int (iI (0)), .int (iI (0)), .int (iI (0)), .int (iI (0)), .int (iI (0)), .int (iI (0)), .int (iI (0))]))] [0] [(q1, .inr (5, [.null, .null, .null, .null, .null, .null, .null, .int (iI (0)), .int (iI (0)), .int (iI (0)), .int (iI (0)), .int (iI (0)), .int (iI (0)), .int (iI (0))]))] := ⟨rfl, trivial⟩
  have hFA := fA_sub hD [0] pk2 hS hA
  refine va_callv (va_runI (As := []) (rest := [.ref q1]) ⟨hx, hb, hml, hown, hts⟩ (m_X5_init l D cs q1 _) (cwI 0 hts (gA w_20) rfl rfl rfl (hts _ w_1) (hts _ w_18) (hts _ w_19) rfl (by decide +kernel) ⟨Nat.le_of_ble_eq_true rfl, Nat.le_of_ble_eq_true rfl⟩) (PAO_S hK hN hao1 hao2 hP hD [0] rfl pk2) rfl rfl hl.1 rfl (lv_room (Nat.le_of_ble_eq_true rfl)) dL_law_4 ⟨Nat.le_of_ble_eq_true rfl, Nat.le_of_ble_eq_true rfl⟩) hS (fun q _ h => hFA q h) hFA (fun u3 t H1 locs ht hvm hw hB hz1 hk1 hS => ?_)
  rw [ht] at hB
  obtain ⟨hP, hD⟩ := my_joinA (W1 := [(q1, .inr (5, [.ref (u3 0), .ref (u3 1), .ref (u3 2), .ref (u3 3), .ref (u3 5), .ref (u3 7), .ref (u3 9), .int (iI (0)), .int (iI (0)), .int (iI (0)), .int (iI (0)), .int (iI (90)), .int (iI (20)), .int (iI (10))]))]) (Wn := [(u3 0, arI cs 4 (fun _ => 0)), (u3 1, arQ cs 2 5 (fun _ => none)), (u3 2, arQ cs 3 20 (fun _ => none)), (u3 3, .inr (0, [.ref (u3 4)])), (u3 4, arI cs 1005 (fun _ => 0)), (u3 5, .inr (0, [.ref (u3 6)])), (u3 6, arI cs 1005 (fun _ => 0)), (u3 7, .inr (2, [.ref (u3 8), .int (iI (0))])), (u3 8, arI cs 7 (fun _ => 0)), (u3 9, .inr (4, [.ref (u3 10), .ref (u3 11), .int (iI (0))])), (u3 10, arI cs 4 (fun _ => 0)), (u3 11, arI cs 4 (fun _ => 0))]) hP hD [0] rfl pk2 rfl hk1 hB hFA
  generalize H1 = H at hP hS ⊢
  have hP : va_P D vwCl [(q1, .inr (5, [.ref (u3 0), .ref (u3 1), .ref (u3 2), .ref (u3 3), .ref (u3 5), .ref (u3 7), .ref (u3 9), .int (iI (0)), .int (iI (0)), .int (iI (0)), .int (iI (0)), .int (iI (90)), .int (iI (20)), .int (iI (10))])), (u3 0, arI cs 4 (fun _ => 0)), (u3 1, arQ cs 2 5 (fun _ => none)), (u3 2, arQ cs 3 20 (fun _ => none)), (u3 3, .inr (0, [.ref (u3 4)])), (u3 4, arI cs 1005 (fun _ => 0)), (u3 5, .inr (0, [.ref (u3 6)])), (u3 6, arI cs 1005 (fun _ => 0)), (u3 7, .inr (2, [.ref (u3 8), .int (iI (0))])), (u3 8, arI cs 7 (fun _ => 0)), (u3 9, .inr (4, [.ref (u3 10), .ref (u3 11), .int (iI (0))])), (u3 10, arI cs 4 (fun _ => 0)), (u3 11, arI cs 4 (fun _ => 0))] H := hP
  have hD : va_D A [(q1, .inr (5, [.ref (u3 0), .ref (u3 1), .ref (u3 2), .ref (u3 3), .ref (u3 5), .ref (u3 7), .ref (u3 9), .int (iI (0)), .int (iI (0)), .int (iI (0)), .int (iI (0)), .int (iI (90)), .int (iI (20)), .int (iI (10))])), (u3 0, arI cs 4 (fun _ => 0)), (u3 1, arQ cs 2 5 (fun _ => none)), (u3 2, arQ cs 3 20 (fun _ => none)), (u3 3, .inr (0, [.ref (u3 4)])), (u3 4, arI cs 1005 (fun _ => 0)), (u3 5, .inr (0, [.ref (u3 6)])), (u3 6, arI cs 1005 (fun _ => 0)), (u3 7, .inr (2, [.ref (u3 8), .int (iI (0))])), (u3 8, arI cs 7 (fun _ => 0)), (u3 9, .inr (4, [.ref (u3 10), .ref (u3 11), .int (iI (0))])), (u3 10, arI cs 4 (fun _ => 0)), (u3 11, arI cs 4 (fun _ => 0))] := hD
  refine lv_astore_n (lv' := [(1, .ref q1), (0, .ref b)]) hx hb dL_law_7 rfl hl (by decide) rfl (fun ls hl => ?_)
  refine lv_iconst (v := iI (3)) hx hb dL_law_8 rfl ?_
  refine my_newI hx hb hts hK hP hD hS hA 3 (by omega) (Nat.le_of_ble_eq_true rfl) (Nat.le_of_ble_eq_true rfl) dL_law_9 (fun q4 H hP hD hS => ?_)
  have hP : va_P D vwCl [(q1, .inr (5, [.ref (u3 0), .ref (u3 1), .ref (u3 2), .ref (u3 3), .ref (u3 5), .ref (u3 7), .ref (u3 9), .int (iI (0)), .int (iI (0)), .int (iI (0)), .int (iI (0)), .int (iI (90)), .int (iI (20)), .int (iI (10))])), (u3 0, arI cs 4 (fun _ => 0)), (u3 1, arQ cs 2 5 (fun _ => none)), (u3 2, arQ cs 3 20 (fun _ => none)), (u3 3, .inr (0, [.ref (u3 4)])), (u3 4, arI cs 1005 (fun _ => 0)), (u3 5, .inr (0, [.ref (u3 6)])), (u3 6, arI cs 1005 (fun _ => 0)), (u3 7, .inr (2, [.ref (u3 8), .int (iI (0))])), (u3 8, arI cs 7 (fun _ => 0)), (u3 9, .inr (4, [.ref (u3 10), .ref (u3 11), .int (iI (0))])), (u3 10, arI cs 4 (fun _ => 0)), (u3 11, arI cs 4 (fun _ => 0)), (q4, arI cs 3 (fun _ => 0))] H := hP
  have hD : va_D A [(q1, .inr (5, [.ref (u3 0), .ref (u3 1), .ref (u3 2), .ref (u3 3), .ref (u3 5), .ref (u3 7), .ref (u3 9), .int (iI (0)), .int (iI (0)), .int (iI (0)), .int (iI (0)), .int (iI (90)), .int (iI (20)), .int (iI (10))])), (u3 0, arI cs 4 (fun _ => 0)), (u3 1, arQ cs 2 5 (fun _ => none)), (u3 2, arQ cs 3 20 (fun _ => none)), (u3 3, .inr (0, [.ref (u3 4)])), (u3 4, arI cs 1005 (fun _ => 0)), (u3 5, .inr (0, [.ref (u3 6)])), (u3 6, arI cs 1005 (fun _ => 0)), (u3 7, .inr (2, [.ref (u3 8), .int (iI (0))])), (u3 8, arI cs 7 (fun _ => 0)), (u3 9, .inr (4, [.ref (u3 10), .ref (u3 11), .int (iI (0))])), (u3 10, arI cs 4 (fun _ => 0)), (u3 11, arI cs 4 (fun _ => 0)), (q4, arI cs 3 (fun _ => 0))] := hD
  refine lv_astore_n (lv' := [(2, .ref q4), (1, .ref q1), (0, .ref b)]) hx hb dL_law_11 rfl hl (by decide) rfl (fun ls hl => ?_)
  refine lv_iconst (v := iI (2)) hx hb dL_law_12 rfl ?_
  refine my_newI hx hb hts hK hP hD hS hA 2 (by omega) (Nat.le_of_ble_eq_true rfl) (Nat.le_of_ble_eq_true rfl) dL_law_13 (fun q5 H hP hD hS => ?_)
  have hP : va_P D vwCl [(q1, .inr (5, [.ref (u3 0), .ref (u3 1), .ref (u3 2), .ref (u3 3), .ref (u3 5), .ref (u3 7), .ref (u3 9), .int (iI (0)), .int (iI (0)), .int (iI (0)), .int (iI (0)), .int (iI (90)), .int (iI (20)), .int (iI (10))])), (u3 0, arI cs 4 (fun _ => 0)), (u3 1, arQ cs 2 5 (fun _ => none)), (u3 2, arQ cs 3 20 (fun _ => none)), (u3 3, .inr (0, [.ref (u3 4)])), (u3 4, arI cs 1005 (fun _ => 0)), (u3 5, .inr (0, [.ref (u3 6)])), (u3 6, arI cs 1005 (fun _ => 0)), (u3 7, .inr (2, [.ref (u3 8), .int (iI (0))])), (u3 8, arI cs 7 (fun _ => 0)), (u3 9, .inr (4, [.ref (u3 10), .ref (u3 11), .int (iI (0))])), (u3 10, arI cs 4 (fun _ => 0)), (u3 11, arI cs 4 (fun _ => 0)), (q4, arI cs 3 (fun _ => 0)), (q5, arI cs 2 (fun _ => 0))] H := hP
  have hD : va_D A [(q1, .inr (5, [.ref (u3 0), .ref (u3 1), .ref (u3 2), .ref (u3 3), .ref (u3 5), .ref (u3 7), .ref (u3 9), .int (iI (0)), .int (iI (0)), .int (iI (0)), .int (iI (0)), .int (iI (90)), .int (iI (20)), .int (iI (10))])), (u3 0, arI cs 4 (fun _ => 0)), (u3 1, arQ cs 2 5 (fun _ => none)), (u3 2, arQ cs 3 20 (fun _ => none)), (u3 3, .inr (0, [.ref (u3 4)])), (u3 4, arI cs 1005 (fun _ => 0)), (u3 5, .inr (0, [.ref (u3 6)])), (u3 6, arI cs 1005 (fun _ => 0)), (u3 7, .inr (2, [.ref (u3 8), .int (iI (0))])), (u3 8, arI cs 7 (fun _ => 0)), (u3 9, .inr (4, [.ref (u3 10), .ref (u3 11), .int (iI (0))])), (u3 10, arI cs 4 (fun _ => 0)), (u3 11, arI cs 4 (fun _ => 0)), (q4, arI cs 3 (fun _ => 0)), (q5, arI cs 2 (fun _ => 0))] := hD
  refine lv_astore_n (lv' := [(3, .ref q5), (2, .ref q4), (1, .ref q1), (0, .ref b)]) hx hb dL_law_15 rfl hl (by decide) rfl (fun ls hl => ?_)
  refine lv_bipush (v := iI (6)) hx hb dL_law_16 (by decide) ?_
  refine my_newI hx hb hts hK hP hD hS hA 6 (by omega) (Nat.le_of_ble_eq_true rfl) (Nat.le_of_ble_eq_true rfl) dL_law_18 (fun q6 H hP hD hS => ?_)
  have hP : va_P D vwCl [(q1, .inr (5, [.ref (u3 0), .ref (u3 1), .ref (u3 2), .ref (u3 3), .ref (u3 5), .ref (u3 7), .ref (u3 9), .int (iI (0)), .int (iI (0)), .int (iI (0)), .int (iI (0)), .int (iI (90)), .int (iI (20)), .int (iI (10))])), (u3 0, arI cs 4 (fun _ => 0)), (u3 1, arQ cs 2 5 (fun _ => none)), (u3 2, arQ cs 3 20 (fun _ => none)), (u3 3, .inr (0, [.ref (u3 4)])), (u3 4, arI cs 1005 (fun _ => 0)), (u3 5, .inr (0, [.ref (u3 6)])), (u3 6, arI cs 1005 (fun _ => 0)), (u3 7, .inr (2, [.ref (u3 8), .int (iI (0))])), (u3 8, arI cs 7 (fun _ => 0)), (u3 9, .inr (4, [.ref (u3 10), .ref (u3 11), .int (iI (0))])), (u3 10, arI cs 4 (fun _ => 0)), (u3 11, arI cs 4 (fun _ => 0)), (q4, arI cs 3 (fun _ => 0)), (q5, arI cs 2 (fun _ => 0)), (q6, arI cs 6 (fun _ => 0))] H := hP
  have hD : va_D A [(q1, .inr (5, [.ref (u3 0), .ref (u3 1), .ref (u3 2), .ref (u3 3), .ref (u3 5), .ref (u3 7), .ref (u3 9), .int (iI (0)), .int (iI (0)), .int (iI (0)), .int (iI (0)), .int (iI (90)), .int (iI (20)), .int (iI (10))])), (u3 0, arI cs 4 (fun _ => 0)), (u3 1, arQ cs 2 5 (fun _ => none)), (u3 2, arQ cs 3 20 (fun _ => none)), (u3 3, .inr (0, [.ref (u3 4)])), (u3 4, arI cs 1005 (fun _ => 0)), (u3 5, .inr (0, [.ref (u3 6)])), (u3 6, arI cs 1005 (fun _ => 0)), (u3 7, .inr (2, [.ref (u3 8), .int (iI (0))])), (u3 8, arI cs 7 (fun _ => 0)), (u3 9, .inr (4, [.ref (u3 10), .ref (u3 11), .int (iI (0))])), (u3 10, arI cs 4 (fun _ => 0)), (u3 11, arI cs 4 (fun _ => 0)), (q4, arI cs 3 (fun _ => 0)), (q5, arI cs 2 (fun _ => 0)), (q6, arI cs 6 (fun _ => 0))] := hD
  refine lv_astore (lv' := [(4, .ref q6), (3, .ref q5), (2, .ref q4), (1, .ref q1), (0, .ref b)]) hx hb dL_law_20 hl (by decide) rfl (fun ls hl => ?_)
  obtain ⟨oa, hoa⟩ : ∃ oa : Nat → Nat, oa = fun k => ([q1, u3 0, u3 1, u3 2, u3 3, u3 5, u3 7, u3 9, u3 4, u3 6, u3 8, u3 10, u3 11] : List Nat).getD k 0 := ⟨_, rfl⟩
  have hPn : va_P D vwCl [(q5, arI cs 2 (fun _ => 0)), (q6, arI cs 6 (fun _ => 0)), (q4, arI cs 3 (fun _ => 0)), (q1, .inr (5, [.ref (u3 0), .ref (u3 1), .ref (u3 2), .ref (u3 3), .ref (u3 5), .ref (u3 7), .ref (u3 9), .int (iI (0)), .int (iI (0)), .int (iI (0)), .int (iI (0)), .int (iI (90)), .int (iI (20)), .int (iI (10))])), (u3 0, arI cs 4 (fun _ => 0)), (u3 1, arQ cs 2 5 (fun _ => none)), (u3 2, arQ cs 3 20 (fun _ => none)), (u3 3, .inr (0, [.ref (u3 4)])), (u3 4, arI cs 1005 (fun _ => 0)), (u3 5, .inr (0, [.ref (u3 6)])), (u3 6, arI cs 1005 (fun _ => 0)), (u3 7, .inr (2, [.ref (u3 8), .int (iI (0))])), (u3 8, arI cs 7 (fun _ => 0)), (u3 9, .inr (4, [.ref (u3 10), .ref (u3 11), .int (iI (0))])), (u3 10, arI cs 4 (fun _ => 0)), (u3 11, arI cs 4 (fun _ => 0))] H := P_pick hP [14, 15, 13, 0, 1, 2, 3, 4, 5, 6, 7, 8, 9, 10, 11, 12] (show picks [(q1, .inr (5, [.ref (u3 0), .ref (u3 1), .ref (u3 2), .ref (u3 3), .ref (u3 5), .ref (u3 7), .ref (u3 9), .int (iI (0)), .int (iI (0)), .int (iI (0)), .int (iI (0)), .int (iI (90)), .int (iI (20)), .int (iI (10))])), (u3 0, arI cs 4 (fun _ => 0)), (u3 1, arQ cs 2 5 (fun _ => none)), (u3 2, arQ cs 3 20 (fun _ => none)), (u3 3, .inr (0, [.ref (u3 4)])), (u3 4, arI cs 1005 (fun _ => 0)), (u3 5, .inr (0, [.ref (u3 6)])), (u3 6, arI cs 1005 (fun _ => 0)), (u3 7, .inr (2, [.ref (u3 8), .int (iI (0))])), (u3 8, arI cs 7 (fun _ => 0)), (u3 9, .inr (4, [.ref (u3 10), .ref (u3 11), .int (iI (0))])), (u3 10, arI cs 4 (fun _ => 0)), (u3 11, arI cs 4 (fun _ => 0)), (q4, arI cs 3 (fun _ => 0)), (q5, arI cs 2 (fun _ => 0)), (q6, arI cs 6 (fun _ => 0))] [14, 15, 13, 0, 1, 2, 3, 4, 5, 6, 7, 8, 9, 10, 11, 12] [(q5, arI cs 2 (fun _ => 0)), (q6, arI cs 6 (fun _ => 0)), (q4, arI cs 3 (fun _ => 0)), (q1, .inr (5, [.ref (u3 0), .ref (u3 1), .ref (u3 2), .ref (u3 3), .ref (u3 5), .ref (u3 7), .ref (u3 9), .int (iI (0)), .int (iI (0)), .int (iI (0)), .int (iI (0)), .int (iI (90)), .int (iI (20)), .int (iI (10))])), (u3 0, arI cs 4 (fun _ => 0)), (u3 1, arQ cs 2 5 (fun _ => none)), (u3 2, arQ cs 3 20 (fun _ => none)), (u3 3, .inr (0, [.ref (u3 4)])), (u3 4, arI cs 1005 (fun _ => 0)), (u3 5, .inr (0, [.ref (u3 6)])), (u3 6, arI cs 1005 (fun _ => 0)), (u3 7, .inr (2, [.ref (u3 8), .int (iI (0))])), (u3 8, arI cs 7 (fun _ => 0)), (u3 9, .inr (4, [.ref (u3 10), .ref (u3 11), .int (iI (0))])), (u3 10, arI cs 4 (fun _ => 0)), (u3 11, arI cs 4 (fun _ => 0))] from ⟨rfl, rfl, rfl, rfl, rfl, rfl, rfl, rfl, rfl, rfl, rfl, rfl, rfl, rfl, rfl, rfl, trivial⟩)
  have hDn : va_D A [(q5, arI cs 2 (fun _ => 0)), (q6, arI cs 6 (fun _ => 0)), (q4, arI cs 3 (fun _ => 0)), (q1, .inr (5, [.ref (u3 0), .ref (u3 1), .ref (u3 2), .ref (u3 3), .ref (u3 5), .ref (u3 7), .ref (u3 9), .int (iI (0)), .int (iI (0)), .int (iI (0)), .int (iI (0)), .int (iI (90)), .int (iI (20)), .int (iI (10))])), (u3 0, arI cs 4 (fun _ => 0)), (u3 1, arQ cs 2 5 (fun _ => none)), (u3 2, arQ cs 3 20 (fun _ => none)), (u3 3, .inr (0, [.ref (u3 4)])), (u3 4, arI cs 1005 (fun _ => 0)), (u3 5, .inr (0, [.ref (u3 6)])), (u3 6, arI cs 1005 (fun _ => 0)), (u3 7, .inr (2, [.ref (u3 8), .int (iI (0))])), (u3 8, arI cs 7 (fun _ => 0)), (u3 9, .inr (4, [.ref (u3 10), .ref (u3 11), .int (iI (0))])), (u3 10, arI cs 4 (fun _ => 0)), (u3 11, arI cs 4 (fun _ => 0))] := D_pick hD [14, 15, 13, 0, 1, 2, 3, 4, 5, 6, 7, 8, 9, 10, 11, 12] rfl (show picks [(q1, .inr (5, [.ref (u3 0), .ref (u3 1), .ref (u3 2), .ref (u3 3), .ref (u3 5), .ref (u3 7), .ref (u3 9), .int (iI (0)), .int (iI (0)), .int (iI (0)), .int (iI (0)), .int (iI (90)), .int (iI (20)), .int (iI (10))])), (u3 0, arI cs 4 (fun _ => 0)), (u3 1, arQ cs 2 5 (fun _ => none)), (u3 2, arQ cs 3 20 (fun _ => none)), (u3 3, .inr (0, [.ref (u3 4)])), (u3 4, arI cs 1005 (fun _ => 0)), (u3 5, .inr (0, [.ref (u3 6)])), (u3 6, arI cs 1005 (fun _ => 0)), (u3 7, .inr (2, [.ref (u3 8), .int (iI (0))])), (u3 8, arI cs 7 (fun _ => 0)), (u3 9, .inr (4, [.ref (u3 10), .ref (u3 11), .int (iI (0))])), (u3 10, arI cs 4 (fun _ => 0)), (u3 11, arI cs 4 (fun _ => 0)), (q4, arI cs 3 (fun _ => 0)), (q5, arI cs 2 (fun _ => 0)), (q6, arI cs 6 (fun _ => 0))] [14, 15, 13, 0, 1, 2, 3, 4, 5, 6, 7, 8, 9, 10, 11, 12] [(q5, arI cs 2 (fun _ => 0)), (q6, arI cs 6 (fun _ => 0)), (q4, arI cs 3 (fun _ => 0)), (q1, .inr (5, [.ref (u3 0), .ref (u3 1), .ref (u3 2), .ref (u3 3), .ref (u3 5), .ref (u3 7), .ref (u3 9), .int (iI (0)), .int (iI (0)), .int (iI (0)), .int (iI (0)), .int (iI (90)), .int (iI (20)), .int (iI (10))])), (u3 0, arI cs 4 (fun _ => 0)), (u3 1, arQ cs 2 5 (fun _ => none)), (u3 2, arQ cs 3 20 (fun _ => none)), (u3 3, .inr (0, [.ref (u3 4)])), (u3 4, arI cs 1005 (fun _ => 0)), (u3 5, .inr (0, [.ref (u3 6)])), (u3 6, arI cs 1005 (fun _ => 0)), (u3 7, .inr (2, [.ref (u3 8), .int (iI (0))])), (u3 8, arI cs 7 (fun _ => 0)), (u3 9, .inr (4, [.ref (u3 10), .ref (u3 11), .int (iI (0))])), (u3 10, arI cs 4 (fun _ => 0)), (u3 11, arI cs 4 (fun _ => 0))] from ⟨rfl, rfl, rfl, rfl, rfl, rfl, rfl, rfl, rfl, rfl, rfl, rfl, rfl, rfl, rfl, rfl, trivial⟩)
  have hP : va_P D vwCl ([(q5, arI cs 2 (fun _ => 0)), (q6, arI cs 6 (fun _ => 0)), (q4, arI cs 3 (fun _ => 0))] ++ (OW cs oa (fun _ _ => 0) (fun _ _ => 0) 0 0 0 0 90 20 10 (fun _ => 0) (fun _ => 0) (fun _ => 0) (fun _ => false) (fun _ => i0R) (fun _ => l0R) (fun _ => 0, fun _ => 0, fun _ => 0, 0, 0))) H := by
    subst hoa
    unfold OW
    rw [aW_0, List.append_nil, itq_0, lnq_0]
    exact hPn
  have hD : va_D A ([(q5, arI cs 2 (fun _ => 0)), (q6, arI cs 6 (fun _ => 0)), (q4, arI cs 3 (fun _ => 0))] ++ (OW cs oa (fun _ _ => 0) (fun _ _ => 0) 0 0 0 0 90 20 10 (fun _ => 0) (fun _ => 0) (fun _ => 0) (fun _ => false) (fun _ => i0R) (fun _ => l0R) (fun _ => 0, fun _ => 0, fun _ => 0, 0, 0))) := by
    subst hoa
    unfold OW
    rw [aW_0, List.append_nil, itq_0, lnq_0]
    exact hDn
  have hl : lv_has ls 22 [(4, .ref q6), (3, .ref q5), (2, .ref q4), (1, .ref (oa 0)), (0, .ref b)] := by
    subst hoa
    exact hl
  clear hPn hDn hoa
  have hI0 : PI 0 0 0 90 20 10 (fun _ => 0) (fun _ => 0) (fun _ => 0) (fun _ => false) (fun _ => i0R) (fun _ => l0R) := PI_0
  refine lv_iconst (v := iI (1)) hx hb dL_law_22 rfl ?_
  refine lv_istore (lv' := [(5, .int (iI (1))), (4, .ref q6), (3, .ref q5), (2, .ref q4), (1, .ref (oa 0)), (0, .ref b)]) hx hb dL_law_23 hl (by decide) rfl (fun ls hl => ?_)
  refine lv_lconst (v := lI 0) hx hb dL_law_25 (by decide) ?_
  refine lv_lstore (lv' := [(6, .long (lI (0))), (5, .int (iI (1))), (4, .ref q6), (3, .ref q5), (2, .ref q4), (1, .ref (oa 0)), (0, .ref b)]) hx hb dL_law_26 hl (by decide) rfl (fun ls hl => ?_)
  refine lv_iconst (v := iI (0)) hx hb dL_law_28 rfl ?_
  refine lv_istore (lv' := [(8, .int (iI (0))), (6, .long (lI (0))), (5, .int (iI (1))), (4, .ref q6), (3, .ref q5), (2, .ref q4), (1, .ref (oa 0)), (0, .ref b)]) hx hb dL_law_29 hl (by decide) rfl (fun ls hl => ?_)
  refine lv_iconst (v := iI (0)) hx hb dL_law_31 rfl ?_
  refine lv_istore (lv' := [(9, .int (iI (0))), (8, .int (iI (0))), (6, .long (lI (0))), (5, .int (iI (1))), (4, .ref q6), (3, .ref q5), (2, .ref q4), (1, .ref (oa 0)), (0, .ref b)]) hx hb dL_law_32 hl (by decide) rfl (fun ls hl => ?_)
  refine lv_iload hx hb dL_law_34 (lv_at hl 0 rfl) ?_
  refine lv_iconst (v := iI (3)) hx hb dL_law_36 rfl ?_
  refine my_icmp_ge (tgt := 85) hx hb (by omega) dL_law_37 (by decide) (fun bh7 => (by omega : False).elim) (fun bh7 => ?_)
  refine lv_aload_n hx hb dL_law_40 rfl (lv_at hl 6 rfl) ?_
  refine lv_iload hx hb dL_law_41 (lv_at hl 0 rfl) ?_
  refine lv_iconst (v := iI (1)) hx hb dL_law_43 rfl ?_
  refine lv_aload_n hx hb dL_law_44 rfl (lv_at hl 8 rfl) ?_
  refine lv_iload hx hb dL_law_45 (lv_at hl 1 rfl) ?_
  refine lv_iconst (v := iI (5)) hx hb dL_law_47 rfl ?_
  refine my_cv1 (z := ((0 : Nat) : Int)) (rfl) ?_
  refine va_calli (va_runS (As := [.ref b, .int (iI (((0 : Nat) : Int))), .int (iI (5))]) (rest := [.int (iI (1)), .int (iI (0)), .ref q4]) ⟨hx, hb, hml, hown, hts⟩ (m_L_pick l b L xs 0 5 (by omega) (by omega) hL) (va_cwS 3 hts (gS w_128 w_129 w_0 w_130) rfl rfl rfl (by decide +kernel) ⟨Nat.le_of_ble_eq_true rfl, Nat.le_of_ble_eq_true rfl⟩) (PX_S (va_X.kept hX (hS.2.1 b hbl hbA))) rfl rfl hl.1 rfl (lv_room (Nat.le_of_ble_eq_true rfl)) dL_law_48 ⟨Nat.le_of_ble_eq_true rfl, Nat.le_of_ble_eq_true rfl⟩) hS (fun _ _ h => False.elim h) (fun _ h => False.elim h) (fun r pz8 t H locs ht hvm hw hB hz1 hk1 hS => ?_)
  obtain ⟨hw, hpz8⟩ := hw
  subst hw
  have hP := P_kept hP hk1
  refine my_iadd (z := 1 + pz8) hx hb dL_law_51 (rfl) ?_
  refine my_iast hx hb hK hP hD hS 2 rfl (by omega) (k := 0) (rfl) dL_law_52 (fun H locs hP hD hS => ?_)
  have hP : va_P D vwCl ([(q5, arI cs 2 (fun _ => 0)), (q6, arI cs 6 (fun _ => 0)), (q4, arI cs 3 (upI (fun _ => 0) 0 (1 + pz8)))] ++ (OW cs oa (fun _ _ => 0) (fun _ _ => 0) 0 0 0 0 90 20 10 (fun _ => 0) (fun _ => 0) (fun _ => 0) (fun _ => false) (fun _ => i0R) (fun _ => l0R) (fun _ => 0, fun _ => 0, fun _ => 0, 0, 0))) H := hP
  have hD : va_D A ([(q5, arI cs 2 (fun _ => 0)), (q6, arI cs 6 (fun _ => 0)), (q4, arI cs 3 (upI (fun _ => 0) 0 (1 + pz8)))] ++ (OW cs oa (fun _ _ => 0) (fun _ _ => 0) 0 0 0 0 90 20 10 (fun _ => 0) (fun _ => 0) (fun _ => 0) (fun _ => false) (fun _ => i0R) (fun _ => l0R) (fun _ => 0, fun _ => 0, fun _ => 0, 0, 0))) := hD
  refine lv_iload hx hb dL_law_53 (lv_at hl 3 rfl) ?_
  refine lv_aload_n hx hb dL_law_55 rfl (lv_at hl 7 rfl) ?_
  refine lv_aload_n hx hb dL_law_56 rfl (lv_at hl 6 rfl) ?_
  refine lv_iload hx hb dL_law_57 (lv_at hl 0 rfl) ?_
  refine my_iald hx hb hK hP 2 rfl (by omega) (k := 0) (rfl) dL_law_59 ?_
  refine my_cv0 (z := 1 + pz8) (upI_same) ?_
  refine va_calli (vx_runSW (As := [.ref (oa 0), .int (iI (1 + pz8))]) (rest := [.int (iI (1))]) ⟨hx, hb, hml, hown, hts⟩ (m_L_addShop_R l hst D cs oa (fun _ _ => 0) (fun _ _ => 0) 0 0 0 0 90 20 10 (fun _ => 0) (fun _ => 0) (fun _ => 0) (fun _ => false) (fun _ => i0R) (fun _ => l0R) (fun _ => 0, fun _ => 0, fun _ => 0, 0, 0) (1 + pz8) (hI0) (by omega) (by rw [if_neg (by omega), if_neg (by omega)])) (vx_cwSW 2 hts (gS w_135 w_136 w_0 w_137) rfl rfl rfl (by decide +kernel) ⟨Nat.le_of_ble_eq_true rfl, Nat.le_of_ble_eq_true rfl⟩) (PE_Sa hK hN hE hS (fun q h => inW_suba (D_R (E := [(q5, arI cs 2 (fun _ => 0)), (q6, arI cs 6 (fun _ => 0)), (q4, arI cs 3 (upI (fun _ => 0) 0 (1 + pz8)))]) (Wc := (OW cs oa (fun _ _ => 0) (fun _ _ => 0) 0 0 0 0 90 20 10 (fun _ => 0) (fun _ => 0) (fun _ => 0) (fun _ => false) (fun _ => i0R) (fun _ => l0R) (fun _ => 0, fun _ => 0, fun _ => 0, 0, 0))) hD) q h) (P_R (E := [(q5, arI cs 2 (fun _ => 0)), (q6, arI cs 6 (fun _ => 0)), (q4, arI cs 3 (upI (fun _ => 0) 0 (1 + pz8)))]) (Wc := (OW cs oa (fun _ _ => 0) (fun _ _ => 0) 0 0 0 0 90 20 10 (fun _ => 0) (fun _ => 0) (fun _ => 0) (fun _ => false) (fun _ => i0R) (fun _ => l0R) (fun _ => 0, fun _ => 0, fun _ => 0, 0, 0))) hP) (D_R (E := [(q5, arI cs 2 (fun _ => 0)), (q6, arI cs 6 (fun _ => 0)), (q4, arI cs 3 (upI (fun _ => 0) 0 (1 + pz8)))]) (Wc := (OW cs oa (fun _ _ => 0) (fun _ _ => 0) 0 0 0 0 90 20 10 (fun _ => 0) (fun _ => 0) (fun _ => 0) (fun _ => false) (fun _ => i0R) (fun _ => l0R) (fun _ => 0, fun _ => 0, fun _ => 0, 0, 0))) hD)) rfl rfl hl.1 rfl (lv_room (Nat.le_of_ble_eq_true rfl)) dL_law_60 ⟨Nat.le_of_ble_eq_true rfl, Nat.le_of_ble_eq_true rfl⟩) hS (fun q _ h => inW_suba (D_R (E := [(q5, arI cs 2 (fun _ => 0)), (q6, arI cs 6 (fun _ => 0)), (q4, arI cs 3 (upI (fun _ => 0) 0 (1 + pz8)))]) (Wc := (OW cs oa (fun _ _ => 0) (fun _ _ => 0) 0 0 0 0 90 20 10 (fun _ => 0) (fun _ => 0) (fun _ => 0) (fun _ => false) (fun _ => i0R) (fun _ => l0R) (fun _ => 0, fun _ => 0, fun _ => 0, 0, 0))) hD) q h) (fun q h => inW_suba (D_R (E := [(q5, arI cs 2 (fun _ => 0)), (q6, arI cs 6 (fun _ => 0)), (q4, arI cs 3 (upI (fun _ => 0) 0 (1 + pz8)))]) (Wc := (OW cs oa (fun _ _ => 0) (fun _ _ => 0) 0 0 0 0 90 20 10 (fun _ => 0) (fun _ => 0) (fun _ => 0) (fun _ => false) (fun _ => i0R) (fun _ => l0R) (fun _ => 0, fun _ => 0, fun _ => 0, 0, 0))) hD) q h) (fun r u t H locs ht hvm hw hB hz1 hk1 hS => ?_)
  subst hw
  rw [ht] at hB
  obtain ⟨hP, hD⟩ := my_joinE (E := [(q5, arI cs 2 (fun _ => 0)), (q6, arI cs 6 (fun _ => 0)), (q4, arI cs 3 (upI (fun _ => 0) 0 (1 + pz8)))]) (Wc := (OW cs oa (fun _ _ => 0) (fun _ _ => 0) 0 0 0 0 90 20 10 (fun _ => 0) (fun _ => 0) (fun _ => 0) (fun _ => false) (fun _ => i0R) (fun _ => l0R) (fun _ => 0, fun _ => 0, fun _ => 0, 0, 0))) (W2 := (OW cs oa (fun _ _ => 0) (fun _ _ => 0) (0 + 1) 0 0 0 90 20 10 (upI (fun _ => 0) 0 (1 + pz8)) (fun _ => 0) (fun _ => 0) (fun _ => false) (fun _ => i0R) (fun _ => l0R) (fun _ => 0, fun _ => 0, fun _ => 0, 0, 0))) hP hD OW_fst hk1 hB
  have hP : va_P D vwCl ([(q5, arI cs 2 (fun _ => 0)), (q6, arI cs 6 (fun _ => 0)), (q4, arI cs 3 (upI (fun _ => 0) 0 (1 + pz8)))] ++ (OW cs oa (fun _ _ => 0) (fun _ _ => 0) (0 + 1) 0 0 0 90 20 10 (upI (fun _ => 0) 0 (1 + pz8)) (fun _ => 0) (fun _ => 0) (fun _ => false) (fun _ => i0R) (fun _ => l0R) (fun _ => 0, fun _ => 0, fun _ => 0, 0, 0))) H := hP
  have hD : va_D A ([(q5, arI cs 2 (fun _ => 0)), (q6, arI cs 6 (fun _ => 0)), (q4, arI cs 3 (upI (fun _ => 0) 0 (1 + pz8)))] ++ (OW cs oa (fun _ _ => 0) (fun _ _ => 0) (0 + 1) 0 0 0 90 20 10 (upI (fun _ => 0) 0 (1 + pz8)) (fun _ => 0) (fun _ => 0) (fun _ => false) (fun _ => i0R) (fun _ => l0R) (fun _ => 0, fun _ => 0, fun _ => 0, 0, 0))) := hD
  have hI1 := PI_shop hI0 (z := 1 + pz8) (by omega) (by omega)
  refine lv_iload hx hb dL_law_63 (lv_at hl 0 rfl) ?_
  refine my_icmp_ne (tgt := 72) hx hb (by omega) dL_law_65 (by decide) (fun bh9 => (by omega : False).elim) (fun bh9 => ?_)
  refine lv_iconst (v := iI (1)) hx hb dL_law_68 rfl ?_
  refine lv_goto (tgt := 73) hx hb dL_law_69 (by decide) ?_
  refine my_iand11 hx hb dL_law_73 ?_
  refine lv_istore (lv' := [(5, .int (iI (1))), (9, .int (iI (0))), (8, .int (iI (0))), (6, .long (lI (0))), (4, .ref q6), (3, .ref q5), (2, .ref q4), (1, .ref (oa 0)), (0, .ref b)]) hx hb dL_law_74 hl (by decide) rfl (fun ls hl => ?_)
  refine lv_iinc (v := iI (1)) (lv' := [(8, .int (iI (1))), (5, .int (iI (1))), (9, .int (iI (0))), (6, .long (lI (0))), (4, .ref q6), (3, .ref q5), (2, .ref q4), (1, .ref (oa 0)), (0, .ref b)]) hx hb dL_law_76 hl (k := 2) rfl (by rw [show (1 : Int) = 0 + 1 from by omega]; exact iI_add _ _) (by decide) rfl (fun ls hl => ?_)
  refine lv_iinc (v := iI (1)) (lv' := [(9, .int (iI (1))), (8, .int (iI (1))), (5, .int (iI (1))), (6, .long (lI (0))), (4, .ref q6), (3, .ref q5), (2, .ref q4), (1, .ref (oa 0)), (0, .ref b)]) hx hb dL_law_79 hl (k := 2) rfl (by rw [show (1 : Int) = 0 + 1 from by omega]; exact iI_add _ _) (by decide) rfl (fun ls hl => ?_)
  refine lv_goto (tgt := 34) hx hb dL_law_82 (by decide) ?_
  refine lv_iload hx hb dL_law_34 (lv_at hl 0 rfl) ?_
  refine lv_iconst (v := iI (3)) hx hb dL_law_36 rfl ?_
  refine my_icmp_ge (tgt := 85) hx hb (by omega) dL_law_37 (by decide) (fun bh10 => (by omega : False).elim) (fun bh10 => ?_)
  refine lv_aload_n hx hb dL_law_40 rfl (lv_at hl 6 rfl) ?_
  refine lv_iload hx hb dL_law_41 (lv_at hl 0 rfl) ?_
  refine lv_iconst (v := iI (1)) hx hb dL_law_43 rfl ?_
  refine lv_aload_n hx hb dL_law_44 rfl (lv_at hl 8 rfl) ?_
  refine lv_iload hx hb dL_law_45 (lv_at hl 1 rfl) ?_
  refine lv_iconst (v := iI (5)) hx hb dL_law_47 rfl ?_
  refine my_cv1 (z := ((1 : Nat) : Int)) (rfl) ?_
  refine va_calli (va_runS (As := [.ref b, .int (iI (((1 : Nat) : Int))), .int (iI (5))]) (rest := [.int (iI (1)), .int (iI (1)), .ref q4]) ⟨hx, hb, hml, hown, hts⟩ (m_L_pick l b L xs 1 5 (by omega) (by omega) hL) (va_cwS 3 hts (gS w_128 w_129 w_0 w_130) rfl rfl rfl (by decide +kernel) ⟨Nat.le_of_ble_eq_true rfl, Nat.le_of_ble_eq_true rfl⟩) (PX_S (va_X.kept hX (hS.2.1 b hbl hbA))) rfl rfl hl.1 rfl (lv_room (Nat.le_of_ble_eq_true rfl)) dL_law_48 ⟨Nat.le_of_ble_eq_true rfl, Nat.le_of_ble_eq_true rfl⟩) hS (fun _ _ h => False.elim h) (fun _ h => False.elim h) (fun r pz11 t H locs ht hvm hw hB hz1 hk1 hS => ?_)
  obtain ⟨hw, hpz11⟩ := hw
  subst hw
  have hP := P_kept hP hk1
  refine my_iadd (z := 1 + pz11) hx hb dL_law_51 (rfl) ?_
  refine my_iast hx hb hK hP hD hS 2 rfl (by omega) (k := 1) (rfl) dL_law_52 (fun H locs hP hD hS => ?_)
  have hP : va_P D vwCl ([(q5, arI cs 2 (fun _ => 0)), (q6, arI cs 6 (fun _ => 0)), (q4, arI cs 3 (upI (upI (fun _ => 0) 0 (1 + pz8)) 1 (1 + pz11)))] ++ (OW cs oa (fun _ _ => 0) (fun _ _ => 0) (0 + 1) 0 0 0 90 20 10 (upI (fun _ => 0) 0 (1 + pz8)) (fun _ => 0) (fun _ => 0) (fun _ => false) (fun _ => i0R) (fun _ => l0R) (fun _ => 0, fun _ => 0, fun _ => 0, 0, 0))) H := hP
  have hD : va_D A ([(q5, arI cs 2 (fun _ => 0)), (q6, arI cs 6 (fun _ => 0)), (q4, arI cs 3 (upI (upI (fun _ => 0) 0 (1 + pz8)) 1 (1 + pz11)))] ++ (OW cs oa (fun _ _ => 0) (fun _ _ => 0) (0 + 1) 0 0 0 90 20 10 (upI (fun _ => 0) 0 (1 + pz8)) (fun _ => 0) (fun _ => 0) (fun _ => false) (fun _ => i0R) (fun _ => l0R) (fun _ => 0, fun _ => 0, fun _ => 0, 0, 0))) := hD
  refine lv_iload hx hb dL_law_53 (lv_at hl 2 rfl) ?_
  refine lv_aload_n hx hb dL_law_55 rfl (lv_at hl 7 rfl) ?_
  refine lv_aload_n hx hb dL_law_56 rfl (lv_at hl 6 rfl) ?_
  refine lv_iload hx hb dL_law_57 (lv_at hl 0 rfl) ?_
  refine my_iald hx hb hK hP 2 rfl (by omega) (k := 1) (rfl) dL_law_59 ?_
  refine my_cv0 (z := 1 + pz11) (upI_same) ?_
  refine va_calli (vx_runSW (As := [.ref (oa 0), .int (iI (1 + pz11))]) (rest := [.int (iI (1))]) ⟨hx, hb, hml, hown, hts⟩ (m_L_addShop_R l hst D cs oa (fun _ _ => 0) (fun _ _ => 0) (0 + 1) 0 0 0 90 20 10 (upI (fun _ => 0) 0 (1 + pz8)) (fun _ => 0) (fun _ => 0) (fun _ => false) (fun _ => i0R) (fun _ => l0R) (fun _ => 0, fun _ => 0, fun _ => 0, 0, 0) (1 + pz11) (hI1) (by omega) (by rw [if_neg (by omega), if_neg (by omega)])) (vx_cwSW 2 hts (gS w_135 w_136 w_0 w_137) rfl rfl rfl (by decide +kernel) ⟨Nat.le_of_ble_eq_true rfl, Nat.le_of_ble_eq_true rfl⟩) (PE_Sa hK hN hE hS (fun q h => inW_suba (D_R (E := [(q5, arI cs 2 (fun _ => 0)), (q6, arI cs 6 (fun _ => 0)), (q4, arI cs 3 (upI (upI (fun _ => 0) 0 (1 + pz8)) 1 (1 + pz11)))]) (Wc := (OW cs oa (fun _ _ => 0) (fun _ _ => 0) (0 + 1) 0 0 0 90 20 10 (upI (fun _ => 0) 0 (1 + pz8)) (fun _ => 0) (fun _ => 0) (fun _ => false) (fun _ => i0R) (fun _ => l0R) (fun _ => 0, fun _ => 0, fun _ => 0, 0, 0))) hD) q h) (P_R (E := [(q5, arI cs 2 (fun _ => 0)), (q6, arI cs 6 (fun _ => 0)), (q4, arI cs 3 (upI (upI (fun _ => 0) 0 (1 + pz8)) 1 (1 + pz11)))]) (Wc := (OW cs oa (fun _ _ => 0) (fun _ _ => 0) (0 + 1) 0 0 0 90 20 10 (upI (fun _ => 0) 0 (1 + pz8)) (fun _ => 0) (fun _ => 0) (fun _ => false) (fun _ => i0R) (fun _ => l0R) (fun _ => 0, fun _ => 0, fun _ => 0, 0, 0))) hP) (D_R (E := [(q5, arI cs 2 (fun _ => 0)), (q6, arI cs 6 (fun _ => 0)), (q4, arI cs 3 (upI (upI (fun _ => 0) 0 (1 + pz8)) 1 (1 + pz11)))]) (Wc := (OW cs oa (fun _ _ => 0) (fun _ _ => 0) (0 + 1) 0 0 0 90 20 10 (upI (fun _ => 0) 0 (1 + pz8)) (fun _ => 0) (fun _ => 0) (fun _ => false) (fun _ => i0R) (fun _ => l0R) (fun _ => 0, fun _ => 0, fun _ => 0, 0, 0))) hD)) rfl rfl hl.1 rfl (lv_room (Nat.le_of_ble_eq_true rfl)) dL_law_60 ⟨Nat.le_of_ble_eq_true rfl, Nat.le_of_ble_eq_true rfl⟩) hS (fun q _ h => inW_suba (D_R (E := [(q5, arI cs 2 (fun _ => 0)), (q6, arI cs 6 (fun _ => 0)), (q4, arI cs 3 (upI (upI (fun _ => 0) 0 (1 + pz8)) 1 (1 + pz11)))]) (Wc := (OW cs oa (fun _ _ => 0) (fun _ _ => 0) (0 + 1) 0 0 0 90 20 10 (upI (fun _ => 0) 0 (1 + pz8)) (fun _ => 0) (fun _ => 0) (fun _ => false) (fun _ => i0R) (fun _ => l0R) (fun _ => 0, fun _ => 0, fun _ => 0, 0, 0))) hD) q h) (fun q h => inW_suba (D_R (E := [(q5, arI cs 2 (fun _ => 0)), (q6, arI cs 6 (fun _ => 0)), (q4, arI cs 3 (upI (upI (fun _ => 0) 0 (1 + pz8)) 1 (1 + pz11)))]) (Wc := (OW cs oa (fun _ _ => 0) (fun _ _ => 0) (0 + 1) 0 0 0 90 20 10 (upI (fun _ => 0) 0 (1 + pz8)) (fun _ => 0) (fun _ => 0) (fun _ => false) (fun _ => i0R) (fun _ => l0R) (fun _ => 0, fun _ => 0, fun _ => 0, 0, 0))) hD) q h) (fun r u t H locs ht hvm hw hB hz1 hk1 hS => ?_)
  subst hw
  rw [ht] at hB
  obtain ⟨hP, hD⟩ := my_joinE (E := [(q5, arI cs 2 (fun _ => 0)), (q6, arI cs 6 (fun _ => 0)), (q4, arI cs 3 (upI (upI (fun _ => 0) 0 (1 + pz8)) 1 (1 + pz11)))]) (Wc := (OW cs oa (fun _ _ => 0) (fun _ _ => 0) (0 + 1) 0 0 0 90 20 10 (upI (fun _ => 0) 0 (1 + pz8)) (fun _ => 0) (fun _ => 0) (fun _ => false) (fun _ => i0R) (fun _ => l0R) (fun _ => 0, fun _ => 0, fun _ => 0, 0, 0))) (W2 := (OW cs oa (fun _ _ => 0) (fun _ _ => 0) ((0 + 1) + 1) 0 0 0 90 20 10 (upI (upI (fun _ => 0) 0 (1 + pz8)) (0 + 1) (1 + pz11)) (fun _ => 0) (fun _ => 0) (fun _ => false) (fun _ => i0R) (fun _ => l0R) (fun _ => 0, fun _ => 0, fun _ => 0, 0, 0))) hP hD OW_fst hk1 hB
  have hP : va_P D vwCl ([(q5, arI cs 2 (fun _ => 0)), (q6, arI cs 6 (fun _ => 0)), (q4, arI cs 3 (upI (upI (fun _ => 0) 0 (1 + pz8)) 1 (1 + pz11)))] ++ (OW cs oa (fun _ _ => 0) (fun _ _ => 0) ((0 + 1) + 1) 0 0 0 90 20 10 (upI (upI (fun _ => 0) 0 (1 + pz8)) (0 + 1) (1 + pz11)) (fun _ => 0) (fun _ => 0) (fun _ => false) (fun _ => i0R) (fun _ => l0R) (fun _ => 0, fun _ => 0, fun _ => 0, 0, 0))) H := hP
  have hD : va_D A ([(q5, arI cs 2 (fun _ => 0)), (q6, arI cs 6 (fun _ => 0)), (q4, arI cs 3 (upI (upI (fun _ => 0) 0 (1 + pz8)) 1 (1 + pz11)))] ++ (OW cs oa (fun _ _ => 0) (fun _ _ => 0) ((0 + 1) + 1) 0 0 0 90 20 10 (upI (upI (fun _ => 0) 0 (1 + pz8)) (0 + 1) (1 + pz11)) (fun _ => 0) (fun _ => 0) (fun _ => false) (fun _ => i0R) (fun _ => l0R) (fun _ => 0, fun _ => 0, fun _ => 0, 0, 0))) := hD
  have hI2 := PI_shop hI1 (z := 1 + pz11) (by omega) (by omega)
  refine lv_iload hx hb dL_law_63 (lv_at hl 0 rfl) ?_
  refine my_icmp_ne (tgt := 72) hx hb (by omega) dL_law_65 (by decide) (fun bh12 => (by omega : False).elim) (fun bh12 => ?_)
  refine lv_iconst (v := iI (1)) hx hb dL_law_68 rfl ?_
  refine lv_goto (tgt := 73) hx hb dL_law_69 (by decide) ?_
  refine my_iand11 hx hb dL_law_73 ?_
  refine lv_istore (lv' := [(5, .int (iI (1))), (9, .int (iI (1))), (8, .int (iI (1))), (6, .long (lI (0))), (4, .ref q6), (3, .ref q5), (2, .ref q4), (1, .ref (oa 0)), (0, .ref b)]) hx hb dL_law_74 hl (by decide) rfl (fun ls hl => ?_)
  refine lv_iinc (v := iI (2)) (lv' := [(8, .int (iI (2))), (5, .int (iI (1))), (9, .int (iI (1))), (6, .long (lI (0))), (4, .ref q6), (3, .ref q5), (2, .ref q4), (1, .ref (oa 0)), (0, .ref b)]) hx hb dL_law_76 hl (k := 2) rfl (by rw [show (2 : Int) = 1 + 1 from rfl]; exact iI_add _ _) (by decide) rfl (fun ls hl => ?_)
  refine lv_iinc (v := iI (2)) (lv' := [(9, .int (iI (2))), (8, .int (iI (2))), (5, .int (iI (1))), (6, .long (lI (0))), (4, .ref q6), (3, .ref q5), (2, .ref q4), (1, .ref (oa 0)), (0, .ref b)]) hx hb dL_law_79 hl (k := 2) rfl (by rw [show (2 : Int) = 1 + 1 from rfl]; exact iI_add _ _) (by decide) rfl (fun ls hl => ?_)
  refine lv_goto (tgt := 34) hx hb dL_law_82 (by decide) ?_
  refine lv_iload hx hb dL_law_34 (lv_at hl 0 rfl) ?_
  refine lv_iconst (v := iI (3)) hx hb dL_law_36 rfl ?_
  refine my_icmp_ge (tgt := 85) hx hb (by omega) dL_law_37 (by decide) (fun bh13 => (by omega : False).elim) (fun bh13 => ?_)
  refine lv_aload_n hx hb dL_law_40 rfl (lv_at hl 6 rfl) ?_
  refine lv_iload hx hb dL_law_41 (lv_at hl 0 rfl) ?_
  refine lv_iconst (v := iI (1)) hx hb dL_law_43 rfl ?_
  refine lv_aload_n hx hb dL_law_44 rfl (lv_at hl 8 rfl) ?_
  refine lv_iload hx hb dL_law_45 (lv_at hl 1 rfl) ?_
  refine lv_iconst (v := iI (5)) hx hb dL_law_47 rfl ?_
  refine my_cv1 (z := ((2 : Nat) : Int)) (rfl) ?_
  refine va_calli (va_runS (As := [.ref b, .int (iI (((2 : Nat) : Int))), .int (iI (5))]) (rest := [.int (iI (1)), .int (iI (2)), .ref q4]) ⟨hx, hb, hml, hown, hts⟩ (m_L_pick l b L xs 2 5 (by omega) (by omega) hL) (va_cwS 3 hts (gS w_128 w_129 w_0 w_130) rfl rfl rfl (by decide +kernel) ⟨Nat.le_of_ble_eq_true rfl, Nat.le_of_ble_eq_true rfl⟩) (PX_S (va_X.kept hX (hS.2.1 b hbl hbA))) rfl rfl hl.1 rfl (lv_room (Nat.le_of_ble_eq_true rfl)) dL_law_48 ⟨Nat.le_of_ble_eq_true rfl, Nat.le_of_ble_eq_true rfl⟩) hS (fun _ _ h => False.elim h) (fun _ h => False.elim h) (fun r pz14 t H locs ht hvm hw hB hz1 hk1 hS => ?_)
  obtain ⟨hw, hpz14⟩ := hw
  subst hw
  have hP := P_kept hP hk1
  refine my_iadd (z := 1 + pz14) hx hb dL_law_51 (rfl) ?_
  refine my_iast hx hb hK hP hD hS 2 rfl (by omega) (k := 2) (rfl) dL_law_52 (fun H locs hP hD hS => ?_)
  have hP : va_P D vwCl ([(q5, arI cs 2 (fun _ => 0)), (q6, arI cs 6 (fun _ => 0)), (q4, arI cs 3 (upI (upI (upI (fun _ => 0) 0 (1 + pz8)) 1 (1 + pz11)) 2 (1 + pz14)))] ++ (OW cs oa (fun _ _ => 0) (fun _ _ => 0) ((0 + 1) + 1) 0 0 0 90 20 10 (upI (upI (fun _ => 0) 0 (1 + pz8)) (0 + 1) (1 + pz11)) (fun _ => 0) (fun _ => 0) (fun _ => false) (fun _ => i0R) (fun _ => l0R) (fun _ => 0, fun _ => 0, fun _ => 0, 0, 0))) H := hP
  have hD : va_D A ([(q5, arI cs 2 (fun _ => 0)), (q6, arI cs 6 (fun _ => 0)), (q4, arI cs 3 (upI (upI (upI (fun _ => 0) 0 (1 + pz8)) 1 (1 + pz11)) 2 (1 + pz14)))] ++ (OW cs oa (fun _ _ => 0) (fun _ _ => 0) ((0 + 1) + 1) 0 0 0 90 20 10 (upI (upI (fun _ => 0) 0 (1 + pz8)) (0 + 1) (1 + pz11)) (fun _ => 0) (fun _ => 0) (fun _ => false) (fun _ => i0R) (fun _ => l0R) (fun _ => 0, fun _ => 0, fun _ => 0, 0, 0))) := hD
  refine lv_iload hx hb dL_law_53 (lv_at hl 2 rfl) ?_
  refine lv_aload_n hx hb dL_law_55 rfl (lv_at hl 7 rfl) ?_
  refine lv_aload_n hx hb dL_law_56 rfl (lv_at hl 6 rfl) ?_
  refine lv_iload hx hb dL_law_57 (lv_at hl 0 rfl) ?_
  refine my_iald hx hb hK hP 2 rfl (by omega) (k := 2) (rfl) dL_law_59 ?_
  refine my_cv0 (z := 1 + pz14) (upI_same) ?_
  refine va_calli (vx_runSW (As := [.ref (oa 0), .int (iI (1 + pz14))]) (rest := [.int (iI (1))]) ⟨hx, hb, hml, hown, hts⟩ (m_L_addShop_R l hst D cs oa (fun _ _ => 0) (fun _ _ => 0) ((0 + 1) + 1) 0 0 0 90 20 10 (upI (upI (fun _ => 0) 0 (1 + pz8)) (0 + 1) (1 + pz11)) (fun _ => 0) (fun _ => 0) (fun _ => false) (fun _ => i0R) (fun _ => l0R) (fun _ => 0, fun _ => 0, fun _ => 0, 0, 0) (1 + pz14) (hI2) (by omega) (by rw [if_neg (by omega), if_neg (by omega)])) (vx_cwSW 2 hts (gS w_135 w_136 w_0 w_137) rfl rfl rfl (by decide +kernel) ⟨Nat.le_of_ble_eq_true rfl, Nat.le_of_ble_eq_true rfl⟩) (PE_Sa hK hN hE hS (fun q h => inW_suba (D_R (E := [(q5, arI cs 2 (fun _ => 0)), (q6, arI cs 6 (fun _ => 0)), (q4, arI cs 3 (upI (upI (upI (fun _ => 0) 0 (1 + pz8)) 1 (1 + pz11)) 2 (1 + pz14)))]) (Wc := (OW cs oa (fun _ _ => 0) (fun _ _ => 0) ((0 + 1) + 1) 0 0 0 90 20 10 (upI (upI (fun _ => 0) 0 (1 + pz8)) (0 + 1) (1 + pz11)) (fun _ => 0) (fun _ => 0) (fun _ => false) (fun _ => i0R) (fun _ => l0R) (fun _ => 0, fun _ => 0, fun _ => 0, 0, 0))) hD) q h) (P_R (E := [(q5, arI cs 2 (fun _ => 0)), (q6, arI cs 6 (fun _ => 0)), (q4, arI cs 3 (upI (upI (upI (fun _ => 0) 0 (1 + pz8)) 1 (1 + pz11)) 2 (1 + pz14)))]) (Wc := (OW cs oa (fun _ _ => 0) (fun _ _ => 0) ((0 + 1) + 1) 0 0 0 90 20 10 (upI (upI (fun _ => 0) 0 (1 + pz8)) (0 + 1) (1 + pz11)) (fun _ => 0) (fun _ => 0) (fun _ => false) (fun _ => i0R) (fun _ => l0R) (fun _ => 0, fun _ => 0, fun _ => 0, 0, 0))) hP) (D_R (E := [(q5, arI cs 2 (fun _ => 0)), (q6, arI cs 6 (fun _ => 0)), (q4, arI cs 3 (upI (upI (upI (fun _ => 0) 0 (1 + pz8)) 1 (1 + pz11)) 2 (1 + pz14)))]) (Wc := (OW cs oa (fun _ _ => 0) (fun _ _ => 0) ((0 + 1) + 1) 0 0 0 90 20 10 (upI (upI (fun _ => 0) 0 (1 + pz8)) (0 + 1) (1 + pz11)) (fun _ => 0) (fun _ => 0) (fun _ => false) (fun _ => i0R) (fun _ => l0R) (fun _ => 0, fun _ => 0, fun _ => 0, 0, 0))) hD)) rfl rfl hl.1 rfl (lv_room (Nat.le_of_ble_eq_true rfl)) dL_law_60 ⟨Nat.le_of_ble_eq_true rfl, Nat.le_of_ble_eq_true rfl⟩) hS (fun q _ h => inW_suba (D_R (E := [(q5, arI cs 2 (fun _ => 0)), (q6, arI cs 6 (fun _ => 0)), (q4, arI cs 3 (upI (upI (upI (fun _ => 0) 0 (1 + pz8)) 1 (1 + pz11)) 2 (1 + pz14)))]) (Wc := (OW cs oa (fun _ _ => 0) (fun _ _ => 0) ((0 + 1) + 1) 0 0 0 90 20 10 (upI (upI (fun _ => 0) 0 (1 + pz8)) (0 + 1) (1 + pz11)) (fun _ => 0) (fun _ => 0) (fun _ => false) (fun _ => i0R) (fun _ => l0R) (fun _ => 0, fun _ => 0, fun _ => 0, 0, 0))) hD) q h) (fun q h => inW_suba (D_R (E := [(q5, arI cs 2 (fun _ => 0)), (q6, arI cs 6 (fun _ => 0)), (q4, arI cs 3 (upI (upI (upI (fun _ => 0) 0 (1 + pz8)) 1 (1 + pz11)) 2 (1 + pz14)))]) (Wc := (OW cs oa (fun _ _ => 0) (fun _ _ => 0) ((0 + 1) + 1) 0 0 0 90 20 10 (upI (upI (fun _ => 0) 0 (1 + pz8)) (0 + 1) (1 + pz11)) (fun _ => 0) (fun _ => 0) (fun _ => false) (fun _ => i0R) (fun _ => l0R) (fun _ => 0, fun _ => 0, fun _ => 0, 0, 0))) hD) q h) (fun r u t H locs ht hvm hw hB hz1 hk1 hS => ?_)
  subst hw
  rw [ht] at hB
  obtain ⟨hP, hD⟩ := my_joinE (E := [(q5, arI cs 2 (fun _ => 0)), (q6, arI cs 6 (fun _ => 0)), (q4, arI cs 3 (upI (upI (upI (fun _ => 0) 0 (1 + pz8)) 1 (1 + pz11)) 2 (1 + pz14)))]) (Wc := (OW cs oa (fun _ _ => 0) (fun _ _ => 0) ((0 + 1) + 1) 0 0 0 90 20 10 (upI (upI (fun _ => 0) 0 (1 + pz8)) (0 + 1) (1 + pz11)) (fun _ => 0) (fun _ => 0) (fun _ => false) (fun _ => i0R) (fun _ => l0R) (fun _ => 0, fun _ => 0, fun _ => 0, 0, 0))) (W2 := (OW cs oa (fun _ _ => 0) (fun _ _ => 0) (((0 + 1) + 1) + 1) 0 0 0 90 20 10 (upI (upI (upI (fun _ => 0) 0 (1 + pz8)) (0 + 1) (1 + pz11)) ((0 + 1) + 1) (1 + pz14)) (fun _ => 0) (fun _ => 0) (fun _ => false) (fun _ => i0R) (fun _ => l0R) (fun _ => 0, fun _ => 0, fun _ => 0, 0, 0))) hP hD OW_fst hk1 hB
  have hP : va_P D vwCl ([(q5, arI cs 2 (fun _ => 0)), (q6, arI cs 6 (fun _ => 0)), (q4, arI cs 3 (upI (upI (upI (fun _ => 0) 0 (1 + pz8)) 1 (1 + pz11)) 2 (1 + pz14)))] ++ (OW cs oa (fun _ _ => 0) (fun _ _ => 0) (((0 + 1) + 1) + 1) 0 0 0 90 20 10 (upI (upI (upI (fun _ => 0) 0 (1 + pz8)) (0 + 1) (1 + pz11)) ((0 + 1) + 1) (1 + pz14)) (fun _ => 0) (fun _ => 0) (fun _ => false) (fun _ => i0R) (fun _ => l0R) (fun _ => 0, fun _ => 0, fun _ => 0, 0, 0))) H := hP
  have hD : va_D A ([(q5, arI cs 2 (fun _ => 0)), (q6, arI cs 6 (fun _ => 0)), (q4, arI cs 3 (upI (upI (upI (fun _ => 0) 0 (1 + pz8)) 1 (1 + pz11)) 2 (1 + pz14)))] ++ (OW cs oa (fun _ _ => 0) (fun _ _ => 0) (((0 + 1) + 1) + 1) 0 0 0 90 20 10 (upI (upI (upI (fun _ => 0) 0 (1 + pz8)) (0 + 1) (1 + pz11)) ((0 + 1) + 1) (1 + pz14)) (fun _ => 0) (fun _ => 0) (fun _ => false) (fun _ => i0R) (fun _ => l0R) (fun _ => 0, fun _ => 0, fun _ => 0, 0, 0))) := hD
  have hI3 := PI_shop hI2 (z := 1 + pz14) (by omega) (by omega)
  refine lv_iload hx hb dL_law_63 (lv_at hl 0 rfl) ?_
  refine my_icmp_ne (tgt := 72) hx hb (by omega) dL_law_65 (by decide) (fun bh15 => (by omega : False).elim) (fun bh15 => ?_)
  refine lv_iconst (v := iI (1)) hx hb dL_law_68 rfl ?_
  refine lv_goto (tgt := 73) hx hb dL_law_69 (by decide) ?_
  refine my_iand11 hx hb dL_law_73 ?_
  refine lv_istore (lv' := [(5, .int (iI (1))), (9, .int (iI (2))), (8, .int (iI (2))), (6, .long (lI (0))), (4, .ref q6), (3, .ref q5), (2, .ref q4), (1, .ref (oa 0)), (0, .ref b)]) hx hb dL_law_74 hl (by decide) rfl (fun ls hl => ?_)
  refine lv_iinc (v := iI (3)) (lv' := [(8, .int (iI (3))), (5, .int (iI (1))), (9, .int (iI (2))), (6, .long (lI (0))), (4, .ref q6), (3, .ref q5), (2, .ref q4), (1, .ref (oa 0)), (0, .ref b)]) hx hb dL_law_76 hl (k := 2) rfl (by rw [show (3 : Int) = 2 + 1 from rfl]; exact iI_add _ _) (by decide) rfl (fun ls hl => ?_)
  refine lv_iinc (v := iI (3)) (lv' := [(9, .int (iI (3))), (8, .int (iI (3))), (5, .int (iI (1))), (6, .long (lI (0))), (4, .ref q6), (3, .ref q5), (2, .ref q4), (1, .ref (oa 0)), (0, .ref b)]) hx hb dL_law_79 hl (k := 2) rfl (by rw [show (3 : Int) = 2 + 1 from rfl]; exact iI_add _ _) (by decide) rfl (fun ls hl => ?_)
  refine lv_goto (tgt := 34) hx hb dL_law_82 (by decide) ?_
  refine lv_iload hx hb dL_law_34 (lv_at hl 0 rfl) ?_
  refine lv_iconst (v := iI (3)) hx hb dL_law_36 rfl ?_
  refine my_icmp_ge (tgt := 85) hx hb (by omega) dL_law_37 (by decide) (fun bh16 => ?_) (fun bh16 => (by omega : False).elim)
  refine lv_iconst (v := iI (0)) hx hb dL_law_85 rfl ?_
  refine lv_istore (lv' := [(9, .int (iI (0))), (8, .int (iI (3))), (5, .int (iI (1))), (6, .long (lI (0))), (4, .ref q6), (3, .ref q5), (2, .ref q4), (1, .ref (oa 0)), (0, .ref b)]) hx hb dL_law_86 hl (by decide) rfl (fun ls hl => ?_)
  refine lv_iload hx hb dL_law_88 (lv_at hl 0 rfl) ?_
  refine lv_iconst (v := iI (2)) hx hb dL_law_90 rfl ?_
  refine my_icmp_ge (tgt := 163) hx hb (by omega) dL_law_91 (by decide) (fun bh17 => (by omega : False).elim) (fun bh17 => ?_)
  refine lv_aload_n hx hb dL_law_94 rfl (lv_at hl 5 rfl) ?_
  refine lv_iload hx hb dL_law_95 (lv_at hl 0 rfl) ?_
  refine lv_iconst (v := iI (1)) hx hb dL_law_97 rfl ?_
  refine lv_aload_n hx hb dL_law_98 rfl (lv_at hl 8 rfl) ?_
  refine lv_iload hx hb dL_law_99 (lv_at hl 1 rfl) ?_
  refine lv_bipush (v := iI (9)) hx hb dL_law_101 (by decide) ?_
  refine my_cv1 (z := ((3 : Nat) : Int)) (rfl) ?_
  refine va_calli (va_runS (As := [.ref b, .int (iI (((3 : Nat) : Int))), .int (iI (9))]) (rest := [.int (iI (1)), .int (iI (0)), .ref q5]) ⟨hx, hb, hml, hown, hts⟩ (m_L_pick l b L xs 3 9 (by omega) (by omega) hL) (va_cwS 3 hts (gS w_128 w_129 w_0 w_130) rfl rfl rfl (by decide +kernel) ⟨Nat.le_of_ble_eq_true rfl, Nat.le_of_ble_eq_true rfl⟩) (PX_S (va_X.kept hX (hS.2.1 b hbl hbA))) rfl rfl hl.1 rfl (lv_room (Nat.le_of_ble_eq_true rfl)) dL_law_103 ⟨Nat.le_of_ble_eq_true rfl, Nat.le_of_ble_eq_true rfl⟩) hS (fun _ _ h => False.elim h) (fun _ h => False.elim h) (fun r pz18 t H locs ht hvm hw hB hz1 hk1 hS => ?_)
  obtain ⟨hw, hpz18⟩ := hw
  subst hw
  have hP := P_kept hP hk1
  refine my_iadd (z := 1 + pz18) hx hb dL_law_106 (rfl) ?_
  refine my_iast hx hb hK hP hD hS 0 rfl (by omega) (k := 0) (rfl) dL_law_107 (fun H locs hP hD hS => ?_)
  have hP : va_P D vwCl ([(q5, arI cs 2 (upI (fun _ => 0) 0 (1 + pz18))), (q6, arI cs 6 (fun _ => 0)), (q4, arI cs 3 (upI (upI (upI (fun _ => 0) 0 (1 + pz8)) 1 (1 + pz11)) 2 (1 + pz14)))] ++ (OW cs oa (fun _ _ => 0) (fun _ _ => 0) (((0 + 1) + 1) + 1) 0 0 0 90 20 10 (upI (upI (upI (fun _ => 0) 0 (1 + pz8)) (0 + 1) (1 + pz11)) ((0 + 1) + 1) (1 + pz14)) (fun _ => 0) (fun _ => 0) (fun _ => false) (fun _ => i0R) (fun _ => l0R) (fun _ => 0, fun _ => 0, fun _ => 0, 0, 0))) H := hP
  have hD : va_D A ([(q5, arI cs 2 (upI (fun _ => 0) 0 (1 + pz18))), (q6, arI cs 6 (fun _ => 0)), (q4, arI cs 3 (upI (upI (upI (fun _ => 0) 0 (1 + pz8)) 1 (1 + pz11)) 2 (1 + pz14)))] ++ (OW cs oa (fun _ _ => 0) (fun _ _ => 0) (((0 + 1) + 1) + 1) 0 0 0 90 20 10 (upI (upI (upI (fun _ => 0) 0 (1 + pz8)) (0 + 1) (1 + pz11)) ((0 + 1) + 1) (1 + pz14)) (fun _ => 0) (fun _ => 0) (fun _ => false) (fun _ => i0R) (fun _ => l0R) (fun _ => 0, fun _ => 0, fun _ => 0, 0, 0))) := hD
  refine lv_aload_n hx hb dL_law_108 rfl (lv_at hl 8 rfl) ?_
  refine lv_iload hx hb dL_law_109 (lv_at hl 1 rfl) ?_
  refine lv_iconst (v := iI (1)) hx hb dL_law_111 rfl ?_
  refine my_iadd (z := 4) hx hb dL_law_112 (rfl) ?_
  refine lv_sipush (v := iI (200)) hx hb dL_law_113 (by decide) ?_
  refine my_cv1 (z := ((4 : Nat) : Int)) (rfl) ?_
  refine va_calli (va_runS (As := [.ref b, .int (iI (((4 : Nat) : Int))), .int (iI (200))]) (rest := []) ⟨hx, hb, hml, hown, hts⟩ (m_L_pick l b L xs 4 200 (by omega) (by omega) hL) (va_cwS 3 hts (gS w_128 w_129 w_0 w_130) rfl rfl rfl (by decide +kernel) ⟨Nat.le_of_ble_eq_true rfl, Nat.le_of_ble_eq_true rfl⟩) (PX_S (va_X.kept hX (hS.2.1 b hbl hbA))) rfl rfl hl.1 rfl (lv_room (Nat.le_of_ble_eq_true rfl)) dL_law_116 ⟨Nat.le_of_ble_eq_true rfl, Nat.le_of_ble_eq_true rfl⟩) hS (fun _ _ h => False.elim h) (fun _ h => False.elim h) (fun r pz19 t H locs ht hvm hw hB hz1 hk1 hS => ?_)
  obtain ⟨hw, hpz19⟩ := hw
  subst hw
  have hP := P_kept hP hk1
  refine lv_istore (lv' := [(10, .int (iI (pz19))), (9, .int (iI (0))), (8, .int (iI (3))), (5, .int (iI (1))), (6, .long (lI (0))), (4, .ref q6), (3, .ref q5), (2, .ref q4), (1, .ref (oa 0)), (0, .ref b)]) hx hb dL_law_119 hl (by decide) rfl (fun ls hl => ?_)
  refine lv_lload hx hb dL_law_121 (lv_at hl 4 rfl) ?_
  refine lv_iload hx hb dL_law_123 (lv_at hl 0 rfl) ?_
  refine my_i2l hx hb dL_law_125 (by omega) ?_
  refine my_ladd (z := pz19) hx hb dL_law_126 (by omega) ?_
  refine lv_lstore (lv' := [(6, .long (lI (pz19))), (10, .int (iI (pz19))), (9, .int (iI (0))), (8, .int (iI (3))), (5, .int (iI (1))), (4, .ref q6), (3, .ref q5), (2, .ref q4), (1, .ref (oa 0)), (0, .ref b)]) hx hb dL_law_127 hl (by decide) rfl (fun ls hl => ?_)
  refine lv_iload hx hb dL_law_129 (lv_at hl 4 rfl) ?_
  refine lv_aload_n hx hb dL_law_131 rfl (lv_at hl 8 rfl) ?_
  refine lv_aload_n hx hb dL_law_132 rfl (lv_at hl 6 rfl) ?_
  refine lv_iload hx hb dL_law_133 (lv_at hl 2 rfl) ?_
  refine my_iald hx hb hK hP 0 rfl (by omega) (k := 0) (rfl) dL_law_135 ?_
  refine my_cv0 (z := 1 + pz18) (upI_same) ?_
  refine lv_iload hx hb dL_law_136 (lv_at hl 1 rfl) ?_
  have hFA := fA_suba (D_R (E := [(q5, arI cs 2 (upI (fun _ => 0) 0 (1 + pz18))), (q6, arI cs 6 (fun _ => 0)), (q4, arI cs 3 (upI (upI (upI (fun _ => 0) 0 (1 + pz8)) 1 (1 + pz11)) 2 (1 + pz14)))]) (Wc := (OW cs oa (fun _ _ => 0) (fun _ _ => 0) (((0 + 1) + 1) + 1) 0 0 0 90 20 10 (upI (upI (upI (fun _ => 0) 0 (1 + pz8)) (0 + 1) (1 + pz11)) ((0 + 1) + 1) (1 + pz14)) (fun _ => 0) (fun _ => 0) (fun _ => false) (fun _ => i0R) (fun _ => l0R) (fun _ => 0, fun _ => 0, fun _ => 0, 0, 0))) hD) hS hA
  refine va_calli (vx_runSW (As := [.ref (oa 0), .int (iI (1 + pz18)), .int (iI (pz19))]) (rest := [.int (iI (1))]) ⟨hx, hb, hml, hown, hts⟩ (m_L_addItem_R l hst D cs oa (fun _ _ => 0) (fun _ _ => 0) (((0 + 1) + 1) + 1) 0 0 0 90 20 10 (upI (upI (upI (fun _ => 0) 0 (1 + pz8)) (0 + 1) (1 + pz11)) ((0 + 1) + 1) (1 + pz14)) (fun _ => 0) (fun _ => 0) (fun _ => false) (fun _ => i0R) (fun _ => l0R) (fun _ => 0, fun _ => 0, fun _ => 0, 0, 0) (1 + pz18) pz19 _ (hI3) (by omega) (by omega) (by omega)) (vx_cwSW 3 hts (gS w_230 w_231 w_0 w_232) rfl rfl rfl (by decide +kernel) ⟨Nat.le_of_ble_eq_true rfl, Nat.le_of_ble_eq_true rfl⟩) (PAE_Sa hK hN hE hS hFA (P_R (E := [(q5, arI cs 2 (upI (fun _ => 0) 0 (1 + pz18))), (q6, arI cs 6 (fun _ => 0)), (q4, arI cs 3 (upI (upI (upI (fun _ => 0) 0 (1 + pz8)) 1 (1 + pz11)) 2 (1 + pz14)))]) (Wc := (OW cs oa (fun _ _ => 0) (fun _ _ => 0) (((0 + 1) + 1) + 1) 0 0 0 90 20 10 (upI (upI (upI (fun _ => 0) 0 (1 + pz8)) (0 + 1) (1 + pz11)) ((0 + 1) + 1) (1 + pz14)) (fun _ => 0) (fun _ => 0) (fun _ => false) (fun _ => i0R) (fun _ => l0R) (fun _ => 0, fun _ => 0, fun _ => 0, 0, 0))) hP) (D_R (E := [(q5, arI cs 2 (upI (fun _ => 0) 0 (1 + pz18))), (q6, arI cs 6 (fun _ => 0)), (q4, arI cs 3 (upI (upI (upI (fun _ => 0) 0 (1 + pz8)) 1 (1 + pz11)) 2 (1 + pz14)))]) (Wc := (OW cs oa (fun _ _ => 0) (fun _ _ => 0) (((0 + 1) + 1) + 1) 0 0 0 90 20 10 (upI (upI (upI (fun _ => 0) 0 (1 + pz8)) (0 + 1) (1 + pz11)) ((0 + 1) + 1) (1 + pz14)) (fun _ => 0) (fun _ => 0) (fun _ => false) (fun _ => i0R) (fun _ => l0R) (fun _ => 0, fun _ => 0, fun _ => 0, 0, 0))) hD)) rfl rfl hl.1 rfl (lv_room (Nat.le_of_ble_eq_true rfl)) dL_law_138 ⟨Nat.le_of_ble_eq_true rfl, Nat.le_of_ble_eq_true rfl⟩) hS (fun q _ h => hFA q h) hFA (fun r nu20 t H1 locs ht hvm hw hB hz1 hk1 hS => ?_)
  subst hw
  rw [ht] at hB
  obtain ⟨hP, hD⟩ := my_joinAE (E := [(q5, arI cs 2 (upI (fun _ => 0) 0 (1 + pz18))), (q6, arI cs 6 (fun _ => 0)), (q4, arI cs 3 (upI (upI (upI (fun _ => 0) 0 (1 + pz8)) 1 (1 + pz11)) 2 (1 + pz14)))]) (Wc := (OW cs oa (fun _ _ => 0) (fun _ _ => 0) (((0 + 1) + 1) + 1) 0 0 0 90 20 10 (upI (upI (upI (fun _ => 0) 0 (1 + pz8)) (0 + 1) (1 + pz11)) ((0 + 1) + 1) (1 + pz14)) (fun _ => 0) (fun _ => 0) (fun _ => false) (fun _ => i0R) (fun _ => l0R) (fun _ => 0, fun _ => 0, fun _ => 0, 0, 0))) (W2 := (OW cs oa (upR (fun _ _ => 0) 0 nu20) (fun _ _ => 0) (((0 + 1) + 1) + 1) (0 + 1) 0 0 90 20 10 (upI (upI (upI (fun _ => 0) 0 (1 + pz8)) (0 + 1) (1 + pz11)) ((0 + 1) + 1) (1 + pz14)) (fun _ => 0) (fun _ => 0) (fun _ => false) (upR (fun _ => i0R) 0 (imk (1 + pz18) pz19 pz19 (fun _ => 0) (fun _ => 0) (fun _ => 0))) (fun _ => l0R) (fun _ => 0, fun _ => 0, fun _ => 0, 0, 0))) hP hD hk1 hB hFA
  generalize H1 = H at hP hS ⊢
  have hP : va_P D vwCl ([(q5, arI cs 2 (upI (fun _ => 0) 0 (1 + pz18))), (q6, arI cs 6 (fun _ => 0)), (q4, arI cs 3 (upI (upI (upI (fun _ => 0) 0 (1 + pz8)) 1 (1 + pz11)) 2 (1 + pz14)))] ++ (OW cs oa (upR (fun _ _ => 0) 0 nu20) (fun _ _ => 0) (((0 + 1) + 1) + 1) (0 + 1) 0 0 90 20 10 (upI (upI (upI (fun _ => 0) 0 (1 + pz8)) (0 + 1) (1 + pz11)) ((0 + 1) + 1) (1 + pz14)) (fun _ => 0) (fun _ => 0) (fun _ => false) (upR (fun _ => i0R) 0 (imk (1 + pz18) pz19 pz19 (fun _ => 0) (fun _ => 0) (fun _ => 0))) (fun _ => l0R) (fun _ => 0, fun _ => 0, fun _ => 0, 0, 0))) H := hP
  have hD : va_D A ([(q5, arI cs 2 (upI (fun _ => 0) 0 (1 + pz18))), (q6, arI cs 6 (fun _ => 0)), (q4, arI cs 3 (upI (upI (upI (fun _ => 0) 0 (1 + pz8)) 1 (1 + pz11)) 2 (1 + pz14)))] ++ (OW cs oa (upR (fun _ _ => 0) 0 nu20) (fun _ _ => 0) (((0 + 1) + 1) + 1) (0 + 1) 0 0 90 20 10 (upI (upI (upI (fun _ => 0) 0 (1 + pz8)) (0 + 1) (1 + pz11)) ((0 + 1) + 1) (1 + pz14)) (fun _ => 0) (fun _ => 0) (fun _ => false) (upR (fun _ => i0R) 0 (imk (1 + pz18) pz19 pz19 (fun _ => 0) (fun _ => 0) (fun _ => 0))) (fun _ => l0R) (fun _ => 0, fun _ => 0, fun _ => 0, 0, 0))) := hD
  have hI4 := PI_item hI3 (p := 1 + pz18) (k := pz19) (by omega) (by omega) (by omega)
  refine lv_iload hx hb dL_law_141 (lv_at hl 2 rfl) ?_
  refine my_icmp_ne (tgt := 150) hx hb (by omega) dL_law_143 (by decide) (fun bh21 => (by omega : False).elim) (fun bh21 => ?_)
  refine lv_iconst (v := iI (1)) hx hb dL_law_146 rfl ?_
  refine lv_goto (tgt := 151) hx hb dL_law_147 (by decide) ?_
  refine my_iand11 hx hb dL_law_151 ?_
  refine lv_istore (lv' := [(5, .int (iI (1))), (6, .long (lI (pz19))), (10, .int (iI (pz19))), (9, .int (iI (0))), (8, .int (iI (3))), (4, .ref q6), (3, .ref q5), (2, .ref q4), (1, .ref (oa 0)), (0, .ref b)]) hx hb dL_law_152 hl (by decide) rfl (fun ls hl => ?_)
  refine lv_iinc (v := iI (5)) (lv' := [(8, .int (iI (5))), (5, .int (iI (1))), (6, .long (lI (pz19))), (10, .int (iI (pz19))), (9, .int (iI (0))), (4, .ref q6), (3, .ref q5), (2, .ref q4), (1, .ref (oa 0)), (0, .ref b)]) hx hb dL_law_154 hl (k := 4) rfl (by rw [show (5 : Int) = 3 + 2 from rfl]; exact iI_add _ _) (by decide) rfl (fun ls hl => ?_)
  refine lv_iinc (v := iI (1)) (lv' := [(9, .int (iI (1))), (8, .int (iI (5))), (5, .int (iI (1))), (6, .long (lI (pz19))), (10, .int (iI (pz19))), (4, .ref q6), (3, .ref q5), (2, .ref q4), (1, .ref (oa 0)), (0, .ref b)]) hx hb dL_law_157 hl (k := 4) rfl (by rw [show (1 : Int) = 0 + 1 from by omega]; exact iI_add _ _) (by decide) rfl (fun ls hl => ?_)
  refine lv_goto (tgt := 88) hx hb dL_law_160 (by decide) ?_
  refine lv_iload hx hb dL_law_88 (lv_at hl 0 rfl) ?_
  refine lv_iconst (v := iI (2)) hx hb dL_law_90 rfl ?_
  refine my_icmp_ge (tgt := 163) hx hb (by omega) dL_law_91 (by decide) (fun bh22 => (by omega : False).elim) (fun bh22 => ?_)
  refine lv_aload_n hx hb dL_law_94 rfl (lv_at hl 6 rfl) ?_
  refine lv_iload hx hb dL_law_95 (lv_at hl 0 rfl) ?_
  refine lv_iconst (v := iI (1)) hx hb dL_law_97 rfl ?_
  refine lv_aload_n hx hb dL_law_98 rfl (lv_at hl 9 rfl) ?_
  refine lv_iload hx hb dL_law_99 (lv_at hl 1 rfl) ?_
  refine lv_bipush (v := iI (9)) hx hb dL_law_101 (by decide) ?_
  refine my_cv1 (z := ((5 : Nat) : Int)) (rfl) ?_
  refine va_calli (va_runS (As := [.ref b, .int (iI (((5 : Nat) : Int))), .int (iI (9))]) (rest := [.int (iI (1)), .int (iI (1)), .ref q5]) ⟨hx, hb, hml, hown, hts⟩ (m_L_pick l b L xs 5 9 (by omega) (by omega) hL) (va_cwS 3 hts (gS w_128 w_129 w_0 w_130) rfl rfl rfl (by decide +kernel) ⟨Nat.le_of_ble_eq_true rfl, Nat.le_of_ble_eq_true rfl⟩) (PX_S (va_X.kept hX (hS.2.1 b hbl hbA))) rfl rfl hl.1 rfl (lv_room (Nat.le_of_ble_eq_true rfl)) dL_law_103 ⟨Nat.le_of_ble_eq_true rfl, Nat.le_of_ble_eq_true rfl⟩) hS (fun _ _ h => False.elim h) (fun _ h => False.elim h) (fun r pz23 t H locs ht hvm hw hB hz1 hk1 hS => ?_)
  obtain ⟨hw, hpz23⟩ := hw
  subst hw
  have hP := P_kept hP hk1
  refine my_iadd (z := 1 + pz23) hx hb dL_law_106 (rfl) ?_
  refine my_iast hx hb hK hP hD hS 0 rfl (by omega) (k := 1) (rfl) dL_law_107 (fun H locs hP hD hS => ?_)
  have hP : va_P D vwCl ([(q5, arI cs 2 (upI (upI (fun _ => 0) 0 (1 + pz18)) 1 (1 + pz23))), (q6, arI cs 6 (fun _ => 0)), (q4, arI cs 3 (upI (upI (upI (fun _ => 0) 0 (1 + pz8)) 1 (1 + pz11)) 2 (1 + pz14)))] ++ (OW cs oa (upR (fun _ _ => 0) 0 nu20) (fun _ _ => 0) (((0 + 1) + 1) + 1) (0 + 1) 0 0 90 20 10 (upI (upI (upI (fun _ => 0) 0 (1 + pz8)) (0 + 1) (1 + pz11)) ((0 + 1) + 1) (1 + pz14)) (fun _ => 0) (fun _ => 0) (fun _ => false) (upR (fun _ => i0R) 0 (imk (1 + pz18) pz19 pz19 (fun _ => 0) (fun _ => 0) (fun _ => 0))) (fun _ => l0R) (fun _ => 0, fun _ => 0, fun _ => 0, 0, 0))) H := hP
  have hD : va_D A ([(q5, arI cs 2 (upI (upI (fun _ => 0) 0 (1 + pz18)) 1 (1 + pz23))), (q6, arI cs 6 (fun _ => 0)), (q4, arI cs 3 (upI (upI (upI (fun _ => 0) 0 (1 + pz8)) 1 (1 + pz11)) 2 (1 + pz14)))] ++ (OW cs oa (upR (fun _ _ => 0) 0 nu20) (fun _ _ => 0) (((0 + 1) + 1) + 1) (0 + 1) 0 0 90 20 10 (upI (upI (upI (fun _ => 0) 0 (1 + pz8)) (0 + 1) (1 + pz11)) ((0 + 1) + 1) (1 + pz14)) (fun _ => 0) (fun _ => 0) (fun _ => false) (upR (fun _ => i0R) 0 (imk (1 + pz18) pz19 pz19 (fun _ => 0) (fun _ => 0) (fun _ => 0))) (fun _ => l0R) (fun _ => 0, fun _ => 0, fun _ => 0, 0, 0))) := hD
  refine lv_aload_n hx hb dL_law_108 rfl (lv_at hl 9 rfl) ?_
  refine lv_iload hx hb dL_law_109 (lv_at hl 1 rfl) ?_
  refine lv_iconst (v := iI (1)) hx hb dL_law_111 rfl ?_
  refine my_iadd (z := 6) hx hb dL_law_112 (rfl) ?_
  refine lv_sipush (v := iI (200)) hx hb dL_law_113 (by decide) ?_
  refine my_cv1 (z := ((6 : Nat) : Int)) (rfl) ?_
  refine va_calli (va_runS (As := [.ref b, .int (iI (((6 : Nat) : Int))), .int (iI (200))]) (rest := []) ⟨hx, hb, hml, hown, hts⟩ (m_L_pick l b L xs 6 200 (by omega) (by omega) hL) (va_cwS 3 hts (gS w_128 w_129 w_0 w_130) rfl rfl rfl (by decide +kernel) ⟨Nat.le_of_ble_eq_true rfl, Nat.le_of_ble_eq_true rfl⟩) (PX_S (va_X.kept hX (hS.2.1 b hbl hbA))) rfl rfl hl.1 rfl (lv_room (Nat.le_of_ble_eq_true rfl)) dL_law_116 ⟨Nat.le_of_ble_eq_true rfl, Nat.le_of_ble_eq_true rfl⟩) hS (fun _ _ h => False.elim h) (fun _ h => False.elim h) (fun r pz24 t H locs ht hvm hw hB hz1 hk1 hS => ?_)
  obtain ⟨hw, hpz24⟩ := hw
  subst hw
  have hP := P_kept hP hk1
  refine lv_istore (lv' := [(10, .int (iI (pz24))), (9, .int (iI (1))), (8, .int (iI (5))), (5, .int (iI (1))), (6, .long (lI (pz19))), (4, .ref q6), (3, .ref q5), (2, .ref q4), (1, .ref (oa 0)), (0, .ref b)]) hx hb dL_law_119 hl (by decide) rfl (fun ls hl => ?_)
  refine lv_lload hx hb dL_law_121 (lv_at hl 4 rfl) ?_
  refine lv_iload hx hb dL_law_123 (lv_at hl 0 rfl) ?_
  refine my_i2l hx hb dL_law_125 (by omega) ?_
  refine my_ladd (z := pz19 + pz24) hx hb dL_law_126 (rfl) ?_
  refine lv_lstore (lv' := [(6, .long (lI (pz19 + pz24))), (10, .int (iI (pz24))), (9, .int (iI (1))), (8, .int (iI (5))), (5, .int (iI (1))), (4, .ref q6), (3, .ref q5), (2, .ref q4), (1, .ref (oa 0)), (0, .ref b)]) hx hb dL_law_127 hl (by decide) rfl (fun ls hl => ?_)
  refine lv_iload hx hb dL_law_129 (lv_at hl 4 rfl) ?_
  refine lv_aload_n hx hb dL_law_131 rfl (lv_at hl 8 rfl) ?_
  refine lv_aload_n hx hb dL_law_132 rfl (lv_at hl 6 rfl) ?_
  refine lv_iload hx hb dL_law_133 (lv_at hl 2 rfl) ?_
  refine my_iald hx hb hK hP 0 rfl (by omega) (k := 1) (rfl) dL_law_135 ?_
  refine my_cv0 (z := 1 + pz23) (upI_same) ?_
  refine lv_iload hx hb dL_law_136 (lv_at hl 1 rfl) ?_
  have hFA := fA_suba (D_R (E := [(q5, arI cs 2 (upI (upI (fun _ => 0) 0 (1 + pz18)) 1 (1 + pz23))), (q6, arI cs 6 (fun _ => 0)), (q4, arI cs 3 (upI (upI (upI (fun _ => 0) 0 (1 + pz8)) 1 (1 + pz11)) 2 (1 + pz14)))]) (Wc := (OW cs oa (upR (fun _ _ => 0) 0 nu20) (fun _ _ => 0) (((0 + 1) + 1) + 1) (0 + 1) 0 0 90 20 10 (upI (upI (upI (fun _ => 0) 0 (1 + pz8)) (0 + 1) (1 + pz11)) ((0 + 1) + 1) (1 + pz14)) (fun _ => 0) (fun _ => 0) (fun _ => false) (upR (fun _ => i0R) 0 (imk (1 + pz18) pz19 pz19 (fun _ => 0) (fun _ => 0) (fun _ => 0))) (fun _ => l0R) (fun _ => 0, fun _ => 0, fun _ => 0, 0, 0))) hD) hS hA
  refine va_calli (vx_runSW (As := [.ref (oa 0), .int (iI (1 + pz23)), .int (iI (pz24))]) (rest := [.int (iI (1))]) ⟨hx, hb, hml, hown, hts⟩ (m_L_addItem_R l hst D cs oa (upR (fun _ _ => 0) 0 nu20) (fun _ _ => 0) (((0 + 1) + 1) + 1) (0 + 1) 0 0 90 20 10 (upI (upI (upI (fun _ => 0) 0 (1 + pz8)) (0 + 1) (1 + pz11)) ((0 + 1) + 1) (1 + pz14)) (fun _ => 0) (fun _ => 0) (fun _ => false) (upR (fun _ => i0R) 0 (imk (1 + pz18) pz19 pz19 (fun _ => 0) (fun _ => 0) (fun _ => 0))) (fun _ => l0R) (fun _ => 0, fun _ => 0, fun _ => 0, 0, 0) (1 + pz23) pz24 _ (hI4) (by omega) (by omega) (by omega)) (vx_cwSW 3 hts (gS w_230 w_231 w_0 w_232) rfl rfl rfl (by decide +kernel) ⟨Nat.le_of_ble_eq_true rfl, Nat.le_of_ble_eq_true rfl⟩) (PAE_Sa hK hN hE hS hFA (P_R (E := [(q5, arI cs 2 (upI (upI (fun _ => 0) 0 (1 + pz18)) 1 (1 + pz23))), (q6, arI cs 6 (fun _ => 0)), (q4, arI cs 3 (upI (upI (upI (fun _ => 0) 0 (1 + pz8)) 1 (1 + pz11)) 2 (1 + pz14)))]) (Wc := (OW cs oa (upR (fun _ _ => 0) 0 nu20) (fun _ _ => 0) (((0 + 1) + 1) + 1) (0 + 1) 0 0 90 20 10 (upI (upI (upI (fun _ => 0) 0 (1 + pz8)) (0 + 1) (1 + pz11)) ((0 + 1) + 1) (1 + pz14)) (fun _ => 0) (fun _ => 0) (fun _ => false) (upR (fun _ => i0R) 0 (imk (1 + pz18) pz19 pz19 (fun _ => 0) (fun _ => 0) (fun _ => 0))) (fun _ => l0R) (fun _ => 0, fun _ => 0, fun _ => 0, 0, 0))) hP) (D_R (E := [(q5, arI cs 2 (upI (upI (fun _ => 0) 0 (1 + pz18)) 1 (1 + pz23))), (q6, arI cs 6 (fun _ => 0)), (q4, arI cs 3 (upI (upI (upI (fun _ => 0) 0 (1 + pz8)) 1 (1 + pz11)) 2 (1 + pz14)))]) (Wc := (OW cs oa (upR (fun _ _ => 0) 0 nu20) (fun _ _ => 0) (((0 + 1) + 1) + 1) (0 + 1) 0 0 90 20 10 (upI (upI (upI (fun _ => 0) 0 (1 + pz8)) (0 + 1) (1 + pz11)) ((0 + 1) + 1) (1 + pz14)) (fun _ => 0) (fun _ => 0) (fun _ => false) (upR (fun _ => i0R) 0 (imk (1 + pz18) pz19 pz19 (fun _ => 0) (fun _ => 0) (fun _ => 0))) (fun _ => l0R) (fun _ => 0, fun _ => 0, fun _ => 0, 0, 0))) hD)) rfl rfl hl.1 rfl (lv_room (Nat.le_of_ble_eq_true rfl)) dL_law_138 ⟨Nat.le_of_ble_eq_true rfl, Nat.le_of_ble_eq_true rfl⟩) hS (fun q _ h => hFA q h) hFA (fun r nu25 t H1 locs ht hvm hw hB hz1 hk1 hS => ?_)
  subst hw
  rw [ht] at hB
  obtain ⟨hP, hD⟩ := my_joinAE (E := [(q5, arI cs 2 (upI (upI (fun _ => 0) 0 (1 + pz18)) 1 (1 + pz23))), (q6, arI cs 6 (fun _ => 0)), (q4, arI cs 3 (upI (upI (upI (fun _ => 0) 0 (1 + pz8)) 1 (1 + pz11)) 2 (1 + pz14)))]) (Wc := (OW cs oa (upR (fun _ _ => 0) 0 nu20) (fun _ _ => 0) (((0 + 1) + 1) + 1) (0 + 1) 0 0 90 20 10 (upI (upI (upI (fun _ => 0) 0 (1 + pz8)) (0 + 1) (1 + pz11)) ((0 + 1) + 1) (1 + pz14)) (fun _ => 0) (fun _ => 0) (fun _ => false) (upR (fun _ => i0R) 0 (imk (1 + pz18) pz19 pz19 (fun _ => 0) (fun _ => 0) (fun _ => 0))) (fun _ => l0R) (fun _ => 0, fun _ => 0, fun _ => 0, 0, 0))) (W2 := (OW cs oa (upR (upR (fun _ _ => 0) 0 nu20) (0 + 1) nu25) (fun _ _ => 0) (((0 + 1) + 1) + 1) ((0 + 1) + 1) 0 0 90 20 10 (upI (upI (upI (fun _ => 0) 0 (1 + pz8)) (0 + 1) (1 + pz11)) ((0 + 1) + 1) (1 + pz14)) (fun _ => 0) (fun _ => 0) (fun _ => false) (upR (upR (fun _ => i0R) 0 (imk (1 + pz18) pz19 pz19 (fun _ => 0) (fun _ => 0) (fun _ => 0))) (0 + 1) (imk (1 + pz23) pz24 pz24 (fun _ => 0) (fun _ => 0) (fun _ => 0))) (fun _ => l0R) (fun _ => 0, fun _ => 0, fun _ => 0, 0, 0))) hP hD hk1 hB hFA
  generalize H1 = H at hP hS ⊢
  have hP : va_P D vwCl ([(q5, arI cs 2 (upI (upI (fun _ => 0) 0 (1 + pz18)) 1 (1 + pz23))), (q6, arI cs 6 (fun _ => 0)), (q4, arI cs 3 (upI (upI (upI (fun _ => 0) 0 (1 + pz8)) 1 (1 + pz11)) 2 (1 + pz14)))] ++ (OW cs oa (upR (upR (fun _ _ => 0) 0 nu20) (0 + 1) nu25) (fun _ _ => 0) (((0 + 1) + 1) + 1) ((0 + 1) + 1) 0 0 90 20 10 (upI (upI (upI (fun _ => 0) 0 (1 + pz8)) (0 + 1) (1 + pz11)) ((0 + 1) + 1) (1 + pz14)) (fun _ => 0) (fun _ => 0) (fun _ => false) (upR (upR (fun _ => i0R) 0 (imk (1 + pz18) pz19 pz19 (fun _ => 0) (fun _ => 0) (fun _ => 0))) (0 + 1) (imk (1 + pz23) pz24 pz24 (fun _ => 0) (fun _ => 0) (fun _ => 0))) (fun _ => l0R) (fun _ => 0, fun _ => 0, fun _ => 0, 0, 0))) H := hP
  have hD : va_D A ([(q5, arI cs 2 (upI (upI (fun _ => 0) 0 (1 + pz18)) 1 (1 + pz23))), (q6, arI cs 6 (fun _ => 0)), (q4, arI cs 3 (upI (upI (upI (fun _ => 0) 0 (1 + pz8)) 1 (1 + pz11)) 2 (1 + pz14)))] ++ (OW cs oa (upR (upR (fun _ _ => 0) 0 nu20) (0 + 1) nu25) (fun _ _ => 0) (((0 + 1) + 1) + 1) ((0 + 1) + 1) 0 0 90 20 10 (upI (upI (upI (fun _ => 0) 0 (1 + pz8)) (0 + 1) (1 + pz11)) ((0 + 1) + 1) (1 + pz14)) (fun _ => 0) (fun _ => 0) (fun _ => false) (upR (upR (fun _ => i0R) 0 (imk (1 + pz18) pz19 pz19 (fun _ => 0) (fun _ => 0) (fun _ => 0))) (0 + 1) (imk (1 + pz23) pz24 pz24 (fun _ => 0) (fun _ => 0) (fun _ => 0))) (fun _ => l0R) (fun _ => 0, fun _ => 0, fun _ => 0, 0, 0))) := hD
  have hI5 := PI_item hI4 (p := 1 + pz23) (k := pz24) (by omega) (by omega) (by omega)
  refine lv_iload hx hb dL_law_141 (lv_at hl 2 rfl) ?_
  refine my_icmp_ne (tgt := 150) hx hb (by omega) dL_law_143 (by decide) (fun bh26 => (by omega : False).elim) (fun bh26 => ?_)
  refine lv_iconst (v := iI (1)) hx hb dL_law_146 rfl ?_
  refine lv_goto (tgt := 151) hx hb dL_law_147 (by decide) ?_
  refine my_iand11 hx hb dL_law_151 ?_
  refine lv_istore (lv' := [(5, .int (iI (1))), (6, .long (lI (pz19 + pz24))), (10, .int (iI (pz24))), (9, .int (iI (1))), (8, .int (iI (5))), (4, .ref q6), (3, .ref q5), (2, .ref q4), (1, .ref (oa 0)), (0, .ref b)]) hx hb dL_law_152 hl (by decide) rfl (fun ls hl => ?_)
  refine lv_iinc (v := iI (7)) (lv' := [(8, .int (iI (7))), (5, .int (iI (1))), (6, .long (lI (pz19 + pz24))), (10, .int (iI (pz24))), (9, .int (iI (1))), (4, .ref q6), (3, .ref q5), (2, .ref q4), (1, .ref (oa 0)), (0, .ref b)]) hx hb dL_law_154 hl (k := 4) rfl (by rw [show (7 : Int) = 5 + 2 from rfl]; exact iI_add _ _) (by decide) rfl (fun ls hl => ?_)
  refine lv_iinc (v := iI (2)) (lv' := [(9, .int (iI (2))), (8, .int (iI (7))), (5, .int (iI (1))), (6, .long (lI (pz19 + pz24))), (10, .int (iI (pz24))), (4, .ref q6), (3, .ref q5), (2, .ref q4), (1, .ref (oa 0)), (0, .ref b)]) hx hb dL_law_157 hl (k := 4) rfl (by rw [show (2 : Int) = 1 + 1 from rfl]; exact iI_add _ _) (by decide) rfl (fun ls hl => ?_)
  refine lv_goto (tgt := 88) hx hb dL_law_160 (by decide) ?_
  refine lv_iload hx hb dL_law_88 (lv_at hl 0 rfl) ?_
  refine lv_iconst (v := iI (2)) hx hb dL_law_90 rfl ?_
  refine my_icmp_ge (tgt := 163) hx hb (by omega) dL_law_91 (by decide) (fun bh27 => ?_) (fun bh27 => (by omega : False).elim)
  refine lv_iconst (v := iI (0)) hx hb dL_law_163 rfl ?_
  refine lv_istore (lv' := [(9, .int (iI (0))), (8, .int (iI (7))), (5, .int (iI (1))), (6, .long (lI (pz19 + pz24))), (10, .int (iI (pz24))), (4, .ref q6), (3, .ref q5), (2, .ref q4), (1, .ref (oa 0)), (0, .ref b)]) hx hb dL_law_164 hl (by decide) rfl (fun ls hl => ?_)
  refine lv_iload hx hb dL_law_166 (lv_at hl 0 rfl) ?_
  refine lv_bipush (v := iI (6)) hx hb dL_law_168 (by decide) ?_
  refine my_icmp_ge (tgt := 185) hx hb (by omega) dL_law_170 (by decide) (fun bh28 => (by omega : False).elim) (fun bh28 => ?_)
  refine lv_aload hx hb dL_law_173 (lv_at hl 5 rfl) ?_
  refine lv_iload hx hb dL_law_175 (lv_at hl 0 rfl) ?_
  refine lv_iconst (v := iI (-1)) hx hb dL_law_177 rfl ?_
  refine my_iast hx hb hK hP hD hS 1 rfl (by omega) (k := 0) (rfl) dL_law_178 (fun H locs hP hD hS => ?_)
  have hP : va_P D vwCl ([(q5, arI cs 2 (upI (upI (fun _ => 0) 0 (1 + pz18)) 1 (1 + pz23))), (q6, arI cs 6 (upI (fun _ => 0) 0 (-1))), (q4, arI cs 3 (upI (upI (upI (fun _ => 0) 0 (1 + pz8)) 1 (1 + pz11)) 2 (1 + pz14)))] ++ (OW cs oa (upR (upR (fun _ _ => 0) 0 nu20) (0 + 1) nu25) (fun _ _ => 0) (((0 + 1) + 1) + 1) ((0 + 1) + 1) 0 0 90 20 10 (upI (upI (upI (fun _ => 0) 0 (1 + pz8)) (0 + 1) (1 + pz11)) ((0 + 1) + 1) (1 + pz14)) (fun _ => 0) (fun _ => 0) (fun _ => false) (upR (upR (fun _ => i0R) 0 (imk (1 + pz18) pz19 pz19 (fun _ => 0) (fun _ => 0) (fun _ => 0))) (0 + 1) (imk (1 + pz23) pz24 pz24 (fun _ => 0) (fun _ => 0) (fun _ => 0))) (fun _ => l0R) (fun _ => 0, fun _ => 0, fun _ => 0, 0, 0))) H := hP
  have hD : va_D A ([(q5, arI cs 2 (upI (upI (fun _ => 0) 0 (1 + pz18)) 1 (1 + pz23))), (q6, arI cs 6 (upI (fun _ => 0) 0 (-1))), (q4, arI cs 3 (upI (upI (upI (fun _ => 0) 0 (1 + pz8)) 1 (1 + pz11)) 2 (1 + pz14)))] ++ (OW cs oa (upR (upR (fun _ _ => 0) 0 nu20) (0 + 1) nu25) (fun _ _ => 0) (((0 + 1) + 1) + 1) ((0 + 1) + 1) 0 0 90 20 10 (upI (upI (upI (fun _ => 0) 0 (1 + pz8)) (0 + 1) (1 + pz11)) ((0 + 1) + 1) (1 + pz14)) (fun _ => 0) (fun _ => 0) (fun _ => false) (upR (upR (fun _ => i0R) 0 (imk (1 + pz18) pz19 pz19 (fun _ => 0) (fun _ => 0) (fun _ => 0))) (0 + 1) (imk (1 + pz23) pz24 pz24 (fun _ => 0) (fun _ => 0) (fun _ => 0))) (fun _ => l0R) (fun _ => 0, fun _ => 0, fun _ => 0, 0, 0))) := hD
  refine lv_iinc (v := iI (1)) (lv' := [(9, .int (iI (1))), (8, .int (iI (7))), (5, .int (iI (1))), (6, .long (lI (pz19 + pz24))), (10, .int (iI (pz24))), (4, .ref q6), (3, .ref q5), (2, .ref q4), (1, .ref (oa 0)), (0, .ref b)]) hx hb dL_law_179 hl (k := 0) rfl (by rw [show (1 : Int) = 0 + 1 from by omega]; exact iI_add _ _) (by decide) rfl (fun ls hl => ?_)
  refine lv_goto (tgt := 166) hx hb dL_law_182 (by decide) ?_
  refine lv_iload hx hb dL_law_166 (lv_at hl 0 rfl) ?_
  refine lv_bipush (v := iI (6)) hx hb dL_law_168 (by decide) ?_
  refine my_icmp_ge (tgt := 185) hx hb (by omega) dL_law_170 (by decide) (fun bh29 => (by omega : False).elim) (fun bh29 => ?_)
  refine lv_aload hx hb dL_law_173 (lv_at hl 5 rfl) ?_
  refine lv_iload hx hb dL_law_175 (lv_at hl 0 rfl) ?_
  refine lv_iconst (v := iI (-1)) hx hb dL_law_177 rfl ?_
  refine my_iast hx hb hK hP hD hS 1 rfl (by omega) (k := 1) (rfl) dL_law_178 (fun H locs hP hD hS => ?_)
  have hP : va_P D vwCl ([(q5, arI cs 2 (upI (upI (fun _ => 0) 0 (1 + pz18)) 1 (1 + pz23))), (q6, arI cs 6 (upI (upI (fun _ => 0) 0 (-1)) 1 (-1))), (q4, arI cs 3 (upI (upI (upI (fun _ => 0) 0 (1 + pz8)) 1 (1 + pz11)) 2 (1 + pz14)))] ++ (OW cs oa (upR (upR (fun _ _ => 0) 0 nu20) (0 + 1) nu25) (fun _ _ => 0) (((0 + 1) + 1) + 1) ((0 + 1) + 1) 0 0 90 20 10 (upI (upI (upI (fun _ => 0) 0 (1 + pz8)) (0 + 1) (1 + pz11)) ((0 + 1) + 1) (1 + pz14)) (fun _ => 0) (fun _ => 0) (fun _ => false) (upR (upR (fun _ => i0R) 0 (imk (1 + pz18) pz19 pz19 (fun _ => 0) (fun _ => 0) (fun _ => 0))) (0 + 1) (imk (1 + pz23) pz24 pz24 (fun _ => 0) (fun _ => 0) (fun _ => 0))) (fun _ => l0R) (fun _ => 0, fun _ => 0, fun _ => 0, 0, 0))) H := hP
  have hD : va_D A ([(q5, arI cs 2 (upI (upI (fun _ => 0) 0 (1 + pz18)) 1 (1 + pz23))), (q6, arI cs 6 (upI (upI (fun _ => 0) 0 (-1)) 1 (-1))), (q4, arI cs 3 (upI (upI (upI (fun _ => 0) 0 (1 + pz8)) 1 (1 + pz11)) 2 (1 + pz14)))] ++ (OW cs oa (upR (upR (fun _ _ => 0) 0 nu20) (0 + 1) nu25) (fun _ _ => 0) (((0 + 1) + 1) + 1) ((0 + 1) + 1) 0 0 90 20 10 (upI (upI (upI (fun _ => 0) 0 (1 + pz8)) (0 + 1) (1 + pz11)) ((0 + 1) + 1) (1 + pz14)) (fun _ => 0) (fun _ => 0) (fun _ => false) (upR (upR (fun _ => i0R) 0 (imk (1 + pz18) pz19 pz19 (fun _ => 0) (fun _ => 0) (fun _ => 0))) (0 + 1) (imk (1 + pz23) pz24 pz24 (fun _ => 0) (fun _ => 0) (fun _ => 0))) (fun _ => l0R) (fun _ => 0, fun _ => 0, fun _ => 0, 0, 0))) := hD
  refine lv_iinc (v := iI (2)) (lv' := [(9, .int (iI (2))), (8, .int (iI (7))), (5, .int (iI (1))), (6, .long (lI (pz19 + pz24))), (10, .int (iI (pz24))), (4, .ref q6), (3, .ref q5), (2, .ref q4), (1, .ref (oa 0)), (0, .ref b)]) hx hb dL_law_179 hl (k := 0) rfl (by rw [show (2 : Int) = 1 + 1 from rfl]; exact iI_add _ _) (by decide) rfl (fun ls hl => ?_)
  refine lv_goto (tgt := 166) hx hb dL_law_182 (by decide) ?_
  refine lv_iload hx hb dL_law_166 (lv_at hl 0 rfl) ?_
  refine lv_bipush (v := iI (6)) hx hb dL_law_168 (by decide) ?_
  refine my_icmp_ge (tgt := 185) hx hb (by omega) dL_law_170 (by decide) (fun bh30 => (by omega : False).elim) (fun bh30 => ?_)
  refine lv_aload hx hb dL_law_173 (lv_at hl 5 rfl) ?_
  refine lv_iload hx hb dL_law_175 (lv_at hl 0 rfl) ?_
  refine lv_iconst (v := iI (-1)) hx hb dL_law_177 rfl ?_
  refine my_iast hx hb hK hP hD hS 1 rfl (by omega) (k := 2) (rfl) dL_law_178 (fun H locs hP hD hS => ?_)
  have hP : va_P D vwCl ([(q5, arI cs 2 (upI (upI (fun _ => 0) 0 (1 + pz18)) 1 (1 + pz23))), (q6, arI cs 6 (upI (upI (upI (fun _ => 0) 0 (-1)) 1 (-1)) 2 (-1))), (q4, arI cs 3 (upI (upI (upI (fun _ => 0) 0 (1 + pz8)) 1 (1 + pz11)) 2 (1 + pz14)))] ++ (OW cs oa (upR (upR (fun _ _ => 0) 0 nu20) (0 + 1) nu25) (fun _ _ => 0) (((0 + 1) + 1) + 1) ((0 + 1) + 1) 0 0 90 20 10 (upI (upI (upI (fun _ => 0) 0 (1 + pz8)) (0 + 1) (1 + pz11)) ((0 + 1) + 1) (1 + pz14)) (fun _ => 0) (fun _ => 0) (fun _ => false) (upR (upR (fun _ => i0R) 0 (imk (1 + pz18) pz19 pz19 (fun _ => 0) (fun _ => 0) (fun _ => 0))) (0 + 1) (imk (1 + pz23) pz24 pz24 (fun _ => 0) (fun _ => 0) (fun _ => 0))) (fun _ => l0R) (fun _ => 0, fun _ => 0, fun _ => 0, 0, 0))) H := hP
  have hD : va_D A ([(q5, arI cs 2 (upI (upI (fun _ => 0) 0 (1 + pz18)) 1 (1 + pz23))), (q6, arI cs 6 (upI (upI (upI (fun _ => 0) 0 (-1)) 1 (-1)) 2 (-1))), (q4, arI cs 3 (upI (upI (upI (fun _ => 0) 0 (1 + pz8)) 1 (1 + pz11)) 2 (1 + pz14)))] ++ (OW cs oa (upR (upR (fun _ _ => 0) 0 nu20) (0 + 1) nu25) (fun _ _ => 0) (((0 + 1) + 1) + 1) ((0 + 1) + 1) 0 0 90 20 10 (upI (upI (upI (fun _ => 0) 0 (1 + pz8)) (0 + 1) (1 + pz11)) ((0 + 1) + 1) (1 + pz14)) (fun _ => 0) (fun _ => 0) (fun _ => false) (upR (upR (fun _ => i0R) 0 (imk (1 + pz18) pz19 pz19 (fun _ => 0) (fun _ => 0) (fun _ => 0))) (0 + 1) (imk (1 + pz23) pz24 pz24 (fun _ => 0) (fun _ => 0) (fun _ => 0))) (fun _ => l0R) (fun _ => 0, fun _ => 0, fun _ => 0, 0, 0))) := hD
  refine lv_iinc (v := iI (3)) (lv' := [(9, .int (iI (3))), (8, .int (iI (7))), (5, .int (iI (1))), (6, .long (lI (pz19 + pz24))), (10, .int (iI (pz24))), (4, .ref q6), (3, .ref q5), (2, .ref q4), (1, .ref (oa 0)), (0, .ref b)]) hx hb dL_law_179 hl (k := 0) rfl (by rw [show (3 : Int) = 2 + 1 from rfl]; exact iI_add _ _) (by decide) rfl (fun ls hl => ?_)
  refine lv_goto (tgt := 166) hx hb dL_law_182 (by decide) ?_
  refine lv_iload hx hb dL_law_166 (lv_at hl 0 rfl) ?_
  refine lv_bipush (v := iI (6)) hx hb dL_law_168 (by decide) ?_
  refine my_icmp_ge (tgt := 185) hx hb (by omega) dL_law_170 (by decide) (fun bh31 => (by omega : False).elim) (fun bh31 => ?_)
  refine lv_aload hx hb dL_law_173 (lv_at hl 5 rfl) ?_
  refine lv_iload hx hb dL_law_175 (lv_at hl 0 rfl) ?_
  refine lv_iconst (v := iI (-1)) hx hb dL_law_177 rfl ?_
  refine my_iast hx hb hK hP hD hS 1 rfl (by omega) (k := 3) (rfl) dL_law_178 (fun H locs hP hD hS => ?_)
  have hP : va_P D vwCl ([(q5, arI cs 2 (upI (upI (fun _ => 0) 0 (1 + pz18)) 1 (1 + pz23))), (q6, arI cs 6 (upI (upI (upI (upI (fun _ => 0) 0 (-1)) 1 (-1)) 2 (-1)) 3 (-1))), (q4, arI cs 3 (upI (upI (upI (fun _ => 0) 0 (1 + pz8)) 1 (1 + pz11)) 2 (1 + pz14)))] ++ (OW cs oa (upR (upR (fun _ _ => 0) 0 nu20) (0 + 1) nu25) (fun _ _ => 0) (((0 + 1) + 1) + 1) ((0 + 1) + 1) 0 0 90 20 10 (upI (upI (upI (fun _ => 0) 0 (1 + pz8)) (0 + 1) (1 + pz11)) ((0 + 1) + 1) (1 + pz14)) (fun _ => 0) (fun _ => 0) (fun _ => false) (upR (upR (fun _ => i0R) 0 (imk (1 + pz18) pz19 pz19 (fun _ => 0) (fun _ => 0) (fun _ => 0))) (0 + 1) (imk (1 + pz23) pz24 pz24 (fun _ => 0) (fun _ => 0) (fun _ => 0))) (fun _ => l0R) (fun _ => 0, fun _ => 0, fun _ => 0, 0, 0))) H := hP
  have hD : va_D A ([(q5, arI cs 2 (upI (upI (fun _ => 0) 0 (1 + pz18)) 1 (1 + pz23))), (q6, arI cs 6 (upI (upI (upI (upI (fun _ => 0) 0 (-1)) 1 (-1)) 2 (-1)) 3 (-1))), (q4, arI cs 3 (upI (upI (upI (fun _ => 0) 0 (1 + pz8)) 1 (1 + pz11)) 2 (1 + pz14)))] ++ (OW cs oa (upR (upR (fun _ _ => 0) 0 nu20) (0 + 1) nu25) (fun _ _ => 0) (((0 + 1) + 1) + 1) ((0 + 1) + 1) 0 0 90 20 10 (upI (upI (upI (fun _ => 0) 0 (1 + pz8)) (0 + 1) (1 + pz11)) ((0 + 1) + 1) (1 + pz14)) (fun _ => 0) (fun _ => 0) (fun _ => false) (upR (upR (fun _ => i0R) 0 (imk (1 + pz18) pz19 pz19 (fun _ => 0) (fun _ => 0) (fun _ => 0))) (0 + 1) (imk (1 + pz23) pz24 pz24 (fun _ => 0) (fun _ => 0) (fun _ => 0))) (fun _ => l0R) (fun _ => 0, fun _ => 0, fun _ => 0, 0, 0))) := hD
  refine lv_iinc (v := iI (4)) (lv' := [(9, .int (iI (4))), (8, .int (iI (7))), (5, .int (iI (1))), (6, .long (lI (pz19 + pz24))), (10, .int (iI (pz24))), (4, .ref q6), (3, .ref q5), (2, .ref q4), (1, .ref (oa 0)), (0, .ref b)]) hx hb dL_law_179 hl (k := 0) rfl (by rw [show (4 : Int) = 3 + 1 from rfl]; exact iI_add _ _) (by decide) rfl (fun ls hl => ?_)
  refine lv_goto (tgt := 166) hx hb dL_law_182 (by decide) ?_
  refine lv_iload hx hb dL_law_166 (lv_at hl 0 rfl) ?_
  refine lv_bipush (v := iI (6)) hx hb dL_law_168 (by decide) ?_
  refine my_icmp_ge (tgt := 185) hx hb (by omega) dL_law_170 (by decide) (fun bh32 => (by omega : False).elim) (fun bh32 => ?_)
  refine lv_aload hx hb dL_law_173 (lv_at hl 5 rfl) ?_
  refine lv_iload hx hb dL_law_175 (lv_at hl 0 rfl) ?_
  refine lv_iconst (v := iI (-1)) hx hb dL_law_177 rfl ?_
  refine my_iast hx hb hK hP hD hS 1 rfl (by omega) (k := 4) (rfl) dL_law_178 (fun H locs hP hD hS => ?_)
  have hP : va_P D vwCl ([(q5, arI cs 2 (upI (upI (fun _ => 0) 0 (1 + pz18)) 1 (1 + pz23))), (q6, arI cs 6 (upI (upI (upI (upI (upI (fun _ => 0) 0 (-1)) 1 (-1)) 2 (-1)) 3 (-1)) 4 (-1))), (q4, arI cs 3 (upI (upI (upI (fun _ => 0) 0 (1 + pz8)) 1 (1 + pz11)) 2 (1 + pz14)))] ++ (OW cs oa (upR (upR (fun _ _ => 0) 0 nu20) (0 + 1) nu25) (fun _ _ => 0) (((0 + 1) + 1) + 1) ((0 + 1) + 1) 0 0 90 20 10 (upI (upI (upI (fun _ => 0) 0 (1 + pz8)) (0 + 1) (1 + pz11)) ((0 + 1) + 1) (1 + pz14)) (fun _ => 0) (fun _ => 0) (fun _ => false) (upR (upR (fun _ => i0R) 0 (imk (1 + pz18) pz19 pz19 (fun _ => 0) (fun _ => 0) (fun _ => 0))) (0 + 1) (imk (1 + pz23) pz24 pz24 (fun _ => 0) (fun _ => 0) (fun _ => 0))) (fun _ => l0R) (fun _ => 0, fun _ => 0, fun _ => 0, 0, 0))) H := hP
  have hD : va_D A ([(q5, arI cs 2 (upI (upI (fun _ => 0) 0 (1 + pz18)) 1 (1 + pz23))), (q6, arI cs 6 (upI (upI (upI (upI (upI (fun _ => 0) 0 (-1)) 1 (-1)) 2 (-1)) 3 (-1)) 4 (-1))), (q4, arI cs 3 (upI (upI (upI (fun _ => 0) 0 (1 + pz8)) 1 (1 + pz11)) 2 (1 + pz14)))] ++ (OW cs oa (upR (upR (fun _ _ => 0) 0 nu20) (0 + 1) nu25) (fun _ _ => 0) (((0 + 1) + 1) + 1) ((0 + 1) + 1) 0 0 90 20 10 (upI (upI (upI (fun _ => 0) 0 (1 + pz8)) (0 + 1) (1 + pz11)) ((0 + 1) + 1) (1 + pz14)) (fun _ => 0) (fun _ => 0) (fun _ => false) (upR (upR (fun _ => i0R) 0 (imk (1 + pz18) pz19 pz19 (fun _ => 0) (fun _ => 0) (fun _ => 0))) (0 + 1) (imk (1 + pz23) pz24 pz24 (fun _ => 0) (fun _ => 0) (fun _ => 0))) (fun _ => l0R) (fun _ => 0, fun _ => 0, fun _ => 0, 0, 0))) := hD
  refine lv_iinc (v := iI (5)) (lv' := [(9, .int (iI (5))), (8, .int (iI (7))), (5, .int (iI (1))), (6, .long (lI (pz19 + pz24))), (10, .int (iI (pz24))), (4, .ref q6), (3, .ref q5), (2, .ref q4), (1, .ref (oa 0)), (0, .ref b)]) hx hb dL_law_179 hl (k := 0) rfl (by rw [show (5 : Int) = 4 + 1 from rfl]; exact iI_add _ _) (by decide) rfl (fun ls hl => ?_)
  refine lv_goto (tgt := 166) hx hb dL_law_182 (by decide) ?_
  refine lv_iload hx hb dL_law_166 (lv_at hl 0 rfl) ?_
  refine lv_bipush (v := iI (6)) hx hb dL_law_168 (by decide) ?_
  refine my_icmp_ge (tgt := 185) hx hb (by omega) dL_law_170 (by decide) (fun bh33 => (by omega : False).elim) (fun bh33 => ?_)
  refine lv_aload hx hb dL_law_173 (lv_at hl 5 rfl) ?_
  refine lv_iload hx hb dL_law_175 (lv_at hl 0 rfl) ?_
  refine lv_iconst (v := iI (-1)) hx hb dL_law_177 rfl ?_
  refine my_iast hx hb hK hP hD hS 1 rfl (by omega) (k := 5) (rfl) dL_law_178 (fun H locs hP hD hS => ?_)
  have hP : va_P D vwCl ([(q5, arI cs 2 (upI (upI (fun _ => 0) 0 (1 + pz18)) 1 (1 + pz23))), (q6, arI cs 6 (upI (upI (upI (upI (upI (upI (fun _ => 0) 0 (-1)) 1 (-1)) 2 (-1)) 3 (-1)) 4 (-1)) 5 (-1))), (q4, arI cs 3 (upI (upI (upI (fun _ => 0) 0 (1 + pz8)) 1 (1 + pz11)) 2 (1 + pz14)))] ++ (OW cs oa (upR (upR (fun _ _ => 0) 0 nu20) (0 + 1) nu25) (fun _ _ => 0) (((0 + 1) + 1) + 1) ((0 + 1) + 1) 0 0 90 20 10 (upI (upI (upI (fun _ => 0) 0 (1 + pz8)) (0 + 1) (1 + pz11)) ((0 + 1) + 1) (1 + pz14)) (fun _ => 0) (fun _ => 0) (fun _ => false) (upR (upR (fun _ => i0R) 0 (imk (1 + pz18) pz19 pz19 (fun _ => 0) (fun _ => 0) (fun _ => 0))) (0 + 1) (imk (1 + pz23) pz24 pz24 (fun _ => 0) (fun _ => 0) (fun _ => 0))) (fun _ => l0R) (fun _ => 0, fun _ => 0, fun _ => 0, 0, 0))) H := hP
  have hD : va_D A ([(q5, arI cs 2 (upI (upI (fun _ => 0) 0 (1 + pz18)) 1 (1 + pz23))), (q6, arI cs 6 (upI (upI (upI (upI (upI (upI (fun _ => 0) 0 (-1)) 1 (-1)) 2 (-1)) 3 (-1)) 4 (-1)) 5 (-1))), (q4, arI cs 3 (upI (upI (upI (fun _ => 0) 0 (1 + pz8)) 1 (1 + pz11)) 2 (1 + pz14)))] ++ (OW cs oa (upR (upR (fun _ _ => 0) 0 nu20) (0 + 1) nu25) (fun _ _ => 0) (((0 + 1) + 1) + 1) ((0 + 1) + 1) 0 0 90 20 10 (upI (upI (upI (fun _ => 0) 0 (1 + pz8)) (0 + 1) (1 + pz11)) ((0 + 1) + 1) (1 + pz14)) (fun _ => 0) (fun _ => 0) (fun _ => false) (upR (upR (fun _ => i0R) 0 (imk (1 + pz18) pz19 pz19 (fun _ => 0) (fun _ => 0) (fun _ => 0))) (0 + 1) (imk (1 + pz23) pz24 pz24 (fun _ => 0) (fun _ => 0) (fun _ => 0))) (fun _ => l0R) (fun _ => 0, fun _ => 0, fun _ => 0, 0, 0))) := hD
  refine lv_iinc (v := iI (6)) (lv' := [(9, .int (iI (6))), (8, .int (iI (7))), (5, .int (iI (1))), (6, .long (lI (pz19 + pz24))), (10, .int (iI (pz24))), (4, .ref q6), (3, .ref q5), (2, .ref q4), (1, .ref (oa 0)), (0, .ref b)]) hx hb dL_law_179 hl (k := 0) rfl (by rw [show (6 : Int) = 5 + 1 from rfl]; exact iI_add _ _) (by decide) rfl (fun ls hl => ?_)
  refine lv_goto (tgt := 166) hx hb dL_law_182 (by decide) ?_
  refine lv_iload hx hb dL_law_166 (lv_at hl 0 rfl) ?_
  refine lv_bipush (v := iI (6)) hx hb dL_law_168 (by decide) ?_
  refine my_icmp_ge (tgt := 185) hx hb (by omega) dL_law_170 (by decide) (fun bh34 => ?_) (fun bh34 => (by omega : False).elim)
  refine lv_iconst (v := iI (0)) hx hb dL_law_185 rfl ?_
  refine lv_istore (lv' := [(9, .int (iI (0))), (8, .int (iI (7))), (5, .int (iI (1))), (6, .long (lI (pz19 + pz24))), (10, .int (iI (pz24))), (4, .ref q6), (3, .ref q5), (2, .ref q4), (1, .ref (oa 0)), (0, .ref b)]) hx hb dL_law_186 hl (by decide) rfl (fun ls hl => ?_)
  refine lv_iconst (v := iI (0)) hx hb dL_law_188 rfl ?_
  refine lv_istore (lv' := [(10, .int (iI (0))), (9, .int (iI (0))), (8, .int (iI (7))), (5, .int (iI (1))), (6, .long (lI (pz19 + pz24))), (4, .ref q6), (3, .ref q5), (2, .ref q4), (1, .ref (oa 0)), (0, .ref b)]) hx hb dL_law_189 hl (by decide) rfl (fun ls hl => ?_)
  have hG : GI 0 (((0 + 1) + 1) + 1) ((0 + 1) + 1) 0 0 90 20 10 (upI (upI (upI (fun _ => 0) 0 (1 + pz8)) (0 + 1) (1 + pz11)) ((0 + 1) + 1) (1 + pz14)) (fun _ => 0) (fun _ => 0) (fun _ => false) (upR (upR (fun _ => i0R) 0 (imk (1 + pz18) pz19 pz19 (fun _ => 0) (fun _ => 0) (fun _ => 0))) (0 + 1) (imk (1 + pz23) pz24 pz24 (fun _ => 0) (fun _ => 0) (fun _ => 0))) (fun _ => l0R) (upI (upI (fun _ => 0) 0 (1 + pz18)) 1 (1 + pz23)) (upI (upI (upI (fun _ => 0) 0 (1 + pz8)) 1 (1 + pz11)) 2 (1 + pz14)) (upI (upI (upI (upI (upI (upI (fun _ => 0) 0 (-1)) 1 (-1)) 2 (-1)) 3 (-1)) 4 (-1)) 5 (-1)) (pz19 + pz24) 0 := by
    refine ⟨hI5, ⟨rfl, rfl⟩, fun i hi => ?_, fun s hs => ?_, fun s i hs hi => ?_, ⟨Nat.le_refl _, Int.le_refl _, Int.le_refl _⟩, ?_, ⟨Int.le_refl _, Int.le_refl _⟩, ⟨by omega, by show _ ≤ (400 : Int) + 60 * ((0 : Nat) : Int); omega⟩⟩
    · rcases (show i = 0 ∨ i = 1 by omega) with e | e <;> subst e <;> simp [upI, upR, imk, ipk]
    · rcases (show s = 0 ∨ s = 1 ∨ s = 2 by omega) with e | e | e <;> subst e <;> simp [upI]
    · rcases (show s = 0 ∨ s = 1 ∨ s = 2 by omega) with e | e | e <;> rcases (show i = 0 ∨ i = 1 by omega) with e2 | e2 <;> subst e <;> subst e2 <;> simp [upI]
    · rw [UTI_item (by omega), UTI_item (by omega), UTI_0]; omega
  refine W.widen (k := 100 + 2200 * 0) (n := 20000 + 15000 * 0) (Nat.le_of_ble_eq_true rfl) (Nat.le_of_ble_eq_true rfl) ?_
  exact law_loop hr hlocks hAe hC 111 0 (Nat.zero_le _) (Nat.le_refl _) H _ ls (RS_mk (n := 0) hG hP hD hS (lv_sub hl [9, 8, 7, 6, 5, 3, 4, 2, 1, 0] rfl))
set_option maxHeartbeats 4000000 in
theorem lw_walk (l : Launch) (hflags : l.flags = flags0) (b : Addr) (xs : List Int32) : MetFree l x (headSpec (Jvm.Cond.code x code maxLocals ret :: tables_1) room_1) (lw_P b xs) (fun _ _ _ _ _ => True) lw_Q := by
  refine MetFree.of_bodyS (code := code) (maxLocals := maxLocals) (ret := ret) (by decide) ?_ ?_
  · intro args s m h hn
    obtain ⟨meth, c, h1, h2, h3, h4, h5, h6, -, -⟩ := Cond.code_spec hn (atoms_spec (ws := Jvm.Cond.code x code maxLocals ret :: tables_1) h _ List.mem_cons_self)
    exact ⟨meth, c, h1, h2, h3, h4, h5, h6⟩
  · intro p e s m args below meth c s₁ B hml0 hP _
    obtain ⟨rfl, hx, hbd, hgv⟩ := hP
    obtain ⟨scr, harrAt, hlist, hof, hsmall⟩ := hx
    obtain ⟨hcb, hkn, -, -⟩ := State.arrayAt?_spec harrAt
    have hown : s.vm.findClass R_law = some m.cls := findClass_of_methodNamed B.named
    have hts0 : ∀ c ∈ (Jvm.Cond.code x code maxLocals ret :: tables_1), c.before #[Value.ref b] s = true := atoms_spec (ws := Jvm.Cond.code x code maxLocals ret :: tables_1) B.pre
    have hts : ∀ w ∈ lw_tbl, w.before #[Value.ref b] s = true := k2_hts_sels lw_privs (fun w hw => hts0 w (List.mem_cons_of_mem _ hw)) lw_privs_ok
    have hml : c.maxLocals = 22 := B.maxLocals_eq (hts0 _ List.mem_cons_self)
    have X₀ : Stand p l e room_1 s m #[Value.ref b] below meth c s₁ [] 0 0 := Stand.of_body B
    have hh0 : s₁.heap = s.heap := by rw [B.state]; rfl
    have hsz : scr.slots.size = xs.length := by rw [← Array.length_toList, hlist, List.length_map]
    have hval : ∀ j : Nat, j < xs.length → scr.slots[j]? = some (.int (xs.getD j 0)) := fun j hj => by
      rw [← Array.getElem?_toList, hlist]
      simp [hj]
    have hbl : b < s.heap.size := (Array.getElem?_eq_some_iff.mp hcb).1
    have hX : va_X b xs.length (fun j => xs.getD j 0) s s.heap := ⟨scr, hcb, hof, hkn, hsz, hval⟩
    have K : W p l e room_1 s m #[Value.ref b] below meth c s₁.heap [] 0 0 (lw_Z below #[Value.ref b] s) (entryFrame m ([Value.ref b] : List Value).toArray 22) := by
      rw [hh0]
      exact whole_start l hflags hbd ⟨B.exec, B.bytes, B.returns, hml, hown, hts, hX, hbl, B.notSynchronized, hgv⟩
    obtain ⟨t, a1, o, b1, b2, b3⟩ := K s₁ rfl X₀
    exact ⟨t, o, a1, b1, b2, b3⟩
theorem lw_pre_spec {args : Array Value} {s : State} (h : (Jvm.Cond.and given_1 narrow_1).before args s = true) (hr : rest_1_c.before args s = true) : ∃ (b : Addr) (xs : List Int32), lw_P b xs args s := by
  have hs := flat_of_before _ h
  have hq := flat_of_before _ hr
  have hc : (Cond.count 1).before args s = true := hs _ (by decide +kernel)
  have harr : (Cond.arrayOf (.arg 0) .int).before args s = true := hs _ (by decide +kernel)
  have hle : (Cond.le (.length (.arg 0)) (.int 260)).before args s = true := hs _ (by decide +kernel)
  have hlen : (Cond.isInt (.length (.arg 0))).before args s = true := hq _ (by decide +kernel)
  have hall : (Cond.all (.arg 0) (.isInt (.elem (.arg 0) (.index 0)))).before args s = true := hq _ (by decide +kernel)
  obtain ⟨b, xs, hb, hx⟩ := State.ints_of_pre rfl harr hlen hall
  have hsm : xs.length < 2 ^ 31 := hx.choose_spec.2.2.2
  have hev : (Term.length (.arg 0)).eval args s none [] s = some (.int xs.length.toInt32) := hx.length_eval hb
  have hv := Cond.le_ints hev (show (Term.int 260).eval args s none [] s = some (.int 260) from rfl)
  have hd : xs.length.toInt32 ≤ 260 := by
    simpa [Cond.before, Cond.holds, hv] using hle
  have hN : xs.length ≤ 260 := (Int32.ofNat_le_ofNat hsm (by decide)).mp (show Int32.ofNat xs.length ≤ Int32.ofNat 260 from hd)
  exact ⟨b, xs, Cond.one_arg hc (show args[0]? = some (.ref b) from hb), hx, hN, h⟩
theorem lw_comes (l : Launch) (hflags : l.flags = flags0) : Comes l x (Jvm.Cond.code x code maxLocals ret :: tables_1) room_1 (fun tb e args s => Calls_1 tb e args s ∧ rest_1 tb e args s ∧ Pre_1 tb e args s)
    (fun _ _ args s o t => lw_Q args s o t) := by
  intro p e ha hc hk s m args below hf hfit hheap happ hpre
  obtain ⟨b, xs, hP⟩ := lw_pre_spec hpre.2.2 hpre.2.1
  obtain ⟨k, o, h1, h2, h3, hQ⟩ := lw_walk l hflags b xs p e ha hc hk s m args below hf ((Spec.applies_iff_loose hf).mp happ).1 hP trivial
  exact ⟨k, o, h1, h2, h3, hQ⟩
theorem lw_frame {s t : State} {o : Outcome} {args : Array Value} (h : Framed s o t [] 1038756 5985355) :
    Framed s o t (fieldLocs frame_1_writes args s ++ arrayLocs frame_1_arrays args s ++ staticLocs frame_1_statics s) 1038756 5985355 := h
theorem lw_limb (L : Cond) (hL : ∀ (args : Array Value) (s t : State), L.after args s (.returned (some (.int 1))) t = true) :
    ArmFor flags0 classFile x code maxLocals ret World_1 tables_1 room_1 Calls_1 rest_1 Pre_1
      (fun tb e a s o t => postC L tb e a s o t ∧ Framed s o t (fieldLocs frame_1_writes a s ++ arrayLocs frame_1_arrays a s ++ staticLocs frame_1_statics s) 1038756 5985355) := by
  intro l hflags _ _ p e ha hc hk s m args below hf hfit hheap happ hpre
  obtain ⟨k, o, h1, h2, h3, rfl, hF⟩ := lw_comes l hflags p e ha hc hk s m args below hf hfit hheap happ hpre
  exact ⟨k, _, h1, h2, h3, hL args s _, lw_frame hF⟩
theorem i_vc : Claimed_1_1 ∧ Claimed_1_2 := ⟨lw_limb limb_1_1 (fun args s t => by simp [limb_1_1, Cond.after, Cond.holds, Cond.value]), lw_limb limb_1_2 (fun args s t => Cond.after_iff.mpr (by
  first | (rw [show limb_1_2 = Cond.eq .result (.int 1) from rfl, Cond.eq_ints (x := 1) (y := 1) rfl rfl]; simp; done) | (simp [limb_1_2, Cond.value, Term.eval]; done)))⟩

