theorem P_R {D : va_G} {cl : List vw_C} {E Wc : va_W} {H : Heap} (h : va_P D cl (E ++ Wc) H) : va_P D cl Wc H := fun k q hk => h (E.length + k) q (by rw [List.getElem?_append_right (Nat.le_add_right _ _), Nat.add_sub_cancel_left]; exact hk)
theorem D_R {A : Nat → Prop} {E Wc : va_W} (h : va_D A (E ++ Wc)) : va_D A Wc := by
  have hr : ∀ (k : Nat) (q : Nat × va_E), Wc[k]? = some q → (E ++ Wc)[E.length + k]? = some q := fun k q hk => by
    rw [List.getElem?_append_right (Nat.le_add_right _ _), Nat.add_sub_cancel_left]; exact hk
  exact ⟨fun i j p q hi hj e => by have := h.1 _ _ p q (hr i p hi) (hr j q hj) e; omega, fun k q hk => h.2 _ q (hr k q hk)⟩
theorem my_joinE {A0 : Nat → Prop} {D : va_G} {cl : List vw_C} {E Wc W2 : va_W} {H H1 : Heap} (hP : va_P D cl (E ++ Wc) H) (hD : va_D A0 (E ++ Wc)) (hf : W2.map Prod.fst = Wc.map Prod.fst)
    (hk : ∀ q : Nat, q < H.size → ¬ inW Wc q → H1[q]? = H[q]?) (hB : va_P D cl W2 H1) : va_P D cl (E ++ W2) H1 ∧ va_D A0 (E ++ W2) := by
  refine ⟨va_P.app (fun k q hq => ?_) hB, D_fst hD (by rw [List.map_append, List.map_append, hf])⟩
  have h1 : (E ++ Wc)[k]? = some q := by rw [List.getElem?_append_left (List.getElem?_eq_some_iff.mp hq).1]; exact hq
  refine (hP k q h1).kept (hk q.1 ((hP k q h1).lt) (fun h => ?_))
  obtain ⟨w, hw, e⟩ := List.mem_map.mp h
  obtain ⟨j, hj⟩ := List.getElem?_of_mem hw
  have h2 : (E ++ Wc)[E.length + j]? = some w := by rw [List.getElem?_append_right (Nat.le_add_right _ _), Nat.add_sub_cancel_left]; exact hj
  have := hD.1 _ _ q w h1 h2 e.symm
  have h4 := (List.getElem?_eq_some_iff.mp hq).1
  omega
theorem PE_Va {D : va_G} {cs : Nat → ClassId} {W : va_W} {s : State} {H : Heap} {b : Nat} {As : List Value} {C : String} {T : u_T} {N ci : Nat} {fs : List Value} {A A0 A1 : Nat → Prop} {locs : List Loc} (hK : KK D cs s) (hN : NN s) (hE : EV A s) (hS : va_S A s.heap H locs) (hA : ∀ q, A1 q → A q) (hP : va_P D vwCl W H) (hD : va_D A0 W) (hw : W[0]? = some (b, .inr (ci, fs))) (hc : vwCl[ci]? = some (C, T, N)) : PreV s H C b (va_Pc (.ref b :: As) (PE D cs W A1)) As :=
  ⟨PE_blind, va_recv hK hP hc hw, fun U hU hW => ⟨rfl, ⟨by rw [hU]; exact hP, va_K.moved hW.alike hK, inW_D hD, hN.warm hW⟩, hE.call hS hA hU hW⟩⟩
/-- which handler -/
def hkI (L : List Nat) (c : Nat) : Int := if c = 0 then 0 else ((L.idxOf c : Nat) : Int) + 1
theorem fdv_ok64 {a b : Int} (hb : b ≠ 0 ∧ -2147483648 ≤ b ∧ b < 2147483648) : vf_n64 (FP.f2d (FP.fdiv (FP.i2f (iI a)) (FP.i2f (iI b)))) := nn64 ((Jvm.FP.f2d_nan _).trans (fdv_nn (iI_ne hb)))
theorem crI_rng (sh it : Nat) (lnf : Nat → Option Nat) (zs zi : Int) : 0 ≤ crI sh it lnf zs zi ∧ crI sh it lnf zs zi ≤ 1 := by unfold crI; split <;> omega
theorem PAE_V {D : va_G} {cs : Nat → ClassId} {W ws : va_W} {s : State} {H : Heap} {b : Nat} {As : List Value} {C : String} {T : u_T} {N ci : Nat} {fs : List Value} {A A0 A1 : Nat → Prop} {locs : List Loc} (hK : KK D cs s) (hN : NN s) (hE : EV A s) (hS : va_S A s.heap H locs) (hA : ∀ q, A1 q → A q) (hP : va_P D vwCl ws H) (hD : va_D A0 ws) (is : List Nat) (hn : va_nd is = true) (hp : picks ws is W) (hw : W[0]? = some (b, .inr (ci, fs))) (hc : vwCl[ci]? = some (C, T, N)) : PreV s H C b (va_Pc (.ref b :: As) (fun U => U.heap.size = H.size ∧ PE D cs W A1 U)) As :=
  ⟨fun a U g mk q => by
    obtain ⟨q0, q1, qE⟩ := q
    exact ⟨q0, q1, (PE_blind (av := .ref b :: As) a U g mk ⟨q0, qE⟩).2⟩, va_recv hK (P_pick hP is hp) hc hw, fun U hU hW => ⟨rfl, by rw [hU], ⟨by rw [hU]; exact P_pick hP is hp, va_K.moved hW.alike hK, inW_D (D_pick hD is hn hp), hN.warm hW⟩, hE.call hS hA hU hW⟩⟩
/-! what the law's helpers answer for an exception -/
def exv : Nat → Int
  | 1 => -77
  | 2 => -75
  | 3 => -78
  | 4 => -79
  | 5 => -76
  | _ => 0
theorem exv_rng : ∀ n : Nat, -79 ≤ exv n ∧ exv n ≤ 0
  | 0 => by simp [exv]
  | 1 => by simp [exv]
  | 2 => by simp [exv]
  | 3 => by simp [exv]
  | 4 => by simp [exv]
  | 5 => by simp [exv]
  | n + 6 => by simp [exv]
theorem exv_neg {n : Nat} (h : n ≠ 0 ∧ n ≤ 5) : exv n < 0 := by
  rcases (show n = 1 ∨ n = 2 ∨ n = 3 ∨ n = 4 ∨ n = 5 by omega) with e | e | e | e | e <;> subst e <;> simp [exv]
