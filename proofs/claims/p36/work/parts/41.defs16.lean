/-- a maker's start -/
def PA (D : va_G) (cs : Nat → ClassId) (W : va_W) (sz : Nat) : State → Prop := fun U => U.heap.size = sz ∧ PC D cs W U
theorem PA_blind {D : va_G} {cs : Nat → ClassId} {W : va_W} {sz : Nat} {av : List Value} : FrameBlind (va_Pc av (PA D cs W sz)) := fun a U g mk q => by
  obtain ⟨q0, q1, qC⟩ := q
  exact ⟨q0, q1, (PC_blind (av := av) a U g mk ⟨q0, qC⟩).2⟩
theorem PA_S {D : va_G} {cs : Nat → ClassId} {W ws : va_W} {s : State} {H : Heap} {As : List Value} {A0 : Nat → Prop} (hK : KK D cs s) (hN : NN s) (hP : va_P D vwCl ws H) (hD : va_D A0 ws) (is : List Nat) (hn : va_nd is = true) (hp : picks ws is W) : PreS s H (va_Pc As (PA D cs W H.size)) As :=
  ⟨PA_blind, fun U hU hW => ⟨rfl, by rw [hU], by rw [hU]; exact P_pick hP is hp, va_K.moved hW.alike hK, inW_D (D_pick hD is hn hp), hN.warm hW⟩⟩
theorem fA_sub {A0 : Nat → Prop} {ws Wc : va_W} {H0 H : Heap} {locs : List Loc} (hD : va_D A0 ws) (is : List Nat) (hp : picks ws is Wc) (hS : va_S A0 H0 H locs) (hA : ∀ q, H0.size ≤ q → A0 q) : ∀ q, va_A Wc H.size q → A0 q := by
  intro q h
  rcases h with ⟨k, e, h⟩ | h
  · obtain ⟨i, -, hi⟩ := picks_get hp k (q, e) h
    exact hD.2 i (q, e) hi
  · exact hA q (Nat.le_trans hS.1 h)
theorem my_joinA {A0 : Nat → Prop} {D : va_G} {cl : List vw_C} {ws Wc W1 Wn : va_W} {H H1 : Heap} (hP : va_P D cl ws H) (hD : va_D A0 ws) (is : List Nat) (hn : va_nd is = true) (hp : picks ws is Wc) (hf : W1.map Prod.fst = Wc.map Prod.fst)
    (hk : ∀ q : Nat, q < H.size → ¬ va_A Wc H.size q → H1[q]? = H[q]?) (hB : va_P D cl (W1 ++ Wn) H1 ∧ va_D (va_A Wc H.size) (W1 ++ Wn)) (hF : ∀ q, va_A Wc H.size q → A0 q) : va_P D cl (setAll ws is W1 ++ Wn) H1 ∧ va_D A0 (setAll ws is W1 ++ Wn) := by
  have hr : ∀ (k : Nat) (q : Nat × va_E), Wn[k]? = some q → (W1 ++ Wn)[W1.length + k]? = some q := fun k q h => by
    rw [List.getElem?_append_right (Nat.le_add_right _ _), Nat.add_sub_cancel_left]; exact h
  have hl : ∀ (k : Nat) (q : Nat × va_E), W1[k]? = some q → (W1 ++ Wn)[k]? = some q := fun k q h => by
    rw [List.getElem?_append_left (List.getElem?_eq_some_iff.mp h).1]; exact h
  have h1 := my_join hP hD is hn hp hf (fun q hq hni => hk q hq (fun h => by
    rcases h with ⟨k, e, h⟩ | h
    · exact hni (List.mem_map.mpr ⟨(q, e), List.mem_of_getElem? h, rfl⟩)
    · omega)) (fun k q h => hB.1 k q (hl k q h))
  refine ⟨va_P.app h1.1 (fun k q h => hB.1 _ q (hr k q h)), va_D.app h1.2 ⟨fun i j p q hi hj e => ?_, fun k q h => hF _ (hB.2.2 _ q (hr k q h))⟩ (fun i j x y hx hy hxy => ?_)⟩
  · have := hB.2.1 _ _ p q (hr i p hi) (hr j q hj) e
    omega
  · have hx1 : x.1 < H.size := by
      have h2 : ((setAll ws is W1).map Prod.fst)[i]? = some x.1 := by rw [List.getElem?_map, hx]; rfl
      rw [setAll_fst hp hf hn, List.getElem?_map] at h2
      cases hw : ws[i]? with
      | none => rw [hw] at h2; cases h2
      | some q0 =>
        rw [hw] at h2
        have h3 := (hP i q0 hw).lt
        rw [← Option.some.inj h2]; exact h3
    rcases hB.2.2 _ y (hr j y hy) with ⟨k, e, h⟩ | h
    · have h2 : (W1.map Prod.fst)[k]? = some y.1 := by rw [hf, List.getElem?_map, h]; rfl
      rw [List.getElem?_map] at h2
      cases hw : W1[k]? with
      | none => rw [hw] at h2; cases h2
      | some q0 =>
        rw [hw] at h2
        have h3 := hB.2.1 k (W1.length + j) q0 y (hl k q0 hw) (hr j y hy) (Option.some.inj h2)
        have h4 := (List.getElem?_eq_some_iff.mp hw).1
        omega
    · omega
theorem KK_cI {D : va_G} {cs : Nat → ClassId} {s : State} {cA : ClassId} {ty : FieldType} (h : va_K D vwCl (TY cs ++ [(cA, ty)]) s) (k : Nat) (hk : (TY cs)[k]? = some (cs k, ty)) (hk6 : k < 6) : cA = cs k := by
  have h0 := (h.2 k (cs k, ty) (by rw [List.getElem?_append_left hk6]; exact hk)).2
  have h6 := (h.2 6 (cA, ty) rfl).2
  cases ty with
  | object C =>
    obtain ⟨-, -, -, -, -, e0⟩ := h0
    obtain ⟨-, -, -, -, -, e6⟩ := h6
    exact Option.some.inj (e6.symm.trans e0)
  | _ => exact Option.some.inj (h6.symm.trans h0)
section MYN
variable {p : Program} {l : Launch} {e : Env} {R : Room} {s : State} {m : MethodId} {args : Array Value} {below : List Frame} {meth : Method} {c : Code} {H : Heap} {locs : List Loc} {cells slots : Nat} {Q : State → Prop} {cc : ByteArray} {pc : Nat} {ls : Array Slot} {rest : List Value} {D : va_G} {cs : Nat → ClassId} {ws : va_W} {A : Nat → Prop} {H0 : Heap}
theorem my_newI (hx : p.tables.exec = Jvm.exec) (hb : c.code = cc) (hts : ∀ w ∈ ALL, w.before args s = true) (hK : KK D cs s) (hP : va_P D vwCl ws H) (hD : va_D A ws) (hS : va_S A H0 H locs) (hA : ∀ q, H0.size ≤ q → A q) (N' : Nat) (hn : N' < 100000) (hcells : cells + 1 ≤ R.cells) (hslots : slots + N' ≤ R.slots) (hdg : decode cc pc = .ok (.newarray .int, 2))
    (kk : ∀ (q : Nat) (H1 : Heap), va_P D vwCl (ws ++ [(q, arI cs N' (fun _ => 0))]) H1 → va_D A (ws ++ [(q, arI cs N' (fun _ => 0))]) → va_S A H0 H1 locs → W p l e R s m args below meth c H1 locs (cells + 1) (slots + N') Q (F0 m (pc + 2) ls (.ref q :: rest))) : W p l e R s m args below meth c H locs cells slots Q (F0 m pc ls (.int (iI ((N' : Nat) : Int)) :: rest)) := by
  refine va_newa (atype := .int) (ty := .int) (a0 := (N', .inl (fun _ => iI 0))) hx hb (hts _ w_38) rfl hK hP hD hS hA (fun _ => rfl) ?_ (by rw [iI_cl (by omega)]; omega) (by show N' * 4 ≤ _; omega) hcells hslots hdg (fun q cA H1 hK1 hP1 hD1 hS1 => ?_)
  · rw [show (0 : Int32) = iI 0 from rfl, iI_lt (by omega)]; omega
  · have e1 := KK_cI hK1 0 rfl (by omega)
    subst e1
    exact kk q H1 hP1 hD1 hS1
theorem my_newQ (hx : p.tables.exec = Jvm.exec) (hb : c.code = cc) {own C : String} {index : Nat} (hown : s.vm.findClass own = some m.cls) (hts : ∀ w ∈ ALL, w.before args s = true) (hcl : Cond.classLink own index C ∈ ALL) (hover : va_AO C s) (hK : KK D cs s) (hP : va_P D vwCl ws H) (hD : va_D A ws) (hS : va_S A H0 H locs) (hA : ∀ q, H0.size ≤ q → A q) (t : Nat) (ht : (TY cs)[t]? = some (cs t, .object C)) (ht6 : t < 6) (N' : Nat) (hn : N' < 100000) (hcells : cells + 1 ≤ R.cells) (hslots : slots + N' ≤ R.slots) (hdg : decode cc pc = .ok (.anewarray index, 3))
    (kk : ∀ (q : Nat) (H1 : Heap), va_P D vwCl (ws ++ [(q, arQ cs t N' (fun _ => none))]) H1 → va_D A (ws ++ [(q, arQ cs t N' (fun _ => none))]) → va_S A H0 H1 locs → W p l e R s m args below meth c H1 locs (cells + 1) (slots + N') Q (F0 m (pc + 3) ls (.ref q :: rest))) : W p l e R s m args below meth c H locs cells slots Q (F0 m pc ls (.int (iI ((N' : Nat) : Int)) :: rest)) := by
  refine va_newq hx hb hown (hts _ hcl) hover hK hP hD hS hA (N' := N') ?_ (by rw [iI_cl (by omega)]; omega) (by omega) hcells hslots hdg (fun q cA H1 hK1 hP1 hD1 hS1 => ?_)
  · rw [show (0 : Int32) = iI 0 from rfl, iI_lt (by omega)]; omega
  · have e1 := KK_cI hK1 t ht ht6
    subst e1
    exact kk q H1 hP1 hD1 hS1
theorem my_putF (hx : p.tables.exec = Jvm.exec) (hb : c.code = cc) (hts : ∀ w ∈ ALL, w.before args s = true) {own C : String} {T : u_T} {N ci index : Nat} {a : Nat} (hin : ∀ w ∈ u_ws C T N, w ∈ ALL) {ty0 : Nat → FieldType} (hty : ∀ k, k < N → parseFieldDescriptor (T k).2.2.1 = some (ty0 k)) (hnm : ∀ a, a < N → ∀ b, b < N → a ≠ b → (T a).2.1 ≠ (T b).2.1) (hown : s.vm.findClass own = some m.cls) (hK : KK D cs s) (hP : va_P D vwCl ws H) (hD : va_D A ws) (hS : va_S A H0 H locs) (q0 : Nat) {fs : List Value} (he : ws[q0]? = some (a, .inr (ci, fs))) (hc : vwCl[ci]? = some (C, T, N)) (k : Nat) (hk : k < N) (hlink : Cond.fieldLink own index C (T k).2.1 (T k).2.2.1 ∈ ALL) (hd : (T k).1 = C) (ho : C = own) (hfin : (T k).2.2.2 = true) (hin2 : meth.name = "<init>") {v : Value} (hn : narrow (ty0 k) v = v) (hfit : fits (ty0 k) v = true) (hl : k < fs.length) (hdg : decode cc pc = .ok (.putfield index, 3))
    (kk : ∀ (H1 : Heap) (locs1 : List Loc), va_P D vwCl (ws.set q0 (a, .inr (ci, fs.set k v))) H1 → va_D A (ws.set q0 (a, .inr (ci, fs.set k v))) → va_S A H0 H1 locs1 → W p l e R s m args below meth c H1 locs1 cells slots Q (F0 m (pc + 3) ls rest)) : W p l e R s m args below meth c H locs cells slots Q (F0 m pc ls (v :: .ref a :: rest)) :=
  va_putF hx hb hts hin ty0 hty hnm hown hK hP hD hS q0 he hc k hk (hts _ hlink) (fun x h => by rw [hd] at h; exact h) hfin hin2 (by rw [hd, ho]) (hty k hk) hn hfit hl hdg kk
theorem my_putQ (hx : p.tables.exec = Jvm.exec) (hb : c.code = cc) (hts : ∀ w ∈ ALL, w.before args s = true) {own C : String} {T : u_T} {N ci index : Nat} {a : Nat} (hin : ∀ w ∈ u_ws C T N, w ∈ ALL) {ty0 : Nat → FieldType} (hty : ∀ k, k < N → parseFieldDescriptor (T k).2.2.1 = some (ty0 k)) (hnm : ∀ a, a < N → ∀ b, b < N → a ≠ b → (T a).2.1 ≠ (T b).2.1) (hown : s.vm.findClass own = some m.cls) (hK : KK D cs s) (hP : va_P D vwCl ws H) (hD : va_D A ws) (hS : va_S A H0 H locs) (q0 : Nat) {fs : List Value} (he : ws[q0]? = some (a, .inr (ci, fs))) (hc : vwCl[ci]? = some (C, T, N)) (k : Nat) (hk : k < N) (hlink : Cond.fieldLink own index C (T k).2.1 (T k).2.2.1 ∈ ALL) (hd : (T k).1 = C) (hfin : (T k).2.2.2 = false) {v : Value} (hn : narrow (ty0 k) v = v) (hfit : fits (ty0 k) v = true) (hl : k < fs.length) (hdg : decode cc pc = .ok (.putfield index, 3))
    (kk : ∀ (H1 : Heap) (locs1 : List Loc), va_P D vwCl (ws.set q0 (a, .inr (ci, fs.set k v))) H1 → va_D A (ws.set q0 (a, .inr (ci, fs.set k v))) → va_S A H0 H1 locs1 → W p l e R s m args below meth c H1 locs1 cells slots Q (F0 m (pc + 3) ls rest)) : W p l e R s m args below meth c H locs cells slots Q (F0 m pc ls (v :: .ref a :: rest)) :=
  va_put hx hb hts hin ty0 hty hnm hown hK hP hD hS q0 he hc k hk (hts _ hlink) (fun x h => by rw [hd] at h; exact h) hfin (hty k hk) hn hfit hl hdg kk
end MYN
