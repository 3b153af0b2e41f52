/-! a new item, a new line: their cells come behind (from whole's part 65) -/
theorem lnq_t {cr : Nat → Bool} {LA : Nat → Nat → Nat} {a : Nat} (h : cr a = true) : lnq cr LA a = some (LA a 0) := if_pos h
theorem lnq_f {cr : Nat → Bool} {LA : Nat → Nat → Nat} {a : Nat} (h : ¬ cr a = true) : lnq cr LA a = none := if_neg h
theorem itq_t {it : Nat} {IA : Nat → Nat → Nat} {i : Nat} (h : i < it) : itq it IA i = some (IA i 0) := if_pos h
/-! a new item, a new line: their cells come behind -/
theorem fAll_new {n : Nat} {f g : Nat → va_W} {a : Nat} (ha : a < n) (h : ∀ b, b ≠ a → f b = g b) (h0 : f a = []) : (fAll n f ++ g a).Perm (fAll n g) := by
  have e1 := f_op f ha
  rw [h0, List.nil_append, fEx_eq (n := n) (a := a) h] at e1
  exact ((e1.append_right (g a)).trans List.perm_append_comm).trans (f_op g ha).symm
theorem aW_item {cs : Nat → ClassId} {IA LA : Nat → Nat → Nat} {it : Nat} {cr : Nat → Bool} {IR : Nat → IT} {LR : Nat → LT} (u : Nat → Nat) (r : IT) (hi : it < 5) (hci : ∀ a, cr a = true → a % 5 < it) : (aW cs IA LA it cr IR LR ++ itD cs (upR IA it u) it r).Perm (aW cs (upR IA it u) LA (it + 1) cr (upR IR it r) LR) := by
  unfold aW
  have e1 : lnC cs IA LA cr LR = lnC cs (upR IA it u) LA cr LR := by
    funext a
    unfold lnC
    by_cases hc : cr a = true
    · have := hci a hc
      rw [if_pos hc, if_pos hc]
      unfold lnD
      rw [upR_ne (show a % 5 ≠ it by omega)]
    · rw [if_neg hc, if_neg hc]
  have e2 := fAll_new (n := 5) (f := itC cs IA it IR) (g := itC cs (upR IA it u) (it + 1) (upR IR it r)) (a := it) hi (fun b hb => by
    unfold itC
    by_cases q : b < it
    · rw [if_pos q, if_pos (by omega)]
      unfold itD
      rw [upR_ne hb, upR_ne hb]
    · rw [if_neg q, if_neg (by omega)]) (if_neg (by omega))
  rw [show itC cs (upR IA it u) (it + 1) (upR IR it r) it = itD cs (upR IA it u) it r from by unfold itC; rw [if_pos (by omega), upR_same]] at e2
  rw [e1]
  refine List.Perm.trans ?_ (e2.append_right _)
  rw [List.append_assoc, List.append_assoc]
  exact List.perm_append_comm.append_left _
theorem aW_line {cs : Nat → ClassId} {IA LA : Nat → Nat → Nat} {it : Nat} {cr : Nat → Bool} {IR : Nat → IT} {LR : Nat → LT} {a : Nat} (u : Nat → Nat) (r : LT) (ha : a < 20) (hc : ¬ cr a = true) : (aW cs IA LA it cr IR LR ++ lnD cs IA (upR LA a u) a r).Perm (aW cs IA (upR LA a u) it (upR cr a true) IR (upR LR a r)) := by
  unfold aW
  have e2 := fAll_new (n := 20) (f := lnC cs IA LA cr LR) (g := lnC cs IA (upR LA a u) (upR cr a true) (upR LR a r)) (a := a) ha (fun b hb => by
    unfold lnC
    rw [upR_ne hb]
    by_cases q : cr b = true
    · rw [if_pos q, if_pos q]
      unfold lnD
      rw [upR_ne hb, upR_ne hb]
    · rw [if_neg q, if_neg q]) (if_neg hc)
  rw [show lnC cs IA (upR LA a u) (upR cr a true) (upR LR a r) a = lnD cs IA (upR LA a u) a r from by unfold lnC; rw [upR_same, if_pos rfl, upR_same]] at e2
  rw [List.append_assoc]
  exact e2.append_left _
theorem itq_up {it : Nat} {IA : Nat → Nat → Nat} (u : Nat → Nat) : va_up (itq it IA) it (some (u 0)) = itq (it + 1) (upR IA it u) := by
  funext j
  unfold va_up itq
  by_cases e : j = it
  · subst e; rw [if_pos rfl, if_pos (by omega), upR_same]
  · rw [if_neg e, upR_ne e]
    by_cases q : j < it
    · rw [if_pos q, if_pos (by omega)]
    · rw [if_neg q, if_neg (by omega)]
theorem lnq_up {cr : Nat → Bool} {LA : Nat → Nat → Nat} {a : Nat} (u : Nat → Nat) : va_up (lnq cr LA) a (some (u 0)) = lnq (upR cr a true) (upR LA a u) := by
  funext j
  unfold va_up lnq
  by_cases e : j = a
  · subst e; rw [if_pos rfl, upR_same, upR_same, if_pos rfl]
  · rw [if_neg e, upR_ne e, upR_ne e]
/-! the object's world in one word; a helper's contract over its small world, over the whole one -/
abbrev SC : Type := (Nat → Int) × (Nat → Int) × (Nat → Int) × Int × Int
def OW (cs : Nat → ClassId) (oa : Nat → Nat) (IA LA : Nat → Nat → Nat) (sh it dy : Nat) (lc pct lr sr : Int) (lf lrf srf : Nat → Int) (cr : Nat → Bool) (IR : Nat → IT) (LR : Nat → LT) (z : SC) : va_W := [(oa 0, .inr (5, [.ref (oa 1), .ref (oa 2), .ref (oa 3), .ref (oa 4), .ref (oa 5), .ref (oa 6), .ref (oa 7), .int (iI (((sh : Nat) : Int))), .int (iI (((it : Nat) : Int))), .int (iI (lc)), .int (iI (((dy : Nat) : Int))), .int (iI (pct)), .int (iI (lr)), .int (iI (sr))])), (oa 1, arI cs 4 lf), (oa 2, arQ cs 2 5 (itq it IA)), (oa 3, arQ cs 3 20 (lnq cr LA)), (oa 4, .inr (0, [.ref (oa 8)])), (oa 8, arI cs 1005 lrf), (oa 5, .inr (0, [.ref (oa 9)])), (oa 9, arI cs 1005 srf), (oa 6, .inr (2, [.ref (oa 10), .int (iI (z.2.2.2.1))])), (oa 10, arI cs 7 z.1), (oa 7, .inr (4, [.ref (oa 11), .ref (oa 12), .int (iI (z.2.2.2.2))])), (oa 11, arI cs 4 z.2.1), (oa 12, arI cs 4 z.2.2.1)] ++ (aW cs IA LA it cr IR LR)
theorem OW_fst {cs : Nat → ClassId} {oa : Nat → Nat} {IA LA : Nat → Nat → Nat} {sh it dy : Nat} {lc pct lr sr : Int} {lf lrf srf : Nat → Int} {cr : Nat → Bool} {IR : Nat → IT} {LR : Nat → LT} {z : SC} {sh' dy' : Nat} {lc' pct' lr' sr' : Int} {lf' lrf' srf' : Nat → Int} {IR' : Nat → IT} {LR' : Nat → LT} {z' : SC} :
    (OW cs oa IA LA sh' it dy' lc' pct' lr' sr' lf' lrf' srf' cr IR' LR' z').map Prod.fst = (OW cs oa IA LA sh it dy lc pct lr sr lf lrf srf cr IR LR z).map Prod.fst := fst_ap rfl aW_fst
theorem EV.narrow {A A1 : Nat → Prop} {U : State} (hE : EV A U) (hA : ∀ q, A1 q → A q) : EV A1 U := ⟨hE.1.narrow hA, hE.2.1.narrow hA, hE.2.2⟩
theorem PC_pm {D : va_G} {cs : Nat → ClassId} {W Wm W' : va_W} {U : State} (h : PC D cs W' U) (e : W'.Perm Wm) (is : List Nat) (hn : va_nd is = true) (hp : picks Wm is W) : PC D cs W U := by
  obtain ⟨hP, hK, hD, hN⟩ := h
  exact ⟨P_pick (P_pm (b := []) hP e) is hp, hK, inW_D (D_pick (D_pm (b := []) hD e) is hn hp), hN⟩
theorem inW_pm {W Wm W' : va_W} (e : W'.Perm Wm) (is : List Nat) (hp : picks Wm is W) : ∀ q, inW W q → inW W' q := by
  intro q h
  obtain ⟨w, hw, e1⟩ := List.mem_map.mp h
  obtain ⟨j, hj⟩ := List.getElem?_of_mem hw
  obtain ⟨i, -, hi⟩ := picks_get hp j w hj
  exact List.mem_map.mpr ⟨w, (e.mem_iff).mpr (List.mem_of_getElem? hi), e1⟩
section LF
variable {l : Launch} {y : MethodName} {ws : List Cond} {rm : Room} {S : Type} {D : va_G} {cs : Nat → ClassId} {As : List Value} {W Wm W' : va_W} {mc ms : Nat}
theorem lf_RO {post : Int32 → S → Prop} (h : Met l y ws rm (va_Pc As (PE D cs W noA)) (va_Qi post (fun _ _ => True) noA) mc ms noA) (e : W'.Perm Wm) (is : List Nat) (hn : va_nd is = true) (hp : picks Wm is W) :
    Met l y ws rm (va_Pc As (PE D cs W' noA)) (va_Qi post (fun _ _ => True) noA) mc ms noA :=
  MetFree.mono h (fun _ _ q => ⟨q.1, PC_pm q.2.1 e is hn hp, q.2.2⟩) (fun _ _ _ _ _ k => k) (fun _ _ _ _ _ k => k)
theorem lf_ROl {post : Int64 → S → Prop} (h : Met l y ws rm (va_Pc As (PC D cs W)) (va_Ql post (fun _ _ => True) noA) mc ms noA) (e : W'.Perm Wm) (is : List Nat) (hn : va_nd is = true) (hp : picks Wm is W) :
    Met l y ws rm (va_Pc As (PC D cs W')) (va_Ql post (fun _ _ => True) noA) mc ms noA :=
  MetFree.mono h (fun _ _ q => ⟨q.1, PC_pm q.2 e is hn hp⟩) (fun _ _ _ _ _ k => k) (fun _ _ _ _ _ k => k)
theorem lf_ROc {post : Int32 → S → Prop} (h : Met l y ws rm (va_Pc As (PC D cs W)) (va_Qi post (fun _ _ => True) noA) mc ms noA) (e : W'.Perm Wm) (is : List Nat) (hn : va_nd is = true) (hp : picks Wm is W) :
    Met l y ws rm (va_Pc As (PC D cs W')) (va_Qi post (fun _ _ => True) noA) mc ms noA :=
  MetFree.mono h (fun _ _ q => ⟨q.1, PC_pm q.2 e is hn hp⟩) (fun _ _ _ _ _ k => k) (fun _ _ _ _ _ k => k)
theorem lf_RW {post : Int32 → S → Prop} {W2 W2' : S → va_W} (h : Met l y ws rm (va_Pc As (PE D cs W (inW W))) (va_Qi post (fun u t => va_P D vwCl (W2 u) t.heap) (inW W)) mc ms (inW W)) (e : W'.Perm Wm) (is : List Nat) (hn : va_nd is = true) (hp : picks Wm is W) (hf : ∀ u, (W2 u).map Prod.fst = W.map Prod.fst) (e2 : ∀ u, (setAll Wm is (W2 u)).Perm (W2' u)) :
    Met l y ws rm (va_Pc As (PE D cs W' (inW W'))) (va_Qi post (fun u t => va_P D vwCl (W2' u) t.heap) (inW W')) mc ms (inW W') := by
  have hsub := inW_pm e is hp
  refine MetFree.mono h (fun _ _ q => ⟨q.1, PC_pm q.2.1 e is hn hp, q.2.2.narrow hsub⟩) (fun _ _ _ _ _ k => k) (fun a s o t q k => ?_)
  obtain ⟨⟨⟨r, u, ho, hpo, hB⟩, hz, hk⟩, L, hL, hLf⟩ := k
  have hj := my_join (P_pm (b := []) q.2.1.1 e) (D_pm (b := []) q.2.1.2.2.1 e) is hn hp (hf u) hk hB
  exact ⟨⟨⟨r, u, ho, hpo, P_pm (b := []) hj.1 (e2 u)⟩, hz, fun x h1 h2 => hk x h1 (fun h => h2 (hsub x h))⟩, L, hL, fun x hx => hsub _ (hLf x hx)⟩
theorem lf_RWc {post : Int32 → S → Prop} {W2 W2' : va_W} {isC : List Nat} {WC WcC : va_W} (h : Met l y ws rm (va_Pc As (PE D cs W (inW W))) (va_Qi post (fun _ t => va_P D vwCl W2 t.heap) (inW W)) mc ms (inW W)) (e : W'.Perm Wm) (is : List Nat) (hn : va_nd is = true) (hp : picks Wm is W) (hnC : va_nd isC = true) (hpC : picks Wm isC WcC) (hfC : WC.map Prod.fst = WcC.map Prod.fst) (hsb : ∀ i ∈ isC, i ∈ is) (hp1 : picks (setAll Wm isC WC) is W2) (e2 : (setAll Wm isC WC).Perm W2') :
    Met l y ws rm (va_Pc As (PE D cs W' (inW W'))) (va_Qi post (fun _ t => va_P D vwCl W2' t.heap) (inW W')) mc ms (inW W') := by
  have hsub := inW_pm e is hp
  refine MetFree.mono h (fun _ _ q => ⟨q.1, PC_pm q.2.1 e is hn hp, q.2.2.narrow hsub⟩) (fun _ _ _ _ _ k => k) (fun a s o t q k => ?_)
  obtain ⟨⟨⟨r, u, ho, hpo, hB⟩, hz, hk⟩, L, hL, hLf⟩ := k
  have hj := my_joinC (P_pm (b := []) q.2.1.1 e) (D_pm (b := []) q.2.1.2.2.1 e) is hp isC hnC hpC hfC hsb hk hB hp1
  exact ⟨⟨⟨r, u, ho, hpo, P_pm (b := []) hj.1 e2⟩, hz, fun x h1 h2 => hk x h1 (fun h => h2 (hsub x h))⟩, L, hL, fun x hx => hsub _ (hLf x hx)⟩
/-- a witness for what the answer leaves open -/
theorem lf_ex {T : Type} {A : Nat → Prop} {Pc : Array Value → State → Prop} {post : Int32 → S → Prop} {B : S → State → Prop} {post' : Int32 → T → Prop} {B' : T → State → Prop} (f : S → T) (h : Met l y ws rm Pc (va_Qi post B A) mc ms A) (h1 : ∀ r u, post r u → post' r (f u)) (h2 : ∀ u t, B u t → B' (f u) t) : Met l y ws rm Pc (va_Qi post' B' A) mc ms A := by
  refine MetFree.imp h (fun a s o t k => ?_)
  obtain ⟨⟨⟨r, u, ho, hpo, hB⟩, hF⟩, hL⟩ := k
  exact ⟨⟨⟨r, f u, ho, h1 r u hpo, h2 u t hB⟩, hF⟩, hL⟩
/-- what reads alone leaves the world as it was -/
theorem lf_keep {post : Int32 → S → Prop} (h : Met l y ws rm (va_Pc As (PE D cs W noA)) (va_Qi post (fun _ _ => True) noA) mc ms noA) :
    Met l y ws rm (va_Pc As (PE D cs W (inW W))) (va_Qi post (fun _ t => va_P D vwCl W t.heap) (inW W)) mc ms (inW W) := by
  refine MetFree.mono h (fun _ _ q => ⟨q.1, q.2.1, q.2.2.narrow (fun _ h => False.elim h)⟩) (fun _ _ _ _ _ k => k) (fun a s o t q k => ?_)
  obtain ⟨⟨⟨r, u, ho, hpo, hB⟩, hz, hk⟩, L, hL, hLf⟩ := k
  exact ⟨⟨⟨r, u, ho, hpo, P_kept q.2.1.1 hk⟩, hz, fun x h1 _ => hk x h1 (fun h => h)⟩, L, hL, fun x hx => (hLf x hx).elim⟩
theorem lf_AL {sz : Nat} {post : Int32 → S → Prop} {W1 Wn W2' : S → va_W} (h : Met l y ws rm (va_Pc As (fun U => U.heap.size = sz ∧ PE D cs W (va_A W sz) U)) (va_Qi post (fun u t => va_P D vwCl (W1 u ++ Wn u) t.heap ∧ va_D (va_A W sz) (W1 u ++ Wn u)) (va_A W sz)) mc ms (va_A W sz)) (e : W'.Perm Wm) (is : List Nat) (hn : va_nd is = true) (hp : picks Wm is W) (hf : ∀ u, (W1 u).map Prod.fst = W.map Prod.fst) (e2 : ∀ u, (setAll Wm is (W1 u) ++ Wn u).Perm (W2' u)) :
    Met l y ws rm (va_Pc As (fun U => U.heap.size = sz ∧ PE D cs W' (va_A W' sz) U)) (va_Qi post (fun u t => va_P D vwCl (W2' u) t.heap ∧ va_D (va_A W' sz) (W2' u)) (va_A W' sz)) mc ms (va_A W' sz) := by
  have hsub : ∀ q, va_A W sz q → va_A W' sz q := by
    intro q hq
    rcases hq with ⟨k, x, hk⟩ | hq
    · obtain ⟨i, -, hi⟩ := picks_get hp k (q, x) hk
      obtain ⟨j, hj⟩ := List.getElem?_of_mem ((e.mem_iff).mpr (List.mem_of_getElem? hi))
      exact Or.inl ⟨j, x, hj⟩
    · exact Or.inr hq
  refine MetFree.mono h (fun _ _ q => ⟨q.1, q.2.1, PC_pm q.2.2.1 e is hn hp, q.2.2.2.narrow hsub⟩) (fun _ _ _ _ _ k => k) (fun a s o t q k => ?_)
  obtain ⟨⟨⟨r, u, ho, hpo, hB⟩, hz, hk⟩, L, hL, hLf⟩ := k
  obtain ⟨-, hsz, ⟨hP, hK, hD, hN⟩, hE⟩ := q
  subst hsz
  have hD2 : va_D (va_A W' s.heap.size) W' := hD.self
  have hj := my_joinA (P_pm (b := []) hP e) (D_pm (b := []) hD2 e) is hn hp (hf u) hk hB hsub
  exact ⟨⟨⟨r, u, ho, hpo, P_pm (b := []) hj.1 (e2 u), D_pm (b := []) hj.2 (e2 u)⟩, hz, fun x h1 h2 => hk x h1 (fun h => h2 (hsub x h))⟩, L, hL, fun x hx => hsub _ (hLf x hx)⟩
end LF
/-- behind a maker's call: what stood ahead of its world stays -/
theorem my_joinAE {A0 : Nat → Prop} {D : va_G} {cl : List vw_C} {E Wc W2 : va_W} {H H1 : Heap} (hP : va_P D cl (E ++ Wc) H) (hD : va_D A0 (E ++ Wc))
    (hk : ∀ q : Nat, q < H.size → ¬ va_A Wc H.size q → H1[q]? = H[q]?) (hB : va_P D cl W2 H1 ∧ va_D (va_A Wc H.size) W2) (hF : ∀ q, va_A Wc H.size q → A0 q) : va_P D cl (E ++ W2) H1 ∧ va_D A0 (E ++ W2) := by
  have hdis : ∀ (k : Nat) (q : Nat × va_E), E[k]? = some q → q.1 < H.size ∧ ¬ va_A Wc H.size q.1 := fun k q hq => by
    have h1 : (E ++ Wc)[k]? = some q := by rw [List.getElem?_append_left (List.getElem?_eq_some_iff.mp hq).1]; exact hq
    have h2 := (hP k q h1).lt
    refine ⟨h2, fun h => ?_⟩
    rcases h with ⟨j, x, hj⟩ | h
    · have h3 : (E ++ Wc)[E.length + j]? = some (q.1, x) := by rw [List.getElem?_append_right (Nat.le_add_right _ _), Nat.add_sub_cancel_left]; exact hj
      have := hD.1 _ _ q (q.1, x) h1 h3 rfl
      have h4 := (List.getElem?_eq_some_iff.mp hq).1
      omega
    · omega
  have hPE : va_P D cl E H1 := fun k q hq => by
    have h1 : (E ++ Wc)[k]? = some q := by rw [List.getElem?_append_left (List.getElem?_eq_some_iff.mp hq).1]; exact hq
    exact (hP k q h1).kept (hk q.1 (hdis k q hq).1 (hdis k q hq).2)
  have hDE : va_D A0 E := ⟨fun i j p q hi hj e => by
    have h1 : (E ++ Wc)[i]? = some p := by rw [List.getElem?_append_left (List.getElem?_eq_some_iff.mp hi).1]; exact hi
    have h2 : (E ++ Wc)[j]? = some q := by rw [List.getElem?_append_left (List.getElem?_eq_some_iff.mp hj).1]; exact hj
    exact hD.1 i j p q h1 h2 e, fun k q hq => by
    have h1 : (E ++ Wc)[k]? = some q := by rw [List.getElem?_append_left (List.getElem?_eq_some_iff.mp hq).1]; exact hq
    exact hD.2 k q h1⟩
  refine ⟨va_P.app hPE hB.1, va_D.app hDE ⟨hB.2.1, fun k q hq => hF _ (hB.2.2 k q hq)⟩ (fun i j x y hx hy hxy => ?_)⟩
  exact (hdis i x hx).2 (by rw [hxy]; exact hB.2.2 j y hy)
theorem setAll_same : ∀ {is : List Nat} {W ws : va_W}, picks ws is W → setAll ws is W = ws
  | [], [], _, _ => rfl
  | i :: is, w :: W, ws, h => by
    have e : ws.set i w = ws := by
      apply List.ext_getElem?
      intro k
      by_cases hk : k = i
      · subst hk
        rw [List.getElem?_set_self (List.getElem?_eq_some_iff.mp h.1).1, h.1]
      · rw [List.getElem?_set_ne (Ne.symm hk)]
    show setAll (ws.set i w) is W = ws
    rw [e]
    exact setAll_same h.2
  | [], _ :: _, _, h => h.elim
  | _ :: _, [], _, h => h.elim
theorem PE_Sa {D : va_G} {cs : Nat → ClassId} {W : va_W} {s : State} {H : Heap} {As : List Value} {A A0 A1 : Nat → Prop} {locs : List Loc} (hK : KK D cs s) (hN : NN s) (hE : EV A s) (hS : va_S A s.heap H locs) (hA : ∀ q, A1 q → A q) (hP : va_P D vwCl W H) (hD : va_D A0 W) : PreS s H (va_Pc As (PE D cs W A1)) As :=
  ⟨PE_blind, fun U hU hW => ⟨rfl, ⟨by rw [hU]; exact hP, va_K.moved hW.alike hK, inW_D hD, hN.warm hW⟩, hE.call hS hA hU hW⟩⟩
theorem PAE_Sa {D : va_G} {cs : Nat → ClassId} {W : va_W} {s : State} {H : Heap} {As : List Value} {A A0 A1 : Nat → Prop} {locs : List Loc} (hK : KK D cs s) (hN : NN s) (hE : EV A s) (hS : va_S A s.heap H locs) (hA : ∀ q, A1 q → A q) (hP : va_P D vwCl W H) (hD : va_D A0 W) : PreS s H (va_Pc As (fun U => U.heap.size = H.size ∧ PE D cs W A1 U)) As :=
  ⟨fun a U g mk q => by
    obtain ⟨q0, q1, qE⟩ := q
    exact ⟨q0, q1, (PE_blind (av := As) a U g mk ⟨q0, qE⟩).2⟩, fun U hU hW => ⟨rfl, by rw [hU], ⟨by rw [hU]; exact hP, va_K.moved hW.alike hK, inW_D hD, hN.warm hW⟩, hE.call hS hA hU hW⟩⟩
section IA11
variable {p : Program} {l : Launch} {e : Env} {R : Room} {s : State} {m : MethodId} {args : Array Value} {below : List Frame} {meth : Method} {c : Code} {H : Heap} {locs : List Loc} {cells slots : Nat} {Q : State → Prop} {cc : ByteArray} {pc : Nat} {ls : Array Slot} {rest : List Value}
theorem my_iand11 (hx : p.tables.exec = Jvm.exec) (hb : c.code = cc) (hdg : decode cc pc = .ok (.iand, 1)) (k : W p l e R s m args below meth c H locs cells slots Q (F0 m (pc + 1) ls (.int (iI 1) :: rest))) : W p l e R s m args below meth c H locs cells slots Q (F0 m pc ls (.int (iI 1) :: .int (iI 1) :: rest)) := by
  refine lv_iand hx hb hdg ?_
  rw [show iI 1 &&& iI 1 = iI 1 from by decide]
  exact k
end IA11
theorem my_jnH {p : Program} {l : Launch} {e : Env} {R : Room} {s : State} {m : MethodId} {args : Array Value} {below : List Frame} {meth : Method} {c : Code} {H : Heap} {locs : List Loc} {cells slots : Nat} {Q : State → Prop} {g : JFrame} {pc2 n : Nat} {stk : List Value} {loc : List (Nat × Value)} {Z : Type} {D : va_G} {A : Nat → Prop} {H0 : Heap} {W1 : Z → va_W} {c2 s2 : Nat}
    (k : ∀ (z : Z) (H1 : Heap) (locs1 : List Loc) (ls : Array Slot), va_P D vwCl (W1 z) H1 → va_D A (W1 z) → va_S A H0 H1 locs1 → lv_has ls n loc → W p l e R s m args below meth c H1 locs1 c2 s2 Q (F0 m pc2 ls stk))
    (k2 : (∀ (z : Z) (H1 : Heap) (locs1 : List Loc) (ls : Array Slot), va_P D vwCl (W1 z) H1 → va_D A (W1 z) → va_S A H0 H1 locs1 → lv_has ls n loc → W p l e R s m args below meth c H1 locs1 c2 s2 Q (F0 m pc2 ls stk)) → W p l e R s m args below meth c H locs cells slots Q g) : W p l e R s m args below meth c H locs cells slots Q g := k2 k
