/-! behind a call that leaves most of its cells as they were -/
theorem setAll_out : ∀ {is : List Nat} {W1 ws : va_W} {k : Nat}, k ∉ is → (setAll ws is W1)[k]? = ws[k]?
  | [], [], _, _, _ => rfl
  | [], _ :: _, _, _, _ => rfl
  | _ :: _, [], _, _, _ => rfl
  | i :: is, w :: W1, ws, k, h => by
    simp only [List.mem_cons, not_or] at h
    show (setAll (ws.set i w) is W1)[k]? = _
    rw [setAll_out h.2, List.getElem?_set_ne (Ne.symm h.1)]
theorem picks_at : ∀ {ws : va_W} {is : List Nat} {W : va_W} {j k : Nat}, picks ws is W → is[j]? = some k → ∃ w, W[j]? = some w ∧ ws[k]? = some w
  | ws, i :: is, w :: W, 0, k, h, e => by cases e; exact ⟨w, rfl, h.1⟩
  | ws, i :: is, w :: W, j + 1, k, h, e => picks_at (j := j) h.2 e
  | _, [], _, j, k, _, e => by simp at e
  | _, _ :: _, [], _, _, h, _ => h.elim
theorem my_joinC {A0 : Nat → Prop} {D : va_G} {cl : List vw_C} {ws Wc W1 WC WcC : va_W} {H H1 : Heap} (hP : va_P D cl ws H) (hD : va_D A0 ws) (is : List Nat) (hp : picks ws is Wc) (isC : List Nat) (hnC : va_nd isC = true) (hpC : picks ws isC WcC) (hfC : WC.map Prod.fst = WcC.map Prod.fst) (hsub : ∀ i ∈ isC, i ∈ is)
    (hk : ∀ q : Nat, q < H.size → ¬ inW Wc q → H1[q]? = H[q]?) (hP1 : va_P D cl W1 H1) (hp1 : picks (setAll ws isC WC) is W1) : va_P D cl (setAll ws isC WC) H1 ∧ va_D A0 (setAll ws isC WC) := by
  refine ⟨fun k q hq => ?_, D_fst hD (setAll_fst hpC hfC hnC)⟩
  by_cases hki : k ∈ is
  · obtain ⟨j, hj⟩ := List.getElem?_of_mem hki
    obtain ⟨w, hw1, hw2⟩ := picks_at hp1 hj
    rw [hq] at hw2
    cases hw2
    exact hP1 j q hw1
  · have h2 : ws[k]? = some q := by rw [← setAll_out (W1 := WC) (fun h => hki (hsub k h))]; exact hq
    refine (hP k q h2).kept (hk q.1 (hP k q h2).lt fun h => ?_)
    obtain ⟨w, hw, e⟩ := List.mem_map.mp h
    obtain ⟨j, hj⟩ := List.getElem?_of_mem hw
    obtain ⟨i, hi, hi2⟩ := picks_get hp j w hj
    have := hD.1 k i q w h2 hi2 e.symm
    subst this
    exact hki (List.mem_of_getElem? hi)
