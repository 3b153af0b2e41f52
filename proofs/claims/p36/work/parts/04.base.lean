/-! numbers -/
abbrev iI (z : Int) : Int32 := Int32.ofInt z
abbrev lI (z : Int) : Int64 := Int64.ofInt z
def upI (f : Nat → Int) (k : Nat) (v : Int) : Nat → Int := fun j => if j = k then v else f j
theorem upI_same {f : Nat → Int} {k : Nat} {v : Int} : upI f k v k = v := by simp [upI]
theorem upI_ne {f : Nat → Int} {k j : Nat} {v : Int} (h : j ≠ k) : upI f k v j = f j := by simp [upI, h]
theorem iI_toInt {z : Int} (h : -2147483648 ≤ z ∧ z < 2147483648) : (iI z).toInt = z := Int32.toInt_ofInt_of_le (by omega) (by omega)
theorem lI_toInt {z : Int} (h : -9223372036854775808 ≤ z ∧ z < 9223372036854775808) : (lI z).toInt = z := Int64.toInt_ofInt_of_le (by omega) (by omega)
theorem iI_of (x : Int32) : x = iI x.toInt := (Int32.ofInt_toInt x).symm
theorem iI_rng (x : Int32) : -2147483648 ≤ x.toInt ∧ x.toInt < 2147483648 := by
  have h1 := Int32.le_toInt x
  have h2 := Int32.toInt_lt x
  omega
theorem iI_add (a b : Int) : iI a + iI b = iI (a + b) := (Int32.ofInt_add a b).symm
theorem iI_sub (a b : Int) : iI a - iI b = iI (a - b) := (Int32.ofInt_sub a b).symm
theorem iI_mul (a b : Int) : iI a * iI b = iI (a * b) := (Int32.ofInt_mul a b).symm
theorem lI_add (a b : Int) : lI a + lI b = lI (a + b) := (Int64.ofInt_add a b).symm
theorem lI_sub (a b : Int) : lI a - lI b = lI (a - b) := (Int64.ofInt_sub a b).symm
theorem lI_mul (a b : Int) : lI a * lI b = lI (a * b) := (Int64.ofInt_mul a b).symm
theorem iI_neg (a : Int) : -iI a = iI (-a) := (Int32.ofInt_neg a).symm
theorem lI_neg (a : Int) : -lI a = lI (-a) := (Int64.ofInt_neg a).symm
theorem iI_l {z : Int} (h : -2147483648 ≤ z ∧ z < 2147483648) : (iI z).toInt64 = lI z := Int32.toInt64_ofInt (by simp [Int32.minValue]; omega) (by simp [Int32.maxValue]; omega)
theorem lI_i (z : Int) : (lI z).toInt32 = iI z := Int64.toInt32_ofInt
theorem iI_div {a b : Int} (h : 0 ≤ a ∧ a < 2147483648 ∧ 0 < b ∧ b < 2147483648) : iI a / iI b = iI (a / b) := by
  have h1 : (iI a / iI b) = iI (a.tdiv b) := (Int32.ofInt_tdiv (by rw [show Int32.minValue.toInt = -2147483648 from rfl]; omega) (by rw [show Int32.maxValue.toInt = 2147483647 from rfl]; omega) (by rw [show Int32.minValue.toInt = -2147483648 from rfl]; omega) (by rw [show Int32.maxValue.toInt = 2147483647 from rfl]; omega)).symm
  rw [h1, Int.tdiv_eq_ediv_of_nonneg h.1]
theorem lI_tdiv {a b : Int} (h : -9223372036854775808 ≤ a ∧ a < 9223372036854775808 ∧ -9223372036854775808 ≤ b ∧ b < 9223372036854775808) : lI a / lI b = lI (a.tdiv b) := (Int64.ofInt_tdiv (by rw [show Int64.minValue.toInt = -9223372036854775808 from rfl]; omega) (by rw [show Int64.maxValue.toInt = 9223372036854775807 from rfl]; omega) (by rw [show Int64.minValue.toInt = -9223372036854775808 from rfl]; omega) (by rw [show Int64.maxValue.toInt = 9223372036854775807 from rfl]; omega)).symm
theorem lI_div {a b : Int} (h : 0 ≤ a ∧ a < 9223372036854775808 ∧ 0 < b ∧ b < 9223372036854775808) : lI a / lI b = lI (a / b) := by
  rw [lI_tdiv (by omega), Int.tdiv_eq_ediv_of_nonneg h.1]
theorem iI_ne {z : Int} (h : z ≠ 0 ∧ -2147483648 ≤ z ∧ z < 2147483648) : ¬ iI z = 0 := by
  intro h2
  have h3 := congrArg Int32.toInt h2
  rw [iI_toInt ⟨h.2.1, h.2.2⟩] at h3
  exact h.1 h3
theorem lI_ne {z : Int} (h : z ≠ 0 ∧ -9223372036854775808 ≤ z ∧ z < 9223372036854775808) : ¬ lI z = 0 := by
  intro h2
  have h3 := congrArg Int64.toInt h2
  rw [lI_toInt ⟨h.2.1, h.2.2⟩] at h3
  exact h.1 h3
theorem iI_in {z : Int} {n : Nat} (h : 0 ≤ z ∧ z < n ∧ n < 2147483648) : vp_in (iI z) n := by
  rw [vp_in_iff, iI_toInt (by omega)]; omega
theorem iI_cl {z : Int} (h : -2147483648 ≤ z ∧ z < 2147483648) : (iI z).toNatClampNeg = z.toNat := by
  show (iI z).toInt.toNat = z.toNat
  rw [iI_toInt h]
theorem iI_ofNat (n : Nat) : Int32.ofNat n = iI (n : Int) := (Int32.ofInt_eq_ofNat).symm
theorem upd_iI (f : Nat → Int) (k : Nat) (v : Int) : upd (fun j => iI (f j)) k (iI v) = fun j => iI (upI f k v j) := by
  funext j
  simp only [upd, upI]
  split <;> rfl
/-! cells -/
abbrev TY (cs : Nat → ClassId) : List (ClassId × FieldType) := [(cs 0, .int), (cs 1, .int), (cs 2, .object "Replen$Item"), (cs 3, .object "Replen$Line"), (cs 4, .int), (cs 5, .int)]
abbrev arI (cs : Nat → ClassId) (n : Nat) (f : Nat → Int) : va_E := .inl (cs 0, n, .inl (fun j => iI (f j)))
abbrev arZ (cs : Nat → ClassId) (n : Nat) (f : Nat → Int) : va_E := .inl (cs 1, n, .inl (fun j => iI (f j)))
abbrev arQ (cs : Nat → ClassId) (k n : Nat) (f : Nat → Option Nat) : va_E := .inl (cs k, n, .inr (.inr (.inr (.inr f))))
abbrev KK (D : va_G) (cs : Nat → ClassId) (U : State) : Prop := va_K D vwCl (TY cs) U
def inW (ws : va_W) : Nat → Prop := fun q => q ∈ ws.map Prod.fst
def noA : Nat → Prop := fun _ => False
theorem inW_D {ws : va_W} {A : Nat → Prop} (h : va_D A ws) : va_D (inW ws) ws := ⟨h.1, fun k q hk => List.mem_map.mpr ⟨q, List.mem_of_getElem? hk, rfl⟩⟩
theorem P_kept {D : va_G} {cl : List vw_C} {ws : va_W} {H H1 : Heap} (h : va_P D cl ws H) (hk : ∀ q : Nat, q < H.size → ¬ noA q → H1[q]? = H[q]?) : va_P D cl ws H1 := h.kept fun k q hq => hk q.1 ((h k q hq).lt) (fun h => h)
theorem D_fst {ws ws' : va_W} {A : Nat → Prop} (h : va_D A ws) (e : ws'.map Prod.fst = ws.map Prod.fst) : va_D A ws' := by
  have key : ∀ (k : Nat) (q : Nat × va_E), ws'[k]? = some q → ∃ q0, ws[k]? = some q0 ∧ q0.1 = q.1 := by
    intro k q hq
    have h1 : (ws'.map Prod.fst)[k]? = some q.1 := by rw [List.getElem?_map, hq]; rfl
    rw [e, List.getElem?_map] at h1
    cases hw : ws[k]? with
    | none => rw [hw] at h1; cases h1
    | some q0 => rw [hw] at h1; exact ⟨q0, rfl, Option.some.inj h1⟩
  refine ⟨fun i j p q hi hj hpq => ?_, fun k q hk => ?_⟩
  · obtain ⟨p0, a1, b1⟩ := key i p hi
    obtain ⟨q0, a2, b2⟩ := key j q hj
    exact h.1 i j p0 q0 a1 a2 (by rw [b1, b2, hpq])
  · obtain ⟨q0, a1, b1⟩ := key k q hk
    rw [← b1]; exact h.2 k q0 a1
/-- put the cells W1 at the places is -/
def setAll (ws : va_W) : List Nat → va_W → va_W
  | i :: is, w :: W1 => setAll (ws.set i w) is W1
  | _, _ => ws
/-- what stands at the places of a list -/
def picks (ws : va_W) : List Nat → va_W → Prop
  | i :: is, w :: W => ws[i]? = some w ∧ picks ws is W
  | [], [] => True
  | _, _ => False
theorem picks_get {ws : va_W} : ∀ {is : List Nat} {W : va_W}, picks ws is W → ∀ (k : Nat) (q : Nat × va_E), W[k]? = some q → ∃ i, is[k]? = some i ∧ ws[i]? = some q
  | i :: is, w :: W, h, 0, q, hq => by cases hq; exact ⟨i, rfl, h.1⟩
  | i :: is, w :: W, h, k + 1, q, hq => by
    obtain ⟨j, a, b⟩ := picks_get h.2 k q hq
    exact ⟨j, a, b⟩
  | [], [], _, k, q, hq => by simp at hq
  | [], _ :: _, h, _, _, _ => h.elim
  | _ :: _, [], h, _, _, _ => h.elim
theorem P_pick {D : va_G} {cl : List vw_C} {ws W : va_W} {H : Heap} (h : va_P D cl ws H) (is : List Nat) (hp : picks ws is W) : va_P D cl W H := by
  intro k q hk
  obtain ⟨i, -, hi⟩ := picks_get hp k q hk
  exact h i q hi
theorem D_pick {A : Nat → Prop} {ws W : va_W} (h : va_D A ws) (is : List Nat) (hn : va_nd is = true) (hp : picks ws is W) : va_D A W := by
  refine ⟨fun i j p q hi hj hpq => ?_, fun k q hk => ?_⟩
  · obtain ⟨a, a1, a2⟩ := picks_get hp i p hi
    obtain ⟨b, b1, b2⟩ := picks_get hp j q hj
    have hab := h.1 a b p q a2 b2 hpq
    subst hab
    exact va_nd_inj is hn i j a a1 b1
  · obtain ⟨a, -, a2⟩ := picks_get hp k q hk
    exact h.2 a q a2
theorem setAll_fst : ∀ {is : List Nat} {W W1 ws : va_W}, picks ws is W → W1.map Prod.fst = W.map Prod.fst → va_nd is = true → (setAll ws is W1).map Prod.fst = ws.map Prod.fst
  | [], [], [], _, _, _, _ => rfl
  | i :: is, w :: W, w1 :: W1, ws, h, e, hn => by
    have e0 : w1.1 = w.1 ∧ W1.map Prod.fst = W.map Prod.fst := by simpa using e
    have hfst : (ws.set i w1).map Prod.fst = ws.map Prod.fst := by
      apply List.ext_getElem?
      intro k
      rw [List.getElem?_map, List.getElem?_map]
      by_cases hk : k = i
      · subst hk
        have hl := (List.getElem?_eq_some_iff.mp h.1).1
        rw [List.getElem?_set_self hl, h.1]
        simp [e0.1]
      · rw [List.getElem?_set_ne (Ne.symm hk)]
    have hn2 : va_nd is = true ∧ i ∉ is := by
      have := hn
      simp only [va_nd, Bool.and_eq_true] at this
      constructor
      · exact this.2
      · simpa using this.1
    have h2 : picks (ws.set i w1) is W := by
      have : ∀ {is : List Nat} {W : va_W}, i ∉ is → picks ws is W → picks (ws.set i w1) is W := by
        intro is
        induction is with
        | nil => intro W _ h; cases W <;> exact h
        | cons j is ih =>
          intro W hi h
          cases W with
          | nil => exact h.elim
          | cons w W =>
            simp only [List.mem_cons, not_or] at hi
            exact ⟨by rw [List.getElem?_set_ne hi.1]; exact h.1, ih hi.2 h.2⟩
      exact this hn2.2 h.2
    have := setAll_fst h2 e0.2 hn2.1
    show (setAll (ws.set i w1) is W1).map Prod.fst = _
    rw [this, hfst]
  | [], [], _ :: _, _, _, e, _ => by simp at e
  | _ :: _, _ :: _, [], _, _, e, _ => by simp at e
  | [], _ :: _, _, _, h, _, _ => h.elim
  | _ :: _, [], _, _, h, _, _ => h.elim
theorem setAll_get : ∀ {is : List Nat} {W W1 ws : va_W}, picks ws is W → W1.map Prod.fst = W.map Prod.fst → va_nd is = true → ∀ (k : Nat) (q : Nat × va_E), (setAll ws is W1)[k]? = some q → q ∈ W1 ∨ (k ∉ is ∧ ws[k]? = some q)
  | [], [], [], _, _, _, _, k, q, h => Or.inr ⟨List.not_mem_nil, h⟩
  | i :: is, w :: W, w1 :: W1, ws, h, e, hn, k, q, hq => by
    have e0 : w1.1 = w.1 ∧ W1.map Prod.fst = W.map Prod.fst := by simpa using e
    have hn2 : va_nd is = true ∧ i ∉ is := by
      have := hn
      simp only [va_nd, Bool.and_eq_true] at this
      constructor
      · exact this.2
      · simpa using this.1
    have h2 : picks (ws.set i w1) is W := by
      have : ∀ {is : List Nat} {W : va_W}, i ∉ is → picks ws is W → picks (ws.set i w1) is W := by
        intro is
        induction is with
        | nil => intro W _ h; cases W <;> exact h
        | cons j is ih =>
          intro W hi h
          cases W with
          | nil => exact h.elim
          | cons w W =>
            simp only [List.mem_cons, not_or] at hi
            exact ⟨by rw [List.getElem?_set_ne hi.1]; exact h.1, ih hi.2 h.2⟩
      exact this hn2.2 h.2
    rcases setAll_get h2 e0.2 hn2.1 k q hq with a | ⟨a, b⟩
    · exact Or.inl (List.mem_cons_of_mem _ a)
    · by_cases hk : k = i
      · subst hk
        have hl := (List.getElem?_eq_some_iff.mp h.1).1
        rw [List.getElem?_set_self hl] at b
        cases b
        exact Or.inl List.mem_cons_self
      · rw [List.getElem?_set_ne (Ne.symm hk)] at b
        exact Or.inr ⟨by simp [hk, a], b⟩
  | [], [], _ :: _, _, _, e, _, _, _, _ => by simp at e
  | _ :: _, _ :: _, [], _, _, e, _, _, _, _ => by simp at e
  | [], _ :: _, _, _, h, _, _, _, _, _ => h.elim
  | _ :: _, [], _, _, h, _, _, _, _, _ => h.elim
/-- behind a call of a method that writes its own cells Wc alone: they hold W1, all else is as it was -/
theorem my_join {A0 : Nat → Prop} {D : va_G} {cl : List vw_C} {ws Wc W1 : va_W} {H H1 : Heap} (hP : va_P D cl ws H) (hD : va_D A0 ws) (is : List Nat) (hn : va_nd is = true) (hp : picks ws is Wc) (hf : W1.map Prod.fst = Wc.map Prod.fst)
    (hk : ∀ q : Nat, q < H.size → ¬ inW Wc q → H1[q]? = H[q]?) (hP1 : va_P D cl W1 H1) : va_P D cl (setAll ws is W1) H1 ∧ va_D A0 (setAll ws is W1) := by
  refine ⟨fun k q hq => ?_, D_fst hD (setAll_fst hp hf hn)⟩
  rcases setAll_get hp hf hn k q hq with h | ⟨h1, h2⟩
  · obtain ⟨i, hi⟩ := List.getElem?_of_mem h
    exact hP1 i q hi
  · refine (hP k q h2).kept (hk q.1 (hP k q h2).lt fun h => ?_)
    obtain ⟨w, hw, e⟩ := List.mem_map.mp h
    obtain ⟨j, hj⟩ := List.getElem?_of_mem hw
    obtain ⟨i, hi, hi2⟩ := picks_get hp j w hj
    have := hD.1 k i q w h2 hi2 e.symm
    subst this
    exact h1 (List.mem_of_getElem? hi)
theorem inW_sub {A0 : Nat → Prop} {ws Wc : va_W} (hD : va_D A0 ws) (is : List Nat) (hp : picks ws is Wc) : ∀ q, inW Wc q → A0 q := by
  intro q h
  obtain ⟨w, hw, e⟩ := List.mem_map.mp h
  obtain ⟨j, hj⟩ := List.getElem?_of_mem hw
  obtain ⟨i, -, hi2⟩ := picks_get hp j w hj
  rw [← e]; exact hD.2 i w hi2
