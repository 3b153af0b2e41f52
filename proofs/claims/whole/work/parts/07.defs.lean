/-! what the methods answer, as numbers -/
def smI (f : Nat → Int) : Nat → Int
  | 0 => 0
  | n + 1 => smI f n + f n
def mnI (a b : Int) : Int := if b < a then b else a
def mxI (a b : Int) : Int := if b < a then a else b
def abI (a : Int) : Int := if 0 ≤ a then a else 0 - a
/-- the forecast for a day, in thousandths -/
def thI (lev : Int) (se : Nat → Int) (d : Nat) : Int := lev * se (d % 7) / 1000
/-- the level behind a day -/
def lvI (lev se1 dem lr : Int) : Int := lev + lr * (dem * 1000000 / se1 - lev) / 100
/-- the season behind a day, at the new level -/
def seI (lev1 se1 dem sr : Int) : Int := mxI 100 (mnI 5000 (se1 + sr * (dem * 1000000 / lev1 - se1) / 100))
def snI (lev1 : Int) (se : Nat → Int) (w : Nat) (dem sr : Int) : Nat → Int := if 0 < lev1 then upI se w (seI lev1 (se w) dem sr) else se
/-- the error of a day -/
def erI (dem un : Int) : Int := mnI 20 (abI (dem - un))
def sfI (er : Nat → Int) (es pct : Int) : Nat → Nat → Int
  | _, 0 => 20
  | k, n + 1 => if pct * es ≤ smI er (k + 1) * 100 then (k : Int) else sfI er es pct (k + 1) n
def duI (ar : Nat → Int) (d : Nat) : Int := smI (fun j => ar (d + (j + 1))) 5
def fdI (ar : Nat → Int) (d : Nat) : Nat → Nat → Int
  | _, 0 => -1
  | k, n + 1 => if 0 < ar (d + k) then (d : Int) + (k : Int) else fdI ar d (k + 1) n
def fcI (lev : Int) (se : Nat → Int) (d : Nat) : Nat → Int := smI (fun j => thI lev se (d + j))
def ndI (lev : Int) (se : Nat → Int) (er : Nat → Int) (es pct st : Int) (ar : Nat → Int) (d ld : Nat) : Int := (fcI lev se d (ld + 1) + 999) / 1000 + sfI er es pct 0 21 - st - duI ar d
def rqI (nd pk : Int) : Int := if 0 < nd then (nd + pk - 1) / pk else 0
theorem my_min {a b : Int} (h : -2147483648 ≤ a ∧ a < 2147483648 ∧ -2147483648 ≤ b ∧ b < 2147483648) : (if iI b < iI a then iI b else iI a) = iI (mnI a b) := by
  unfold mnI
  by_cases q : b < a
  · rw [if_pos ((iI_lt (by omega)).mpr q), if_pos q]
  · rw [if_neg (fun z => q ((iI_lt (by omega)).mp z)), if_neg q]
theorem my_abs {a : Int} (h : -2147483647 ≤ a ∧ a < 2147483648) : (if 0 ≤ iI a then iI a else 0 - iI a) = iI (abI a) := by
  unfold abI
  have e0 : (0 : Int32) = iI 0 := rfl
  by_cases q : 0 ≤ a
  · rw [if_pos (by rw [e0]; exact (iI_le (by omega)).mpr q), if_pos q]
  · rw [if_neg (by rw [e0]; exact fun z => q ((iI_le (by omega)).mp z)), if_neg q, e0, iI_sub]
theorem my_minL {a b : Int} (h : -9223372036854775808 ≤ a ∧ a < 9223372036854775808 ∧ -9223372036854775808 ≤ b ∧ b < 9223372036854775808) : (if lI b < lI a then lI b else lI a) = lI (mnI a b) := by
  unfold mnI
  by_cases q : b < a
  · rw [if_pos ((lI_lt (by omega)).mpr q), if_pos q]
  · rw [if_neg (fun z => q ((lI_lt (by omega)).mp z)), if_neg q]
theorem my_maxL {a b : Int} (h : -9223372036854775808 ≤ a ∧ a < 9223372036854775808 ∧ -9223372036854775808 ≤ b ∧ b < 9223372036854775808) : (if lI b < lI a then lI a else lI b) = lI (mxI a b) := by
  unfold mxI
  by_cases q : b < a
  · rw [if_pos ((lI_lt (by omega)).mpr q), if_pos q]
  · rw [if_neg (fun z => q ((lI_lt (by omega)).mp z)), if_neg q]
section MYC
variable {p : Program} {l : Launch} {e : Env} {R : Room} {s : State} {m : MethodId} {args : Array Value} {below : List Frame} {meth : Method} {c : Code} {H : Heap} {locs : List Loc} {cells slots : Nat} {Q : State → Prop} {pc : Nat} {ls : Array Slot} {rest : List Value}
theorem my_cv0 {a z : Int} (h : a = z) (k : W p l e R s m args below meth c H locs cells slots Q (F0 m pc ls (.int (iI z) :: rest))) : W p l e R s m args below meth c H locs cells slots Q (F0 m pc ls (.int (iI a) :: rest)) := by rw [h]; exact k
theorem my_cv1 {a z : Int} {v : Value} (h : a = z) (k : W p l e R s m args below meth c H locs cells slots Q (F0 m pc ls (v :: .int (iI z) :: rest))) : W p l e R s m args below meth c H locs cells slots Q (F0 m pc ls (v :: .int (iI a) :: rest)) := by rw [h]; exact k
theorem my_cvl {a z : Int} (h : a = z) (k : W p l e R s m args below meth c H locs cells slots Q (F0 m pc ls (.long (lI z) :: rest))) : W p l e R s m args below meth c H locs cells slots Q (F0 m pc ls (.long (lI a) :: rest)) := by rw [h]; exact k
end MYC
/-! bounds -/
theorem mnI_le {a b : Int} : mnI a b ≤ a ∧ mnI a b ≤ b ∧ (mnI a b = a ∨ mnI a b = b) := by unfold mnI; split <;> omega
theorem mxI_ge {a b : Int} : a ≤ mxI a b ∧ b ≤ mxI a b ∧ (mxI a b = a ∨ mxI a b = b) := by unfold mxI; split <;> omega
theorem abI_ge (a : Int) : 0 ≤ abI a ∧ (abI a = a ∨ abI a = -a) := by unfold abI; split <;> omega
theorem erI_rng (a b : Int) : 0 ≤ erI a b ∧ erI a b ≤ 20 := by
  have h1 := @mnI_le 20 (abI (a - b)); have h2 := abI_ge (a - b)
  unfold erI; omega
theorem seI_rng (a b x y : Int) : 100 ≤ seI a b x y ∧ seI a b x y ≤ 5000 := by
  unfold seI
  have h1 := @mnI_le 5000 (b + y * (x * 1000000 / a - b) / 100)
  have h2 := @mxI_ge 100 (mnI 5000 (b + y * (x * 1000000 / a - b) / 100))
  omega
theorem div_rng {a b : Int} (ha : 0 ≤ a) (hb : 0 < b) : 0 ≤ a / b ∧ a / b ≤ a := by
  refine ⟨Int.ediv_nonneg ha (by omega), ?_⟩
  exact Int.ediv_le_self _ ha
theorem mul_rng {a b A B : Int} (ha : 0 ≤ a) (ha2 : a ≤ A) (hb : 0 ≤ b) (hb2 : b ≤ B) : 0 ≤ a * b ∧ a * b ≤ A * B := ⟨Int.mul_nonneg ha hb, Int.le_trans (Int.mul_le_mul_of_nonneg_left hb2 ha) (Int.mul_le_mul_of_nonneg_right ha2 (by omega))⟩
theorem thI_rng {lev : Int} {se : Nat → Int} {d : Nat} (h : 0 ≤ lev ∧ lev ≤ 9990000) (hs : ∀ w, 100 ≤ se w ∧ se w ≤ 5000) : 0 ≤ thI lev se d ∧ thI lev se d ≤ 49950000 ∧ 0 ≤ lev * se (d % 7) ∧ lev * se (d % 7) ≤ 49950000000 := by
  unfold thI
  have h1 := hs (d % 7)
  have h2 := mul_rng (a := lev) (b := se (d % 7)) (A := 9990000) (B := 5000) h.1 h.2 (by omega) h1.2
  omega
theorem lvI_rng {lev se1 dem lr : Int} (h : 0 ≤ lev ∧ lev ≤ 9990000) (hs : 100 ≤ se1 ∧ se1 ≤ 5000) (hd : 0 ≤ dem ∧ dem ≤ 999) (hr : 0 ≤ lr ∧ lr ≤ 100) : 0 ≤ lvI lev se1 dem lr ∧ lvI lev se1 dem lr ≤ 9990000 := by
  unfold lvI
  have hx0 : 0 ≤ dem * 1000000 / se1 := Int.ediv_nonneg (by omega) (by omega)
  have hx1 : dem * 1000000 / se1 ≤ 9990000 := by
    refine Int.ediv_le_of_le_mul (by omega) ?_
    omega
  obtain ⟨x, hx⟩ : ∃ x, x = dem * 1000000 / se1 := ⟨_, rfl⟩
  rw [← hx] at hx0 hx1 ⊢
  have e1 : lr * (x - lev) = lr * x - lr * lev := Int.mul_sub _ _ _
  have a1 := mul_rng (a := lr) (b := x) (A := 100) (B := x) hr.1 hr.2 hx0 (Int.le_refl _)
  have a2 := mul_rng (a := lr) (b := lev) (A := 100) (B := lev) hr.1 hr.2 h.1 (Int.le_refl _)
  have a3 : (100 - lr) * (9990000 - lev) ≥ 0 := Int.mul_nonneg (by omega) (by omega)
  have a4 : lr * (9990000 - x) ≥ 0 := Int.mul_nonneg hr.1 (by omega)
  have e3 : (100 - lr) * (9990000 - lev) = 100 * 9990000 - 100 * lev - lr * 9990000 + lr * lev := by
    rw [Int.sub_mul, Int.mul_sub, Int.mul_sub]; omega
  have e4 : lr * (9990000 - x) = lr * 9990000 - lr * x := Int.mul_sub _ _ _
  omega
theorem sfI_rng {er : Nat → Int} {es pct : Int} : ∀ (n k : Nat), k + n = 21 → 0 ≤ sfI er es pct k n ∧ sfI er es pct k n ≤ 20
  | 0, k, h => by unfold sfI; omega
  | n + 1, k, h => by
    unfold sfI
    split
    · omega
    · exact sfI_rng n (k + 1) (by omega)
theorem smI_le {f : Nat → Int} {B : Int} (h : ∀ j, 0 ≤ f j ∧ f j ≤ B) : ∀ n : Nat, 0 ≤ smI f n ∧ smI f n ≤ B * n
  | 0 => by simp [smI]
  | n + 1 => by
    have h1 := smI_le h n
    have h2 := h n
    simp only [smI]
    have : B * ((n + 1 : Nat) : Int) = B * n + B := by rw [Int.natCast_add, Int.mul_add]; simp
    omega
theorem smI_congr {f g : Nat → Int} : ∀ {n : Nat}, (∀ j, j < n → f j = g j) → smI f n = smI g n
  | 0, _ => rfl
  | n + 1, h => by simp only [smI]; rw [smI_congr (n := n) (fun j hj => h j (by omega)), h n (by omega)]
