/-! what the methods answer, as numbers -/
def smI (f : Nat → Int) : Nat → Int
  | 0 => 0
  | n + 1 => smI f n + f n
def mnI (a b : Int) : Int := if b < a then b else a
def mxI (a b : Int) : Int := if b < a then a else b
def abI (a : Int) : Int := if 0 ≤ a then a else 0 - a
/-- the forecast for a day, in thousandths -/
def thI (lev : Int) (se : Nat → Int) (d : Nat) : Int := lev * se (d % 7) / 1000
/-- the level behind a day -/
def lvI (lev se1 dem lr : Int) : Int := lev + lr * (dem * 1000000 / se1 - lev) / 100
/-- the season behind a day, at the new level -/
def seI (lev1 se1 dem sr : Int) : Int := mxI 100 (mnI 5000 (se1 + sr * (dem * 1000000 / lev1 - se1) / 100))
def snI (lev1 : Int) (se : Nat → Int) (w : Nat) (dem sr : Int) : Nat → Int := if 0 < lev1 then upI se w (seI lev1 (se w) dem sr) else se
def unI (lev : Int) (se : Nat → Int) (d : Nat) : Int := (thI lev se d + 500) / 1000
def tdI (a : Int) : Int := if 0 ≤ a then a / 100 else -((-a) / 100)
/-- the error of a day -/
def erI (dem un : Int) : Int := mnI 20 (abI (dem - un))
def sfI (er : Nat → Int) (es pct : Int) : Nat → Nat → Int
  | _, 0 => 20
  | k, n + 1 => if pct * es ≤ smI er (k + 1) * 100 then (k : Int) else sfI er es pct (k + 1) n
def duI (ar : Nat → Int) (d : Nat) : Int := smI (fun j => ar (d + (j + 1))) 5
def fdI (ar : Nat → Int) (d : Nat) : Nat → Nat → Int
  | _, 0 => -1
  | k, n + 1 => if 0 < ar (d + k) then (d : Int) + (k : Int) else fdI ar d (k + 1) n
def fcI (lev : Int) (se : Nat → Int) (d : Nat) : Nat → Int := smI (fun j => thI lev se (d + j))
def ndI (lev : Int) (se : Nat → Int) (er : Nat → Int) (es pct st : Int) (ar : Nat → Int) (d ld : Nat) : Int := (fcI lev se d (ld + 1) + 999) / 1000 + sfI er es pct 0 21 - st - duI ar d
def rqI (nd pk : Int) : Int := if 0 < nd then (nd + pk - 1) / pk else 0
theorem my_min {a b : Int} (h : -2147483648 ≤ a ∧ a < 2147483648 ∧ -2147483648 ≤ b ∧ b < 2147483648) : (if iI b < iI a then iI b else iI a) = iI (mnI a b) := by
  unfold mnI
  by_cases q : b < a
  · rw [if_pos ((iI_lt (by omega)).mpr q), if_pos q]
  · rw [if_neg (fun z => q ((iI_lt (by omega)).mp z)), if_neg q]
theorem my_abs {a : Int} (h : -2147483647 ≤ a ∧ a < 2147483648) : (if 0 ≤ iI a then iI a else 0 - iI a) = iI (abI a) := by
  unfold abI
  have e0 : (0 : Int32) = iI 0 := rfl
  by_cases q : 0 ≤ a
  · rw [if_pos (by rw [e0]; exact (iI_le (by omega)).mpr q), if_pos q]
  · rw [if_neg (by rw [e0]; exact fun z => q ((iI_le (by omega)).mp z)), if_neg q, e0, iI_sub]
theorem my_minL {a b : Int} (h : -9223372036854775808 ≤ a ∧ a < 9223372036854775808 ∧ -9223372036854775808 ≤ b ∧ b < 9223372036854775808) : (if lI b < lI a then lI b else lI a) = lI (mnI a b) := by
  unfold mnI
  by_cases q : b < a
  · rw [if_pos ((lI_lt (by omega)).mpr q), if_pos q]
  · rw [if_neg (fun z => q ((lI_lt (by omega)).mp z)), if_neg q]
theorem my_maxL {a b : Int} (h : -9223372036854775808 ≤ a ∧ a < 9223372036854775808 ∧ -9223372036854775808 ≤ b ∧ b < 9223372036854775808) : (if lI b < lI a then lI a else lI b) = lI (mxI a b) := by
  unfold mxI
  by_cases q : b < a
  · rw [if_pos ((lI_lt (by omega)).mpr q), if_pos q]
  · rw [if_neg (fun z => q ((lI_lt (by omega)).mp z)), if_neg q]
section MYC
variable {p : Program} {l : Launch} {e : Env} {R : Room} {s : State} {m : MethodId} {args : Array Value} {below : List Frame} {meth : Method} {c : Code} {H : Heap} {locs : List Loc} {cells slots : Nat} {Q : State → Prop} {pc : Nat} {ls : Array Slot} {rest : List Value}
theorem my_cv0 {a z : Int} (h : a = z) (k : W p l e R s m args below meth c H locs cells slots Q (F0 m pc ls (.int (iI z) :: rest))) : W p l e R s m args below meth c H locs cells slots Q (F0 m pc ls (.int (iI a) :: rest)) := by rw [h]; exact k
theorem my_cv1 {a z : Int} {v : Value} (h : a = z) (k : W p l e R s m args below meth c H locs cells slots Q (F0 m pc ls (v :: .int (iI z) :: rest))) : W p l e R s m args below meth c H locs cells slots Q (F0 m pc ls (v :: .int (iI a) :: rest)) := by rw [h]; exact k
theorem my_cvl {a z : Int} (h : a = z) (k : W p l e R s m args below meth c H locs cells slots Q (F0 m pc ls (.long (lI z) :: rest))) : W p l e R s m args below meth c H locs cells slots Q (F0 m pc ls (.long (lI a) :: rest)) := by rw [h]; exact k
theorem my_ldiv100 {cc : ByteArray} (hx : p.tables.exec = Jvm.exec) (hb : c.code = cc) {a : Int} (hdg : decode cc pc = .ok (.ldiv, 1)) (h : -4611686018427387904 ≤ a ∧ a ≤ 4611686018427387904) (k : W p l e R s m args below meth c H locs cells slots Q (F0 m (pc + 1) ls (.long (lI (tdI a)) :: rest))) : W p l e R s m args below meth c H locs cells slots Q (F0 m pc ls (.long (lI 100) :: .long (lI a) :: rest)) := by
  refine lv_ldiv hx hb hdg (lI_ne (by omega)) ?_
  rw [lI_tdiv (by omega), show a.tdiv 100 = tdI a from ?_]
  · exact k
  · unfold tdI
    split
    · rename_i q; exact Int.tdiv_eq_ediv_of_nonneg q
    · rename_i q
      have h1 : (-a).tdiv 100 = (-a) / 100 := Int.tdiv_eq_ediv_of_nonneg (by omega)
      rw [← h1, Int.neg_tdiv, Int.neg_neg]
theorem lxor_neg {a : Int} (h : -4611686018427387904 ≤ a ∧ a ≤ 4611686018427387904) : ((lI a ^^^ lI 100).toInt < 0 ↔ a < 0) := by
  have e1 : (lI a).toInt = a := lI_toInt (by omega)
  have h1 : ∀ x : Int64, x.toInt < 0 ↔ x.toBitVec.msb = true := fun x => by
    rw [BitVec.msb_eq_toInt]; simp [Int64.toInt_toBitVec]
  rw [h1, Int64.toBitVec_xor, BitVec.msb_xor]
  have h2 := h1 (lI a)
  rw [e1] at h2
  have h3 : (lI 100).toBitVec.msb = false := by decide
  rw [h3, h2]
  simp
theorem my_lxor100 {cc : ByteArray} (hx : p.tables.exec = Jvm.exec) (hb : c.code = cc) {a : Int} (hdg : decode cc pc = .ok (.lxor, 1)) (h : -4611686018427387904 ≤ a ∧ a ≤ 4611686018427387904) (k : ∀ z : Int, (z < 0 ↔ a < 0) → (-9223372036854775808 ≤ z ∧ z < 9223372036854775808) → W p l e R s m args below meth c H locs cells slots Q (F0 m (pc + 1) ls (.long (lI z) :: rest))) : W p l e R s m args below meth c H locs cells slots Q (F0 m pc ls (.long (lI 100) :: .long (lI a) :: rest)) := by
  refine lv_lxor hx hb hdg ?_
  have e : (lI a ^^^ lI 100) = lI ((lI a ^^^ lI 100).toInt) := (Int64.ofInt_toInt _).symm
  rw [e]
  exact k _ (lxor_neg h) ⟨Int64.le_toInt _, Int64.toInt_lt _⟩
end MYC
theorem mulS {a y B : Int} (h : 0 ≤ a ∧ a ≤ 100) (hy : -B ≤ y ∧ y ≤ B) : -(100 * B) ≤ a * y ∧ a * y ≤ 100 * B := by
  have h1 : 0 ≤ a * (B - y) := Int.mul_nonneg h.1 (by omega)
  have h2 : 0 ≤ a * (B + y) := Int.mul_nonneg h.1 (by omega)
  have h3 : 0 ≤ (100 - a) * B := Int.mul_nonneg (by omega) (by omega)
  rw [Int.mul_sub] at h1
  rw [Int.mul_add] at h2
  rw [Int.sub_mul] at h3
  omega
theorem tdI_fl {a : Int} (h : -4611686018427387904 ≤ a ∧ a ≤ 4611686018427387904) : -46116860184273880 ≤ tdI a ∧ tdI a ≤ 46116860184273880 ∧ (0 ≤ a → tdI a = a / 100) ∧ (a < 0 → tdI a * 100 = a → tdI a = a / 100) ∧ (a < 0 → tdI a * 100 ≠ a → tdI a - 1 = a / 100) := by
  unfold tdI; split <;> omega
/-! bounds -/
theorem mnI_le {a b : Int} : mnI a b ≤ a ∧ mnI a b ≤ b ∧ (mnI a b = a ∨ mnI a b = b) := by unfold mnI; split <;> omega
theorem mxI_ge {a b : Int} : a ≤ mxI a b ∧ b ≤ mxI a b ∧ (mxI a b = a ∨ mxI a b = b) := by unfold mxI; split <;> omega
theorem abI_ge (a : Int) : 0 ≤ abI a ∧ (abI a = a ∨ abI a = -a) := by unfold abI; split <;> omega
theorem erI_rng (a b : Int) : 0 ≤ erI a b ∧ erI a b ≤ 20 := by
  have h1 := @mnI_le 20 (abI (a - b)); have h2 := abI_ge (a - b)
  unfold erI; omega
theorem seI_rng (a b x y : Int) : 100 ≤ seI a b x y ∧ seI a b x y ≤ 5000 := by
  unfold seI
  have h1 := @mnI_le 5000 (b + y * (x * 1000000 / a - b) / 100)
  have h2 := @mxI_ge 100 (mnI 5000 (b + y * (x * 1000000 / a - b) / 100))
  omega
theorem div_rng {a b : Int} (ha : 0 ≤ a) (hb : 0 < b) : 0 ≤ a / b ∧ a / b ≤ a := by
  refine ⟨Int.ediv_nonneg ha (by omega), ?_⟩
  exact Int.ediv_le_self _ ha
theorem mul_rng {a b A B : Int} (ha : 0 ≤ a) (ha2 : a ≤ A) (hb : 0 ≤ b) (hb2 : b ≤ B) : 0 ≤ a * b ∧ a * b ≤ A * B := ⟨Int.mul_nonneg ha hb, Int.le_trans (Int.mul_le_mul_of_nonneg_left hb2 ha) (Int.mul_le_mul_of_nonneg_right ha2 (by omega))⟩
theorem thI_rng {lev : Int} {se : Nat → Int} {d : Nat} (h : 0 ≤ lev ∧ lev ≤ 9990000) (hs : ∀ w, 100 ≤ se w ∧ se w ≤ 5000) : 0 ≤ thI lev se d ∧ thI lev se d ≤ 49950000 ∧ 0 ≤ lev * se (d % 7) ∧ lev * se (d % 7) ≤ 49950000000 := by
  unfold thI
  have h1 := hs (d % 7)
  have h2 := mul_rng (a := lev) (b := se (d % 7)) (A := 9990000) (B := 5000) h.1 h.2 (by omega) h1.2
  omega
theorem lvI_rng {lev se1 dem lr : Int} (h : 0 ≤ lev ∧ lev ≤ 9990000) (hs : 100 ≤ se1 ∧ se1 ≤ 5000) (hd : 0 ≤ dem ∧ dem ≤ 999) (hr : 0 ≤ lr ∧ lr ≤ 100) : 0 ≤ lvI lev se1 dem lr ∧ lvI lev se1 dem lr ≤ 9990000 := by
  unfold lvI
  have hx0 : 0 ≤ dem * 1000000 / se1 := Int.ediv_nonneg (by omega) (by omega)
  have hx1 : dem * 1000000 / se1 ≤ 9990000 := by
    refine Int.ediv_le_of_le_mul (by omega) ?_
    omega
  obtain ⟨x, hx⟩ : ∃ x, x = dem * 1000000 / se1 := ⟨_, rfl⟩
  rw [← hx] at hx0 hx1 ⊢
  have e1 : lr * (x - lev) = lr * x - lr * lev := Int.mul_sub _ _ _
  have a1 := mul_rng (a := lr) (b := x) (A := 100) (B := x) hr.1 hr.2 hx0 (Int.le_refl _)
  have a2 := mul_rng (a := lr) (b := lev) (A := 100) (B := lev) hr.1 hr.2 h.1 (Int.le_refl _)
  have a3 : (100 - lr) * (9990000 - lev) ≥ 0 := Int.mul_nonneg (by omega) (by omega)
  have a4 : lr * (9990000 - x) ≥ 0 := Int.mul_nonneg hr.1 (by omega)
  have e3 : (100 - lr) * (9990000 - lev) = 100 * 9990000 - 100 * lev - lr * 9990000 + lr * lev := by
    rw [Int.sub_mul, Int.mul_sub, Int.mul_sub]; omega
  have e4 : lr * (9990000 - x) = lr * 9990000 - lr * x := Int.mul_sub _ _ _
  omega
theorem sfI_rng {er : Nat → Int} {es pct : Int} : ∀ (n k : Nat), k + n = 21 → 0 ≤ sfI er es pct k n ∧ sfI er es pct k n ≤ 20
  | 0, k, h => by unfold sfI; omega
  | n + 1, k, h => by
    unfold sfI
    split
    · omega
    · exact sfI_rng n (k + 1) (by omega)
theorem smI_le {f : Nat → Int} {B : Int} (h : ∀ j, 0 ≤ f j ∧ f j ≤ B) : ∀ n : Nat, 0 ≤ smI f n ∧ smI f n ≤ B * n
  | 0 => by simp [smI]
  | n + 1 => by
    have h1 := smI_le h n
    have h2 := h n
    simp only [smI]
    have : B * ((n + 1 : Nat) : Int) = B * n + B := by rw [Int.natCast_add, Int.mul_add]; simp
    omega
theorem smI_congr {f g : Nat → Int} : ∀ {n : Nat}, (∀ j, j < n → f j = g j) → smI f n = smI g n
  | 0, _ => rfl
  | n + 1, h => by simp only [smI]; rw [smI_congr (n := n) (fun j hj => h j (by omega)), h n (by omega)]

/-- beyond its length an array's picture says nothing -/
theorem P_arI {D : va_G} {cl : List vw_C} {cs : Nat → ClassId} {ws : va_W} {H : Heap} {k a n : Nat} {f g : Nat → Int} (hP : va_P D cl ws H) (hk : ws[k]? = some (a, arI cs n f)) (h : ∀ j, j < n → f j = g j) : va_P D cl (ws.set k (a, arI cs n g)) H := by
  intro j q hq
  by_cases hj : j = k
  · subst hj
    have hl := (List.getElem?_eq_some_iff.mp hk).1
    rw [List.getElem?_set_self hl] at hq
    cases hq
    have h1 := hP j _ hk
    show H[a]? = some (vp_cell (cs 0) (n, .inl (fun j => iI (g j))))
    have h2 : H[a]? = some (vp_cell (cs 0) (n, .inl (fun j => iI (f j)))) := h1
    rw [h2]
    show some (arrV (cs 0) n (fun j => .int (iI (f j)))) = some (arrV (cs 0) n (fun j => .int (iI (g j))))
    unfold arrV
    congr 3
    funext j
    exact congrArg (fun z => Value.int (iI z)) (h j.val j.isLt)
  · rw [List.getElem?_set_ne (Ne.symm hj)] at hq
    exact hP j q hq
theorem D_arI {A : Nat → Prop} {cs : Nat → ClassId} {ws : va_W} {k a n : Nat} {f g : Nat → Int} (hD : va_D A ws) (hk : ws[k]? = some (a, arI cs n f)) : va_D A (ws.set k (a, arI cs n g)) := hD.set hk
def flI (f : Nat → Int) (v : Int) (i : Nat) : Nat → Int := fun j => if j < i then v else f j
theorem flI_0 (f : Nat → Int) (v : Int) : flI f v 0 = f := by funext j; simp [flI]
theorem flI_s (f : Nat → Int) (v : Int) (i : Nat) : upI (flI f v i) i v = flI f v (i + 1) := by
  funext j
  simp only [upI, flI]
  by_cases h : j = i
  · subst h; simp
  · rw [if_neg h]
    by_cases h2 : j < i
    · rw [if_pos h2, if_pos (by omega)]
    · rw [if_neg h2, if_neg (by omega)]
/-! shares -/
def nrI (rq : Nat → Int) (b : Int) : Int := if b < 0 then 1 else rq b.toNat
def ngI (gv : Nat → Int) (b : Int) : Int := if b < 0 then 0 else gv b.toNat
/-- the shop that gets the next pack, of the first n; less than 0 if none waits -/
def ntI (rq gv : Nat → Int) : Nat → Int
  | 0 => -1
  | n + 1 => if gv n < rq n ∧ (ntI rq gv n < 0 ∨ gv n * nrI rq (ntI rq gv n) < ngI gv (ntI rq gv n) * rq n) then (n : Int) else ntI rq gv n
/-- what is given, pack by pack -/
def grI (rq : Nat → Int) : Nat → Nat → Int
  | 0 => fun _ => 0
  | k + 1 => if ntI rq (grI rq k) 4 < 0 then grI rq k else upI (grI rq k) (ntI rq (grI rq k) 4).toNat (grI rq k (ntI rq (grI rq k) 4).toNat + 1)
/-- how many packs another shop gets ahead -/
def caI (rq : Nat → Int) (s : Nat) (h : Int) (o : Nat) : Int := if 0 < rq o ∧ o < s then h * rq o / rq s + 1 else if 0 < rq o ∧ s < o then (h * rq o + rq s - 1) / rq s else 0
def gaI (rq : Nat → Int) (s : Nat) (h : Int) : Int := if rq s ≤ 0 then 0 else h + smI (caI rq s h) 4
def ctI (rq : Nat → Int) (pk : Int) (s : Nat) : Nat → Int → Int → Int
  | 0, lo, _ => lo
  | n + 1, lo, hi => if hi ≤ lo then lo else if gaI rq s (lo + (hi - lo) / 2) < pk then ctI rq pk s n (lo + (hi - lo) / 2 + 1) hi else ctI rq pk s n lo (lo + (hi - lo) / 2)
theorem ntI_rng (rq gv : Nat → Int) : ∀ n : Nat, -1 ≤ ntI rq gv n ∧ ntI rq gv n < n ∧ (0 ≤ ntI rq gv n → gv (ntI rq gv n).toNat < rq (ntI rq gv n).toNat)
  | 0 => by simp [ntI]
  | n + 1 => by
    have h := ntI_rng rq gv n
    simp only [ntI]
    split
    · rename_i q
      refine ⟨by omega, by omega, fun _ => ?_⟩
      rw [Int.toNat_natCast]; exact q.1
    · exact ⟨h.1, by omega, h.2.2⟩
theorem grI_rng {rq : Nat → Int} (h : ∀ j, 0 ≤ rq j) : ∀ (k j : Nat), 0 ≤ grI rq k j ∧ grI rq k j ≤ rq j
  | 0, j => ⟨Int.le_refl _, h j⟩
  | k + 1, j => by
    have h1 := grI_rng h k j
    have h2 := ntI_rng rq (grI rq k) 4
    simp only [grI]
    split
    · exact h1
    · by_cases e : j = (ntI rq (grI rq k) 4).toNat
      · subst e
        rw [upI_same]
        have h3 := h2.2.2 (by omega)
        omega
      · rw [upI_ne e]; exact h1
theorem grI_stop {rq : Nat → Int} {k : Nat} (h : ntI rq (grI rq k) 4 < 0) : ∀ n : Nat, grI rq (k + n) = grI rq k
  | 0 => rfl
  | n + 1 => by
    have h1 := grI_stop h n
    rw [show k + (n + 1) = (k + n) + 1 from rfl, grI, h1, if_pos h]
theorem caI_rng {rq : Nat → Int} {s : Nat} {h : Int} (hr : ∀ j, 0 ≤ rq j ∧ rq j ≤ 1000000) (h0 : 0 ≤ h ∧ h ≤ 1000000) (hs : 0 < rq s) (o : Nat) : 0 ≤ caI rq s h o ∧ caI rq s h o ≤ 1000001000000 := by
  unfold caI
  have h1 := mul_rng (a := h) (b := rq o) (A := 1000000) (B := 1000000) h0.1 h0.2 (hr o).1 (hr o).2
  have h4 := (hr s).2
  split
  · have h2 := div_rng (a := h * rq o) (b := rq s) (by omega) hs
    omega
  · split
    · have h2 := div_rng (a := h * rq o + rq s - 1) (b := rq s) (by omega) hs
      omega
    · omega
theorem gaI_rng {rq : Nat → Int} {s : Nat} {h : Int} (hr : ∀ j, 0 ≤ rq j ∧ rq j ≤ 1000000) (h0 : 0 ≤ h ∧ h ≤ 1000000) : 0 ≤ gaI rq s h ∧ gaI rq s h ≤ 5000000000000 := by
  unfold gaI
  split
  · omega
  · have h1 := smI_le (f := caI rq s h) (B := 1000001000000) (fun j => caI_rng hr h0 (by omega) j) 4
    omega
/-! finding shops, items and lines -/
def okI (n : Nat) (z : Int) : Int := if 0 ≤ z ∧ z < (n : Int) then 1 else 0
theorem okI_s (n : Nat) (z : Int) : (okI n z = 1 ∧ 0 ≤ z ∧ z < (n : Int)) ∨ (okI n z = 0 ∧ ¬ (0 ≤ z ∧ z < (n : Int))) := by unfold okI; split <;> omega
def cdS (n : Nat) (z : Int) : Nat := if 0 ≤ z ∧ z < (n : Int) then 0 else 1
theorem cdS_s (n : Nat) (z : Int) : (cdS n z = 0 ∧ 0 ≤ z ∧ z < (n : Int)) ∨ (cdS n z = 1 ∧ ¬ (0 ≤ z ∧ z < (n : Int))) := by unfold cdS; split <;> omega
def plI (sh it : Nat) (zs zi : Int) : Int := if (0 ≤ zs ∧ zs < (sh : Int)) ∧ (0 ≤ zi ∧ zi < (it : Int)) then zs * 5 + zi else -1
theorem plI_s (sh it : Nat) (zs zi : Int) : (plI sh it zs zi = zs * 5 + zi ∧ 0 ≤ zs ∧ zs < (sh : Int) ∧ 0 ≤ zi ∧ zi < (it : Int)) ∨ (plI sh it zs zi = -1 ∧ ¬ ((0 ≤ zs ∧ zs < (sh : Int)) ∧ (0 ≤ zi ∧ zi < (it : Int)))) := by unfold plI; split <;> omega
def lnO (sh it : Nat) (lnf : Nat → Option Nat) (zs zi : Int) : Option Nat := if (0 ≤ zs ∧ zs < (sh : Int)) ∧ (0 ≤ zi ∧ zi < (it : Int)) then lnf (zs * 5 + zi).toNat else none
def itO (it : Nat) (itf : Nat → Option Nat) (zi : Int) : Option Nat := if 0 ≤ zi ∧ zi < (it : Int) then itf zi.toNat else none
def cdL (sh it : Nat) (lnf : Nat → Option Nat) (zs zi : Int) : Nat := if (0 ≤ zs ∧ zs < (sh : Int)) ∧ (0 ≤ zi ∧ zi < (it : Int)) then (if lnf (zs * 5 + zi).toNat = none then 2 else 0) else 1
theorem cdL_ok {sh it : Nat} {lnf : Nat → Option Nat} {zs zi : Int} (h : cdL sh it lnf zs zi = 0) : 0 ≤ zs ∧ zs < (sh : Int) ∧ 0 ≤ zi ∧ zi < (it : Int) ∧ ∃ q, lnf (zs * 5 + zi).toNat = some q := by
  unfold cdL at h
  split at h
  · rename_i h1
    split at h
    · omega
    · rename_i h2
      refine ⟨h1.1.1, h1.1.2, h1.2.1, h1.2.2, ?_⟩
      cases h3 : lnf (zs * 5 + zi).toNat with
      | none => exact absurd h3 h2
      | some q => exact ⟨q, rfl⟩
  · omega
