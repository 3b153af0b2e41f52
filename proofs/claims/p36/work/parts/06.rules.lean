def nestF : List (String × Nat × String × String × String) := [("Replen", 124, "Replen$Item", "stock", "I"), ("Replen", 144, "Replen$Item", "promotions", "LReplen$DayBook;"), ("Replen", 157, "Replen$Line", "demands", "LReplen$DayBook;"), ("Replen", 182, "Replen$Line", "learner", "LReplen$Learner;"), ("Replen", 185, "Replen$Learner", "level", "I"), ("Replen", 188, "Replen$Line", "firstLevel", "I"), ("Replen", 194, "Replen$Line", "firstDay", "I"), ("Replen", 197, "Replen$Line", "item", "LReplen$Item;"), ("Replen", 223, "Replen$Line", "stock", "I"), ("Replen", 257, "Replen$Line", "lostSum", "I"), ("Replen", 284, "Replen$Line", "arrivals", "LReplen$DayBook;"), ("Replen$Line", 92, "Replen$Item", "pack", "I")]
def nestM : List (String × Nat × MethodName) := [("Replen", 27, ⟨"Replen$DayBook", "<init>", "()V"⟩), ("Replen", 37, ⟨"Replen$Learner", "<init>", "()V"⟩), ("Replen", 44, ⟨"Replen$Sharing", "<init>", "()V"⟩), ("Replen$Item", 9, ⟨"Replen$DayBook", "<init>", "()V"⟩), ("Replen$Line", 11, ⟨"Replen$Learner", "<init>", "()V"⟩), ("Replen$Line", 24, ⟨"Replen$DayBook", "<init>", "()V"⟩)]
/-- the links between nest mates, of a state -/
def NN (U : State) : Prop := (∀ q ∈ nestF, va_Nw (.fieldLinkNest q.1 q.2.1 q.2.2.1 q.2.2.2.1 q.2.2.2.2 "Replen") U) ∧ (∀ q ∈ nestM, va_Nw (.methodLinkNest q.1 q.2.1 q.2.2 "Replen") U)
theorem NN.same {u U : State} (h : u.vm = U.vm) (hN : NN u) : NN U := ⟨fun q hq => va_Nw.same rfl h (hN.1 q hq), fun q hq => va_Nw.same rfl h (hN.2 q hq)⟩
theorem NN.warm {s U : State} (hW : s.WarmedH U.vm) (hN : NN s) : NN U := ⟨fun q hq => va_Nw.warmF hW (hN.1 q hq), fun q hq => va_Nw.warmM hW (hN.2 q hq)⟩
/-- a method's start: it holds the cells W (and the tables) -/
def PC (D : va_G) (cs : Nat → ClassId) (W : va_W) : State → Prop := fun U => va_P D vwCl W U.heap ∧ KK D cs U ∧ va_D (inW W) W ∧ NN U
theorem PC_blind {D : va_G} {cs : Nat → ClassId} {W : va_W} {av : List Value} : FrameBlind (va_Pc av (PC D cs W)) := fun a U g mk q => by
  obtain ⟨q0, qP, qK, qD, qN⟩ := q
  exact ⟨q0, qP, va_K.moved (u := U) (U := U.calling g mk a) (Vm.Alike.refl U.vm) qK, qD, NN.same (u := U) (U := U.calling g mk a) rfl qN⟩
theorem PC_V {D : va_G} {cs : Nat → ClassId} {W ws : va_W} {s : State} {H : Heap} {b : Nat} {As : List Value} {C : String} {T : u_T} {N ci : Nat} {fs : List Value} {A0 : Nat → Prop} (hK : KK D cs s) (hN : NN s) (hP : va_P D vwCl ws H) (hD : va_D A0 ws) (is : List Nat) (hn : va_nd is = true) (hp : picks ws is W) (hw : W[0]? = some (b, .inr (ci, fs))) (hc : vwCl[ci]? = some (C, T, N)) : PreV s H C b (va_Pc (.ref b :: As) (PC D cs W)) As :=
  ⟨PC_blind, va_recv hK (P_pick hP is hp) hc hw, fun U hU hW => ⟨rfl, by rw [hU]; exact P_pick hP is hp, va_K.moved hW.alike hK, inW_D (D_pick hD is hn hp), hN.warm hW⟩⟩
theorem PC_S {D : va_G} {cs : Nat → ClassId} {W ws : va_W} {s : State} {H : Heap} {As : List Value} {A0 : Nat → Prop} (hK : KK D cs s) (hN : NN s) (hP : va_P D vwCl ws H) (hD : va_D A0 ws) (is : List Nat) (hn : va_nd is = true) (hp : picks ws is W) : PreS s H (va_Pc As (PC D cs W)) As :=
  ⟨PC_blind, fun U hU hW => ⟨rfl, by rw [hU]; exact P_pick hP is hp, va_K.moved hW.alike hK, inW_D (D_pick hD is hn hp), hN.warm hW⟩⟩
theorem narrow_iI (z : Int) : narrow .int (.int (iI z)) = .int (iI z) := rfl
theorem narrow_0 : narrow .boolean (.int (iI 0)) = .int (iI 0) := by decide
theorem narrow_1' : narrow .boolean (.int (iI 1)) = .int (iI 1) := by decide
section MYR
variable {p : Program} {l : Launch} {e : Env} {R : Room} {s : State} {m : MethodId} {args : Array Value} {below : List Frame} {meth : Method} {c : Code} {H : Heap} {locs : List Loc} {cells slots : Nat} {Q : State → Prop} {cc : ByteArray} {pc : Nat} {ls : Array Slot} {rest : List Value} {D : va_G} {cs : Nat → ClassId} {ws : va_W} {A : Nat → Prop} {H0 : Heap}
theorem my_iadd (hx : p.tables.exec = Jvm.exec) (hb : c.code = cc) {a b z : Int} (hdg : decode cc pc = .ok (.iadd, 1)) (hz : a + b = z) (k : W p l e R s m args below meth c H locs cells slots Q (F0 m (pc + 1) ls (.int (iI z) :: rest))) : W p l e R s m args below meth c H locs cells slots Q (F0 m pc ls (.int (iI b) :: .int (iI a) :: rest)) := by
  subst hz
  refine lv_iadd hx hb hdg ?_
  rw [iI_add]
  exact k
theorem my_isub (hx : p.tables.exec = Jvm.exec) (hb : c.code = cc) {a b z : Int} (hdg : decode cc pc = .ok (.isub, 1)) (hz : a - b = z) (k : W p l e R s m args below meth c H locs cells slots Q (F0 m (pc + 1) ls (.int (iI z) :: rest))) : W p l e R s m args below meth c H locs cells slots Q (F0 m pc ls (.int (iI b) :: .int (iI a) :: rest)) := by
  subst hz
  refine lv_isub hx hb hdg ?_
  rw [iI_sub]
  exact k
theorem my_imul (hx : p.tables.exec = Jvm.exec) (hb : c.code = cc) {a b z : Int} (hdg : decode cc pc = .ok (.imul, 1)) (hz : a * b = z) (k : W p l e R s m args below meth c H locs cells slots Q (F0 m (pc + 1) ls (.int (iI z) :: rest))) : W p l e R s m args below meth c H locs cells slots Q (F0 m pc ls (.int (iI b) :: .int (iI a) :: rest)) := by
  subst hz
  refine lv_imul hx hb hdg ?_
  rw [iI_mul]
  exact k
theorem my_idiv (hx : p.tables.exec = Jvm.exec) (hb : c.code = cc) {a b z : Int} (hdg : decode cc pc = .ok (.idiv, 1)) (h : 0 ≤ a ∧ a < 2147483648 ∧ 0 < b ∧ b < 2147483648) (hz : a / b = z) (k : W p l e R s m args below meth c H locs cells slots Q (F0 m (pc + 1) ls (.int (iI z) :: rest))) : W p l e R s m args below meth c H locs cells slots Q (F0 m pc ls (.int (iI b) :: .int (iI a) :: rest)) := by
  subst hz
  refine lv_idiv hx hb hdg (iI_ne (by omega)) ?_
  rw [iI_div h]
  exact k
theorem my_irem (hx : p.tables.exec = Jvm.exec) (hb : c.code = cc) {a b z : Int} (hdg : decode cc pc = .ok (.irem, 1)) (h : 0 ≤ a ∧ a < 2147483648 ∧ 0 < b ∧ b < 2147483648) (hz : a % b = z) (k : W p l e R s m args below meth c H locs cells slots Q (F0 m (pc + 1) ls (.int (iI z) :: rest))) : W p l e R s m args below meth c H locs cells slots Q (F0 m pc ls (.int (iI b) :: .int (iI a) :: rest)) := by
  subst hz
  refine lv_irem hx hb hdg (iI_ne (by omega)) ?_
  rw [iI_div h, iI_mul, iI_sub, show a - a / b * b = a % b from by rw [Int.emod_def, Int.mul_comm b]]
  exact k
theorem my_ineg (hx : p.tables.exec = Jvm.exec) (hb : c.code = cc) {a z : Int} (hdg : decode cc pc = .ok (.ineg, 1)) (hz : -a = z) (k : W p l e R s m args below meth c H locs cells slots Q (F0 m (pc + 1) ls (.int (iI z) :: rest))) : W p l e R s m args below meth c H locs cells slots Q (F0 m pc ls (.int (iI a) :: rest)) := by
  subst hz
  refine lv_ineg hx hb hdg ?_
  rw [iI_neg]
  exact k
theorem my_ladd (hx : p.tables.exec = Jvm.exec) (hb : c.code = cc) {a b z : Int} (hdg : decode cc pc = .ok (.ladd, 1)) (hz : a + b = z) (k : W p l e R s m args below meth c H locs cells slots Q (F0 m (pc + 1) ls (.long (lI z) :: rest))) : W p l e R s m args below meth c H locs cells slots Q (F0 m pc ls (.long (lI b) :: .long (lI a) :: rest)) := by
  subst hz
  refine lv_ladd hx hb hdg ?_
  rw [lI_add]
  exact k
theorem my_lsub (hx : p.tables.exec = Jvm.exec) (hb : c.code = cc) {a b z : Int} (hdg : decode cc pc = .ok (.lsub, 1)) (hz : a - b = z) (k : W p l e R s m args below meth c H locs cells slots Q (F0 m (pc + 1) ls (.long (lI z) :: rest))) : W p l e R s m args below meth c H locs cells slots Q (F0 m pc ls (.long (lI b) :: .long (lI a) :: rest)) := by
  subst hz
  refine lv_lsub hx hb hdg ?_
  rw [lI_sub]
  exact k
theorem my_lmul (hx : p.tables.exec = Jvm.exec) (hb : c.code = cc) {a b z : Int} (hdg : decode cc pc = .ok (.lmul, 1)) (hz : a * b = z) (k : W p l e R s m args below meth c H locs cells slots Q (F0 m (pc + 1) ls (.long (lI z) :: rest))) : W p l e R s m args below meth c H locs cells slots Q (F0 m pc ls (.long (lI b) :: .long (lI a) :: rest)) := by
  subst hz
  refine lv_lmul hx hb hdg ?_
  rw [lI_mul]
  exact k
theorem my_ldiv (hx : p.tables.exec = Jvm.exec) (hb : c.code = cc) {a b z : Int} (hdg : decode cc pc = .ok (.ldiv, 1)) (h : 0 ≤ a ∧ a < 9223372036854775808 ∧ 0 < b ∧ b < 9223372036854775808) (hz : a / b = z) (k : W p l e R s m args below meth c H locs cells slots Q (F0 m (pc + 1) ls (.long (lI z) :: rest))) : W p l e R s m args below meth c H locs cells slots Q (F0 m pc ls (.long (lI b) :: .long (lI a) :: rest)) := by
  subst hz
  refine lv_ldiv hx hb hdg (lI_ne (by omega)) ?_
  rw [lI_div h]
  exact k
theorem my_lneg (hx : p.tables.exec = Jvm.exec) (hb : c.code = cc) {a z : Int} (hdg : decode cc pc = .ok (.lneg, 1)) (hz : -a = z) (k : W p l e R s m args below meth c H locs cells slots Q (F0 m (pc + 1) ls (.long (lI z) :: rest))) : W p l e R s m args below meth c H locs cells slots Q (F0 m pc ls (.long (lI a) :: rest)) := by
  subst hz
  refine lv_lneg hx hb hdg ?_
  rw [lI_neg]
  exact k
theorem my_i2l (hx : p.tables.exec = Jvm.exec) (hb : c.code = cc) {a : Int} (hdg : decode cc pc = .ok (.i2l, 1)) (h : -2147483648 ≤ a ∧ a < 2147483648) (k : W p l e R s m args below meth c H locs cells slots Q (F0 m (pc + 1) ls (.long (lI a) :: rest))) : W p l e R s m args below meth c H locs cells slots Q (F0 m pc ls (.int (iI a) :: rest)) := lv_i2l hx hb hdg (iI_l h) k
theorem my_l2i (hx : p.tables.exec = Jvm.exec) (hb : c.code = cc) {a : Int} (hdg : decode cc pc = .ok (.l2i, 1)) (k : W p l e R s m args below meth c H locs cells slots Q (F0 m (pc + 1) ls (.int (iI a) :: rest))) : W p l e R s m args below meth c H locs cells slots Q (F0 m pc ls (.long (lI a) :: rest)) := lv_l2i hx hb hdg (lI_i a) k
theorem iI_lt {a b : Int} (h : -2147483648 ≤ a ∧ a < 2147483648 ∧ -2147483648 ≤ b ∧ b < 2147483648) : (iI a < iI b) ↔ a < b := by rw [Int32.lt_iff_toInt_lt, iI_toInt (by omega), iI_toInt (by omega)]
theorem iI_le {a b : Int} (h : -2147483648 ≤ a ∧ a < 2147483648 ∧ -2147483648 ≤ b ∧ b < 2147483648) : (iI a ≤ iI b) ↔ a ≤ b := by rw [Int32.le_iff_toInt_le, iI_toInt (by omega), iI_toInt (by omega)]
theorem iI_eq {a b : Int} (h : -2147483648 ≤ a ∧ a < 2147483648 ∧ -2147483648 ≤ b ∧ b < 2147483648) : (iI a = iI b) ↔ a = b := by rw [← Int32.toInt_inj, iI_toInt (by omega), iI_toInt (by omega)]
theorem lI_lt {a b : Int} (h : -9223372036854775808 ≤ a ∧ a < 9223372036854775808 ∧ -9223372036854775808 ≤ b ∧ b < 9223372036854775808) : (lI a < lI b) ↔ a < b := by rw [Int64.lt_iff_toInt_lt, lI_toInt (by omega), lI_toInt (by omega)]
theorem lI_eq {a b : Int} (h : -9223372036854775808 ≤ a ∧ a < 9223372036854775808 ∧ -9223372036854775808 ≤ b ∧ b < 9223372036854775808) : (lI a = lI b) ↔ a = b := by rw [← Int64.toInt_inj, lI_toInt (by omega), lI_toInt (by omega)]
theorem lg_cmp_iI {a b : Int} (h : -9223372036854775808 ≤ a ∧ a < 9223372036854775808 ∧ -9223372036854775808 ≤ b ∧ b < 9223372036854775808) : lg_cmp (lI a) (lI b) = iI (if b < a then 1 else if a = b then 0 else -1) := by
  unfold lg_cmp
  by_cases h1 : b < a
  · rw [if_pos (show lI a > lI b from (lI_lt (by omega)).mpr h1), if_pos h1]; rfl
  · rw [if_neg (fun q => h1 ((lI_lt (by omega)).mp q)), if_neg h1]
    by_cases h2 : a = b
    · rw [if_pos (by rw [h2]), if_pos h2]; rfl
    · rw [if_neg (fun q => h2 ((lI_eq (by omega)).mp q)), if_neg h2]; rfl
theorem my_z_lt {a : Int} : ((-2147483648 ≤ a ∧ a < 2147483648) → (iI a < 0) → a < 0) ∧ ((-2147483648 ≤ a ∧ a < 2147483648) → ¬ (iI a < 0) → 0 ≤ a) := by
  have e0 : (0 : Int32) = iI 0 := rfl
  constructor
  all_goals (intro h q; simp only [e0, iI_lt (a := a) (b := 0) ⟨h.1, h.2, by decide, by decide⟩, iI_lt (a := 0) (b := a) ⟨by decide, by decide, h.1, h.2⟩, iI_le (a := a) (b := 0) ⟨h.1, h.2, by decide, by decide⟩, iI_le (a := 0) (b := a) ⟨by decide, by decide, h.1, h.2⟩, iI_eq (a := a) (b := 0) ⟨h.1, h.2, by decide, by decide⟩] at q; omega)
theorem my_z_ge {a : Int} : ((-2147483648 ≤ a ∧ a < 2147483648) → (0 ≤ iI a) → 0 ≤ a) ∧ ((-2147483648 ≤ a ∧ a < 2147483648) → ¬ (0 ≤ iI a) → a < 0) := by
  have e0 : (0 : Int32) = iI 0 := rfl
  constructor
  all_goals (intro h q; simp only [e0, iI_lt (a := a) (b := 0) ⟨h.1, h.2, by decide, by decide⟩, iI_lt (a := 0) (b := a) ⟨by decide, by decide, h.1, h.2⟩, iI_le (a := a) (b := 0) ⟨h.1, h.2, by decide, by decide⟩, iI_le (a := 0) (b := a) ⟨by decide, by decide, h.1, h.2⟩, iI_eq (a := a) (b := 0) ⟨h.1, h.2, by decide, by decide⟩] at q; omega)
theorem my_z_gt {a : Int} : ((-2147483648 ≤ a ∧ a < 2147483648) → (0 < iI a) → 0 < a) ∧ ((-2147483648 ≤ a ∧ a < 2147483648) → ¬ (0 < iI a) → a ≤ 0) := by
  have e0 : (0 : Int32) = iI 0 := rfl
  constructor
  all_goals (intro h q; simp only [e0, iI_lt (a := a) (b := 0) ⟨h.1, h.2, by decide, by decide⟩, iI_lt (a := 0) (b := a) ⟨by decide, by decide, h.1, h.2⟩, iI_le (a := a) (b := 0) ⟨h.1, h.2, by decide, by decide⟩, iI_le (a := 0) (b := a) ⟨by decide, by decide, h.1, h.2⟩, iI_eq (a := a) (b := 0) ⟨h.1, h.2, by decide, by decide⟩] at q; omega)
theorem my_z_le {a : Int} : ((-2147483648 ≤ a ∧ a < 2147483648) → (iI a ≤ 0) → a ≤ 0) ∧ ((-2147483648 ≤ a ∧ a < 2147483648) → ¬ (iI a ≤ 0) → 0 < a) := by
  have e0 : (0 : Int32) = iI 0 := rfl
  constructor
  all_goals (intro h q; simp only [e0, iI_lt (a := a) (b := 0) ⟨h.1, h.2, by decide, by decide⟩, iI_lt (a := 0) (b := a) ⟨by decide, by decide, h.1, h.2⟩, iI_le (a := a) (b := 0) ⟨h.1, h.2, by decide, by decide⟩, iI_le (a := 0) (b := a) ⟨by decide, by decide, h.1, h.2⟩, iI_eq (a := a) (b := 0) ⟨h.1, h.2, by decide, by decide⟩] at q; omega)
theorem my_z_eq {a : Int} : ((-2147483648 ≤ a ∧ a < 2147483648) → (iI a = 0) → a = 0) ∧ ((-2147483648 ≤ a ∧ a < 2147483648) → ¬ (iI a = 0) → a ≠ 0) := by
  have e0 : (0 : Int32) = iI 0 := rfl
  constructor
  all_goals (intro h q; simp only [e0, iI_lt (a := a) (b := 0) ⟨h.1, h.2, by decide, by decide⟩, iI_lt (a := 0) (b := a) ⟨by decide, by decide, h.1, h.2⟩, iI_le (a := a) (b := 0) ⟨h.1, h.2, by decide, by decide⟩, iI_le (a := 0) (b := a) ⟨by decide, by decide, h.1, h.2⟩, iI_eq (a := a) (b := 0) ⟨h.1, h.2, by decide, by decide⟩] at q; omega)
theorem my_z_ne {a : Int} : ((-2147483648 ≤ a ∧ a < 2147483648) → (¬ (iI a = 0)) → a ≠ 0) ∧ ((-2147483648 ≤ a ∧ a < 2147483648) → ¬ (¬ (iI a = 0)) → a = 0) := by
  have e0 : (0 : Int32) = iI 0 := rfl
  constructor
  all_goals (intro h q; simp only [e0, iI_lt (a := a) (b := 0) ⟨h.1, h.2, by decide, by decide⟩, iI_lt (a := 0) (b := a) ⟨by decide, by decide, h.1, h.2⟩, iI_le (a := a) (b := 0) ⟨h.1, h.2, by decide, by decide⟩, iI_le (a := 0) (b := a) ⟨by decide, by decide, h.1, h.2⟩, iI_eq (a := a) (b := 0) ⟨h.1, h.2, by decide, by decide⟩] at q; omega)
theorem my_icmp_lt (hx : p.tables.exec = Jvm.exec) (hb : c.code = cc) {a b : Int} (h : -2147483648 ≤ a ∧ a < 2147483648 ∧ -2147483648 ≤ b ∧ b < 2147483648) {off : Int} {tgt : Nat} (hdg : decode cc pc = .ok (.if_icmp .lt off, 3)) (ht : (pc : Int) + off = (tgt : Int)) (kt : a < b → W p l e R s m args below meth c H locs cells slots Q (F0 m tgt ls rest)) (kf : b ≤ a → W p l e R s m args below meth c H locs cells slots Q (F0 m (pc + 3) ls rest)) : W p l e R s m args below meth c H locs cells slots Q (F0 m pc ls (.int (iI b) :: .int (iI a) :: rest)) := by
  refine lv_icmp_lt hx hb hdg ht (fun q => kt ?_) (fun q => kf ?_)
  · exact (iI_lt (by omega)).mp q
  · exact Int.not_lt.mp fun z => q ((iI_lt (by omega)).mpr z)
theorem my_if_lt (hx : p.tables.exec = Jvm.exec) (hb : c.code = cc) {a : Int} (h : -2147483648 ≤ a ∧ a < 2147483648) {off : Int} {tgt : Nat} (hdg : decode cc pc = .ok (.ifCond .lt off, 3)) (ht : (pc : Int) + off = (tgt : Int)) (kt : a < 0 → W p l e R s m args below meth c H locs cells slots Q (F0 m tgt ls rest)) (kf : 0 ≤ a → W p l e R s m args below meth c H locs cells slots Q (F0 m (pc + 3) ls rest)) : W p l e R s m args below meth c H locs cells slots Q (F0 m pc ls (.int (iI a) :: rest)) := by
  refine lv_if_lt hx hb hdg ht (fun q => kt ?_) (fun q => kf ?_)
  · exact my_z_lt.1 h q
  · exact my_z_lt.2 h q
theorem my_icmp_ge (hx : p.tables.exec = Jvm.exec) (hb : c.code = cc) {a b : Int} (h : -2147483648 ≤ a ∧ a < 2147483648 ∧ -2147483648 ≤ b ∧ b < 2147483648) {off : Int} {tgt : Nat} (hdg : decode cc pc = .ok (.if_icmp .ge off, 3)) (ht : (pc : Int) + off = (tgt : Int)) (kt : b ≤ a → W p l e R s m args below meth c H locs cells slots Q (F0 m tgt ls rest)) (kf : a < b → W p l e R s m args below meth c H locs cells slots Q (F0 m (pc + 3) ls rest)) : W p l e R s m args below meth c H locs cells slots Q (F0 m pc ls (.int (iI b) :: .int (iI a) :: rest)) := by
  refine lv_icmp_ge hx hb hdg ht (fun q => kt ?_) (fun q => kf ?_)
  · exact (iI_le (by omega)).mp q
  · exact Int.not_le.mp fun z => q ((iI_le (by omega)).mpr z)
theorem my_if_ge (hx : p.tables.exec = Jvm.exec) (hb : c.code = cc) {a : Int} (h : -2147483648 ≤ a ∧ a < 2147483648) {off : Int} {tgt : Nat} (hdg : decode cc pc = .ok (.ifCond .ge off, 3)) (ht : (pc : Int) + off = (tgt : Int)) (kt : 0 ≤ a → W p l e R s m args below meth c H locs cells slots Q (F0 m tgt ls rest)) (kf : a < 0 → W p l e R s m args below meth c H locs cells slots Q (F0 m (pc + 3) ls rest)) : W p l e R s m args below meth c H locs cells slots Q (F0 m pc ls (.int (iI a) :: rest)) := by
  refine lv_if_ge hx hb hdg ht (fun q => kt ?_) (fun q => kf ?_)
  · exact my_z_ge.1 h q
  · exact my_z_ge.2 h q
theorem my_icmp_gt (hx : p.tables.exec = Jvm.exec) (hb : c.code = cc) {a b : Int} (h : -2147483648 ≤ a ∧ a < 2147483648 ∧ -2147483648 ≤ b ∧ b < 2147483648) {off : Int} {tgt : Nat} (hdg : decode cc pc = .ok (.if_icmp .gt off, 3)) (ht : (pc : Int) + off = (tgt : Int)) (kt : b < a → W p l e R s m args below meth c H locs cells slots Q (F0 m tgt ls rest)) (kf : a ≤ b → W p l e R s m args below meth c H locs cells slots Q (F0 m (pc + 3) ls rest)) : W p l e R s m args below meth c H locs cells slots Q (F0 m pc ls (.int (iI b) :: .int (iI a) :: rest)) := by
  refine lv_icmp_gt hx hb hdg ht (fun q => kt ?_) (fun q => kf ?_)
  · exact (iI_lt (by omega)).mp q
  · exact Int.not_lt.mp fun z => q ((iI_lt (by omega)).mpr z)
theorem my_if_gt (hx : p.tables.exec = Jvm.exec) (hb : c.code = cc) {a : Int} (h : -2147483648 ≤ a ∧ a < 2147483648) {off : Int} {tgt : Nat} (hdg : decode cc pc = .ok (.ifCond .gt off, 3)) (ht : (pc : Int) + off = (tgt : Int)) (kt : 0 < a → W p l e R s m args below meth c H locs cells slots Q (F0 m tgt ls rest)) (kf : a ≤ 0 → W p l e R s m args below meth c H locs cells slots Q (F0 m (pc + 3) ls rest)) : W p l e R s m args below meth c H locs cells slots Q (F0 m pc ls (.int (iI a) :: rest)) := by
  refine lv_if_gt hx hb hdg ht (fun q => kt ?_) (fun q => kf ?_)
  · exact my_z_gt.1 h q
  · exact my_z_gt.2 h q
theorem my_icmp_le (hx : p.tables.exec = Jvm.exec) (hb : c.code = cc) {a b : Int} (h : -2147483648 ≤ a ∧ a < 2147483648 ∧ -2147483648 ≤ b ∧ b < 2147483648) {off : Int} {tgt : Nat} (hdg : decode cc pc = .ok (.if_icmp .le off, 3)) (ht : (pc : Int) + off = (tgt : Int)) (kt : a ≤ b → W p l e R s m args below meth c H locs cells slots Q (F0 m tgt ls rest)) (kf : b < a → W p l e R s m args below meth c H locs cells slots Q (F0 m (pc + 3) ls rest)) : W p l e R s m args below meth c H locs cells slots Q (F0 m pc ls (.int (iI b) :: .int (iI a) :: rest)) := by
  refine lv_icmp_le hx hb hdg ht (fun q => kt ?_) (fun q => kf ?_)
  · exact (iI_le (by omega)).mp q
  · exact Int.not_le.mp fun z => q ((iI_le (by omega)).mpr z)
theorem my_if_le (hx : p.tables.exec = Jvm.exec) (hb : c.code = cc) {a : Int} (h : -2147483648 ≤ a ∧ a < 2147483648) {off : Int} {tgt : Nat} (hdg : decode cc pc = .ok (.ifCond .le off, 3)) (ht : (pc : Int) + off = (tgt : Int)) (kt : a ≤ 0 → W p l e R s m args below meth c H locs cells slots Q (F0 m tgt ls rest)) (kf : 0 < a → W p l e R s m args below meth c H locs cells slots Q (F0 m (pc + 3) ls rest)) : W p l e R s m args below meth c H locs cells slots Q (F0 m pc ls (.int (iI a) :: rest)) := by
  refine lv_if_le hx hb hdg ht (fun q => kt ?_) (fun q => kf ?_)
  · exact my_z_le.1 h q
  · exact my_z_le.2 h q
theorem my_icmp_eq (hx : p.tables.exec = Jvm.exec) (hb : c.code = cc) {a b : Int} (h : -2147483648 ≤ a ∧ a < 2147483648 ∧ -2147483648 ≤ b ∧ b < 2147483648) {off : Int} {tgt : Nat} (hdg : decode cc pc = .ok (.if_icmp .eq off, 3)) (ht : (pc : Int) + off = (tgt : Int)) (kt : a = b → W p l e R s m args below meth c H locs cells slots Q (F0 m tgt ls rest)) (kf : a ≠ b → W p l e R s m args below meth c H locs cells slots Q (F0 m (pc + 3) ls rest)) : W p l e R s m args below meth c H locs cells slots Q (F0 m pc ls (.int (iI b) :: .int (iI a) :: rest)) := by
  refine lv_icmp_eq hx hb hdg ht (fun q => kt ?_) (fun q => kf ?_)
  · exact (iI_eq (by omega)).mp q
  · exact fun z => q ((iI_eq (by omega)).mpr z)
theorem my_if_eq (hx : p.tables.exec = Jvm.exec) (hb : c.code = cc) {a : Int} (h : -2147483648 ≤ a ∧ a < 2147483648) {off : Int} {tgt : Nat} (hdg : decode cc pc = .ok (.ifCond .eq off, 3)) (ht : (pc : Int) + off = (tgt : Int)) (kt : a = 0 → W p l e R s m args below meth c H locs cells slots Q (F0 m tgt ls rest)) (kf : a ≠ 0 → W p l e R s m args below meth c H locs cells slots Q (F0 m (pc + 3) ls rest)) : W p l e R s m args below meth c H locs cells slots Q (F0 m pc ls (.int (iI a) :: rest)) := by
  refine lv_if_eq hx hb hdg ht (fun q => kt ?_) (fun q => kf ?_)
  · exact my_z_eq.1 h q
  · exact my_z_eq.2 h q
theorem my_icmp_ne (hx : p.tables.exec = Jvm.exec) (hb : c.code = cc) {a b : Int} (h : -2147483648 ≤ a ∧ a < 2147483648 ∧ -2147483648 ≤ b ∧ b < 2147483648) {off : Int} {tgt : Nat} (hdg : decode cc pc = .ok (.if_icmp .ne off, 3)) (ht : (pc : Int) + off = (tgt : Int)) (kt : a ≠ b → W p l e R s m args below meth c H locs cells slots Q (F0 m tgt ls rest)) (kf : a = b → W p l e R s m args below meth c H locs cells slots Q (F0 m (pc + 3) ls rest)) : W p l e R s m args below meth c H locs cells slots Q (F0 m pc ls (.int (iI b) :: .int (iI a) :: rest)) := by
  refine lv_icmp_ne hx hb hdg ht (fun q => kt ?_) (fun q => kf ?_)
  · exact fun z => q ((iI_eq (by omega)).mpr z)
  · exact (iI_eq (by omega)).mp q
theorem my_if_ne (hx : p.tables.exec = Jvm.exec) (hb : c.code = cc) {a : Int} (h : -2147483648 ≤ a ∧ a < 2147483648) {off : Int} {tgt : Nat} (hdg : decode cc pc = .ok (.ifCond .ne off, 3)) (ht : (pc : Int) + off = (tgt : Int)) (kt : a ≠ 0 → W p l e R s m args below meth c H locs cells slots Q (F0 m tgt ls rest)) (kf : a = 0 → W p l e R s m args below meth c H locs cells slots Q (F0 m (pc + 3) ls rest)) : W p l e R s m args below meth c H locs cells slots Q (F0 m pc ls (.int (iI a) :: rest)) := by
  refine lv_if_ne hx hb hdg ht (fun q => kt ?_) (fun q => kf ?_)
  · exact my_z_ne.1 h q
  · exact my_z_eq.1 h q
theorem my_lcmp_lt (hx : p.tables.exec = Jvm.exec) (hb : c.code = cc) {a b : Int} (h : -9223372036854775808 ≤ a ∧ a < 9223372036854775808 ∧ -9223372036854775808 ≤ b ∧ b < 9223372036854775808) {off : Int} {tgt : Nat} (hd1 : decode cc pc = .ok (.lcmp, 1)) (hdg : decode cc (pc + 1) = .ok (.ifCond .lt off, 3)) (ht : ((pc + 1 : Nat) : Int) + off = (tgt : Int)) (kt : a < b → W p l e R s m args below meth c H locs cells slots Q (F0 m tgt ls rest)) (kf : b ≤ a → W p l e R s m args below meth c H locs cells slots Q (F0 m (pc + 4) ls rest)) : W p l e R s m args below meth c H locs cells slots Q (F0 m pc ls (.long (lI b) :: .long (lI a) :: rest)) := by
  refine W.lcmp hx hb hd1 ?_
  rw [lg_cmp_iI h]
  refine my_if_lt hx hb (by split <;> (try split) <;> omega) hdg ht (fun q => kt ?_) (fun q => kf ?_)
  · revert q; split <;> (try split) <;> intro q <;> omega
  · revert q; split <;> (try split) <;> intro q <;> omega
theorem my_lcmp_ge (hx : p.tables.exec = Jvm.exec) (hb : c.code = cc) {a b : Int} (h : -9223372036854775808 ≤ a ∧ a < 9223372036854775808 ∧ -9223372036854775808 ≤ b ∧ b < 9223372036854775808) {off : Int} {tgt : Nat} (hd1 : decode cc pc = .ok (.lcmp, 1)) (hdg : decode cc (pc + 1) = .ok (.ifCond .ge off, 3)) (ht : ((pc + 1 : Nat) : Int) + off = (tgt : Int)) (kt : b ≤ a → W p l e R s m args below meth c H locs cells slots Q (F0 m tgt ls rest)) (kf : a < b → W p l e R s m args below meth c H locs cells slots Q (F0 m (pc + 4) ls rest)) : W p l e R s m args below meth c H locs cells slots Q (F0 m pc ls (.long (lI b) :: .long (lI a) :: rest)) := by
  refine W.lcmp hx hb hd1 ?_
  rw [lg_cmp_iI h]
  refine my_if_ge hx hb (by split <;> (try split) <;> omega) hdg ht (fun q => kt ?_) (fun q => kf ?_)
  · revert q; split <;> (try split) <;> intro q <;> omega
  · revert q; split <;> (try split) <;> intro q <;> omega
theorem my_lcmp_gt (hx : p.tables.exec = Jvm.exec) (hb : c.code = cc) {a b : Int} (h : -9223372036854775808 ≤ a ∧ a < 9223372036854775808 ∧ -9223372036854775808 ≤ b ∧ b < 9223372036854775808) {off : Int} {tgt : Nat} (hd1 : decode cc pc = .ok (.lcmp, 1)) (hdg : decode cc (pc + 1) = .ok (.ifCond .gt off, 3)) (ht : ((pc + 1 : Nat) : Int) + off = (tgt : Int)) (kt : b < a → W p l e R s m args below meth c H locs cells slots Q (F0 m tgt ls rest)) (kf : a ≤ b → W p l e R s m args below meth c H locs cells slots Q (F0 m (pc + 4) ls rest)) : W p l e R s m args below meth c H locs cells slots Q (F0 m pc ls (.long (lI b) :: .long (lI a) :: rest)) := by
  refine W.lcmp hx hb hd1 ?_
  rw [lg_cmp_iI h]
  refine my_if_gt hx hb (by split <;> (try split) <;> omega) hdg ht (fun q => kt ?_) (fun q => kf ?_)
  · revert q; split <;> (try split) <;> intro q <;> omega
  · revert q; split <;> (try split) <;> intro q <;> omega
theorem my_lcmp_le (hx : p.tables.exec = Jvm.exec) (hb : c.code = cc) {a b : Int} (h : -9223372036854775808 ≤ a ∧ a < 9223372036854775808 ∧ -9223372036854775808 ≤ b ∧ b < 9223372036854775808) {off : Int} {tgt : Nat} (hd1 : decode cc pc = .ok (.lcmp, 1)) (hdg : decode cc (pc + 1) = .ok (.ifCond .le off, 3)) (ht : ((pc + 1 : Nat) : Int) + off = (tgt : Int)) (kt : a ≤ b → W p l e R s m args below meth c H locs cells slots Q (F0 m tgt ls rest)) (kf : b < a → W p l e R s m args below meth c H locs cells slots Q (F0 m (pc + 4) ls rest)) : W p l e R s m args below meth c H locs cells slots Q (F0 m pc ls (.long (lI b) :: .long (lI a) :: rest)) := by
  refine W.lcmp hx hb hd1 ?_
  rw [lg_cmp_iI h]
  refine my_if_le hx hb (by split <;> (try split) <;> omega) hdg ht (fun q => kt ?_) (fun q => kf ?_)
  · revert q; split <;> (try split) <;> intro q <;> omega
  · revert q; split <;> (try split) <;> intro q <;> omega
theorem my_lcmp_eq (hx : p.tables.exec = Jvm.exec) (hb : c.code = cc) {a b : Int} (h : -9223372036854775808 ≤ a ∧ a < 9223372036854775808 ∧ -9223372036854775808 ≤ b ∧ b < 9223372036854775808) {off : Int} {tgt : Nat} (hd1 : decode cc pc = .ok (.lcmp, 1)) (hdg : decode cc (pc + 1) = .ok (.ifCond .eq off, 3)) (ht : ((pc + 1 : Nat) : Int) + off = (tgt : Int)) (kt : a = b → W p l e R s m args below meth c H locs cells slots Q (F0 m tgt ls rest)) (kf : a ≠ b → W p l e R s m args below meth c H locs cells slots Q (F0 m (pc + 4) ls rest)) : W p l e R s m args below meth c H locs cells slots Q (F0 m pc ls (.long (lI b) :: .long (lI a) :: rest)) := by
  refine W.lcmp hx hb hd1 ?_
  rw [lg_cmp_iI h]
  refine my_if_eq hx hb (by split <;> (try split) <;> omega) hdg ht (fun q => kt ?_) (fun q => kf ?_)
  · revert q; split <;> (try split) <;> intro q <;> omega
  · revert q; split <;> (try split) <;> intro q <;> omega
theorem my_lcmp_ne (hx : p.tables.exec = Jvm.exec) (hb : c.code = cc) {a b : Int} (h : -9223372036854775808 ≤ a ∧ a < 9223372036854775808 ∧ -9223372036854775808 ≤ b ∧ b < 9223372036854775808) {off : Int} {tgt : Nat} (hd1 : decode cc pc = .ok (.lcmp, 1)) (hdg : decode cc (pc + 1) = .ok (.ifCond .ne off, 3)) (ht : ((pc + 1 : Nat) : Int) + off = (tgt : Int)) (kt : a ≠ b → W p l e R s m args below meth c H locs cells slots Q (F0 m tgt ls rest)) (kf : a = b → W p l e R s m args below meth c H locs cells slots Q (F0 m (pc + 4) ls rest)) : W p l e R s m args below meth c H locs cells slots Q (F0 m pc ls (.long (lI b) :: .long (lI a) :: rest)) := by
  refine W.lcmp hx hb hd1 ?_
  rw [lg_cmp_iI h]
  refine my_if_ne hx hb (by split <;> (try split) <;> omega) hdg ht (fun q => kt ?_) (fun q => kf ?_)
  · revert q; split <;> (try split) <;> intro q <;> omega
  · revert q; split <;> (try split) <;> intro q <;> omega
theorem my_get (hx : p.tables.exec = Jvm.exec) (hb : c.code = cc) (hts : ∀ w ∈ ALL, w.before args s = true) {own C : String} {T : u_T} {N ci index : Nat} {a : Nat} (hin : ∀ w ∈ u_ws C T N, w ∈ ALL) (hown : s.vm.findClass own = some m.cls) (hK : KK D cs s) (hP : va_P D vwCl ws H) (q0 : Nat) {fs : List Value} (he : ws[q0]? = some (a, .inr (ci, fs))) (hc : vwCl[ci]? = some (C, T, N)) (k : Nat) (hk : k < N) (hlink : Cond.fieldLink own index C (T k).2.1 (T k).2.2.1 ∈ ALL) (hd : (T k).1 = C) {v : Value} (hv : fs[k]? = some v) (hdg : decode cc pc = .ok (.getfield index, 3))
    (kk : W p l e R s m args below meth c H locs cells slots Q (F0 m (pc + 3) ls (v :: rest))) : W p l e R s m args below meth c H locs cells slots Q (F0 m pc ls (.ref a :: rest)) := va_get hx hb hts hin hown hK hP q0 he hc k hk (hts _ hlink) (fun x h => by rw [hd] at h; exact h) hv hdg kk
theorem my_getN (hx : p.tables.exec = Jvm.exec) (hb : c.code = cc) (hts : ∀ w ∈ ALL, w.before args s = true) {own C : String} {T : u_T} {N ci index : Nat} {a : Nat} (hin : ∀ w ∈ u_ws C T N, w ∈ ALL) (hown : s.vm.findClass own = some m.cls) (hK : KK D cs s) (hN : NN s) (hP : va_P D vwCl ws H) (q0 : Nat) {fs : List Value} (he : ws[q0]? = some (a, .inr (ci, fs))) (hc : vwCl[ci]? = some (C, T, N)) (k : Nat) (hk : k < N) (j : Nat) (hj : nestF[j]? = some (own, index, C, (T k).2.1, (T k).2.2.1)) (hd : (T k).1 = C) {v : Value} (hv : fs[k]? = some v) (hdg : decode cc pc = .ok (.getfield index, 3))
    (kk : W p l e R s m args below meth c H locs cells slots Q (F0 m (pc + 3) ls (v :: rest))) : W p l e R s m args below meth c H locs cells slots Q (F0 m pc ls (.ref a :: rest)) := va_getN hx hb hts hin hown hK hP q0 he hc k hk (va_Nw.use rfl (hN.1 _ (List.mem_of_getElem? hj))) (fun x h => by rw [hd] at h; exact h) hv hdg kk
theorem my_put (hx : p.tables.exec = Jvm.exec) (hb : c.code = cc) (hts : ∀ w ∈ ALL, w.before args s = true) {own C : String} {T : u_T} {N ci index : Nat} {a : Nat} (hin : ∀ w ∈ u_ws C T N, w ∈ ALL) {ty0 : Nat → FieldType} (hty : ∀ k, k < N → parseFieldDescriptor (T k).2.2.1 = some (ty0 k)) (hnm : ∀ a, a < N → ∀ b, b < N → a ≠ b → (T a).2.1 ≠ (T b).2.1) (hown : s.vm.findClass own = some m.cls) (hK : KK D cs s) (hP : va_P D vwCl ws H) (hD : va_D A ws) (hS : va_S A H0 H locs) (q0 : Nat) {fs : List Value} (he : ws[q0]? = some (a, .inr (ci, fs))) (hc : vwCl[ci]? = some (C, T, N)) (k : Nat) (hk : k < N) (hlink : Cond.fieldLink own index C (T k).2.1 (T k).2.2.1 ∈ ALL) (hd : (T k).1 = C) (hfin : (T k).2.2.2 = false) (hi : ty0 k = .int) {z : Int} (hl : k < fs.length) (hdg : decode cc pc = .ok (.putfield index, 3))
    (kk : ∀ (H1 : Heap) (locs1 : List Loc), va_P D vwCl (ws.set q0 (a, .inr (ci, fs.set k (.int (iI z))))) H1 → va_D A (ws.set q0 (a, .inr (ci, fs.set k (.int (iI z))))) → va_S A H0 H1 locs1 → W p l e R s m args below meth c H1 locs1 cells slots Q (F0 m (pc + 3) ls rest)) : W p l e R s m args below meth c H locs cells slots Q (F0 m pc ls (.int (iI z) :: .ref a :: rest)) := va_put hx hb hts hin ty0 hty hnm hown hK hP hD hS q0 he hc k hk (hts _ hlink) (fun x h => by rw [hd] at h; exact h) hfin (ty := .int) (by rw [hty k hk, hi]) rfl rfl hl hdg kk
theorem my_putN (hx : p.tables.exec = Jvm.exec) (hb : c.code = cc) (hts : ∀ w ∈ ALL, w.before args s = true) {own C : String} {T : u_T} {N ci index : Nat} {a : Nat} (hin : ∀ w ∈ u_ws C T N, w ∈ ALL) {ty0 : Nat → FieldType} (hty : ∀ k, k < N → parseFieldDescriptor (T k).2.2.1 = some (ty0 k)) (hnm : ∀ a, a < N → ∀ b, b < N → a ≠ b → (T a).2.1 ≠ (T b).2.1) (hown : s.vm.findClass own = some m.cls) (hK : KK D cs s) (hN : NN s) (hP : va_P D vwCl ws H) (hD : va_D A ws) (hS : va_S A H0 H locs) (q0 : Nat) {fs : List Value} (he : ws[q0]? = some (a, .inr (ci, fs))) (hc : vwCl[ci]? = some (C, T, N)) (k : Nat) (hk : k < N) (j : Nat) (hj : nestF[j]? = some (own, index, C, (T k).2.1, (T k).2.2.1)) (hd : (T k).1 = C) (hfin : (T k).2.2.2 = false) (hi : ty0 k = .int) {z : Int} (hl : k < fs.length) (hdg : decode cc pc = .ok (.putfield index, 3))
    (kk : ∀ (H1 : Heap) (locs1 : List Loc), va_P D vwCl (ws.set q0 (a, .inr (ci, fs.set k (.int (iI z))))) H1 → va_D A (ws.set q0 (a, .inr (ci, fs.set k (.int (iI z))))) → va_S A H0 H1 locs1 → W p l e R s m args below meth c H1 locs1 cells slots Q (F0 m (pc + 3) ls rest)) : W p l e R s m args below meth c H locs cells slots Q (F0 m pc ls (.int (iI z) :: .ref a :: rest)) := va_putN hx hb hts hin ty0 hty hnm hown hK hP hD hS q0 he hc k hk (va_Nw.use rfl (hN.1 _ (List.mem_of_getElem? hj))) (fun x h => by rw [hd] at h; exact h) hfin (ty := .int) (by rw [hty k hk, hi]) rfl rfl hl hdg kk
theorem my_iald (hx : p.tables.exec = Jvm.exec) (hb : c.code = cc) (hK : KK D cs s) (hP : va_P D vwCl ws H) (q0 : Nat) {a n : Nat} {f : Nat → Int} (ha : ws[q0]? = some (a, arI cs n f)) {z : Int} (h : 0 ≤ z ∧ z < n ∧ n < 2147483648) {k : Nat} (hk : z.toNat = k) (hdg : decode cc pc = .ok (.iaload, 1))
    (kk : W p l e R s m args below meth c H locs cells slots Q (F0 m (pc + 1) ls (.int (iI (f k)) :: rest))) : W p l e R s m args below meth c H locs cells slots Q (F0 m pc ls (.int (iI z) :: .ref a :: rest)) := by
  refine va_iald hx hb hK hP q0 0 ha rfl (iI_in h) hdg ?_
  rw [iI_cl (by omega), hk]; exact kk
theorem my_iast (hx : p.tables.exec = Jvm.exec) (hb : c.code = cc) (hK : KK D cs s) (hP : va_P D vwCl ws H) (hD : va_D A ws) (hS : va_S A H0 H locs) (q0 : Nat) {a n : Nat} {f : Nat → Int} (ha : ws[q0]? = some (a, arI cs n f)) {z v : Int} (h : 0 ≤ z ∧ z < n ∧ n < 2147483648) {k : Nat} (hk : z.toNat = k) (hdg : decode cc pc = .ok (.iastore, 1))
    (kk : ∀ (H1 : Heap) (locs1 : List Loc), va_P D vwCl (ws.set q0 (a, arI cs n (upI f k v))) H1 → va_D A (ws.set q0 (a, arI cs n (upI f k v))) → va_S A H0 H1 locs1 → W p l e R s m args below meth c H1 locs1 cells slots Q (F0 m (pc + 1) ls rest)) : W p l e R s m args below meth c H locs cells slots Q (F0 m pc ls (.int (iI v) :: .int (iI z) :: .ref a :: rest)) := by
  refine va_iast hx hb hK hP hD hS q0 0 ha rfl (iI_in h) hdg ?_
  rw [iI_cl (by omega), hk, upd_iI]; exact kk
theorem my_aald (hx : p.tables.exec = Jvm.exec) (hb : c.code = cc) (hK : KK D cs s) (hP : va_P D vwCl ws H) (q0 t0 : Nat) {C : String} (ht : (TY cs)[t0]? = some (cs t0, .object C)) {a n : Nat} {f : Nat → Option Nat} (ha : ws[q0]? = some (a, arQ cs t0 n f)) {z : Int} (h : 0 ≤ z ∧ z < n ∧ n < 2147483648) {k : Nat} (hk : z.toNat = k) (hdg : decode cc pc = .ok (.aaload, 1))
    (kk : W p l e R s m args below meth c H locs cells slots Q (F0 m (pc + 1) ls (va_rf (f k) :: rest))) : W p l e R s m args below meth c H locs cells slots Q (F0 m pc ls (.int (iI z) :: .ref a :: rest)) := by
  refine va_aldq hx hb hK hP q0 t0 ha ht (iI_in h) hdg ?_
  rw [iI_cl (by omega), hk]; exact kk
theorem my_alenI (hx : p.tables.exec = Jvm.exec) (hb : c.code = cc) (hK : KK D cs s) (hP : va_P D vwCl ws H) (q0 : Nat) {a n : Nat} {f : Nat → Int} (ha : ws[q0]? = some (a, arI cs n f)) (hdg : decode cc pc = .ok (.arraylength, 1))
    (kk : W p l e R s m args below meth c H locs cells slots Q (F0 m (pc + 1) ls (.int (iI (n : Int)) :: rest))) : W p l e R s m args below meth c H locs cells slots Q (F0 m pc ls (.ref a :: rest)) := va_alen hx hb hK hP q0 0 ha (ty := .int) (show (TY cs)[0]? = some (cs 0, .int) from rfl) (iI_ofNat n) hdg kk
theorem my_alenQ (hx : p.tables.exec = Jvm.exec) (hb : c.code = cc) (hK : KK D cs s) (hP : va_P D vwCl ws H) (q0 t0 : Nat) {C : String} (ht : (TY cs)[t0]? = some (cs t0, .object C)) {a n : Nat} {f : Nat → Option Nat} (ha : ws[q0]? = some (a, arQ cs t0 n f)) (hdg : decode cc pc = .ok (.arraylength, 1))
    (kk : W p l e R s m args below meth c H locs cells slots Q (F0 m (pc + 1) ls (.int (iI (n : Int)) :: rest))) : W p l e R s m args below meth c H locs cells slots Q (F0 m pc ls (.ref a :: rest)) := va_alen hx hb hK hP q0 t0 ha ht (iI_ofNat n) hdg kk
end MYR
