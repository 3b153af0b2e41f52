def strL : List (Nat × String) := [(73, "the lead time is not between 1 and 5"), (80, "there are 4 shops"), (83, "the pack size is not between 1 and 50"), (85, "the stock is not between 0 and 9999"), (87, "there are 5 items"), (100, "the stock is not between 0 and 999"), (103, "the level is not between 0 and 99999"), (109, "the shop carries the item"), (122, "the number is not between 1 and 9999"), (127, "the central stock would be greater than 99999"), (132, "the service is not between 1 and 100"), (134, "the level rate is not between 0 and 100"), (136, "the season rate is not between 0 and 100"), (138, "the day is before today, or greater than 999"), (150, "the day is not between 0 and 999"), (155, "the number is not between 1 and 99"), (165, "the demand today would be greater than 999"), (171, "today is the day 999"), (205, "the weekday is not between 0 and 6"), (210, "the day is before today, or greater than 1099"), (215, "the error is not between 0 and 20"), (235, "nothing is on its way"), (267, "no such shop"), (273, "no such item"), (278, "the shop does not carry the item")]
def decL : List MethodName := [⟨"java/lang/RuntimeException", "<init>", "(Ljava/lang/String;)V"⟩, ⟨"java/lang/Exception", "<init>", "(Ljava/lang/String;)V"⟩, ⟨"java/lang/Throwable", "<init>", "(Ljava/lang/String;)V"⟩]
def casL : List String := ["java/lang/IndexOutOfBoundsException", "java/util/NoSuchElementException", "java/lang/IllegalArgumentException", "java/lang/IllegalStateException", "java/lang/UnsupportedOperationException"]
def ncL : List (String × String) := [("java/lang/IllegalStateException", "java/lang/IllegalArgumentException"), ("java/lang/IndexOutOfBoundsException", "java/lang/IllegalArgumentException"), ("java/util/NoSuchElementException", "java/lang/IllegalArgumentException"), ("java/lang/UnsupportedOperationException", "java/lang/IllegalArgumentException"), ("java/lang/IllegalArgumentException", "java/lang/IllegalStateException"), ("java/lang/IndexOutOfBoundsException", "java/lang/IllegalStateException"), ("java/util/NoSuchElementException", "java/lang/IllegalStateException"), ("java/lang/UnsupportedOperationException", "java/lang/IllegalStateException"), ("java/lang/IllegalArgumentException", "java/lang/IndexOutOfBoundsException"), ("java/lang/IllegalStateException", "java/lang/IndexOutOfBoundsException"), ("java/util/NoSuchElementException", "java/lang/IndexOutOfBoundsException"), ("java/lang/UnsupportedOperationException", "java/lang/IndexOutOfBoundsException"), ("java/lang/IllegalArgumentException", "java/util/NoSuchElementException"), ("java/lang/IllegalStateException", "java/util/NoSuchElementException"), ("java/lang/IndexOutOfBoundsException", "java/util/NoSuchElementException"), ("java/lang/UnsupportedOperationException", "java/util/NoSuchElementException"), ("java/lang/IllegalArgumentException", "java/lang/UnsupportedOperationException"), ("java/lang/IllegalStateException", "java/lang/UnsupportedOperationException"), ("java/lang/IndexOutOfBoundsException", "java/lang/UnsupportedOperationException"), ("java/util/NoSuchElementException", "java/lang/UnsupportedOperationException")]
def evL : List Cond := decL.map (fun y => .declares y) ++ casL.map (fun c => .castable c c)
def exN : Nat → String
  | 1 => "java/lang/IndexOutOfBoundsException"
  | 2 => "java/util/NoSuchElementException"
  | 3 => "java/lang/IllegalArgumentException"
  | 4 => "java/lang/IllegalStateException"
  | _ => "java/lang/UnsupportedOperationException"
/-- what a throw needs of the state: two statics of Throwable that no writing touches, the texts, words on the exceptions' classes -/
def EV (A : Nat → Prop) (U : State) : Prop := vx_Zq Bundle.tN "UNASSIGNED_STACK" Bundle.steD A U U.heap ∧ vx_Zq Bundle.tN "SUPPRESSED_SENTINEL" Bundle.listD A U U.heap ∧ (∀ q ∈ strL, ∃ a, vk_R RX5 q.1 q.2 a U) ∧ (∀ y ∈ decL, va_Nw (.declares y) U) ∧ (∀ c ∈ casL, va_Nw (.castable c c) U) ∧ (∀ q ∈ ncL, va_Nc q.1 q.2 U)
/-- at a call: the callee may write less -/
theorem EV.call {A A1 : Nat → Prop} {s U : State} {H : Heap} {locs : List Loc} (hE : EV A s) (hS : va_S A s.heap H locs) (hA : ∀ q, A1 q → A q) (hU : U.heap = H) (hW : s.WarmedH U.vm) : EV A1 U := by
  obtain ⟨h1, h2, h3, h4, h5, h6⟩ := hE
  exact ⟨by rw [hU]; exact vx_Zq.moved hW.alike ((h1.kept hS.2.1).narrow hA), by rw [hU]; exact vx_Zq.moved hW.alike ((h2.kept hS.2.1).narrow hA), fun q hq => (h3 q hq).elim fun a h => ⟨a, vk_R.warm hW h⟩, fun y hy => va_Nw.warmD hW (h4 y hy), fun c hc => va_Nw.warmC hW (h5 c hc), fun q hq => va_Nc.moved hW.alike (h6 q hq)⟩
theorem EV.same {A : Nat → Prop} {u U : State} (hv : u.vm = U.vm) (hh : U.heap = u.heap) (hE : EV A u) : EV A U := by
  obtain ⟨h1, h2, h3, h4, h5, h6⟩ := hE
  have hal : u.vm.Alike U.vm := by rw [hv]; exact Vm.Alike.refl _
  exact ⟨by rw [hh]; exact vx_Zq.moved hal h1, by rw [hh]; exact vx_Zq.moved hal h2, fun q hq => (h3 q hq).elim fun a h => ⟨a, vk_R.same hv.symm h⟩, fun y hy => va_Nw.same rfl hv (h4 y hy), fun c hc => va_Nw.same rfl hv (h5 c hc), fun q hq => va_Nc.moved hal (h6 q hq)⟩
/-- a start that may throw -/
def PE (D : va_G) (cs : Nat → ClassId) (W : va_W) (A : Nat → Prop) : State → Prop := fun U => PC D cs W U ∧ EV A U
theorem PE_blind {D : va_G} {cs : Nat → ClassId} {W : va_W} {A : Nat → Prop} {av : List Value} : FrameBlind (va_Pc av (PE D cs W A)) := fun a U g mk q => by
  obtain ⟨q0, qC, qE⟩ := q
  exact ⟨q0, (PC_blind (av := av) a U g mk ⟨q0, qC⟩).2, EV.same (u := U) (U := U.calling g mk a) rfl rfl qE⟩
theorem PE_V {D : va_G} {cs : Nat → ClassId} {W ws : va_W} {s : State} {H : Heap} {b : Nat} {As : List Value} {C : String} {T : u_T} {N ci : Nat} {fs : List Value} {A A0 A1 : Nat → Prop} {locs : List Loc} (hK : KK D cs s) (hN : NN s) (hE : EV A s) (hS : va_S A s.heap H locs) (hA : ∀ q, A1 q → A q) (hP : va_P D vwCl ws H) (hD : va_D A0 ws) (is : List Nat) (hn : va_nd is = true) (hp : picks ws is W) (hw : W[0]? = some (b, .inr (ci, fs))) (hc : vwCl[ci]? = some (C, T, N)) : PreV s H C b (va_Pc (.ref b :: As) (PE D cs W A1)) As :=
  ⟨PE_blind, va_recv hK (P_pick hP is hp) hc hw, fun U hU hW => ⟨rfl, ⟨by rw [hU]; exact P_pick hP is hp, va_K.moved hW.alike hK, inW_D (D_pick hD is hn hp), hN.warm hW⟩, hE.call hS hA hU hW⟩⟩
theorem PE_S {D : va_G} {cs : Nat → ClassId} {W ws : va_W} {s : State} {H : Heap} {As : List Value} {A A0 A1 : Nat → Prop} {locs : List Loc} (hK : KK D cs s) (hN : NN s) (hE : EV A s) (hS : va_S A s.heap H locs) (hA : ∀ q, A1 q → A q) (hP : va_P D vwCl ws H) (hD : va_D A0 ws) (is : List Nat) (hn : va_nd is = true) (hp : picks ws is W) : PreS s H (va_Pc As (PE D cs W A1)) As :=
  ⟨PE_blind, fun U hU hW => ⟨rfl, ⟨by rw [hU]; exact P_pick hP is hp, va_K.moved hW.alike hK, inW_D (D_pick hD is hn hp), hN.warm hW⟩, hE.call hS hA hU hW⟩⟩
theorem rf_cat (r : Option Nat) : (va_rf r).category = 1 := by cases r <;> rfl
abbrev xr_1 : ByteArray := prog_13_method_2_code
set_option maxRecDepth 100000 in
theorem xq_1 : (xx_at RX5 269 "java/lang/IndexOutOfBoundsException" 7 xr_1 "java/lang/RuntimeException" ["java/lang/Exception"]).all (fun w => (goodWord w && decide (w ∈ lw_tbl)) || decide (w ∈ evL)) = true := by decide +kernel
set_option maxRecDepth 100000 in
theorem xo_1 : (xx_at RX5 269 "java/lang/IndexOutOfBoundsException" 7 xr_1 "java/lang/RuntimeException" ["java/lang/Exception"]).all vx_ot = true := by decide +kernel
abbrev xr_2 : ByteArray := prog_19_method_4_code
set_option maxRecDepth 100000 in
theorem xq_2 : (xx_at RX5 237 "java/util/NoSuchElementException" 13 xr_2 "java/lang/RuntimeException" ["java/lang/Exception"]).all (fun w => (goodWord w && decide (w ∈ lw_tbl)) || decide (w ∈ evL)) = true := by decide +kernel
set_option maxRecDepth 100000 in
theorem xo_2 : (xx_at RX5 237 "java/util/NoSuchElementException" 13 xr_2 "java/lang/RuntimeException" ["java/lang/Exception"]).all vx_ot = true := by decide +kernel
abbrev xr_3 : ByteArray := prog_11_method_2_code
set_option maxRecDepth 100000 in
theorem xq_3 : (xx_at RX5 75 "java/lang/IllegalArgumentException" 7 xr_3 "java/lang/RuntimeException" ["java/lang/Exception"]).all (fun w => (goodWord w && decide (w ∈ lw_tbl)) || decide (w ∈ evL)) = true := by decide +kernel
set_option maxRecDepth 100000 in
theorem xo_3 : (xx_at RX5 75 "java/lang/IllegalArgumentException" 7 xr_3 "java/lang/RuntimeException" ["java/lang/Exception"]).all vx_ot = true := by decide +kernel
abbrev xr_4 : ByteArray := prog_12_method_2_code
set_option maxRecDepth 100000 in
theorem xq_4 : (xx_at RX5 82 "java/lang/IllegalStateException" 7 xr_4 "java/lang/RuntimeException" ["java/lang/Exception"]).all (fun w => (goodWord w && decide (w ∈ lw_tbl)) || decide (w ∈ evL)) = true := by decide +kernel
set_option maxRecDepth 100000 in
theorem xo_4 : (xx_at RX5 82 "java/lang/IllegalStateException" 7 xr_4 "java/lang/RuntimeException" ["java/lang/Exception"]).all vx_ot = true := by decide +kernel
abbrev xr_5 : ByteArray := prog_18_method_2_code
set_option maxRecDepth 100000 in
theorem xq_5 : (xx_at RX5 167 "java/lang/UnsupportedOperationException" 7 xr_5 "java/lang/RuntimeException" ["java/lang/Exception"]).all (fun w => (goodWord w && decide (w ∈ lw_tbl)) || decide (w ∈ evL)) = true := by decide +kernel
set_option maxRecDepth 100000 in
theorem xo_5 : (xx_at RX5 167 "java/lang/UnsupportedOperationException" 7 xr_5 "java/lang/RuntimeException" ["java/lang/Exception"]).all vx_ot = true := by decide +kernel
theorem ev_ot : ∀ w ∈ evL, w.onTables = true := by decide +kernel
theorem EV.use {A : Nat → Prop} {s : State} {args : Array Value} (hE : EV A s) : ∀ w ∈ evL, w.before args s = true := by
  intro w hw
  have ho := ev_ot w hw
  rcases List.mem_append.mp hw with h | h
  · obtain ⟨y, hy, e⟩ := List.mem_map.mp h
    subst e
    exact va_Nw.use ho (hE.2.2.2.1 y hy)
  · obtain ⟨y, hy, e⟩ := List.mem_map.mp h
    subst e
    exact va_Nw.use ho (hE.2.2.2.2.1 y hy)
theorem xx_hat {A : Nat → Prop} {s : State} {args : Array Value} {L : List Cond} (hts : ∀ w ∈ ALL, w.before args s = true) (hE : EV A s) (h : L.all (fun w => (goodWord w && decide (w ∈ lw_tbl)) || decide (w ∈ evL)) = true) : ∀ w ∈ L, w.before args s = true := by
  intro w hw
  have h1 := List.all_eq_true.mp h w hw
  simp only [Bool.or_eq_true, Bool.and_eq_true, decide_eq_true_eq] at h1
  rcases h1 with h1 | h1
  · exact hts w (List.mem_filter.mpr ⟨h1.2, h1.1⟩)
  · exact hE.use w h1
theorem ot_cl (a : String) (k : Nat) (b : String) : vx_ot (.classLink a k b) = true := rfl
theorem ot_in (a : String) : vx_ot (.initialized a) = true := rfl
section MYT
variable {p : Program} {l : Launch} {e : Env} {R : Room} {s : State} {m : MethodId} {args : Array Value} {below : List Frame} {meth : Method} {c : Code} {H : Heap} {locs : List Loc} {cells slots : Nat} {ls : Array Slot} {rest : List Value} {cc : ByteArray} {pc : Nat} {free : Addr → Prop} {Qc : Array Value → State → Outcome → State → Prop} {XC : String → State → State → Prop}
theorem my_throw1 (hx : p.tables.exec = Jvm.exec) (hb : c.code = cc) (hl : l.stackTraces = false) {text : String} {ik is mc ms : Nat} {A : Nat → Prop} (hts : ∀ w ∈ ALL, w.before args s = true) (hown : s.vm.findClass RX5 = some m.cls) (hE : EV A s) (hS : va_S A s.heap H locs) (hml : c.maxLocals = ls.size) (hk : Cond.classLink RX5 ik "java/lang/IndexOutOfBoundsException" ∈ ALL) (hstr : (is, text) ∈ strL) (hnt : ∀ x ∈ c.exceptionTable.toList, False) (hlocks : meth.locks = false)
    (d0 : decode cc pc = .ok (.new ik, 3)) (d3 : decode cc (pc + 3) = .ok (.dup, 1)) (d4 : decode cc (pc + 4) = .ok (.ldc is, 2)) (d6 : decode cc (pc + 6) = .ok (.invokespecial 269, 3)) (d9 : decode cc (pc + 9) = .ok (.athrow, 1))
    (hRf : 5 < R.frames) (hRl : (rest.map fun v => v.category).sum + 82 ≤ R.locals) (hRc : cells + 1 ≤ R.cells) (hRs : slots + 6 ≤ R.slots)
    (hxc : ∀ (t : State) (H1 : Heap), t.heap = H1 → H.size ≤ H1.size → (∀ q : Nat, q < H.size → H1[q]? = H[q]?) → va_S A s.heap H1 locs → XC "java/lang/IndexOutOfBoundsException" s t) (hf : ∀ z ∈ locs, free z.base) (hc : cells + 1 ≤ mc) (hs : slots + 6 ≤ ms) :
    W p l e R s m args below meth c H locs cells slots (vx_MQ below Qc XC args s mc ms free) (F0 m pc ls rest) := by
  obtain ⟨sa, hsa⟩ := hE.2.2.1 _ hstr
  have hini : Cond.initialized "java/lang/IndexOutOfBoundsException" ∈ ALL := w_11
  refine xx_newS (x0 := (by decide +kernel : decode xr_1 0 = .ok (.aload_n 0, 1))) (x1 := (by decide +kernel : decode xr_1 1 = .ok (.aload_n 1, 1))) (x2 := (by decide +kernel : decode xr_1 2 = .ok (.invokespecial 7, 3))) (x5 := (by decide +kernel : decode xr_1 5 = .ok (.return_, 1))) hx hb hl (Yn := "java/lang/RuntimeException") (r := ["java/lang/Exception"]) hown (by decide +kernel) (by decide +kernel) (hts _ hk) (hts _ hini) hsa (xx_hat hts hE xq_1) (List.forall_mem_cons.mpr ⟨ot_cl _ _ _, List.forall_mem_cons.mpr ⟨ot_in _, List.all_eq_true.mp xo_1⟩⟩) hE.1 hE.2.1 hS hml.symm d0 d3 d4 d6 hRf hRl hRc hRs (fun q ce H1 hq hv hcl hz hk1 hS1 => ?_)
  refine vx_athrow hx hb d9 ?_
  exact vx_out (fun x hx => (hnt x hx).elim) hlocks hq hv hcl (fun t ht _ => hxc t H1 ht hz hk1 hS1) hf hc hs
end MYT
section MYT
variable {p : Program} {l : Launch} {e : Env} {R : Room} {s : State} {m : MethodId} {args : Array Value} {below : List Frame} {meth : Method} {c : Code} {H : Heap} {locs : List Loc} {cells slots : Nat} {ls : Array Slot} {rest : List Value} {cc : ByteArray} {pc : Nat} {free : Addr → Prop} {Qc : Array Value → State → Outcome → State → Prop} {XC : String → State → State → Prop}
theorem my_throwW1 (hx : p.tables.exec = Jvm.exec) (hb : c.code = cc) (hl : l.stackTraces = false) {text : String} {ik is mc ms : Nat} {A : Nat → Prop} (hts : ∀ w ∈ ALL, w.before args s = true) (hown : s.vm.findClass RX5 = some m.cls) (hE : EV A s) (hS : va_S A s.heap H locs) (hml : c.maxLocals = ls.size) (hk : Cond.classLink RX5 ik "java/lang/IndexOutOfBoundsException" ∈ ALL) (hstr : (is, text) ∈ strL) (hnt : ∀ x ∈ c.exceptionTable.toList, False) (hlocks : meth.locks = false)
    (d0 : decode cc pc = .ok (.new ik, 3)) (d3 : decode cc (pc + 3) = .ok (.dup, 1)) (d4 : decode cc (pc + 4) = .ok (.ldc_w is, 3)) (d6 : decode cc (pc + 7) = .ok (.invokespecial 269, 3)) (d9 : decode cc (pc + 10) = .ok (.athrow, 1))
    (hRf : 5 < R.frames) (hRl : (rest.map fun v => v.category).sum + 82 ≤ R.locals) (hRc : cells + 1 ≤ R.cells) (hRs : slots + 6 ≤ R.slots)
    (hxc : ∀ (t : State) (H1 : Heap), t.heap = H1 → H.size ≤ H1.size → (∀ q : Nat, q < H.size → H1[q]? = H[q]?) → va_S A s.heap H1 locs → XC "java/lang/IndexOutOfBoundsException" s t) (hf : ∀ z ∈ locs, free z.base) (hc : cells + 1 ≤ mc) (hs : slots + 6 ≤ ms) :
    W p l e R s m args below meth c H locs cells slots (vx_MQ below Qc XC args s mc ms free) (F0 m pc ls rest) := by
  obtain ⟨sa, hsa⟩ := hE.2.2.1 _ hstr
  have hini : Cond.initialized "java/lang/IndexOutOfBoundsException" ∈ ALL := w_11
  refine xx_newSW (x0 := (by decide +kernel : decode xr_1 0 = .ok (.aload_n 0, 1))) (x1 := (by decide +kernel : decode xr_1 1 = .ok (.aload_n 1, 1))) (x2 := (by decide +kernel : decode xr_1 2 = .ok (.invokespecial 7, 3))) (x5 := (by decide +kernel : decode xr_1 5 = .ok (.return_, 1))) hx hb hl (Yn := "java/lang/RuntimeException") (r := ["java/lang/Exception"]) hown (by decide +kernel) (by decide +kernel) (hts _ hk) (hts _ hini) hsa (xx_hat hts hE xq_1) (List.forall_mem_cons.mpr ⟨ot_cl _ _ _, List.forall_mem_cons.mpr ⟨ot_in _, List.all_eq_true.mp xo_1⟩⟩) hE.1 hE.2.1 hS hml.symm d0 d3 d4 d6 hRf hRl hRc hRs (fun q ce H1 hq hv hcl hz hk1 hS1 => ?_)
  refine vx_athrow hx hb d9 ?_
  exact vx_out (fun x hx => (hnt x hx).elim) hlocks hq hv hcl (fun t ht _ => hxc t H1 ht hz hk1 hS1) hf hc hs
end MYT
section MYT
variable {p : Program} {l : Launch} {e : Env} {R : Room} {s : State} {m : MethodId} {args : Array Value} {below : List Frame} {meth : Method} {c : Code} {H : Heap} {locs : List Loc} {cells slots : Nat} {ls : Array Slot} {rest : List Value} {cc : ByteArray} {pc : Nat} {free : Addr → Prop} {Qc : Array Value → State → Outcome → State → Prop} {XC : String → State → State → Prop}
theorem my_throw2 (hx : p.tables.exec = Jvm.exec) (hb : c.code = cc) (hl : l.stackTraces = false) {text : String} {ik is mc ms : Nat} {A : Nat → Prop} (hts : ∀ w ∈ ALL, w.before args s = true) (hown : s.vm.findClass RX5 = some m.cls) (hE : EV A s) (hS : va_S A s.heap H locs) (hml : c.maxLocals = ls.size) (hk : Cond.classLink RX5 ik "java/util/NoSuchElementException" ∈ ALL) (hstr : (is, text) ∈ strL) (hnt : ∀ x ∈ c.exceptionTable.toList, False) (hlocks : meth.locks = false)
    (d0 : decode cc pc = .ok (.new ik, 3)) (d3 : decode cc (pc + 3) = .ok (.dup, 1)) (d4 : decode cc (pc + 4) = .ok (.ldc is, 2)) (d6 : decode cc (pc + 6) = .ok (.invokespecial 237, 3)) (d9 : decode cc (pc + 9) = .ok (.athrow, 1))
    (hRf : 5 < R.frames) (hRl : (rest.map fun v => v.category).sum + 82 ≤ R.locals) (hRc : cells + 1 ≤ R.cells) (hRs : slots + 6 ≤ R.slots)
    (hxc : ∀ (t : State) (H1 : Heap), t.heap = H1 → H.size ≤ H1.size → (∀ q : Nat, q < H.size → H1[q]? = H[q]?) → va_S A s.heap H1 locs → XC "java/util/NoSuchElementException" s t) (hf : ∀ z ∈ locs, free z.base) (hc : cells + 1 ≤ mc) (hs : slots + 6 ≤ ms) :
    W p l e R s m args below meth c H locs cells slots (vx_MQ below Qc XC args s mc ms free) (F0 m pc ls rest) := by
  obtain ⟨sa, hsa⟩ := hE.2.2.1 _ hstr
  have hini : Cond.initialized "java/util/NoSuchElementException" ∈ ALL := w_12
  refine xx_newS (x0 := (by decide +kernel : decode xr_2 0 = .ok (.aload_n 0, 1))) (x1 := (by decide +kernel : decode xr_2 1 = .ok (.aload_n 1, 1))) (x2 := (by decide +kernel : decode xr_2 2 = .ok (.invokespecial 13, 3))) (x5 := (by decide +kernel : decode xr_2 5 = .ok (.return_, 1))) hx hb hl (Yn := "java/lang/RuntimeException") (r := ["java/lang/Exception"]) hown (by decide +kernel) (by decide +kernel) (hts _ hk) (hts _ hini) hsa (xx_hat hts hE xq_2) (List.forall_mem_cons.mpr ⟨ot_cl _ _ _, List.forall_mem_cons.mpr ⟨ot_in _, List.all_eq_true.mp xo_2⟩⟩) hE.1 hE.2.1 hS hml.symm d0 d3 d4 d6 hRf hRl hRc hRs (fun q ce H1 hq hv hcl hz hk1 hS1 => ?_)
  refine vx_athrow hx hb d9 ?_
  exact vx_out (fun x hx => (hnt x hx).elim) hlocks hq hv hcl (fun t ht _ => hxc t H1 ht hz hk1 hS1) hf hc hs
end MYT
section MYT
variable {p : Program} {l : Launch} {e : Env} {R : Room} {s : State} {m : MethodId} {args : Array Value} {below : List Frame} {meth : Method} {c : Code} {H : Heap} {locs : List Loc} {cells slots : Nat} {ls : Array Slot} {rest : List Value} {cc : ByteArray} {pc : Nat} {free : Addr → Prop} {Qc : Array Value → State → Outcome → State → Prop} {XC : String → State → State → Prop}
theorem my_throwW2 (hx : p.tables.exec = Jvm.exec) (hb : c.code = cc) (hl : l.stackTraces = false) {text : String} {ik is mc ms : Nat} {A : Nat → Prop} (hts : ∀ w ∈ ALL, w.before args s = true) (hown : s.vm.findClass RX5 = some m.cls) (hE : EV A s) (hS : va_S A s.heap H locs) (hml : c.maxLocals = ls.size) (hk : Cond.classLink RX5 ik "java/util/NoSuchElementException" ∈ ALL) (hstr : (is, text) ∈ strL) (hnt : ∀ x ∈ c.exceptionTable.toList, False) (hlocks : meth.locks = false)
    (d0 : decode cc pc = .ok (.new ik, 3)) (d3 : decode cc (pc + 3) = .ok (.dup, 1)) (d4 : decode cc (pc + 4) = .ok (.ldc_w is, 3)) (d6 : decode cc (pc + 7) = .ok (.invokespecial 237, 3)) (d9 : decode cc (pc + 10) = .ok (.athrow, 1))
    (hRf : 5 < R.frames) (hRl : (rest.map fun v => v.category).sum + 82 ≤ R.locals) (hRc : cells + 1 ≤ R.cells) (hRs : slots + 6 ≤ R.slots)
    (hxc : ∀ (t : State) (H1 : Heap), t.heap = H1 → H.size ≤ H1.size → (∀ q : Nat, q < H.size → H1[q]? = H[q]?) → va_S A s.heap H1 locs → XC "java/util/NoSuchElementException" s t) (hf : ∀ z ∈ locs, free z.base) (hc : cells + 1 ≤ mc) (hs : slots + 6 ≤ ms) :
    W p l e R s m args below meth c H locs cells slots (vx_MQ below Qc XC args s mc ms free) (F0 m pc ls rest) := by
  obtain ⟨sa, hsa⟩ := hE.2.2.1 _ hstr
  have hini : Cond.initialized "java/util/NoSuchElementException" ∈ ALL := w_12
  refine xx_newSW (x0 := (by decide +kernel : decode xr_2 0 = .ok (.aload_n 0, 1))) (x1 := (by decide +kernel : decode xr_2 1 = .ok (.aload_n 1, 1))) (x2 := (by decide +kernel : decode xr_2 2 = .ok (.invokespecial 13, 3))) (x5 := (by decide +kernel : decode xr_2 5 = .ok (.return_, 1))) hx hb hl (Yn := "java/lang/RuntimeException") (r := ["java/lang/Exception"]) hown (by decide +kernel) (by decide +kernel) (hts _ hk) (hts _ hini) hsa (xx_hat hts hE xq_2) (List.forall_mem_cons.mpr ⟨ot_cl _ _ _, List.forall_mem_cons.mpr ⟨ot_in _, List.all_eq_true.mp xo_2⟩⟩) hE.1 hE.2.1 hS hml.symm d0 d3 d4 d6 hRf hRl hRc hRs (fun q ce H1 hq hv hcl hz hk1 hS1 => ?_)
  refine vx_athrow hx hb d9 ?_
  exact vx_out (fun x hx => (hnt x hx).elim) hlocks hq hv hcl (fun t ht _ => hxc t H1 ht hz hk1 hS1) hf hc hs
end MYT
section MYT
variable {p : Program} {l : Launch} {e : Env} {R : Room} {s : State} {m : MethodId} {args : Array Value} {below : List Frame} {meth : Method} {c : Code} {H : Heap} {locs : List Loc} {cells slots : Nat} {ls : Array Slot} {rest : List Value} {cc : ByteArray} {pc : Nat} {free : Addr → Prop} {Qc : Array Value → State → Outcome → State → Prop} {XC : String → State → State → Prop}
theorem my_throw3 (hx : p.tables.exec = Jvm.exec) (hb : c.code = cc) (hl : l.stackTraces = false) {text : String} {ik is mc ms : Nat} {A : Nat → Prop} (hts : ∀ w ∈ ALL, w.before args s = true) (hown : s.vm.findClass RX5 = some m.cls) (hE : EV A s) (hS : va_S A s.heap H locs) (hml : c.maxLocals = ls.size) (hk : Cond.classLink RX5 ik "java/lang/IllegalArgumentException" ∈ ALL) (hstr : (is, text) ∈ strL) (hnt : ∀ x ∈ c.exceptionTable.toList, False) (hlocks : meth.locks = false)
    (d0 : decode cc pc = .ok (.new ik, 3)) (d3 : decode cc (pc + 3) = .ok (.dup, 1)) (d4 : decode cc (pc + 4) = .ok (.ldc is, 2)) (d6 : decode cc (pc + 6) = .ok (.invokespecial 75, 3)) (d9 : decode cc (pc + 9) = .ok (.athrow, 1))
    (hRf : 5 < R.frames) (hRl : (rest.map fun v => v.category).sum + 82 ≤ R.locals) (hRc : cells + 1 ≤ R.cells) (hRs : slots + 6 ≤ R.slots)
    (hxc : ∀ (t : State) (H1 : Heap), t.heap = H1 → H.size ≤ H1.size → (∀ q : Nat, q < H.size → H1[q]? = H[q]?) → va_S A s.heap H1 locs → XC "java/lang/IllegalArgumentException" s t) (hf : ∀ z ∈ locs, free z.base) (hc : cells + 1 ≤ mc) (hs : slots + 6 ≤ ms) :
    W p l e R s m args below meth c H locs cells slots (vx_MQ below Qc XC args s mc ms free) (F0 m pc ls rest) := by
  obtain ⟨sa, hsa⟩ := hE.2.2.1 _ hstr
  have hini : Cond.initialized "java/lang/IllegalArgumentException" ∈ ALL := w_8
  refine xx_newS (x0 := (by decide +kernel : decode xr_3 0 = .ok (.aload_n 0, 1))) (x1 := (by decide +kernel : decode xr_3 1 = .ok (.aload_n 1, 1))) (x2 := (by decide +kernel : decode xr_3 2 = .ok (.invokespecial 7, 3))) (x5 := (by decide +kernel : decode xr_3 5 = .ok (.return_, 1))) hx hb hl (Yn := "java/lang/RuntimeException") (r := ["java/lang/Exception"]) hown (by decide +kernel) (by decide +kernel) (hts _ hk) (hts _ hini) hsa (xx_hat hts hE xq_3) (List.forall_mem_cons.mpr ⟨ot_cl _ _ _, List.forall_mem_cons.mpr ⟨ot_in _, List.all_eq_true.mp xo_3⟩⟩) hE.1 hE.2.1 hS hml.symm d0 d3 d4 d6 hRf hRl hRc hRs (fun q ce H1 hq hv hcl hz hk1 hS1 => ?_)
  refine vx_athrow hx hb d9 ?_
  exact vx_out (fun x hx => (hnt x hx).elim) hlocks hq hv hcl (fun t ht _ => hxc t H1 ht hz hk1 hS1) hf hc hs
end MYT
section MYT
variable {p : Program} {l : Launch} {e : Env} {R : Room} {s : State} {m : MethodId} {args : Array Value} {below : List Frame} {meth : Method} {c : Code} {H : Heap} {locs : List Loc} {cells slots : Nat} {ls : Array Slot} {rest : List Value} {cc : ByteArray} {pc : Nat} {free : Addr → Prop} {Qc : Array Value → State → Outcome → State → Prop} {XC : String → State → State → Prop}
theorem my_throwW3 (hx : p.tables.exec = Jvm.exec) (hb : c.code = cc) (hl : l.stackTraces = false) {text : String} {ik is mc ms : Nat} {A : Nat → Prop} (hts : ∀ w ∈ ALL, w.before args s = true) (hown : s.vm.findClass RX5 = some m.cls) (hE : EV A s) (hS : va_S A s.heap H locs) (hml : c.maxLocals = ls.size) (hk : Cond.classLink RX5 ik "java/lang/IllegalArgumentException" ∈ ALL) (hstr : (is, text) ∈ strL) (hnt : ∀ x ∈ c.exceptionTable.toList, False) (hlocks : meth.locks = false)
    (d0 : decode cc pc = .ok (.new ik, 3)) (d3 : decode cc (pc + 3) = .ok (.dup, 1)) (d4 : decode cc (pc + 4) = .ok (.ldc_w is, 3)) (d6 : decode cc (pc + 7) = .ok (.invokespecial 75, 3)) (d9 : decode cc (pc + 10) = .ok (.athrow, 1))
    (hRf : 5 < R.frames) (hRl : (rest.map fun v => v.category).sum + 82 ≤ R.locals) (hRc : cells + 1 ≤ R.cells) (hRs : slots + 6 ≤ R.slots)
    (hxc : ∀ (t : State) (H1 : Heap), t.heap = H1 → H.size ≤ H1.size → (∀ q : Nat, q < H.size → H1[q]? = H[q]?) → va_S A s.heap H1 locs → XC "java/lang/IllegalArgumentException" s t) (hf : ∀ z ∈ locs, free z.base) (hc : cells + 1 ≤ mc) (hs : slots + 6 ≤ ms) :
    W p l e R s m args below meth c H locs cells slots (vx_MQ below Qc XC args s mc ms free) (F0 m pc ls rest) := by
  obtain ⟨sa, hsa⟩ := hE.2.2.1 _ hstr
  have hini : Cond.initialized "java/lang/IllegalArgumentException" ∈ ALL := w_8
  refine xx_newSW (x0 := (by decide +kernel : decode xr_3 0 = .ok (.aload_n 0, 1))) (x1 := (by decide +kernel : decode xr_3 1 = .ok (.aload_n 1, 1))) (x2 := (by decide +kernel : decode xr_3 2 = .ok (.invokespecial 7, 3))) (x5 := (by decide +kernel : decode xr_3 5 = .ok (.return_, 1))) hx hb hl (Yn := "java/lang/RuntimeException") (r := ["java/lang/Exception"]) hown (by decide +kernel) (by decide +kernel) (hts _ hk) (hts _ hini) hsa (xx_hat hts hE xq_3) (List.forall_mem_cons.mpr ⟨ot_cl _ _ _, List.forall_mem_cons.mpr ⟨ot_in _, List.all_eq_true.mp xo_3⟩⟩) hE.1 hE.2.1 hS hml.symm d0 d3 d4 d6 hRf hRl hRc hRs (fun q ce H1 hq hv hcl hz hk1 hS1 => ?_)
  refine vx_athrow hx hb d9 ?_
  exact vx_out (fun x hx => (hnt x hx).elim) hlocks hq hv hcl (fun t ht _ => hxc t H1 ht hz hk1 hS1) hf hc hs
end MYT
section MYT
variable {p : Program} {l : Launch} {e : Env} {R : Room} {s : State} {m : MethodId} {args : Array Value} {below : List Frame} {meth : Method} {c : Code} {H : Heap} {locs : List Loc} {cells slots : Nat} {ls : Array Slot} {rest : List Value} {cc : ByteArray} {pc : Nat} {free : Addr → Prop} {Qc : Array Value → State → Outcome → State → Prop} {XC : String → State → State → Prop}
theorem my_throw4 (hx : p.tables.exec = Jvm.exec) (hb : c.code = cc) (hl : l.stackTraces = false) {text : String} {ik is mc ms : Nat} {A : Nat → Prop} (hts : ∀ w ∈ ALL, w.before args s = true) (hown : s.vm.findClass RX5 = some m.cls) (hE : EV A s) (hS : va_S A s.heap H locs) (hml : c.maxLocals = ls.size) (hk : Cond.classLink RX5 ik "java/lang/IllegalStateException" ∈ ALL) (hstr : (is, text) ∈ strL) (hnt : ∀ x ∈ c.exceptionTable.toList, False) (hlocks : meth.locks = false)
    (d0 : decode cc pc = .ok (.new ik, 3)) (d3 : decode cc (pc + 3) = .ok (.dup, 1)) (d4 : decode cc (pc + 4) = .ok (.ldc is, 2)) (d6 : decode cc (pc + 6) = .ok (.invokespecial 82, 3)) (d9 : decode cc (pc + 9) = .ok (.athrow, 1))
    (hRf : 5 < R.frames) (hRl : (rest.map fun v => v.category).sum + 82 ≤ R.locals) (hRc : cells + 1 ≤ R.cells) (hRs : slots + 6 ≤ R.slots)
    (hxc : ∀ (t : State) (H1 : Heap), t.heap = H1 → H.size ≤ H1.size → (∀ q : Nat, q < H.size → H1[q]? = H[q]?) → va_S A s.heap H1 locs → XC "java/lang/IllegalStateException" s t) (hf : ∀ z ∈ locs, free z.base) (hc : cells + 1 ≤ mc) (hs : slots + 6 ≤ ms) :
    W p l e R s m args below meth c H locs cells slots (vx_MQ below Qc XC args s mc ms free) (F0 m pc ls rest) := by
  obtain ⟨sa, hsa⟩ := hE.2.2.1 _ hstr
  have hini : Cond.initialized "java/lang/IllegalStateException" ∈ ALL := w_9
  refine xx_newS (x0 := (by decide +kernel : decode xr_4 0 = .ok (.aload_n 0, 1))) (x1 := (by decide +kernel : decode xr_4 1 = .ok (.aload_n 1, 1))) (x2 := (by decide +kernel : decode xr_4 2 = .ok (.invokespecial 7, 3))) (x5 := (by decide +kernel : decode xr_4 5 = .ok (.return_, 1))) hx hb hl (Yn := "java/lang/RuntimeException") (r := ["java/lang/Exception"]) hown (by decide +kernel) (by decide +kernel) (hts _ hk) (hts _ hini) hsa (xx_hat hts hE xq_4) (List.forall_mem_cons.mpr ⟨ot_cl _ _ _, List.forall_mem_cons.mpr ⟨ot_in _, List.all_eq_true.mp xo_4⟩⟩) hE.1 hE.2.1 hS hml.symm d0 d3 d4 d6 hRf hRl hRc hRs (fun q ce H1 hq hv hcl hz hk1 hS1 => ?_)
  refine vx_athrow hx hb d9 ?_
  exact vx_out (fun x hx => (hnt x hx).elim) hlocks hq hv hcl (fun t ht _ => hxc t H1 ht hz hk1 hS1) hf hc hs
end MYT
section MYT
variable {p : Program} {l : Launch} {e : Env} {R : Room} {s : State} {m : MethodId} {args : Array Value} {below : List Frame} {meth : Method} {c : Code} {H : Heap} {locs : List Loc} {cells slots : Nat} {ls : Array Slot} {rest : List Value} {cc : ByteArray} {pc : Nat} {free : Addr → Prop} {Qc : Array Value → State → Outcome → State → Prop} {XC : String → State → State → Prop}
theorem my_throwW4 (hx : p.tables.exec = Jvm.exec) (hb : c.code = cc) (hl : l.stackTraces = false) {text : String} {ik is mc ms : Nat} {A : Nat → Prop} (hts : ∀ w ∈ ALL, w.before args s = true) (hown : s.vm.findClass RX5 = some m.cls) (hE : EV A s) (hS : va_S A s.heap H locs) (hml : c.maxLocals = ls.size) (hk : Cond.classLink RX5 ik "java/lang/IllegalStateException" ∈ ALL) (hstr : (is, text) ∈ strL) (hnt : ∀ x ∈ c.exceptionTable.toList, False) (hlocks : meth.locks = false)
    (d0 : decode cc pc = .ok (.new ik, 3)) (d3 : decode cc (pc + 3) = .ok (.dup, 1)) (d4 : decode cc (pc + 4) = .ok (.ldc_w is, 3)) (d6 : decode cc (pc + 7) = .ok (.invokespecial 82, 3)) (d9 : decode cc (pc + 10) = .ok (.athrow, 1))
    (hRf : 5 < R.frames) (hRl : (rest.map fun v => v.category).sum + 82 ≤ R.locals) (hRc : cells + 1 ≤ R.cells) (hRs : slots + 6 ≤ R.slots)
    (hxc : ∀ (t : State) (H1 : Heap), t.heap = H1 → H.size ≤ H1.size → (∀ q : Nat, q < H.size → H1[q]? = H[q]?) → va_S A s.heap H1 locs → XC "java/lang/IllegalStateException" s t) (hf : ∀ z ∈ locs, free z.base) (hc : cells + 1 ≤ mc) (hs : slots + 6 ≤ ms) :
    W p l e R s m args below meth c H locs cells slots (vx_MQ below Qc XC args s mc ms free) (F0 m pc ls rest) := by
  obtain ⟨sa, hsa⟩ := hE.2.2.1 _ hstr
  have hini : Cond.initialized "java/lang/IllegalStateException" ∈ ALL := w_9
  refine xx_newSW (x0 := (by decide +kernel : decode xr_4 0 = .ok (.aload_n 0, 1))) (x1 := (by decide +kernel : decode xr_4 1 = .ok (.aload_n 1, 1))) (x2 := (by decide +kernel : decode xr_4 2 = .ok (.invokespecial 7, 3))) (x5 := (by decide +kernel : decode xr_4 5 = .ok (.return_, 1))) hx hb hl (Yn := "java/lang/RuntimeException") (r := ["java/lang/Exception"]) hown (by decide +kernel) (by decide +kernel) (hts _ hk) (hts _ hini) hsa (xx_hat hts hE xq_4) (List.forall_mem_cons.mpr ⟨ot_cl _ _ _, List.forall_mem_cons.mpr ⟨ot_in _, List.all_eq_true.mp xo_4⟩⟩) hE.1 hE.2.1 hS hml.symm d0 d3 d4 d6 hRf hRl hRc hRs (fun q ce H1 hq hv hcl hz hk1 hS1 => ?_)
  refine vx_athrow hx hb d9 ?_
  exact vx_out (fun x hx => (hnt x hx).elim) hlocks hq hv hcl (fun t ht _ => hxc t H1 ht hz hk1 hS1) hf hc hs
end MYT
section MYT
variable {p : Program} {l : Launch} {e : Env} {R : Room} {s : State} {m : MethodId} {args : Array Value} {below : List Frame} {meth : Method} {c : Code} {H : Heap} {locs : List Loc} {cells slots : Nat} {ls : Array Slot} {rest : List Value} {cc : ByteArray} {pc : Nat} {free : Addr → Prop} {Qc : Array Value → State → Outcome → State → Prop} {XC : String → State → State → Prop}
theorem my_throw5 (hx : p.tables.exec = Jvm.exec) (hb : c.code = cc) (hl : l.stackTraces = false) {text : String} {ik is mc ms : Nat} {A : Nat → Prop} (hts : ∀ w ∈ ALL, w.before args s = true) (hown : s.vm.findClass RX5 = some m.cls) (hE : EV A s) (hS : va_S A s.heap H locs) (hml : c.maxLocals = ls.size) (hk : Cond.classLink RX5 ik "java/lang/UnsupportedOperationException" ∈ ALL) (hstr : (is, text) ∈ strL) (hnt : ∀ x ∈ c.exceptionTable.toList, False) (hlocks : meth.locks = false)
    (d0 : decode cc pc = .ok (.new ik, 3)) (d3 : decode cc (pc + 3) = .ok (.dup, 1)) (d4 : decode cc (pc + 4) = .ok (.ldc is, 2)) (d6 : decode cc (pc + 6) = .ok (.invokespecial 167, 3)) (d9 : decode cc (pc + 9) = .ok (.athrow, 1))
    (hRf : 5 < R.frames) (hRl : (rest.map fun v => v.category).sum + 82 ≤ R.locals) (hRc : cells + 1 ≤ R.cells) (hRs : slots + 6 ≤ R.slots)
    (hxc : ∀ (t : State) (H1 : Heap), t.heap = H1 → H.size ≤ H1.size → (∀ q : Nat, q < H.size → H1[q]? = H[q]?) → va_S A s.heap H1 locs → XC "java/lang/UnsupportedOperationException" s t) (hf : ∀ z ∈ locs, free z.base) (hc : cells + 1 ≤ mc) (hs : slots + 6 ≤ ms) :
    W p l e R s m args below meth c H locs cells slots (vx_MQ below Qc XC args s mc ms free) (F0 m pc ls rest) := by
  obtain ⟨sa, hsa⟩ := hE.2.2.1 _ hstr
  have hini : Cond.initialized "java/lang/UnsupportedOperationException" ∈ ALL := w_14
  refine xx_newS (x0 := (by decide +kernel : decode xr_5 0 = .ok (.aload_n 0, 1))) (x1 := (by decide +kernel : decode xr_5 1 = .ok (.aload_n 1, 1))) (x2 := (by decide +kernel : decode xr_5 2 = .ok (.invokespecial 7, 3))) (x5 := (by decide +kernel : decode xr_5 5 = .ok (.return_, 1))) hx hb hl (Yn := "java/lang/RuntimeException") (r := ["java/lang/Exception"]) hown (by decide +kernel) (by decide +kernel) (hts _ hk) (hts _ hini) hsa (xx_hat hts hE xq_5) (List.forall_mem_cons.mpr ⟨ot_cl _ _ _, List.forall_mem_cons.mpr ⟨ot_in _, List.all_eq_true.mp xo_5⟩⟩) hE.1 hE.2.1 hS hml.symm d0 d3 d4 d6 hRf hRl hRc hRs (fun q ce H1 hq hv hcl hz hk1 hS1 => ?_)
  refine vx_athrow hx hb d9 ?_
  exact vx_out (fun x hx => (hnt x hx).elim) hlocks hq hv hcl (fun t ht _ => hxc t H1 ht hz hk1 hS1) hf hc hs
end MYT
section MYT
variable {p : Program} {l : Launch} {e : Env} {R : Room} {s : State} {m : MethodId} {args : Array Value} {below : List Frame} {meth : Method} {c : Code} {H : Heap} {locs : List Loc} {cells slots : Nat} {ls : Array Slot} {rest : List Value} {cc : ByteArray} {pc : Nat} {free : Addr → Prop} {Qc : Array Value → State → Outcome → State → Prop} {XC : String → State → State → Prop}
theorem my_throwW5 (hx : p.tables.exec = Jvm.exec) (hb : c.code = cc) (hl : l.stackTraces = false) {text : String} {ik is mc ms : Nat} {A : Nat → Prop} (hts : ∀ w ∈ ALL, w.before args s = true) (hown : s.vm.findClass RX5 = some m.cls) (hE : EV A s) (hS : va_S A s.heap H locs) (hml : c.maxLocals = ls.size) (hk : Cond.classLink RX5 ik "java/lang/UnsupportedOperationException" ∈ ALL) (hstr : (is, text) ∈ strL) (hnt : ∀ x ∈ c.exceptionTable.toList, False) (hlocks : meth.locks = false)
    (d0 : decode cc pc = .ok (.new ik, 3)) (d3 : decode cc (pc + 3) = .ok (.dup, 1)) (d4 : decode cc (pc + 4) = .ok (.ldc_w is, 3)) (d6 : decode cc (pc + 7) = .ok (.invokespecial 167, 3)) (d9 : decode cc (pc + 10) = .ok (.athrow, 1))
    (hRf : 5 < R.frames) (hRl : (rest.map fun v => v.category).sum + 82 ≤ R.locals) (hRc : cells + 1 ≤ R.cells) (hRs : slots + 6 ≤ R.slots)
    (hxc : ∀ (t : State) (H1 : Heap), t.heap = H1 → H.size ≤ H1.size → (∀ q : Nat, q < H.size → H1[q]? = H[q]?) → va_S A s.heap H1 locs → XC "java/lang/UnsupportedOperationException" s t) (hf : ∀ z ∈ locs, free z.base) (hc : cells + 1 ≤ mc) (hs : slots + 6 ≤ ms) :
    W p l e R s m args below meth c H locs cells slots (vx_MQ below Qc XC args s mc ms free) (F0 m pc ls rest) := by
  obtain ⟨sa, hsa⟩ := hE.2.2.1 _ hstr
  have hini : Cond.initialized "java/lang/UnsupportedOperationException" ∈ ALL := w_14
  refine xx_newSW (x0 := (by decide +kernel : decode xr_5 0 = .ok (.aload_n 0, 1))) (x1 := (by decide +kernel : decode xr_5 1 = .ok (.aload_n 1, 1))) (x2 := (by decide +kernel : decode xr_5 2 = .ok (.invokespecial 7, 3))) (x5 := (by decide +kernel : decode xr_5 5 = .ok (.return_, 1))) hx hb hl (Yn := "java/lang/RuntimeException") (r := ["java/lang/Exception"]) hown (by decide +kernel) (by decide +kernel) (hts _ hk) (hts _ hini) hsa (xx_hat hts hE xq_5) (List.forall_mem_cons.mpr ⟨ot_cl _ _ _, List.forall_mem_cons.mpr ⟨ot_in _, List.all_eq_true.mp xo_5⟩⟩) hE.1 hE.2.1 hS hml.symm d0 d3 d4 d6 hRf hRl hRc hRs (fun q ce H1 hq hv hcl hz hk1 hS1 => ?_)
  refine vx_athrow hx hb d9 ?_
  exact vx_out (fun x hx => (hnt x hx).elim) hlocks hq hv hcl (fun t ht _ => hxc t H1 ht hz hk1 hS1) hf hc hs
end MYT
