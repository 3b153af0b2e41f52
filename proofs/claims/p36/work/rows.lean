section
-- ===== PART A: goes FIRST, ahead of the names: the tables' words, and 'selects' of the private methods out of them =====
/-- a private method of a class that the tables say can be made, by its rows of tables_1 -/
def lw_okq (q : MethodName × Nat) : Prop := (q.1.cls ≠ "java/lang/invoke/MethodHandle" ∧ q.1.cls ≠ "java/lang/invoke/VarHandle") ∧ Cond.instantiable q.1.cls q.2 ∈ tables_1 ∧ Cond.privateMethod q.1 ∈ tables_1 ∧ Cond.instanceMethod q.1 ∈ tables_1
theorem lw_p0 : lw_okq (⟨"java/lang/Throwable", "fillInStackTrace", "(I)Ljava/lang/Throwable;"⟩, 6) := ⟨⟨by decide +kernel, by decide +kernel⟩, List.mem_of_getElem? (i := 185) (by decide +kernel), List.mem_of_getElem? (i := 183) (by decide +kernel), List.mem_of_getElem? (i := 184) (by decide +kernel)⟩
theorem lw_p1 : lw_okq (⟨"Replen", "requireShop", "(I)V"⟩, 14) := ⟨⟨by decide +kernel, by decide +kernel⟩, List.mem_of_getElem? (i := 17) (by decide +kernel), List.mem_of_getElem? (i := 278) (by decide +kernel), List.mem_of_getElem? (i := 279) (by decide +kernel)⟩
theorem lw_p2 : lw_okq (⟨"Replen", "isShop", "(I)Z"⟩, 14) := ⟨⟨by decide +kernel, by decide +kernel⟩, List.mem_of_getElem? (i := 17) (by decide +kernel), List.mem_of_getElem? (i := 282) (by decide +kernel), List.mem_of_getElem? (i := 283) (by decide +kernel)⟩
theorem lw_p3 : lw_okq (⟨"Replen", "requireItem", "(I)LReplen$Item;"⟩, 14) := ⟨⟨by decide +kernel, by decide +kernel⟩, List.mem_of_getElem? (i := 17) (by decide +kernel), List.mem_of_getElem? (i := 302) (by decide +kernel), List.mem_of_getElem? (i := 303) (by decide +kernel)⟩
theorem lw_p4 : lw_okq (⟨"Replen", "itemOrNull", "(I)LReplen$Item;"⟩, 14) := ⟨⟨by decide +kernel, by decide +kernel⟩, List.mem_of_getElem? (i := 17) (by decide +kernel), List.mem_of_getElem? (i := 306) (by decide +kernel), List.mem_of_getElem? (i := 307) (by decide +kernel)⟩
theorem lw_p5 : lw_okq (⟨"Replen", "isItem", "(I)Z"⟩, 14) := ⟨⟨by decide +kernel, by decide +kernel⟩, List.mem_of_getElem? (i := 17) (by decide +kernel), List.mem_of_getElem? (i := 310) (by decide +kernel), List.mem_of_getElem? (i := 311) (by decide +kernel)⟩
theorem lw_p6 : lw_okq (⟨"Replen", "placeOf", "(II)I"⟩, 14) := ⟨⟨by decide +kernel, by decide +kernel⟩, List.mem_of_getElem? (i := 17) (by decide +kernel), List.mem_of_getElem? (i := 318) (by decide +kernel), List.mem_of_getElem? (i := 319) (by decide +kernel)⟩
theorem lw_p7 : lw_okq (⟨"Replen", "leadOf", "(I)I"⟩, 14) := ⟨⟨by decide +kernel, by decide +kernel⟩, List.mem_of_getElem? (i := 17) (by decide +kernel), List.mem_of_getElem? (i := 324) (by decide +kernel), List.mem_of_getElem? (i := 325) (by decide +kernel)⟩
theorem lw_p8 : lw_okq (⟨"Replen", "lineOrNull", "(II)LReplen$Line;"⟩, 14) := ⟨⟨by decide +kernel, by decide +kernel⟩, List.mem_of_getElem? (i := 17) (by decide +kernel), List.mem_of_getElem? (i := 398) (by decide +kernel), List.mem_of_getElem? (i := 399) (by decide +kernel)⟩
theorem lw_p9 : lw_okq (⟨"Replen", "requireLine", "(II)LReplen$Line;"⟩, 14) := ⟨⟨by decide +kernel, by decide +kernel⟩, List.mem_of_getElem? (i := 17) (by decide +kernel), List.mem_of_getElem? (i := 467) (by decide +kernel), List.mem_of_getElem? (i := 468) (by decide +kernel)⟩
theorem lw_p10 : lw_okq (⟨"Replen", "learnToday", "()V"⟩, 14) := ⟨⟨by decide +kernel, by decide +kernel⟩, List.mem_of_getElem? (i := 17) (by decide +kernel), List.mem_of_getElem? (i := 521) (by decide +kernel), List.mem_of_getElem? (i := 522) (by decide +kernel)⟩
theorem lw_p11 : lw_okq (⟨"Replen", "receiveToday", "()V"⟩, 14) := ⟨⟨by decide +kernel, by decide +kernel⟩, List.mem_of_getElem? (i := 17) (by decide +kernel), List.mem_of_getElem? (i := 561) (by decide +kernel), List.mem_of_getElem? (i := 562) (by decide +kernel)⟩
theorem lw_p12 : lw_okq (⟨"Replen", "sendPacks", "(I)I"⟩, 14) := ⟨⟨by decide +kernel, by decide +kernel⟩, List.mem_of_getElem? (i := 17) (by decide +kernel), List.mem_of_getElem? (i := 565) (by decide +kernel), List.mem_of_getElem? (i := 566) (by decide +kernel)⟩
theorem lw_p13 : lw_okq (⟨"Replen", "askForAll", "(I)V"⟩, 14) := ⟨⟨by decide +kernel, by decide +kernel⟩, List.mem_of_getElem? (i := 17) (by decide +kernel), List.mem_of_getElem? (i := 569) (by decide +kernel), List.mem_of_getElem? (i := 570) (by decide +kernel)⟩
theorem lw_p14 : lw_okq (⟨"Replen$Sharing", "givenAhead", "(II)J"⟩, 3) := ⟨⟨by decide +kernel, by decide +kernel⟩, List.mem_of_getElem? (i := 54) (by decide +kernel), List.mem_of_getElem? (i := 609) (by decide +kernel), List.mem_of_getElem? (i := 610) (by decide +kernel)⟩
theorem lw_p15 : lw_okq (⟨"Replen$Sharing", "nextToGet", "()I"⟩, 3) := ⟨⟨by decide +kernel, by decide +kernel⟩, List.mem_of_getElem? (i := 54) (by decide +kernel), List.mem_of_getElem? (i := 731) (by decide +kernel), List.mem_of_getElem? (i := 732) (by decide +kernel)⟩
def lw_privs_1 : List (MethodName × Nat) := [(⟨"java/lang/Throwable", "fillInStackTrace", "(I)Ljava/lang/Throwable;"⟩, 6), (⟨"Replen", "requireShop", "(I)V"⟩, 14), (⟨"Replen", "isShop", "(I)Z"⟩, 14), (⟨"Replen", "requireItem", "(I)LReplen$Item;"⟩, 14), (⟨"Replen", "itemOrNull", "(I)LReplen$Item;"⟩, 14), (⟨"Replen", "isItem", "(I)Z"⟩, 14), (⟨"Replen", "placeOf", "(II)I"⟩, 14), (⟨"Replen", "leadOf", "(I)I"⟩, 14), (⟨"Replen", "lineOrNull", "(II)LReplen$Line;"⟩, 14), (⟨"Replen", "requireLine", "(II)LReplen$Line;"⟩, 14), (⟨"Replen", "learnToday", "()V"⟩, 14), (⟨"Replen", "receiveToday", "()V"⟩, 14), (⟨"Replen", "sendPacks", "(I)I"⟩, 14), (⟨"Replen", "askForAll", "(I)V"⟩, 14), (⟨"Replen$Sharing", "givenAhead", "(II)J"⟩, 3), (⟨"Replen$Sharing", "nextToGet", "()I"⟩, 3)]
theorem lw_r1 : ∀ q ∈ lw_privs_1, lw_okq q := List.forall_mem_cons.mpr ⟨lw_p0, List.forall_mem_cons.mpr ⟨lw_p1, List.forall_mem_cons.mpr ⟨lw_p2, List.forall_mem_cons.mpr ⟨lw_p3, List.forall_mem_cons.mpr ⟨lw_p4, List.forall_mem_cons.mpr ⟨lw_p5, List.forall_mem_cons.mpr ⟨lw_p6, List.forall_mem_cons.mpr ⟨lw_p7, List.forall_mem_cons.mpr ⟨lw_p8, List.forall_mem_cons.mpr ⟨lw_p9, List.forall_mem_cons.mpr ⟨lw_p10, List.forall_mem_cons.mpr ⟨lw_p11, List.forall_mem_cons.mpr ⟨lw_p12, List.forall_mem_cons.mpr ⟨lw_p13, List.forall_mem_cons.mpr ⟨lw_p14, List.forall_mem_cons.mpr ⟨lw_p15, fun _ h => absurd h List.not_mem_nil⟩⟩⟩⟩⟩⟩⟩⟩⟩⟩⟩⟩⟩⟩⟩⟩
def lw_privs : List (MethodName × Nat) := lw_privs_1
def lw_tbl : List Cond := k2_sels lw_privs ++ tables_1
theorem lw_privs_ok : ∀ q ∈ lw_privs, lw_okq q := lw_r1
-- ===== end of PART A; then your names; then what follows =====
/-! ===== BEGIN words of one list among another's, by their places ===== -/
theorem goodIn_r {big : List Cond} (ws : List Cond) (ps : List Nat) (hp : ws = ps.filterMap (fun i => big[i]?)) (h : ws.all goodWord = true) : GoodIn big ws := by
  intro w hw
  have h1 := List.all_eq_true.mp h w hw
  rw [hp] at hw
  obtain ⟨i, -, hi⟩ := List.mem_filterMap.mp hw
  have hm : w ∈ big := by first | exact List.mem_of_getElem? hi | exact List.getElem?_mem hi
  exact ⟨hm, good_of_word h1⟩
theorem goodIn_app {big a b : List Cond} (ha : GoodIn big a) (hb : GoodIn big b) : GoodIn big (a ++ b) := fun w h => (List.mem_append.mp h).elim (ha w) (hb w)
theorem goodIn_ca {big a b : List Cond} {c : Cond} (ha : GoodIn big (c :: a)) (hb : GoodIn big b) : GoodIn big (c :: (a ++ b)) := fun w h => (List.mem_cons.mp h).elim (fun e => ha w (List.mem_cons.mpr (Or.inl e))) (fun h => (List.mem_append.mp h).elim (fun h => ha w (List.mem_cons.mpr (Or.inr h))) (hb w))
theorem goodIn_sub {big ws : List Cond} (hm : ∀ w ∈ ws, w ∈ big) (h : ws.all goodWord = true) : GoodIn big ws := fun w hw => ⟨hm w hw, good_of_word (List.all_eq_true.mp h w hw)⟩
/-! ===== END ===== -/

/-! ===== BEGIN exceptions that leave a method, and their catching by the caller (launches without stack traces) ===== -/
section VXA
/-! The laws vx_back, vx_callV, vx_callS, vx_callSW, vx_throw0, vx_throwS follow proofs of the library, with one case more: JvmDerived/Free/Laws.lean (Back.of_free), Shelf42/LK1.lean (callV, callS), Shelf/KitTraced.lean (throwNew0V, throwNewS). -/
/-- where a method has thrown q: the class by its name, the cell, what was written, the world -/
def vx_T (XC : String → State → State → Prop) (st : State) (q : Addr) (t : State) (mc ms : Nat) (free : Addr → Prop) : Prop :=
  ∃ (E : String) (ce : Cell) (L : List Loc), XC E st t ∧ t.heap[q]? = some ce ∧ ce.vm = .none ∧ st.vm.findClass E = some ce.cls ∧ st.WarmedH t.vm ∧ st.sameButNew ({ t with vm := st.vm } : State) L mc ms ∧ ∀ z ∈ L, free z.base
def vx_Q (Qc : Array Value → State → Outcome → State → Prop) (XC : String → State → State → Prop) (mc ms : Nat) (free : Addr → Prop) : Array Value → State → Outcome → State → Prop := fun a st o t =>
  (Qc a st o t ∧ ∃ L, FrameEnd st o t L mc ms ∧ ∀ q ∈ L, free q.base) ∨ ∃ q, o = .threw q ∧ vx_T XC st q t mc ms free
/-- a callee that returns or throws -/
def vx_Met (l : Launch) (y : MethodName) (ws : List Cond) (rm : Room) (Pc : Array Value → State → Prop) (Qc : Array Value → State → Outcome → State → Prop) (XC : String → State → State → Prop) (mc ms : Nat) (free : Addr → Prop) : Prop :=
  MetFree l y (headSpec ws rm) Pc (fun _ _ _ _ _ => True) (vx_Q Qc XC mc ms free)
def vx_Post (XC : String → State → State → Prop) (mc ms : Nat) (free : Addr → Prop) : Pt → Array Value → Addr → Pt → Prop := fun A a q B =>
  ∃ (g : JFrame) (mk : MethodId) (t : State) (L : List Loc) (E : String) (ce : Cell), B.U.heap = t.heap ∧ B.U.vm = t.vm ∧ XC E (A.U.calling g mk a) t ∧ t.heap[q]? = some ce ∧ ce.vm = .none ∧ A.U.vm.findClass E = some ce.cls ∧ B.locs = A.locs ++ L ∧ (∀ z ∈ L, free z.base) ∧ B.cells = A.cells + mc ∧ B.slots = A.slots + ms
def vx_Back (l : Launch) (R : Room) (p : Program) (e : Env) (below : List Frame) (s : State) (sargs : Array Value) (y : MethodName) (len W9 : Nat)
    (Pre : Pt → Array Value → Prop) (Post : Pt → Array Value → Option Value → Pt → Prop) (PostX : Pt → Array Value → Addr → Pt → Prop) : Prop :=
  ∀ (m : MethodId) (meth : Method) (c : Code) (A : Pt) (g : JFrame) (ig : Instr) (mk : MethodId) (a : Array Value),
    Stand p l e R s m sargs below meth c A.U A.locs A.cells A.slots → g.method = m → g.locals.size = c.maxLocals → decode c.code g.pc = .ok (ig, len) →
    2 * g.monitorRoom + (g.stack.map fun v => v.category).sum ≤ W9 → A.U.methodNamed? y = some mk → Pre A a →
    (∃ (v : Option Value) (B : Pt), Stand p l e R s m sargs below meth c B.U B.locs B.cells B.slots ∧ Post A a v B ∧
      Steps p.tables e below (doInvoke e (A.U.setTop g) [] mk a).1 (B.U.setTop { g with pc := g.pc + len, stack := v.toList ++ g.stack })) ∨
    (∃ (q : Addr) (B : Pt), Stand p l e R s m sargs below meth c B.U B.locs B.cells B.slots ∧ PostX A a q B ∧
      Steps p.tables e below (doInvoke e (A.U.setTop g) [] mk a).1 ((B.U.setTop g).pushFrame (.throwing q)))
section Payer
variable {l : Launch} {R : Room} {p : Program} {e : Env} {below : List Frame} {s : State} {sargs : Array Value} {y : MethodName} {len W9 : Nat}
theorem vx_back {ws : List Cond} {rm : Room} {Pc : Array Value → State → Prop} {Qc : Array Value → State → Outcome → State → Prop} {XC : String → State → State → Prop} {mc ms : Nat} {free : Addr → Prop} {bytes : ByteArray} {maxL : Nat} {ret : Option FieldType}
    (hM : vx_Met l y ws rm Pc Qc XC mc ms free) (hblind : FrameBlind Pc) (hrc : rm.cells = mc) (hrs : rm.slots = ms)
    (hframes : rm.frames + 1 ≤ R.frames) (hlocals : W9 + (maxL + 11) + rm.locals ≤ R.locals)
    (hws : ∀ w ∈ ws, ∀ a' U, s.WarmedH U.vm → w.before a' U = true) (hcode : Cond.code y bytes maxL ret ∈ ws) (hinit : ∀ a' U, s.WarmedH U.vm → (Cond.initialized y.cls).before a' U = true) :
    vx_Back l R p e below s sargs y len W9 (PreOf R mc ms Pc) (PostOf Qc mc ms free) (vx_Post XC mc ms free) := by
  intro m meth c A g ig mk a X hg hsize hdg hW hn hp
  have h1 : (headSpec ws rm).pre.before a A.U = true := atoms_intro fun w hw => hws w hw _ _ X.warmed
  have h2 : (Cond.code y bytes maxL ret).before a A.U = true := hws _ hcode _ _ X.warmed
  have h3 : (Cond.initialized y.cls).before a A.U = true := hinit _ _ X.warmed
  have h4 : A.cells + (headSpec ws rm).room.cells ≤ R.cells := by rw [show (headSpec ws rm).room.cells = mc from hrc]; exact hp.1
  have h5 : A.slots + (headSpec ws rm).room.slots ≤ R.slots := by rw [show (headSpec ws rm).room.slots = ms from hrs]; exact hp.2.1
  have hPc : Pc a (A.U.calling g mk a) := hblind _ _ _ _ hp.2.2
  obtain ⟨U, Ls, c0, s0⟩ := A
  dsimp only [Pt.U, Pt.locs, Pt.cells, Pt.slots] at h1 h2 h3 h4 h5 X hn hPc ⊢
  obtain ⟨methY, cY, hmY, hcY, -, hlY, -, -, -, -⟩ := Cond.code_spec hn h2
  obtain ⟨kY, hkY, -⟩ := className_of_methodNamed hn
  have hinitY : kY.init = .initialized := Cond.initialized_spec (findClass_of_methodNamed hn) hkY h3
  have h : At U g.method c below := by rw [hg]; exact X.here
  have hlocals9 : W9 + (maxL + 11) + (headSpec ws rm).room.locals ≤ R.locals := hlocals
  have happ : (headSpec ws rm).appliesLoose y e.platform (U.calling g mk a) = true :=
    Spec.appliesLoose_calling (g := g) h hdg hn hkY hinitY
      (X.room_calling (g := g) (R' := (headSpec ws rm).room) hsize hmY hcY hframes (by rw [hlY]; omega) h4 h5) h1
  obtain ⟨mid, hmid⟩ := h.above
  have hfr : (U.setTop g).frames = (.java g :: mid) ++ below := by rw [State.frames_setTop' g h.top, hmid]; rfl
  obtain ⟨o, s₂, hsteps, -, hend, hq⟩ := Steps.callFree hM p X.admits X.cas X.clock (acts := []) hfr happ hPc trivial
  have hq' : vx_Q Qc XC mc ms free a (U.calling g mk a) o s₂ := hq
  rw [State.frames_setTop' g h.top] at hend
  obtain ⟨g₀, hg0⟩ := Option.isSome_iff_exists.mp h.top
  obtain ⟨r, hr⟩ := State.topJava?_eq_some.mp hg0
  have hr' : (({ U with heap := s₂.heap, slotsUsed := s₂.slotsUsed } : State).setVm s₂.vm).frames = .java g₀ :: r := hr
  rcases hq' with ⟨hqc, L, hfe, hL⟩ | ⟨q, rfl, E, ce, L, hx, hce, hcv, hcl, hW₂, hsm, hL⟩
  · obtain ⟨⟨v, rfl⟩, hW₂, e2, q2, q3, q4, q5, q6⟩ := id hfe
    have e3 : s₂ = ({ (U.calling g mk a).setFrames s₂.frames with heap := s₂.heap, slotsUsed := s₂.slotsUsed } : State).setVm s₂.vm := by
      have : s₂ = ({ s₂ with vm := (U.calling g mk a).vm } : State).setVm s₂.vm := rfl
      rw [e2] at this
      exact this
    obtain ⟨c₂, i₂, len₂, hc₂, hd₂, hf₂⟩ := hend
    have hW' : U.WarmedH s₂.vm := hW₂
    have hcc : c₂ = c := by
      have h1 : s₂.code? g.method = U.code? g.method := by
        rw [State.code?_eq, State.code?_eq, hW'.alike.method?]
      exact Option.some.inj (hc₂.symm.trans (h1.trans h.code))
    subst hcc
    have hlen : len₂ = len := by rw [hdg] at hd₂; cases hd₂; rfl
    subst hlen
    have hs₂ : s₂ = (({ U with heap := s₂.heap, slotsUsed := s₂.slotsUsed } : State).setVm s₂.vm).setTop { g with pc := g.pc + len₂, stack := v.toList ++ g.stack } := by
      refine e3.trans ?_
      rw [hf₂, State.calling_eq h.top, State.setFrames_setFrames, State.setTop_of_frames _ hr', hr]
      rfl
    have hsame : U.sameButNew ({ U with heap := s₂.heap, slotsUsed := s₂.slotsUsed } : State) L mc ms := by
      refine ⟨?_, q2, q3, q4, q5, q6⟩
      obtain ⟨t, ht, -⟩ := State.frames_cons hr
      show ({ U with heap := s₂.heap, slotsUsed := s₂.slotsUsed } : State) = { U.setFrames U.frames with heap := s₂.heap, slotsUsed := s₂.slotsUsed }
      rw [State.setFrames_self ht]
    subst hg
    refine Or.inl ⟨v, ⟨(({ U with heap := s₂.heap, slotsUsed := s₂.slotsUsed } : State).setVm s₂.vm), Ls ++ L, c0 + mc, s0 + ms⟩,
      ⟨X.admits, X.cas, X.clock, X.frames, X.room, X.hears, X.method, X.code, (X.here.setHeapUsed s₂.heap s₂.slotsUsed).setVm hW'.alike, X.tail, State.WarmedH.trans X.warmed hW', X.limits, X.bytes, X.same.trans (hsame.setVm s.vm)⟩,
      ⟨g, mk, s₂, L, rfl, rfl, hqc, rfl, hL, rfl, rfl⟩, ?_⟩
    show Steps p.tables e below _ ((({ U with heap := s₂.heap, slotsUsed := s₂.slotsUsed } : State).setVm s₂.vm).setTop { g with pc := g.pc + len₂, stack := v.toList ++ g.stack })
    rw [← hs₂]
    exact hsteps
  · obtain ⟨e2, q2, q3, q4, q5, q6⟩ := id hsm
    have e3 : s₂ = ({ (U.calling g mk a).setFrames s₂.frames with heap := s₂.heap, slotsUsed := s₂.slotsUsed } : State).setVm s₂.vm := by
      have : s₂ = ({ s₂ with vm := (U.calling g mk a).vm } : State).setVm s₂.vm := rfl
      rw [e2] at this
      exact this
    have hf₂ : s₂.frames = .throwing q :: .java g :: U.frames.tail := hend
    have hW' : U.WarmedH s₂.vm := hW₂
    have hs₂ : s₂ = ((({ U with heap := s₂.heap, slotsUsed := s₂.slotsUsed } : State).setVm s₂.vm).setTop g).pushFrame (.throwing q) := by
      refine e3.trans ?_
      rw [hf₂, State.calling_eq h.top, State.setFrames_setFrames, State.pushFrame, State.frames_setTop _ hr', State.setTop_of_frames _ hr', State.setFrames_setFrames, hr]
      rfl
    have hsame : U.sameButNew ({ U with heap := s₂.heap, slotsUsed := s₂.slotsUsed } : State) L mc ms := by
      refine ⟨?_, q2, q3, q4, q5, q6⟩
      obtain ⟨t, ht, -⟩ := State.frames_cons hr
      show ({ U with heap := s₂.heap, slotsUsed := s₂.slotsUsed } : State) = { U.setFrames U.frames with heap := s₂.heap, slotsUsed := s₂.slotsUsed }
      rw [State.setFrames_self ht]
    subst hg
    refine Or.inr ⟨q, ⟨(({ U with heap := s₂.heap, slotsUsed := s₂.slotsUsed } : State).setVm s₂.vm), Ls ++ L, c0 + mc, s0 + ms⟩,
      ⟨X.admits, X.cas, X.clock, X.frames, X.room, X.hears, X.method, X.code, (X.here.setHeapUsed s₂.heap s₂.slotsUsed).setVm hW'.alike, X.tail, State.WarmedH.trans X.warmed hW', X.limits, X.bytes, X.same.trans (hsame.setVm s.vm)⟩,
      ⟨g, mk, s₂, L, E, ce, rfl, rfl, hx, hce, hcv, hcl, rfl, hL, rfl, rfl⟩, ?_⟩
    show Steps p.tables e below _ (((({ U with heap := s₂.heap, slotsUsed := s₂.slotsUsed } : State).setVm s₂.vm).setTop g).pushFrame (.throwing q))
    rw [← hs₂]
    exact hsteps
end Payer
section Calls
variable {p : Program} {l : Launch} {e : Env} {R : Room} {s : State} {m : MethodId} {args : Array Value} {below : List Frame} {meth : Method} {c : Code} {T : State} {locs : List Loc} {cells slots : Nat}
theorem vx_callV (X : Stand p l e R s m args below meth c T locs cells slots) (hexec : p.tables.exec = Jvm.exec) {own C : String} {index : Nat} {y : MethodName} {bytes : ByteArray} {maxL : Nat} {ret : Option FieldType}
    (hown : s.vm.findClass own = some m.cls) (hlink : (Cond.methodLink own index y).before args s = true) (hinst : (Cond.instanceMethod y).before args s = true) (hsel : (Cond.selects C y y).before args s = true)
    (hcode : (Cond.code y bytes maxL ret).before args s = true) (hy : y.cls ≠ "java/lang/invoke/MethodHandle" ∧ y.cls ≠ "java/lang/invoke/VarHandle")
    {W9 : Nat} {Pre : Pt → Array Value → Prop} {Post : Pt → Array Value → Option Value → Pt → Prop} {PostX : Pt → Array Value → Addr → Pt → Prop} (hK : vx_Back l R p e below s args y 3 W9 Pre Post PostX)
    {b : Addr} {cellB : Cell} (hcell : T.heap[b]? = some cellB) (hobj : cellB.vm.isStatics = false) (hcls : s.vm.findClass C = some cellB.cls)
    {g : JFrame} (hg : g.method = m) (hsize : g.locals.size = c.maxLocals) {argsL rest : List Value} (hlen : ∀ sig, parseMethodDescriptor y.desc = some sig → argsL.length = sig.parameters.length)
    (hstack : g.stack = argsL.reverse ++ .ref b :: rest) (hW : 2 * g.monitorRoom + (rest.map fun v => v.category).sum ≤ W9) (hdg : decode c.code g.pc = .ok (.invokevirtual index, 3))
    (hpre : ∀ vm₁, s.WarmedH vm₁ → Pre ⟨T.setVm vm₁, locs, cells, slots⟩ (Value.ref b :: argsL).toArray) :
    (∃ (v : Option Value) (vm₁ : Vm) (B : Pt), s.WarmedH vm₁ ∧ Stand p l e R s m args below meth c B.U B.locs B.cells B.slots ∧ Post ⟨T.setVm vm₁, locs, cells, slots⟩ (Value.ref b :: argsL).toArray v B ∧
      ∀ target, Steps p.tables e below (B.U.setTop { g with pc := g.pc + 3, stack := v.toList ++ rest }) target → Steps p.tables e below (T.setTop g) target) ∨
    (∃ (q : Addr) (vm₁ : Vm) (B : Pt), s.WarmedH vm₁ ∧ Stand p l e R s m args below meth c B.U B.locs B.cells B.slots ∧ PostX ⟨T.setVm vm₁, locs, cells, slots⟩ (Value.ref b :: argsL).toArray q B ∧
      Steps p.tables e below (T.setTop g) ((B.U.setTop { g with stack := rest }).pushFrame (.throwing q))) := by
  obtain ⟨mk, methM, hnamed, hmethM, hstM, habM⟩ := Cond.instanceMethod_spec hinst
  obtain ⟨methM', cM, hmethM', -, -, -, -, -, -, hsigM⟩ := Cond.code_spec hnamed hcode
  cases hmethM.symm.trans hmethM'
  obtain ⟨c2, r2, m2, q1, q2, q3, q4, kP, hkP, hkPi⟩ := Cond.selects_spec hsel
  cases hcls.symm.trans q1
  cases (State.methodFound?_of_named hnamed hy).symm.trans q2
  cases hnamed.symm.trans q3
  have hselP : selectMethod e.platform s.vm cellB.cls mk = .method mk := by rw [Launch.admits_selectMethod X.admits]; exact q4
  obtain ⟨vm₁, X₁, hstep₁⟩ := X.invokevirtual hexec hown hlink hnamed hmethM hstM hkP hkPi hy (a := b) (cell := cellB) hcell
    (fun z h => by rw [h] at hobj; cases hobj) hselP hmethM habM hkP hkPi (g := g) hg (argsL := argsL) (rest := rest) (hlen _ hsigM) hstack hdg
  rcases hK m meth c ⟨T.setVm vm₁, locs, cells, slots⟩ { g with stack := rest } (.invokevirtual index) mk (Value.ref b :: argsL).toArray X₁ hg hsize hdg hW (X₁.named hnamed) (hpre vm₁ X₁.warmed) with ⟨v, B, X', hpost, hsteps⟩ | ⟨q, B, X', hpost, hsteps⟩
  · exact Or.inl ⟨v, vm₁, B, X₁.warmed, X', hpost, fun target h => hstep₁ _ fun acts => by rw [doInvoke_state]; exact hsteps.trans h⟩
  · exact Or.inr ⟨q, vm₁, B, X₁.warmed, X', hpost, hstep₁ _ fun acts => by rw [doInvoke_state]; exact hsteps⟩
theorem vx_callS (X : Stand p l e R s m args below meth c T locs cells slots) (hexec : p.tables.exec = Jvm.exec) {own : String} {index : Nat} {y : MethodName} {bytes : ByteArray} {maxL : Nat} {ret : Option FieldType}
    (hown : s.vm.findClass own = some m.cls) (hlink : (Cond.methodLink own index y).before args s = true) (hstat : (Cond.static y).before args s = true) (hinit : (Cond.initialized y.cls).before args s = true)
    (hcode : (Cond.code y bytes maxL ret).before args s = true) (hy : y.cls ≠ "java/lang/invoke/MethodHandle" ∧ y.cls ≠ "java/lang/invoke/VarHandle")
    {W9 : Nat} {Pre : Pt → Array Value → Prop} {Post : Pt → Array Value → Option Value → Pt → Prop} {PostX : Pt → Array Value → Addr → Pt → Prop} (hK : vx_Back l R p e below s args y 3 W9 Pre Post PostX)
    {g : JFrame} (hg : g.method = m) (hsize : g.locals.size = c.maxLocals) {argsL rest : List Value} (hlen : ∀ sig, parseMethodDescriptor y.desc = some sig → argsL.length = sig.parameters.length)
    (hstack : g.stack = argsL.reverse ++ rest) (hW : 2 * g.monitorRoom + (rest.map fun v => v.category).sum ≤ W9) (hdg : decode c.code g.pc = .ok (.invokestatic index, 3))
    (hpre : ∀ vm₁, s.WarmedH vm₁ → Pre ⟨T.setVm vm₁, locs, cells, slots⟩ argsL.toArray) :
    (∃ (v : Option Value) (vm₁ : Vm) (B : Pt), s.WarmedH vm₁ ∧ Stand p l e R s m args below meth c B.U B.locs B.cells B.slots ∧ Post ⟨T.setVm vm₁, locs, cells, slots⟩ argsL.toArray v B ∧
      ∀ target, Steps p.tables e below (B.U.setTop { g with pc := g.pc + 3, stack := v.toList ++ rest }) target → Steps p.tables e below (T.setTop g) target) ∨
    (∃ (q : Addr) (vm₁ : Vm) (B : Pt), s.WarmedH vm₁ ∧ Stand p l e R s m args below meth c B.U B.locs B.cells B.slots ∧ PostX ⟨T.setVm vm₁, locs, cells, slots⟩ argsL.toArray q B ∧
      Steps p.tables e below (T.setTop g) ((B.U.setTop { g with stack := rest }).pushFrame (.throwing q))) := by
  obtain ⟨mk, hnamed⟩ := Cond.code_named hcode
  obtain ⟨methM, cM, hmethM, -, -, -, -, -, -, hsigM⟩ := Cond.code_spec hnamed hcode
  have hstatic : methM.isStatic = true := Cond.static_spec hnamed hmethM hstat
  obtain ⟨kP, hkP, -⟩ := className_of_methodNamed hnamed
  have hinitP : kP.init = .initialized := Cond.initialized_spec (findClass_of_methodNamed hnamed) hkP hinit
  obtain ⟨vm₁, X₁, hstep₁⟩ := X.invokestatic hexec hown hlink hnamed hmethM hstatic hkP hinitP hy (g := g) hg (argsL := argsL) (rest := rest) (hlen _ hsigM) hstack hdg
  rcases hK m meth c ⟨T.setVm vm₁, locs, cells, slots⟩ { g with stack := rest } (.invokestatic index) mk argsL.toArray X₁ hg hsize hdg hW (X₁.named hnamed) (hpre vm₁ X₁.warmed) with ⟨v, B, X', hpost, hsteps⟩ | ⟨q, B, X', hpost, hsteps⟩
  · exact Or.inl ⟨v, vm₁, B, X₁.warmed, X', hpost, fun target h => hstep₁ _ fun acts => by rw [doInvoke_state]; exact hsteps.trans h⟩
  · exact Or.inr ⟨q, vm₁, B, X₁.warmed, X', hpost, hstep₁ _ fun acts => by rw [doInvoke_state]; exact hsteps⟩
end Calls
theorem vx_cls {s : State} {T : State} {vm₁ : Vm} {E : String} {k : ClassId} (hW : s.WarmedH vm₁) (h : (T.setVm vm₁).vm.findClass E = some k) : s.vm.findClass E = some k := by
  have h1 : vm₁.findClass E = some k := h
  rw [hW.alike.findClass] at h1
  exact h1
/-- the method's frame g, with q thrown over it -/
def vx_W (p : Program) (l : Launch) (e : Env) (R : Room) (s : State) (m : MethodId) (args : Array Value) (below : List Frame) (meth : Method) (c : Code) (H : Heap) (locs : List Loc) (cells slots : Nat) (Q : State → Prop) (g : JFrame) (q : Addr) : Prop :=
  ∀ T : State, T.heap = H → Stand p l e R s m args below meth c T locs cells slots → ∃ t, Steps p.tables e below ((T.setTop g).pushFrame (.throwing q)) t ∧ Q t
def vx_Run (p : Program) (l : Launch) (e : Env) (R : Room) (s : State) (m : MethodId) (args : Array Value) (below : List Frame) (meth : Method) (c : Code) (H : Heap) (locs : List Loc) (cells slots mc ms : Nat) (g : JFrame) (rest : List Value) (Qa : State → Outcome → State → Prop) (XC : String → State → State → Prop) (free : Addr → Prop) : Prop :=
  ∀ T : State, T.heap = H → Stand p l e R s m args below meth c T locs cells slots →
    (∃ (v : Option Value) (st₀ t T' : State) (L : List Loc), st₀.heap = H ∧ Stand p l e R s m args below meth c T' (locs ++ L) (cells + mc) (slots + ms) ∧ (∀ q ∈ L, free q.base) ∧ T'.heap = t.heap ∧ T'.vm = t.vm ∧ Qa st₀ (.returned v) t ∧
      Goes p e below T g T' { g with pc := g.pc + 3, stack := v.toList ++ rest }) ∨
    (∃ (q : Addr) (st₀ t T' : State) (L : List Loc) (E : String) (ce : Cell), st₀.heap = H ∧ Stand p l e R s m args below meth c T' (locs ++ L) (cells + mc) (slots + ms) ∧ (∀ z ∈ L, free z.base) ∧ T'.heap = t.heap ∧ T'.vm = t.vm ∧ XC E st₀ t ∧ t.heap[q]? = some ce ∧ ce.vm = .none ∧ s.vm.findClass E = some ce.cls ∧
      Steps p.tables e below (T.setTop g) ((T'.setTop { g with stack := rest }).pushFrame (.throwing q)))
def vx_X {S : Type} (px : S → Prop) (B : String → S → State → Prop) (A : Nat → Prop) : String → State → State → Prop := fun E st t => ∃ u : S, px u ∧ B E u t ∧ va_F A st t
section Runs
variable {p : Program} {l : Launch} {e : Env} {R : Room} {s : State} {m : MethodId} {args : Array Value} {below : List Frame} {meth : Method} {c : Code} {H : Heap} {locs : List Loc} {cells slots : Nat}
variable {y : MethodName} {bytes cc : ByteArray} {maxL nL mc ms n index : Nat} {ret : Option FieldType} {ws : List Cond} {rm : Room} {Pc : Array Value → State → Prop} {Qc : Array Value → State → Outcome → State → Prop} {XC : String → State → State → Prop} {free : Addr → Prop} {Ts : List Cond} {own C : String} {b : Addr} {As rest : List Value} {g : JFrame}
theorem vx_callBack (cb : CallB R s args own index y bytes maxL ret ws rm mc ms n) (hM : vx_Met l y ws rm Pc Qc XC mc ms free) (hbl : FrameBlind Pc) : vx_Back l R p e below s args y 3 8 (PreOf R mc ms Pc) (PostOf Qc mc ms free) (vx_Post XC mc ms free) := by
  obtain ⟨hrc, hrs, hfr, hlo, hws, hcw, -, hini, -⟩ := cb
  exact vx_back (bytes := bytes) (maxL := maxL) (ret := ret) hM hbl hrc hrs hfr hlo hws hcw (fun a' U hW => word_at hW (Or.inl (by first | rfl | simp [Cond.onTables, Cond.keeps, Cond.steady])) hini)
theorem vx_runV (S : CallFix p m c cc nL s args Ts own) (hM : vx_Met l y ws rm Pc Qc XC mc ms free) (cw : CallW R s args own C index y bytes maxL ret ws rm mc ms n) (hp : PreV s H C b Pc As)
    (hg : g.method = m) (hn : As.length = n) (hsize : g.locals.size = nL) (hstack : g.stack = As.reverse ++ .ref b :: rest) (hW : 2 * g.monitorRoom + (rest.map fun v => v.category).sum ≤ 8) (hdg : decode cc g.pc = .ok (.invokevirtual index, 3)) (hf : cells + mc ≤ R.cells ∧ slots + ms ≤ R.slots) :
    vx_Run p l e R s m args below meth c H locs cells slots mc ms g rest (Qc (Value.ref b :: As).toArray) XC free := by
  have hK : vx_Back l R p e below s args y 3 8 (PreOf R mc ms Pc) (PostOf Qc mc ms free) (vx_Post XC mc ms free) := vx_callBack cw.1 hM hp.1
  obtain ⟨⟨-, -, -, -, -, -, hcode, -, hy, hlen, hl⟩, hin, hse⟩ := cw
  obtain ⟨hx, hb, hml, ho, -⟩ := S
  obtain ⟨-, ⟨cellB, hcB, hoB, hclB⟩, hPc⟩ := hp
  intro T hT X
  rcases vx_callV X hx (C := C) (bytes := bytes) (maxL := maxL) (ret := ret) ho hl hin hse hcode hy hK (by rw [hT]; exact hcB) hoB hclB hg (hsize.trans hml.symm) (argsL := As) (rest := rest) (fun sig h => hn.trans (hlen sig h)) hstack hW (by rw [hb]; exact hdg)
    (fun vm₁ hW₁ => ⟨hf.1, hf.2, hPc (T.setVm vm₁) hT hW₁⟩) with ⟨v, vm₁, ⟨U', l2, c2, s2⟩, hW₁, X', ⟨g', mk, t, L, e1, e2, hq, h1, hL, h2, h3⟩, st⟩ | ⟨q, vm₁, ⟨U', l2, c2, s2⟩, hW₁, X', ⟨g', mk, t, L, E, ce, e1, e2, hq, hce, hcv, hcl, h1, hL, h2, h3⟩, st⟩
  · dsimp only [Pt.U, Pt.locs, Pt.cells, Pt.slots] at X' e1 e2 h1 h2 h3 st
    subst h1; subst h2; subst h3
    exact Or.inl ⟨v, (T.setVm vm₁).calling g' mk (Value.ref b :: As).toArray, t, U', L, hT, X', hL, e1, e2, hq, st⟩
  · dsimp only [Pt.U, Pt.locs, Pt.cells, Pt.slots] at X' e1 e2 h1 h2 h3 st hcl
    subst h1; subst h2; subst h3
    exact Or.inr ⟨q, (T.setVm vm₁).calling g' mk (Value.ref b :: As).toArray, t, U', L, E, ce, hT, X', hL, e1, e2, hq, hce, hcv, vx_cls hW₁ hcl, st⟩
theorem vx_runS (S : CallFix p m c cc nL s args Ts own) (hM : vx_Met l y ws rm Pc Qc XC mc ms free) (cw : CallB R s args own index y bytes maxL ret ws rm mc ms n ∧ (Cond.static y).before args s = true) (hp : PreS s H Pc As)
    (hg : g.method = m) (hn : As.length = n) (hsize : g.locals.size = nL) (hstack : g.stack = As.reverse ++ rest) (hW : 2 * g.monitorRoom + (rest.map fun v => v.category).sum ≤ 8) (hdg : decode cc g.pc = .ok (.invokestatic index, 3)) (hf : cells + mc ≤ R.cells ∧ slots + ms ≤ R.slots) :
    vx_Run p l e R s m args below meth c H locs cells slots mc ms g rest (Qc As.toArray) XC free := by
  have hK : vx_Back l R p e below s args y 3 8 (PreOf R mc ms Pc) (PostOf Qc mc ms free) (vx_Post XC mc ms free) := vx_callBack cw.1 hM hp.1
  obtain ⟨⟨-, -, -, -, -, -, hcode, hini, hy, hlen, hl⟩, hstt⟩ := cw
  obtain ⟨hx, hb, hml, ho, -⟩ := S
  intro T hT X
  rcases vx_callS X hx (bytes := bytes) (maxL := maxL) (ret := ret) ho hl hstt hini hcode hy hK hg (hsize.trans hml.symm) (argsL := As) (rest := rest) (fun sig h => hn.trans (hlen sig h)) hstack hW (by rw [hb]; exact hdg)
    (fun vm₁ hW₁ => ⟨hf.1, hf.2, hp.2 (T.setVm vm₁) hT hW₁⟩) with ⟨v, vm₁, ⟨U', l2, c2, s2⟩, hW₁, X', ⟨g', mk, t, L, e1, e2, hq, h1, hL, h2, h3⟩, st⟩ | ⟨q, vm₁, ⟨U', l2, c2, s2⟩, hW₁, X', ⟨g', mk, t, L, E, ce, e1, e2, hq, hce, hcv, hcl, h1, hL, h2, h3⟩, st⟩
  · dsimp only [Pt.U, Pt.locs, Pt.cells, Pt.slots] at X' e1 e2 h1 h2 h3 st
    subst h1; subst h2; subst h3
    exact Or.inl ⟨v, (T.setVm vm₁).calling g' mk As.toArray, t, U', L, hT, X', hL, e1, e2, hq, st⟩
  · dsimp only [Pt.U, Pt.locs, Pt.cells, Pt.slots] at X' e1 e2 h1 h2 h3 st hcl
    subst h1; subst h2; subst h3
    exact Or.inr ⟨q, (T.setVm vm₁).calling g' mk As.toArray, t, U', L, E, ce, hT, X', hL, e1, e2, hq, hce, hcv, vx_cls hW₁ hcl, st⟩
end Runs
section Rows
variable {p : Program} {l : Launch} {e : Env} {R : Room} {s : State} {m : MethodId} {args : Array Value} {below : List Frame} {meth : Method} {c : Code} {H : Heap} {locs : List Loc} {cells slots : Nat} {Q : State → Prop}
variable {mc ms : Nat} {free : Addr → Prop} {A0 A1 : Nat → Prop} {H0 : Heap} {a : Array Value} {pc : Nat} {ls : Array Slot} {st0 rest : List Value}
theorem vx_keep {st₀ t T' : State} {L : List Loc} (h0 : st₀.heap = H) (e1 : T'.heap = t.heap) (hS : va_S A0 H0 H locs) (hA : ∀ q, q < H.size → A1 q → A0 q) (hf : ∀ q, free q → A0 q) (hL : ∀ q ∈ L, free q.base) (hF : va_F A1 st₀ t) :
    H.size ≤ T'.heap.size ∧ (∀ q : Nat, q < H.size → ¬ A1 q → T'.heap[q]? = H[q]?) ∧ va_S A0 H0 T'.heap (locs ++ L) := by
  obtain ⟨hz, hk⟩ := hF
  rw [h0] at hz hk
  exact ⟨by rw [e1]; exact hz, fun q h1 h2 => by rw [e1]; exact hk q h1 h2,
    ⟨Nat.le_trans hS.1 (by rw [e1]; exact hz), fun q h1 h2 => by rw [e1, hk q (Nat.lt_of_lt_of_le h1 hS.1) (fun z => h2 (hA q (Nat.lt_of_lt_of_le h1 hS.1) z))]; exact hS.2.1 q h1 h2, fun q hq => by
      rcases List.mem_append.mp hq with h | h
      · exact hS.2.2 q h
      · exact hf _ (hL q h)⟩⟩
theorem vx_calli {S SX : Type} {post : Int32 → S → Prop} {px : SX → Prop} {B : S → State → Prop} {BX : String → SX → State → Prop} {AX : Nat → Prop} (hr : vx_Run p l e R s m args below meth c H locs cells slots mc ms (F0 m pc ls st0) rest (va_Qi post B A1 a) (vx_X px BX AX) free) (hS : va_S A0 H0 H locs) (hA : ∀ q, q < H.size → A1 q → A0 q) (hf : ∀ q, free q → A0 q) (hAX : ∀ q, q < H.size → AX q → A0 q)
    (kx : ∀ (E : String) (ce : Cell) (q9 : Addr) (u : SX) (t : State) (H1 : Heap) (locs1 : List Loc), t.heap = H1 → s.vm.Alike t.vm → px u → BX E u t → H.size ≤ H1.size → (∀ q : Nat, q < H.size → ¬ AX q → H1[q]? = H[q]?) → va_S A0 H0 H1 locs1 → H1[q9]? = some ce → ce.vm = .none → s.vm.findClass E = some ce.cls → vx_W p l e R s m args below meth c H1 locs1 (cells + mc) (slots + ms) Q (F0 m pc ls rest) q9)
    (kk : ∀ (r : Int32) (u : S) (t : State) (H1 : Heap) (locs1 : List Loc), t.heap = H1 → s.vm.Alike t.vm → post r u → B u t → H.size ≤ H1.size → (∀ q : Nat, q < H.size → ¬ A1 q → H1[q]? = H[q]?) → va_S A0 H0 H1 locs1 → W p l e R s m args below meth c H1 locs1 (cells + mc) (slots + ms) Q (F0 m (pc + 3) ls (.int r :: rest))) : W p l e R s m args below meth c H locs cells slots Q (F0 m pc ls st0) := by
  intro T hT X
  rcases hr T hT X with ⟨v, st₀, t, T', L, h0, X', hL, e1, e2, ⟨⟨r, u, hv, hp, hb⟩, hF⟩, st⟩ | ⟨q, st₀, t, T', L, E, ce, h0, X', hL, e1, e2, ⟨u, hp, hb, hF⟩, hce, hcv, hcl, st⟩
  · cases hv
    obtain ⟨k1, k2, k3⟩ := vx_keep h0 e1 hS hA hf hL hF
    obtain ⟨t2, a1, b1⟩ := kk r u t T'.heap (locs ++ L) e1.symm (by rw [← e2]; exact X'.warmed.alike) hp hb k1 k2 k3 T' rfl X'
    exact ⟨t2, st t2 a1, b1⟩
  · obtain ⟨k1, k2, k3⟩ := vx_keep h0 e1 hS hAX hf hL hF
    obtain ⟨t2, a1, b1⟩ := kx E ce q u t T'.heap (locs ++ L) e1.symm (by rw [← e2]; exact X'.warmed.alike) hp hb k1 k2 k3 (by rw [e1]; exact hce) hcv hcl T' rfl X'
    exact ⟨t2, st.trans a1, b1⟩
theorem vx_calll {S SX : Type} {post : Int64 → S → Prop} {px : SX → Prop} {B : S → State → Prop} {BX : String → SX → State → Prop} {AX : Nat → Prop} (hr : vx_Run p l e R s m args below meth c H locs cells slots mc ms (F0 m pc ls st0) rest (va_Ql post B A1 a) (vx_X px BX AX) free) (hS : va_S A0 H0 H locs) (hA : ∀ q, q < H.size → A1 q → A0 q) (hf : ∀ q, free q → A0 q) (hAX : ∀ q, q < H.size → AX q → A0 q)
    (kx : ∀ (E : String) (ce : Cell) (q9 : Addr) (u : SX) (t : State) (H1 : Heap) (locs1 : List Loc), t.heap = H1 → s.vm.Alike t.vm → px u → BX E u t → H.size ≤ H1.size → (∀ q : Nat, q < H.size → ¬ AX q → H1[q]? = H[q]?) → va_S A0 H0 H1 locs1 → H1[q9]? = some ce → ce.vm = .none → s.vm.findClass E = some ce.cls → vx_W p l e R s m args below meth c H1 locs1 (cells + mc) (slots + ms) Q (F0 m pc ls rest) q9)
    (kk : ∀ (r : Int64) (u : S) (t : State) (H1 : Heap) (locs1 : List Loc), t.heap = H1 → s.vm.Alike t.vm → post r u → B u t → H.size ≤ H1.size → (∀ q : Nat, q < H.size → ¬ A1 q → H1[q]? = H[q]?) → va_S A0 H0 H1 locs1 → W p l e R s m args below meth c H1 locs1 (cells + mc) (slots + ms) Q (F0 m (pc + 3) ls (.long r :: rest))) : W p l e R s m args below meth c H locs cells slots Q (F0 m pc ls st0) := by
  intro T hT X
  rcases hr T hT X with ⟨v, st₀, t, T', L, h0, X', hL, e1, e2, ⟨⟨r, u, hv, hp, hb⟩, hF⟩, st⟩ | ⟨q, st₀, t, T', L, E, ce, h0, X', hL, e1, e2, ⟨u, hp, hb, hF⟩, hce, hcv, hcl, st⟩
  · cases hv
    obtain ⟨k1, k2, k3⟩ := vx_keep h0 e1 hS hA hf hL hF
    obtain ⟨t2, a1, b1⟩ := kk r u t T'.heap (locs ++ L) e1.symm (by rw [← e2]; exact X'.warmed.alike) hp hb k1 k2 k3 T' rfl X'
    exact ⟨t2, st t2 a1, b1⟩
  · obtain ⟨k1, k2, k3⟩ := vx_keep h0 e1 hS hAX hf hL hF
    obtain ⟨t2, a1, b1⟩ := kx E ce q u t T'.heap (locs ++ L) e1.symm (by rw [← e2]; exact X'.warmed.alike) hp hb k1 k2 k3 (by rw [e1]; exact hce) hcv hcl T' rfl X'
    exact ⟨t2, st.trans a1, b1⟩
theorem vx_callf {S SX : Type} {post : UInt32 → S → Prop} {px : SX → Prop} {B : S → State → Prop} {BX : String → SX → State → Prop} {AX : Nat → Prop} (hr : vx_Run p l e R s m args below meth c H locs cells slots mc ms (F0 m pc ls st0) rest (va_Qf post B A1 a) (vx_X px BX AX) free) (hS : va_S A0 H0 H locs) (hA : ∀ q, q < H.size → A1 q → A0 q) (hf : ∀ q, free q → A0 q) (hAX : ∀ q, q < H.size → AX q → A0 q)
    (kx : ∀ (E : String) (ce : Cell) (q9 : Addr) (u : SX) (t : State) (H1 : Heap) (locs1 : List Loc), t.heap = H1 → s.vm.Alike t.vm → px u → BX E u t → H.size ≤ H1.size → (∀ q : Nat, q < H.size → ¬ AX q → H1[q]? = H[q]?) → va_S A0 H0 H1 locs1 → H1[q9]? = some ce → ce.vm = .none → s.vm.findClass E = some ce.cls → vx_W p l e R s m args below meth c H1 locs1 (cells + mc) (slots + ms) Q (F0 m pc ls rest) q9)
    (kk : ∀ (r : UInt32) (u : S) (t : State) (H1 : Heap) (locs1 : List Loc), t.heap = H1 → s.vm.Alike t.vm → post r u → B u t → H.size ≤ H1.size → (∀ q : Nat, q < H.size → ¬ A1 q → H1[q]? = H[q]?) → va_S A0 H0 H1 locs1 → W p l e R s m args below meth c H1 locs1 (cells + mc) (slots + ms) Q (F0 m (pc + 3) ls (.float r :: rest))) : W p l e R s m args below meth c H locs cells slots Q (F0 m pc ls st0) := by
  intro T hT X
  rcases hr T hT X with ⟨v, st₀, t, T', L, h0, X', hL, e1, e2, ⟨⟨r, u, hv, hp, hb⟩, hF⟩, st⟩ | ⟨q, st₀, t, T', L, E, ce, h0, X', hL, e1, e2, ⟨u, hp, hb, hF⟩, hce, hcv, hcl, st⟩
  · cases hv
    obtain ⟨k1, k2, k3⟩ := vx_keep h0 e1 hS hA hf hL hF
    obtain ⟨t2, a1, b1⟩ := kk r u t T'.heap (locs ++ L) e1.symm (by rw [← e2]; exact X'.warmed.alike) hp hb k1 k2 k3 T' rfl X'
    exact ⟨t2, st t2 a1, b1⟩
  · obtain ⟨k1, k2, k3⟩ := vx_keep h0 e1 hS hAX hf hL hF
    obtain ⟨t2, a1, b1⟩ := kx E ce q u t T'.heap (locs ++ L) e1.symm (by rw [← e2]; exact X'.warmed.alike) hp hb k1 k2 k3 (by rw [e1]; exact hce) hcv hcl T' rfl X'
    exact ⟨t2, st.trans a1, b1⟩
theorem vx_calld {S SX : Type} {post : UInt64 → S → Prop} {px : SX → Prop} {B : S → State → Prop} {BX : String → SX → State → Prop} {AX : Nat → Prop} (hr : vx_Run p l e R s m args below meth c H locs cells slots mc ms (F0 m pc ls st0) rest (va_Qd post B A1 a) (vx_X px BX AX) free) (hS : va_S A0 H0 H locs) (hA : ∀ q, q < H.size → A1 q → A0 q) (hf : ∀ q, free q → A0 q) (hAX : ∀ q, q < H.size → AX q → A0 q)
    (kx : ∀ (E : String) (ce : Cell) (q9 : Addr) (u : SX) (t : State) (H1 : Heap) (locs1 : List Loc), t.heap = H1 → s.vm.Alike t.vm → px u → BX E u t → H.size ≤ H1.size → (∀ q : Nat, q < H.size → ¬ AX q → H1[q]? = H[q]?) → va_S A0 H0 H1 locs1 → H1[q9]? = some ce → ce.vm = .none → s.vm.findClass E = some ce.cls → vx_W p l e R s m args below meth c H1 locs1 (cells + mc) (slots + ms) Q (F0 m pc ls rest) q9)
    (kk : ∀ (r : UInt64) (u : S) (t : State) (H1 : Heap) (locs1 : List Loc), t.heap = H1 → s.vm.Alike t.vm → post r u → B u t → H.size ≤ H1.size → (∀ q : Nat, q < H.size → ¬ A1 q → H1[q]? = H[q]?) → va_S A0 H0 H1 locs1 → W p l e R s m args below meth c H1 locs1 (cells + mc) (slots + ms) Q (F0 m (pc + 3) ls (.double r :: rest))) : W p l e R s m args below meth c H locs cells slots Q (F0 m pc ls st0) := by
  intro T hT X
  rcases hr T hT X with ⟨v, st₀, t, T', L, h0, X', hL, e1, e2, ⟨⟨r, u, hv, hp, hb⟩, hF⟩, st⟩ | ⟨q, st₀, t, T', L, E, ce, h0, X', hL, e1, e2, ⟨u, hp, hb, hF⟩, hce, hcv, hcl, st⟩
  · cases hv
    obtain ⟨k1, k2, k3⟩ := vx_keep h0 e1 hS hA hf hL hF
    obtain ⟨t2, a1, b1⟩ := kk r u t T'.heap (locs ++ L) e1.symm (by rw [← e2]; exact X'.warmed.alike) hp hb k1 k2 k3 T' rfl X'
    exact ⟨t2, st t2 a1, b1⟩
  · obtain ⟨k1, k2, k3⟩ := vx_keep h0 e1 hS hAX hf hL hF
    obtain ⟨t2, a1, b1⟩ := kx E ce q u t T'.heap (locs ++ L) e1.symm (by rw [← e2]; exact X'.warmed.alike) hp hb k1 k2 k3 (by rw [e1]; exact hce) hcv hcl T' rfl X'
    exact ⟨t2, st.trans a1, b1⟩
theorem vx_callv {S SX : Type} {post : S → Prop} {px : SX → Prop} {B : S → State → Prop} {BX : String → SX → State → Prop} {AX : Nat → Prop} (hr : vx_Run p l e R s m args below meth c H locs cells slots mc ms (F0 m pc ls st0) rest (va_Qv post B A1 a) (vx_X px BX AX) free) (hS : va_S A0 H0 H locs) (hA : ∀ q, q < H.size → A1 q → A0 q) (hf : ∀ q, free q → A0 q) (hAX : ∀ q, q < H.size → AX q → A0 q)
    (kx : ∀ (E : String) (ce : Cell) (q9 : Addr) (u : SX) (t : State) (H1 : Heap) (locs1 : List Loc), t.heap = H1 → s.vm.Alike t.vm → px u → BX E u t → H.size ≤ H1.size → (∀ q : Nat, q < H.size → ¬ AX q → H1[q]? = H[q]?) → va_S A0 H0 H1 locs1 → H1[q9]? = some ce → ce.vm = .none → s.vm.findClass E = some ce.cls → vx_W p l e R s m args below meth c H1 locs1 (cells + mc) (slots + ms) Q (F0 m pc ls rest) q9)
    (kk : ∀ (u : S) (t : State) (H1 : Heap) (locs1 : List Loc), t.heap = H1 → s.vm.Alike t.vm → post u → B u t → H.size ≤ H1.size → (∀ q : Nat, q < H.size → ¬ A1 q → H1[q]? = H[q]?) → va_S A0 H0 H1 locs1 → W p l e R s m args below meth c H1 locs1 (cells + mc) (slots + ms) Q (F0 m (pc + 3) ls (rest))) : W p l e R s m args below meth c H locs cells slots Q (F0 m pc ls st0) := by
  intro T hT X
  rcases hr T hT X with ⟨v, st₀, t, T', L, h0, X', hL, e1, e2, ⟨⟨u, hv, hp, hb⟩, hF⟩, st⟩ | ⟨q, st₀, t, T', L, E, ce, h0, X', hL, e1, e2, ⟨u, hp, hb, hF⟩, hce, hcv, hcl, st⟩
  · cases hv
    obtain ⟨k1, k2, k3⟩ := vx_keep h0 e1 hS hA hf hL hF
    obtain ⟨t2, a1, b1⟩ := kk u t T'.heap (locs ++ L) e1.symm (by rw [← e2]; exact X'.warmed.alike) hp hb k1 k2 k3 T' rfl X'
    exact ⟨t2, st t2 a1, b1⟩
  · obtain ⟨k1, k2, k3⟩ := vx_keep h0 e1 hS hAX hf hL hF
    obtain ⟨t2, a1, b1⟩ := kx E ce q u t T'.heap (locs ++ L) e1.symm (by rw [← e2]; exact X'.warmed.alike) hp hb k1 k2 k3 (by rw [e1]; exact hce) hcv hcl T' rfl X'
    exact ⟨t2, st.trans a1, b1⟩
/-- caught by the row x of this method's table; the rows ahead don't take it -/
theorem vx_catch {own name : String} {E : String} {ce : Cell} {q : Addr} (hown : s.vm.findClass own = some m.cls) (pre : List ExceptionTableEntry) (x : ExceptionTableEntry) (suf : List ExceptionTableEntry) (hsplit : c.exceptionTable.toList = pre ++ x :: suf)
    (hpass : ∀ z ∈ pre, covers z pc = false ∨ (z.catchType ≠ 0 ∧ ∃ nm : String, (Cond.classLink own z.catchType nm).before args s = true ∧ va_Nc E nm s)) (hx : covers x pc = true) (h0 : x.catchType ≠ 0)
    (hlink : (Cond.classLink own x.catchType name).before args s = true) (hcast : (Cond.castable E name).before args s = true) (hcell : H[q]? = some ce) (hv : ce.vm = .none) (hcl : s.vm.findClass E = some ce.cls)
    (kk : W p l e R s m args below meth c H locs cells slots Q (F0 m x.handlerPc ls [.ref q])) : vx_W p l e R s m args below meth c H locs cells slots Q (F0 m pc ls rest) q := by
  intro T hT X
  have hpl : e.platform.magicAccessors = ({} : Platform).magicAccessors := by rw [X.admits.platform]
  obtain ⟨c3, c4, hc3, hc4, hasg⟩ := Cond.castable_spec hcast
  cases Option.some.inj (hc3.symm.trans hcl)
  obtain ⟨c5, hc5, hcl5⟩ := Cond.classLink_spec hown hlink e.platform hpl
  cases Option.some.inj (hc4.symm.trans hc5)
  obtain ⟨vm', X', st⟩ := X.thenCaughtThrough q (g := F0 m pc ls rest) rfl (Steps.refl _) (by rw [hT]; exact hcell) (by rw [hv]; rfl) (by obtain ⟨k9, h9, -⟩ := Vm.findClass_spec hcl; exact ⟨k9, h9⟩) pre x suf hsplit
    (fun z hz => by
      rcases hpass z hz with h | ⟨hz0, nm, hl1, hn1⟩
      · exact Or.inl h
      · obtain ⟨c6, hc6, hcl6⟩ := Cond.classLink_spec hown hl1 e.platform hpl
        obtain ⟨a8, b8, h1, h2, h3⟩ := hn1
        cases Option.some.inj (h1.symm.trans hcl)
        cases Option.some.inj (h2.symm.trans hc6)
        exact Or.inr ⟨hz0, _, hcl6, h3⟩) hx (Or.inr ⟨h0, c4, hcl5, hasg⟩)
  obtain ⟨t, a1, b1⟩ := kk (T.setVm vm') hT X'
  exact ⟨t, st.trans a1, b1⟩
end Rows
section Ends
variable {p : Program} {l : Launch} {e : Env} {R : Room} {s : State} {m : MethodId} {args : Array Value} {below : List Frame} {meth : Method} {c : Code} {H : Heap} {locs : List Loc} {cells slots : Nat} {Q : State → Prop}
variable {mc ms : Nat} {free : Addr → Prop} {A0 A1 : Nat → Prop} {H0 : Heap} {a : Array Value} {ls : Array Slot} {st0 rest : List Value}
variable {Qc : Array Value → State → Outcome → State → Prop} {XC : String → State → State → Prop}
/-- what a body that may throw owes at its end -/
def vx_MQ (below : List Frame) (Qc : Array Value → State → Outcome → State → Prop) (XC : String → State → State → Prop) (a : Array Value) (s : State) (mc ms : Nat) (free : Addr → Prop) : State → Prop := fun t =>
  ∃ o, t.status = .running ∧ Ended t below o ∧ vx_Q Qc XC mc ms free a s o t
theorem vx_ret {g : JFrame} {mc ms : Nat} (k : W p l e R s m args below meth c H locs cells slots (MQ below Qc args s mc ms free) g) : W p l e R s m args below meth c H locs cells slots (vx_MQ below Qc XC args s mc ms free) g := by
  intro T hT X
  obtain ⟨t, a1, o, b1, b2, b3, b4⟩ := k T hT X
  exact ⟨t, a1, o, b1, b2, Or.inl ⟨b3, b4⟩⟩
/-- not caught here: it goes on to the caller -/
theorem vx_widen {g : JFrame} {q : Addr} {k n : Nat} (h1 : cells ≤ k) (h2 : slots ≤ n) (kk : vx_W p l e R s m args below meth c H locs k n Q g q) : vx_W p l e R s m args below meth c H locs cells slots Q g q := fun T hT X => kk T hT (stand_widen X h1 h2)
theorem vx_out {pc : Nat} {E : String} {ce : Cell} {q : Addr} {mc ms : Nat} (hout : ∀ x ∈ c.exceptionTable.toList, covers x pc = false) (hlocks : meth.locks = false) (hcell : H[q]? = some ce) (hv : ce.vm = .none) (hcl : s.vm.findClass E = some ce.cls)
    (hx : ∀ t : State, t.heap = H → s.vm.Alike t.vm → XC E s t) (hf : ∀ z ∈ locs, free z.base) (hc : cells ≤ mc) (hs : slots ≤ ms) :
    vx_W p l e R s m args below meth c H locs cells slots (vx_MQ below Qc XC args s mc ms free) (F0 m pc ls rest) q := by
  intro T hT X
  obtain ⟨st1, hrun, hend, hW, hsm⟩ := X.leaveThrown q (g := F0 m pc ls rest) rfl rfl rfl hout hlocks
  have hcell9 : (T.setFrames (.throwing q :: below)).heap[q]? = some ce := by
    show T.heap[q]? = some ce
    rw [hT]; exact hcell
  exact ⟨_, st1, .threw q, hrun, hend, Or.inr ⟨q, rfl, E, ce, locs, hx _ hT hW.alike, hcell9, hv, hcl, hW, hsm.mono hc hs, hf⟩⟩
theorem vx_frame {U : State} {k n : Nat} (h : s.sameButNew ({ U with vm := s.vm } : State) locs k n) : s.heap.size ≤ U.heap.size ∧ ∀ q : Nat, q < s.heap.size → (∀ z ∈ locs, z.base ≠ q) → U.heap[q]? = s.heap[q]? := by
  obtain ⟨-, h2, -, -, -, h6⟩ := h
  refine ⟨h2, fun q hq hz => ?_⟩
  obtain ⟨c9, e1, e2, e3, e4⟩ := h6 q _ (Array.getElem?_eq_getElem hq)
  have hs : c9.slots = (s.heap[q]).slots := Array.ext_getElem? fun i => e4 i fun hm => hz _ hm rfl
  have h9 : c9 = s.heap[q] := by
    rw [hs] at e2
    exact e2
  have e5 : U.heap[q]? = some c9 := e1
  rw [e5, h9, Array.getElem?_eq_getElem hq]
/-- the words of a throw but the four that speak of the heap -/
def vx_no (w : Cond) : Bool := decide (w ≠ .isRef (.static Bundle.tN "UNASSIGNED_STACK" Bundle.steD)) && decide (w ≠ .isRef (.static Bundle.tN "SUPPRESSED_SENTINEL" Bundle.listD)) && decide (w ≠ .laysStatic Bundle.tN "UNASSIGNED_STACK" Bundle.steD) && decide (w ≠ .laysStatic Bundle.tN "SUPPRESSED_SENTINEL" Bundle.listD)
def vx_at0 (own : String) (ic : Nat) (X : String) (names : List String) : List Cond := (Bundle.ownAtoms0 own ic X names).filter vx_no
def vx_atS (own : String) (ic : Nat) (X : String) (names : List String) : List Cond := (Bundle.ownAtoms own ic X names).filter vx_no
/-- a word that the tables alone decide, or a good one -/
def vx_ot (w : Cond) : Bool := w.onTables || goodWord w
theorem vx_ot_at {args a' : Array Value} {s U : State} {w : Cond} (hW : s.WarmedH U.vm) (hvm : s.vm = U.vm) (hg : vx_ot w = true) (h : w.before args s = true) : w.before a' U = true := by
  simp only [vx_ot, Bool.or_eq_true] at hg
  rcases hg with hg | hg
  · exact va_tabs hg hvm h
  · exact word_at hW (good_of_word hg) h
/-- a list's words: the good ones out of the method's own list, the others by premises of their own -/
theorem vx_hat {args : Array Value} {s : State} {L B : List Cond} (h1 : ∀ w ∈ L.filter goodWord, w.before args s = true) (h2 : ∀ w ∈ L.filter (fun w => !goodWord w), w ∈ B) (h3 : ∀ w ∈ B, w.before args s = true) : ∀ w ∈ L, w.before args s = true := by
  intro w hw
  by_cases g : goodWord w = true
  · exact h1 w (List.mem_filter.mpr ⟨hw, g⟩)
  · refine h3 w (h2 w (List.mem_filter.mpr ⟨hw, ?_⟩))
    show (!goodWord w) = true
    cases hgw : goodWord w
    · rfl
    · exact absurd hgw g
theorem vx_c {args : Array Value} {s : State} {w : Cond} {B : List Cond} (h : w.before args s = true) (t : ∀ w ∈ B, w.before args s = true) : ∀ w' ∈ w :: B, w'.before args s = true := fun w' h' => (List.mem_cons.mp h').elim (fun e => by rw [e]; exact h) (t w')
theorem vx_n {args : Array Value} {s : State} : ∀ w ∈ ([] : List Cond), w.before args s = true := fun _ h => nomatch h
theorem vx_own {args : Array Value} {s : State} {L : List Cond} (h1 : ∀ w ∈ L.filter vx_no, w.before args s = true)
    (hU : (Cond.isRef (.static Bundle.tN "UNASSIGNED_STACK" Bundle.steD)).before args s = true) (hN : (Cond.isRef (.static Bundle.tN "SUPPRESSED_SENTINEL" Bundle.listD)).before args s = true)
    (lU : (Cond.laysStatic Bundle.tN "UNASSIGNED_STACK" Bundle.steD).before args s = true) (lN : (Cond.laysStatic Bundle.tN "SUPPRESSED_SENTINEL" Bundle.listD).before args s = true) : ∀ w ∈ L, w.before args s = true := by
  intro w hw
  by_cases e1 : w = .isRef (.static Bundle.tN "UNASSIGNED_STACK" Bundle.steD)
  · rw [e1]; exact hU
  · by_cases e2 : w = .isRef (.static Bundle.tN "SUPPRESSED_SENTINEL" Bundle.listD)
    · rw [e2]; exact hN
    · by_cases e3 : w = .laysStatic Bundle.tN "UNASSIGNED_STACK" Bundle.steD
      · rw [e3]; exact lU
      · by_cases e4 : w = .laysStatic Bundle.tN "SUPPRESSED_SENTINEL" Bundle.listD
        · rw [e4]; exact lN
        · exact h1 w (List.mem_filter.mpr ⟨hw, by unfold vx_no; rw [decide_eq_true e1, decide_eq_true e2, decide_eq_true e3, decide_eq_true e4]; rfl⟩)
/-- where a static field lies, its class's statics cell in H -/
def vx_L (C n d : String) (A : Nat → Prop) (U : State) (H : Heap) : Prop := ∃ (c : ClassId) (k : Class) (i : Nat) (f : Field) (a : Nat) (cell : Cell), U.vm.findClass C = some c ∧ U.fieldFound? C n d = some (c, k, i, f) ∧ f.isStatic = true ∧ k.statics = some a ∧ H[a]? = some cell ∧ cell.vm.isStatics = true ∧ cell.cls = c ∧ f.slot < cell.slots.size ∧ k.staticTypes[f.slot]? = some f.type ∧ ¬ A a
theorem vx_L.moved {C n d : String} {A : Nat → Prop} {u U : State} {H : Heap} (hvm : u.vm.Alike U.vm) (h : vx_L C n d A u H) : vx_L C n d A U H := by
  obtain ⟨c, k, i, f, a, cell, h1, h2, h3, h4, h5, h6, h7, h8, h9, h10⟩ := h
  obtain ⟨k', hi', he⟩ := State.fieldFound?_setVm hvm h2
  exact ⟨c, k', i, f, a, cell, by rw [hvm.findClass]; exact h1, hi', h3, by rw [he]; exact h4, h5, h6, h7, h8, by rw [he]; exact h9, h10⟩
theorem vx_L.kept {C n d : String} {A : Nat → Prop} {U : State} {H H1 : Heap} (h : vx_L C n d A U H) (hq : ∀ a : Nat, a < H.size → ¬ A a → H1[a]? = H[a]?) : vx_L C n d A U H1 := by
  obtain ⟨c, k, i, f, a, cell, h1, h2, h3, h4, h5, h6, h7, h8, h9, h10⟩ := h
  exact ⟨c, k, i, f, a, cell, h1, h2, h3, h4, by rw [hq a (Array.getElem?_eq_some_iff.mp h5).1 h10]; exact h5, h6, h7, h8, h9, h10⟩
theorem vx_L.narrow {C n d : String} {A B : Nat → Prop} {U : State} {H : Heap} (h : vx_L C n d A U H) (hAB : ∀ q, B q → A q) : vx_L C n d B U H := by
  obtain ⟨c, k, i, f, a, cell, h1, h2, h3, h4, h5, h6, h7, h8, h9, h10⟩ := h
  exact ⟨c, k, i, f, a, cell, h1, h2, h3, h4, h5, h6, h7, h8, h9, fun z => h10 (hAB _ z)⟩
theorem vx_L.word {C n d : String} {A : Nat → Prop} {s : State} {args : Array Value} (h : vx_L C n d A s s.heap) : (Cond.laysStatic C n d).before args s = true := by
  obtain ⟨c, k, i, f, a, cell, h1, h2, h3, h4, h5, h6, h7, h8, h9, -⟩ := h
  show (Cond.laysStatic C n d).holds args s none s [] = true
  exact Cond.laysStatic_of h1 h2 h3 h4 h5 h6 h7 h8 h9
/-- .. and what it holds: null or some reference -/
def vx_Zq (C n d : String) (A : Nat → Prop) (U : State) (H : Heap) : Prop := va_Zq C n d A U H ∧ vx_L C n d A U H
theorem vx_Zq.moved {C n d : String} {A : Nat → Prop} {u U : State} {H : Heap} (hvm : u.vm.Alike U.vm) (h : vx_Zq C n d A u H) : vx_Zq C n d A U H := ⟨va_Zq.moved hvm h.1, vx_L.moved hvm h.2⟩
theorem vx_Zq.kept {C n d : String} {A : Nat → Prop} {U : State} {H H1 : Heap} (h : vx_Zq C n d A U H) (hq : ∀ a : Nat, a < H.size → ¬ A a → H1[a]? = H[a]?) : vx_Zq C n d A U H1 := ⟨va_Zq.kept h.1 hq, vx_L.kept h.2 hq⟩
theorem vx_Zq.narrow {C n d : String} {A B : Nat → Prop} {U : State} {H : Heap} (h : vx_Zq C n d A U H) (hAB : ∀ q, B q → A q) : vx_Zq C n d B U H := ⟨va_Zq.narrow h.1 hAB, vx_L.narrow h.2 hAB⟩
theorem vx_Zqof {args : Array Value} {s : State} {C n d : String} {A : Nat → Prop} (hl : (Cond.laysStatic C n d).before args s = true) (hini : (Cond.initialized C).before args s = true) (h : (Cond.isRef (.static C n d)).before args s = true) (hA : ∀ a : Nat, a < s.heap.size → ¬ A a) : vx_Zq C n d A s s.heap := by
  refine ⟨va_Zqof hl hini h hA, ?_⟩
  obtain ⟨c, k, i, f, a, cell, h1, h2, h3, h4, h5, h6, h7, h8, h9⟩ := Cond.laysStatic_spec hl
  exact ⟨c, k, i, f, a, cell, h1, h2, h3, h4, h5, h6, h7, h8, h9, hA a (Array.getElem?_eq_some_iff.mp h5).1⟩
theorem vx_isRef {C n d : String} {v : Value} {A : Nat → Prop} {s : State} {args : Array Value} (h : va_Z C n d v A s s.heap) (hv : v.isRef = true) : (Cond.isRef (.static C n d)).before args s = true := by
  obtain ⟨cf, kf, fi, f, a, cell, h1, h2, h3, h4, h5, h6, h7, -⟩ := h
  have he : (Term.static C n d).eval args s none [] s = some v := by
    simp [Term.eval, State.fieldNamed?, h1, h2, h4, h5, h6, h7]
  simp only [Cond.before, Cond.holds, Cond.value, he]
  cases v <;> simp_all [Value.isRef]
theorem vx_isRefq {C n d : String} {A : Nat → Prop} {s : State} {args : Array Value} (h : va_Zq C n d A s s.heap) : (Cond.isRef (.static C n d)).before args s = true := by
  rcases h with h | ⟨t, h⟩
  · exact vx_isRef h rfl
  · exact vx_isRef h rfl
/-- the same frame, seen from here: as if the method were called anew in this heap -/
theorem vx_rebase {T : State} (X : Stand p l e R s m args below meth c T locs cells slots) {R' : Room} (hf : R'.frames ≤ R.frames) (hl : R'.locals ≤ R.locals) (hc : cells + R'.cells ≤ R.cells) (hs : slots + R'.slots ≤ R.slots) :
    Stand p l e R' ((T.setVm s.vm).setFrames (.invoking m args :: below)) m args below meth c T [] 0 0 := by
  have htop : (T.setVm s.vm).topJava?.isSome := X.here.top
  have hF : ((T.setVm s.vm).setFrames (.invoking m args :: below)).frames = .invoking m args :: below := State.frames_setFrames _ (State.cur_lt_of_top htop)
  obtain ⟨g₀, hg0⟩ := Option.isSome_iff_exists.mp htop
  obtain ⟨r, hr⟩ := State.topJava?_eq_some.mp hg0
  have hl9 : e.platform.stackLimits (T.setVm s.vm).me = e.platform.stackLimits s.me := X.limits
  have hb9 : (T.setVm s.vm).me.stackBytes = s.me.stackBytes := X.bytes
  refine ⟨X.admits, X.cas, X.clock, hF, ?_, X.hears, X.method, X.code, X.here, X.tail, X.warmed, ?_, ?_, ?_⟩
  · have h := X.room
    have hU : ((T.setVm s.vm).setFrames (.invoking m args :: below)).localsInUse = s.localsInUse := by
      rw [State.localsInUse_invoking hF (meth := meth) (c := c) X.method X.code, State.localsInUse_invoking X.frames X.method X.code]
    simp only [State.hasRoom, Bool.and_eq_true, decide_eq_true_eq] at h ⊢
    obtain ⟨⟨⟨⟨h1, h2, h3, h4, h5, h6⟩, h7⟩, h8⟩, h9⟩ := h
    rw [X.frames, List.length_cons] at h2 h3
    have q1 := X.heapSize
    have q2 := X.used
    simp only [hF, hU, List.length_cons, State.stackLimits_setFrames, State.stackBytes_setFrames, hl9, hb9]
    refine ⟨⟨⟨⟨by omega, by omega, by omega, by omega, by omega, h6⟩, ?_⟩, ?_⟩, X.book⟩
    · show T.heap.size + R'.cells ≤ e.platform.maxCells
      omega
    · show T.slotsUsed + R'.slots ≤ e.platform.maxSlots
      omega
  · rw [State.stackLimits_setFrames]; rfl
  · rw [State.stackBytes_setFrames]; rfl
  · refine ⟨?_, Nat.le_refl _, Nat.le_refl _, ?_, ?_, fun a c9 h9 => ⟨c9, h9, rfl, rfl, fun _ _ => rfl⟩⟩
    · obtain ⟨t, ht, -⟩ := State.frames_cons hr
      show T.setVm s.vm = { ((T.setVm s.vm).setFrames (.invoking m args :: below)).setFrames (T.setVm s.vm).frames with heap := T.heap, slotsUsed := T.slotsUsed }
      rw [State.setFrames_setFrames, State.setFrames_self ht]
      rfl
    · show T.slotsUsed = T.slotsUsed + ((T.heap.toList.drop T.heap.size).map (·.slots.size)).sum
      rw [List.drop_eq_nil_of_le (Nat.le_of_eq Array.length_toList)]
      rfl
    · show ((T.heap.toList.drop T.heap.size).map (·.slots.size)).sum ≤ 0
      rw [List.drop_eq_nil_of_le (Nat.le_of_eq Array.length_toList)]
      exact Nat.le_refl _
/-- 'throw new E()': new; dup; invokespecial; athrow -/
theorem vx_throw0 {cc : ByteArray} {pc : Nat} (hexec : p.tables.exec = Jvm.exec) (hb : c.code = cc) (hl : l.stackTraces = false) {own cls : String} {names : List String} {ik ic mc ms : Nat} {A : Nat → Prop}
    (hown : s.vm.findClass own = some m.cls) (hcls : Bundle.fit cls = true) (hnames : ∀ n ∈ names, Bundle.fit n = true)
    (hk : (Cond.classLink own ik cls).before args s = true) (hini : (Cond.initialized cls).before args s = true) (hat : ∀ w ∈ vx_at0 own ic cls names, w.before args s = true)
    (hgood : ∀ w ∈ Cond.classLink own ik cls :: Cond.initialized cls :: vx_at0 own ic cls names, vx_ot w = true)
    (hU : vx_Zq Bundle.tN "UNASSIGNED_STACK" Bundle.steD A s s.heap) (hN : vx_Zq Bundle.tN "SUPPRESSED_SENTINEL" Bundle.listD A s s.heap) (hS : va_S A s.heap H locs) (hsize : ls.size = c.maxLocals)
    (d0 : decode cc pc = .ok (.new ik, 3)) (d3 : decode cc (pc + 3) = .ok (.dup, 1)) (d4 : decode cc (pc + 4) = .ok (.invokespecial ic, 3)) (d7 : decode cc (pc + 7) = .ok (.athrow, 1))
    (hout : ∀ x ∈ c.exceptionTable.toList, covers x (pc + 7) = false)
    (hRframes : names.length + 3 < R.frames) (hRlocals : (rest.map fun v => v.category).sum + (13 * (names.length + 1) + 42) ≤ R.locals) (hRcells : cells + 1 ≤ R.cells) (hRslots : slots + 6 ≤ R.slots) (hlocks : meth.locks = false)
    (hx : ∀ t : State, s.vm.Alike t.vm → H.size ≤ t.heap.size → (∀ q : Nat, q < H.size → t.heap[q]? = H[q]?) → XC cls s t)
    (hf : ∀ z ∈ locs, free z.base) (hc : cells + 1 ≤ mc) (hs : slots + 6 ≤ ms) :
    W p l e R s m args below meth c H locs cells slots (vx_MQ below Qc XC args s mc ms free) (F0 m pc ls rest) := by
  intro T hT X
  have htr : e.platform.stackTraces = false := (show e.platform.stackTraces = l.stackTraces by rw [X.admits.platform]).trans hl
  have Y := vx_rebase X (R' := { frames := R.frames, locals := R.locals, cells := 1, slots := 6 }) (Nat.le_refl _) (Nat.le_refl _) hRcells hRslots
  obtain ⟨s', hA⟩ : ∃ z, z = (T.setVm s.vm).setFrames (.invoking m args :: below) := ⟨_, rfl⟩
  rw [← hA] at Y
  have hvm : s'.vm = s.vm := by rw [hA]; rfl
  have hhp : s'.heap = H := by rw [hA]; exact hT
  have hW0 : s.WarmedH s'.vm := by rw [hvm]; exact State.WarmedH.refl s
  have hat' : ∀ w ∈ vx_at0 own ic cls names, w.before args s' = true := fun w hw => vx_ot_at hW0 hvm.symm (hgood w (List.mem_cons_of_mem _ (List.mem_cons_of_mem _ hw))) (hat w hw)
  have hk' : (Cond.classLink own ik cls).before args s' = true := vx_ot_at hW0 hvm.symm (hgood _ List.mem_cons_self) hk
  have hini' : (Cond.initialized cls).before args s' = true := vx_ot_at hW0 hvm.symm (hgood _ (List.mem_cons_of_mem _ List.mem_cons_self)) hini
  have hU' : vx_Zq Bundle.tN "UNASSIGNED_STACK" Bundle.steD A s' s'.heap := by rw [hhp]; exact vx_Zq.moved hW0.alike (hU.kept hS.2.1)
  have hN' : vx_Zq Bundle.tN "SUPPRESSED_SENTINEL" Bundle.listD A s' s'.heap := by rw [hhp]; exact vx_Zq.moved hW0.alike (hN.kept hS.2.1)
  have h : ∀ w ∈ Bundle.ownAtoms0 own ic cls names, w.before args s' = true := vx_own hat' (vx_isRefq hU'.1) (vx_isRefq hN'.1) hU'.2.word hN'.2.word
  have hown' : s'.vm.findClass own = some m.cls := by rw [hvm]; exact hown
  have hins : (Cond.instantiable cls 6).before args s' = true := h _ (by simp [Bundle.ownAtoms0])
  obtain ⟨vm₁, cX, kX, hfX, hkX, -, -, X₁, st1⟩ := Y.newCold hexec (own := own) (C := cls) (index := ik) (n := 6) hown' hk' hins hini'
    (g := F0 m pc ls rest) rfl (by rw [hb]; exact d0) (Nat.le_refl _) (Nat.le_refl _)
  generalize hT1 : (T.setVm vm₁).pushCell { cls := cX, slots := kX.instanceTypes.map defaultValue, vm := .none } = T1 at X₁ st1
  have hcat : (Value.ref T.heap.size).category = 1 := rfl
  have hcellA : T1.heap[T.heap.size]? = some (freshCell cX kX) := by rw [← hT1]; exact State.heap_pushCell_size _ _
  have d3' : decode c.code (pc + 3) = .ok (.dup, 1) := by rw [hb]; exact d3
  obtain ⟨U, hsteps, hrun, hend, hW, hsame, ce, hce, hO⟩ := X₁.ctorThrow0 hexec htr (own := own) (cls := cls) (names := names) (ic := ic) hown' hcls hnames h (fun x hx => nomatch hx) hfX hkX hcellA (by rw [hhp, hT]; exact Nat.le_refl _)
    (g := { method := m, pc := pc + 4, locals := ls, stack := .ref T.heap.size :: .ref T.heap.size :: rest, locked := none }) rfl hsize rfl rfl (rest := rest) rfl
    (by rw [hb]; exact d4) (by rw [hb]; exact d7) hout hRframes (by simp only [List.map_cons, List.sum_cons, hcat]; omega) hlocks
  obtain ⟨f1, f2⟩ := vx_frame hsame
  rw [hhp] at f1 f2
  have hWs : s.WarmedH U.vm := State.WarmedH.trans hW0 hW
  have hcl : s.vm.findClass cls = some ce.cls := by
    have h9 := hO.cls
    rw [hvm] at h9
    exact h9
  have hall : s.sameButNew ({ U with vm := s.vm } : State) locs mc ms := by
    subst hA
    obtain ⟨e1, e2⟩ := hsame
    rw [State.setFrames_setFrames] at e1
    have h2 : (T.setVm s.vm).sameButNew ({ U with vm := s.vm } : State) [] (0 + 1) (0 + 6) := ⟨e1, e2⟩
    have h3 := X.same.trans h2
    rw [List.append_nil] at h3
    exact h3.mono hc hs
  refine ⟨U, ?_, .threw T.heap.size, hrun, hend, Or.inr ⟨T.heap.size, rfl, cls, ce, locs, hx U hWs.alike f1 (fun q hq => f2 q hq (fun z hz => nomatch hz)), hce, hO.vm, hcl, hWs, hall, hf⟩⟩
  refine st1 _ ?_
  show Steps p.tables e below (T1.setTop { method := m, pc := pc + 3, locals := ls, stack := .ref T.heap.size :: rest, locked := none }) _
  jvm_step X₁.here [X₁.here.top, hexec, d3', Value.category]
  exact hsteps
/-- 'throw new E("text")': new; dup; ldc; invokespecial; athrow -/
theorem vx_throwS {cc : ByteArray} {pc : Nat} (hexec : p.tables.exec = Jvm.exec) (hb : c.code = cc) (hl : l.stackTraces = false) {own cls text : String} {names : List String} {ik is ic mc ms sa : Nat} {A : Nat → Prop}
    (hown : s.vm.findClass own = some m.cls) (hcls : Bundle.fit cls = true) (hnames : ∀ n ∈ names, Bundle.fit n = true)
    (hk : (Cond.classLink own ik cls).before args s = true) (hini : (Cond.initialized cls).before args s = true) (hstr : vk_R own is text sa s) (hat : ∀ w ∈ vx_atS own ic cls names, w.before args s = true)
    (hgood : ∀ w ∈ Cond.classLink own ik cls :: Cond.initialized cls :: vx_atS own ic cls names, vx_ot w = true)
    (hU : vx_Zq Bundle.tN "UNASSIGNED_STACK" Bundle.steD A s s.heap) (hN : vx_Zq Bundle.tN "SUPPRESSED_SENTINEL" Bundle.listD A s s.heap) (hS : va_S A s.heap H locs) (hsize : ls.size = c.maxLocals)
    (d0 : decode cc pc = .ok (.new ik, 3)) (d3 : decode cc (pc + 3) = .ok (.dup, 1)) (d4 : decode cc (pc + 4) = .ok (.ldc is, 2)) (d6 : decode cc (pc + 6) = .ok (.invokespecial ic, 3)) (d9 : decode cc (pc + 9) = .ok (.athrow, 1))
    (hout : ∀ x ∈ c.exceptionTable.toList, covers x (pc + 9) = false)
    (hRframes : names.length + 3 < R.frames) (hRlocals : (rest.map fun v => v.category).sum + (13 * (names.length + 1) + 43) ≤ R.locals) (hRcells : cells + 1 ≤ R.cells) (hRslots : slots + 6 ≤ R.slots) (hlocks : meth.locks = false)
    (hx : ∀ t : State, s.vm.Alike t.vm → H.size ≤ t.heap.size → (∀ q : Nat, q < H.size → t.heap[q]? = H[q]?) → XC cls s t)
    (hf : ∀ z ∈ locs, free z.base) (hc : cells + 1 ≤ mc) (hs : slots + 6 ≤ ms) :
    W p l e R s m args below meth c H locs cells slots (vx_MQ below Qc XC args s mc ms free) (F0 m pc ls rest) := by
  intro T hT X
  have htr : e.platform.stackTraces = false := (show e.platform.stackTraces = l.stackTraces by rw [X.admits.platform]).trans hl
  have Y := vx_rebase X (R' := { frames := R.frames, locals := R.locals, cells := 1, slots := 6 }) (Nat.le_refl _) (Nat.le_refl _) hRcells hRslots
  obtain ⟨s', hA⟩ : ∃ z, z = (T.setVm s.vm).setFrames (.invoking m args :: below) := ⟨_, rfl⟩
  rw [← hA] at Y
  have hvm : s'.vm = s.vm := by rw [hA]; rfl
  have hhp : s'.heap = H := by rw [hA]; exact hT
  have hW0 : s.WarmedH s'.vm := by rw [hvm]; exact State.WarmedH.refl s
  have hat' : ∀ w ∈ vx_atS own ic cls names, w.before args s' = true := fun w hw => vx_ot_at hW0 hvm.symm (hgood w (List.mem_cons_of_mem _ (List.mem_cons_of_mem _ hw))) (hat w hw)
  have hk' : (Cond.classLink own ik cls).before args s' = true := vx_ot_at hW0 hvm.symm (hgood _ List.mem_cons_self) hk
  have hini' : (Cond.initialized cls).before args s' = true := vx_ot_at hW0 hvm.symm (hgood _ (List.mem_cons_of_mem _ List.mem_cons_self)) hini
  have hU' : vx_Zq Bundle.tN "UNASSIGNED_STACK" Bundle.steD A s' s'.heap := by rw [hhp]; exact vx_Zq.moved hW0.alike (hU.kept hS.2.1)
  have hN' : vx_Zq Bundle.tN "SUPPRESSED_SENTINEL" Bundle.listD A s' s'.heap := by rw [hhp]; exact vx_Zq.moved hW0.alike (hN.kept hS.2.1)
  have h : ∀ w ∈ Bundle.ownAtoms own ic cls names, w.before args s' = true := vx_own hat' (vx_isRefq hU'.1) (vx_isRefq hN'.1) hU'.2.word hN'.2.word
  have hown' : s'.vm.findClass own = some m.cls := by rw [hvm]; exact hown
  have hins : (Cond.instantiable cls 6).before args s' = true := h _ (by simp [Bundle.ownAtoms])
  obtain ⟨vm₁, cX, kX, hfX, hkX, -, -, X₁, st1⟩ := Y.newCold hexec (own := own) (C := cls) (index := ik) (n := 6) hown' hk' hins hini'
    (g := F0 m pc ls rest) rfl (by rw [hb]; exact d0) (Nat.le_refl _) (Nat.le_refl _)
  generalize hT1 : (T.setVm vm₁).pushCell { cls := cX, slots := kX.instanceTypes.map defaultValue, vm := .none } = T1 at X₁ st1
  have hcat : (Value.ref T.heap.size).category = 1 := rfl
  have hcellA : T1.heap[T.heap.size]? = some (freshCell cX kX) := by rw [← hT1]; exact State.heap_pushCell_size _ _
  have d3' : decode c.code (pc + 3) = .ok (.dup, 1) := by rw [hb]; exact d3
  have d4' : decode c.code (pc + 4) = .ok (.ldc is, 2) := by rw [hb]; exact d4
  have hstr' : vk_R own is text sa s' := vk_R.warm hW0 hstr
  obtain ⟨U, hsteps, hrun, hend, hW, hsame, ce, hce, hO⟩ := X₁.ctorThrowS hexec htr (own := own) (cls := cls) (names := names) (ic := ic) hown' hcls hnames h (fun x hx => nomatch hx) hfX hkX hcellA (by rw [hhp, hT]; exact Nat.le_refl _) (msg := .ref sa) rfl
    (g := { method := m, pc := pc + 6, locals := ls, stack := .ref sa :: .ref T.heap.size :: .ref T.heap.size :: rest, locked := none }) rfl hsize rfl rfl (rest := rest) rfl
    (by rw [hb]; exact d6) (by rw [hb]; exact d9) hout hRframes (by simp only [List.map_cons, List.sum_cons, hcat]; omega) hlocks
  obtain ⟨f1, f2⟩ := vx_frame hsame
  rw [hhp] at f1 f2
  have hWs : s.WarmedH U.vm := State.WarmedH.trans hW0 hW
  have hcl : s.vm.findClass cls = some ce.cls := by
    have h9 := hO.cls
    rw [hvm] at h9
    exact h9
  have hall : s.sameButNew ({ U with vm := s.vm } : State) locs mc ms := by
    subst hA
    obtain ⟨e1, e2⟩ := hsame
    rw [State.setFrames_setFrames] at e1
    have h2 : (T.setVm s.vm).sameButNew ({ U with vm := s.vm } : State) [] (0 + 1) (0 + 6) := ⟨e1, e2⟩
    have h3 := X.same.trans h2
    rw [List.append_nil] at h3
    exact h3.mono hc hs
  refine ⟨U, ?_, .threw T.heap.size, hrun, hend, Or.inr ⟨T.heap.size, rfl, cls, ce, locs, hx U hWs.alike f1 (fun q hq => f2 q hq (fun z hz => nomatch hz)), hce, hO.vm, hcl, hWs, hall, hf⟩⟩
  refine st1 _ ?_
  show Steps p.tables e below (T1.setTop { method := m, pc := pc + 3, locals := ls, stack := .ref T.heap.size :: rest, locked := none }) _
  jvm_step X₁.here [X₁.here.top, hexec, d3', Value.category]
  exact X₁.ldcString hexec (own := own) (text := text) (index := is) (a := sa) hown' hstr'.1 hstr'.2
    (g := { method := m, pc := pc + 4, locals := ls, stack := .ref T.heap.size :: .ref T.heap.size :: rest, locked := none }) rfl d4' _ hsteps
/-- 'throw new E("text")', the text by a wide index -/
theorem vx_throwSW {cc : ByteArray} {pc : Nat} (hexec : p.tables.exec = Jvm.exec) (hb : c.code = cc) (hl : l.stackTraces = false) {own cls text : String} {names : List String} {ik is ic mc ms sa : Nat} {A : Nat → Prop}
    (hown : s.vm.findClass own = some m.cls) (hcls : Bundle.fit cls = true) (hnames : ∀ n ∈ names, Bundle.fit n = true)
    (hk : (Cond.classLink own ik cls).before args s = true) (hini : (Cond.initialized cls).before args s = true) (hstr : vk_R own is text sa s) (hat : ∀ w ∈ vx_atS own ic cls names, w.before args s = true)
    (hgood : ∀ w ∈ Cond.classLink own ik cls :: Cond.initialized cls :: vx_atS own ic cls names, vx_ot w = true)
    (hU : vx_Zq Bundle.tN "UNASSIGNED_STACK" Bundle.steD A s s.heap) (hN : vx_Zq Bundle.tN "SUPPRESSED_SENTINEL" Bundle.listD A s s.heap) (hS : va_S A s.heap H locs) (hsize : ls.size = c.maxLocals)
    (d0 : decode cc pc = .ok (.new ik, 3)) (d3 : decode cc (pc + 3) = .ok (.dup, 1)) (d4 : decode cc (pc + 4) = .ok (.ldc_w is, 3)) (d7 : decode cc (pc + 7) = .ok (.invokespecial ic, 3)) (d10 : decode cc (pc + 10) = .ok (.athrow, 1))
    (hout : ∀ x ∈ c.exceptionTable.toList, covers x (pc + 10) = false)
    (hRframes : names.length + 3 < R.frames) (hRlocals : (rest.map fun v => v.category).sum + (13 * (names.length + 1) + 43) ≤ R.locals) (hRcells : cells + 1 ≤ R.cells) (hRslots : slots + 6 ≤ R.slots) (hlocks : meth.locks = false)
    (hx : ∀ t : State, s.vm.Alike t.vm → H.size ≤ t.heap.size → (∀ q : Nat, q < H.size → t.heap[q]? = H[q]?) → XC cls s t)
    (hf : ∀ z ∈ locs, free z.base) (hc : cells + 1 ≤ mc) (hs : slots + 6 ≤ ms) :
    W p l e R s m args below meth c H locs cells slots (vx_MQ below Qc XC args s mc ms free) (F0 m pc ls rest) := by
  intro T hT X
  have htr : e.platform.stackTraces = false := (show e.platform.stackTraces = l.stackTraces by rw [X.admits.platform]).trans hl
  have Y := vx_rebase X (R' := { frames := R.frames, locals := R.locals, cells := 1, slots := 6 }) (Nat.le_refl _) (Nat.le_refl _) hRcells hRslots
  obtain ⟨s', hA⟩ : ∃ z, z = (T.setVm s.vm).setFrames (.invoking m args :: below) := ⟨_, rfl⟩
  rw [← hA] at Y
  have hvm : s'.vm = s.vm := by rw [hA]; rfl
  have hhp : s'.heap = H := by rw [hA]; exact hT
  have hW0 : s.WarmedH s'.vm := by rw [hvm]; exact State.WarmedH.refl s
  have hat' : ∀ w ∈ vx_atS own ic cls names, w.before args s' = true := fun w hw => vx_ot_at hW0 hvm.symm (hgood w (List.mem_cons_of_mem _ (List.mem_cons_of_mem _ hw))) (hat w hw)
  have hk' : (Cond.classLink own ik cls).before args s' = true := vx_ot_at hW0 hvm.symm (hgood _ List.mem_cons_self) hk
  have hini' : (Cond.initialized cls).before args s' = true := vx_ot_at hW0 hvm.symm (hgood _ (List.mem_cons_of_mem _ List.mem_cons_self)) hini
  have hU' : vx_Zq Bundle.tN "UNASSIGNED_STACK" Bundle.steD A s' s'.heap := by rw [hhp]; exact vx_Zq.moved hW0.alike (hU.kept hS.2.1)
  have hN' : vx_Zq Bundle.tN "SUPPRESSED_SENTINEL" Bundle.listD A s' s'.heap := by rw [hhp]; exact vx_Zq.moved hW0.alike (hN.kept hS.2.1)
  have h : ∀ w ∈ Bundle.ownAtoms own ic cls names, w.before args s' = true := vx_own hat' (vx_isRefq hU'.1) (vx_isRefq hN'.1) hU'.2.word hN'.2.word
  have hown' : s'.vm.findClass own = some m.cls := by rw [hvm]; exact hown
  have hins : (Cond.instantiable cls 6).before args s' = true := h _ (by simp [Bundle.ownAtoms])
  obtain ⟨vm₁, cX, kX, hfX, hkX, -, -, X₁, st1⟩ := Y.newCold hexec (own := own) (C := cls) (index := ik) (n := 6) hown' hk' hins hini'
    (g := F0 m pc ls rest) rfl (by rw [hb]; exact d0) (Nat.le_refl _) (Nat.le_refl _)
  generalize hT1 : (T.setVm vm₁).pushCell { cls := cX, slots := kX.instanceTypes.map defaultValue, vm := .none } = T1 at X₁ st1
  have hcat : (Value.ref T.heap.size).category = 1 := rfl
  have hcellA : T1.heap[T.heap.size]? = some (freshCell cX kX) := by rw [← hT1]; exact State.heap_pushCell_size _ _
  have d3' : decode c.code (pc + 3) = .ok (.dup, 1) := by rw [hb]; exact d3
  have d4' : decode c.code (pc + 4) = .ok (.ldc_w is, 3) := by rw [hb]; exact d4
  have hstr' : vk_R own is text sa s' := vk_R.warm hW0 hstr
  obtain ⟨U, hsteps, hrun, hend, hW, hsame, ce, hce, hO⟩ := X₁.ctorThrowS hexec htr (own := own) (cls := cls) (names := names) (ic := ic) hown' hcls hnames h (fun x hx => nomatch hx) hfX hkX hcellA (by rw [hhp, hT]; exact Nat.le_refl _) (msg := .ref sa) rfl
    (g := { method := m, pc := pc + 7, locals := ls, stack := .ref sa :: .ref T.heap.size :: .ref T.heap.size :: rest, locked := none }) rfl hsize rfl rfl (rest := rest) rfl
    (by rw [hb]; exact d7) (by rw [hb]; exact d10) hout hRframes (by simp only [List.map_cons, List.sum_cons, hcat]; omega) hlocks
  obtain ⟨f1, f2⟩ := vx_frame hsame
  rw [hhp] at f1 f2
  have hWs : s.WarmedH U.vm := State.WarmedH.trans hW0 hW
  have hcl : s.vm.findClass cls = some ce.cls := by
    have h9 := hO.cls
    rw [hvm] at h9
    exact h9
  have hall : s.sameButNew ({ U with vm := s.vm } : State) locs mc ms := by
    subst hA
    obtain ⟨e1, e2⟩ := hsame
    rw [State.setFrames_setFrames] at e1
    have h2 : (T.setVm s.vm).sameButNew ({ U with vm := s.vm } : State) [] (0 + 1) (0 + 6) := ⟨e1, e2⟩
    have h3 := X.same.trans h2
    rw [List.append_nil] at h3
    exact h3.mono hc hs
  refine ⟨U, ?_, .threw T.heap.size, hrun, hend, Or.inr ⟨T.heap.size, rfl, cls, ce, locs, hx U hWs.alike f1 (fun q hq => f2 q hq (fun z hz => nomatch hz)), hce, hO.vm, hcl, hWs, hall, hf⟩⟩
  refine st1 _ ?_
  show Steps p.tables e below (T1.setTop { method := m, pc := pc + 3, locals := ls, stack := .ref T.heap.size :: rest, locked := none }) _
  jvm_step X₁.here [X₁.here.top, hexec, d3', Value.category]
  exact X₁.ldcStringW hexec (own := own) (text := text) (index := is) (a := sa) hown' hstr'.1 hstr'.2
    (g := { method := m, pc := pc + 4, locals := ls, stack := .ref T.heap.size :: .ref T.heap.size :: rest, locked := none }) rfl d4' _ hsteps
end Ends
section Bodies
variable {l : Launch}
theorem vx_ofW {y : MethodName} {ws ws' : List Cond} {rm : Room} {Pc : Array Value → State → Prop} {Qc : Array Value → State → Outcome → State → Prop} {XC : String → State → State → Prop} {mc ms : Nat} {free : Addr → Prop} {cc : ByteArray} {maxL : Nat} {ret : Option FieldType}
    (hy : plainName y.cls = true) (hw : ws = Cond.code y cc maxL ret :: ws')
    (body : ∀ p e s m args below meth c s₁, BodyLoose p l y (headSpec ws rm) cc maxL ret e s m args below meth c s₁ → c.maxLocals = maxL → (∀ x ∈ c.exceptionTable.toList, False) → Pc args s →
      W p l e (headSpec ws rm).room s m args below meth c s.heap [] 0 0 (vx_MQ below Qc XC args s mc ms free) (entryFrame m args maxL)) : vx_Met l y ws rm Pc Qc XC mc ms free := by
  refine MetFree.of_bodyS (code := cc) (maxLocals := maxL) (ret := ret) hy ?_ ?_
  · intro args s m h hn
    obtain ⟨meth, c, h1, h2, h3, h4, h5, h6, -, -⟩ := Cond.code_spec hn (atoms_spec (ws := ws) h _ (by rw [hw]; exact List.mem_cons_self))
    exact ⟨meth, c, h1, h2, h3, h4, h5, h6⟩
  · intro p e s m args below meth c s₁ B hml hP _
    have hh0 : s₁.heap = s.heap := by rw [B.state]; rfl
    have ht : ∀ x ∈ c.exceptionTable.toList, False := by
      obtain ⟨meth9, c9, h1, h2, -, -, -, -, h7, -⟩ := Cond.code_spec B.named (atoms_spec (ws := ws) B.pre _ (by rw [hw]; exact List.mem_cons_self))
      cases Option.some.inj (h1.symm.trans B.method)
      cases Option.some.inj (h2.symm.trans (Stand.of_body B).code)
      intro x hx
      rw [Array.isEmpty_iff.mp h7] at hx
      cases hx
    obtain ⟨t, a1, o, b1, b2, b3⟩ := body p e s m args below meth c s₁ B hml ht hP s₁ hh0 (Stand.of_body B)
    exact ⟨t, o, a1, b1, b2, b3⟩
/-- the table of a body with handlers -/
theorem vx_table {p : Program} {x y : MethodName} {S : Spec} {cc bytes : ByteArray} {maxL maxL' : Nat} {ret ret' : Option FieldType} {e : Env} {s s₁ : State} {m : MethodId} {args : Array Value} {below : List Frame} {meth : Method} {c : Code} {hh : List (Nat × Nat × Nat × Nat)}
    (B : BodyLoose p l y S cc maxL ret e s m args below meth c s₁) (h : (Cond.codeWith y bytes maxL' ret' hh).before args s = true) : c.exceptionTable.toList = tableOf hh := by
  obtain ⟨m9, meth9, c9, hn9, h1, h2, -, -, h6, -⟩ := Cond.codeWith_spec h
  cases Option.some.inj (hn9.symm.trans B.named)
  cases Option.some.inj (h1.symm.trans B.method)
  cases Option.some.inj (h2.symm.trans (Stand.of_body B).code)
  rw [← h6, table_eq]
end Bodies
end VXA
/-! ===== END ===== -/
/-! ===== BEGIN a static call of a method with an exception table ===== -/
section VXS
variable {p : Program} {l : Launch} {e : Env} {R : Room} {s : State} {m : MethodId} {args : Array Value} {below : List Frame} {meth : Method} {c : Code} {T : State} {H : Heap} {locs : List Loc} {cells slots : Nat}
abbrev vx_CSW (R : Room) (s : State) (args : Array Value) (own : String) (index : Nat) (y : MethodName) (bytes : ByteArray) (maxL : Nat) (ret : Option FieldType) (hh : List (Nat × Nat × Nat × Nat)) (ws : List Cond) (rm : Room) (mc ms n : Nat) : Prop :=
  (rm.cells = mc ∧ rm.slots = ms ∧ rm.frames + 1 ≤ R.frames ∧ 8 + (maxL + 11) + rm.locals ≤ R.locals ∧ (∀ w ∈ ws, ∀ (a' : Array Value) (U : State), s.WarmedH U.vm → w.before a' U = true) ∧ Cond.codeWith y bytes maxL ret hh ∈ ws) ∧
  (Cond.codeWith y bytes maxL ret hh).before args s = true ∧ (Cond.initialized y.cls).before args s = true ∧ (y.cls ≠ "java/lang/invoke/MethodHandle" ∧ y.cls ≠ "java/lang/invoke/VarHandle") ∧
  (∀ sig, parseMethodDescriptor y.desc = some sig → n = sig.parameters.length) ∧ (Cond.methodLink own index y).before args s = true ∧ (Cond.static y).before args s = true
theorem vx_cwSW {own : String} {index maxL mc ms : Nat} {y : MethodName} {bytes : ByteArray} {ret : Option FieldType} {hh : List (Nat × Nat × Nat × Nat)} {Ts ws ws' : List Cond} {rm : Room} (n : Nat) (ht : ∀ w ∈ Ts, w.before args s = true) (hT : GoodIn Ts (va_wsS own index y ws)) (hw : ws = Cond.codeWith y bytes maxL ret hh :: ws') (hrc : rm.cells = mc) (hrs : rm.slots = ms)
    (hd : y.cls ≠ "java/lang/invoke/MethodHandle" ∧ y.cls ≠ "java/lang/invoke/VarHandle" ∧ (parseMethodDescriptor y.desc).map (fun d => d.parameters.length) = some n) (hR : rm.frames + 1 ≤ R.frames ∧ 8 + (maxL + 11) + rm.locals ≤ R.locals) :
    vx_CSW R s args own index y bytes maxL ret hh ws rm mc ms n := by
  have ok : ∀ w ∈ va_wsS own index y ws, w.before args s = true := fun w h => ht w (hT w h).1
  have hG : GoodIn Ts ws := fun w h => hT w (by unfold va_wsS; exact List.mem_append_right _ h)
  have hc : Cond.codeWith y bytes maxL ret hh ∈ ws := by rw [hw]; exact List.mem_cons_self
  refine ⟨⟨hrc, hrs, hR.1, hR.2, pay_in ht hG, hc⟩, ht _ (hG _ hc).1, ok _ (by simp [va_wsS]), ⟨hd.1, hd.2.1⟩, fun sig h => ?_, ok _ (by simp [va_wsS]), ok _ (by simp [va_wsS])⟩
  have h2 := hd.2.2
  rw [h] at h2
  exact (Option.some.inj h2).symm
theorem vx_callSW (X : Stand p l e R s m args below meth c T locs cells slots) (hexec : p.tables.exec = Jvm.exec) {own : String} {index : Nat} {y : MethodName} {bytes : ByteArray} {maxL : Nat} {ret : Option FieldType} {hh : List (Nat × Nat × Nat × Nat)}
    (hown : s.vm.findClass own = some m.cls) (hlink : (Cond.methodLink own index y).before args s = true) (hstat : (Cond.static y).before args s = true) (hinit : (Cond.initialized y.cls).before args s = true)
    (hcode : (Cond.codeWith y bytes maxL ret hh).before args s = true) (hy : y.cls ≠ "java/lang/invoke/MethodHandle" ∧ y.cls ≠ "java/lang/invoke/VarHandle")
    {W9 : Nat} {Pre : Pt → Array Value → Prop} {Post : Pt → Array Value → Option Value → Pt → Prop} (hK : Back l R p e below s args y 3 W9 Pre Post)
    {g : JFrame} (hg : g.method = m) (hsize : g.locals.size = c.maxLocals) {argsL rest : List Value} (hlen : ∀ sig, parseMethodDescriptor y.desc = some sig → argsL.length = sig.parameters.length)
    (hstack : g.stack = argsL.reverse ++ rest) (hW : 2 * g.monitorRoom + (rest.map fun v => v.category).sum ≤ W9) (hdg : decode c.code g.pc = .ok (.invokestatic index, 3))
    (hpre : ∀ vm₁, s.WarmedH vm₁ → Pre ⟨T.setVm vm₁, locs, cells, slots⟩ argsL.toArray) :
    ∃ (v : Option Value) (vm₁ : Vm) (B : Pt), s.WarmedH vm₁ ∧ Stand p l e R s m args below meth c B.U B.locs B.cells B.slots ∧ Post ⟨T.setVm vm₁, locs, cells, slots⟩ argsL.toArray v B ∧
      ∀ target, Steps p.tables e below (B.U.setTop { g with pc := g.pc + 3, stack := v.toList ++ rest }) target → Steps p.tables e below (T.setTop g) target := by
  obtain ⟨mk, methM, cM, hnamed, hmethM, -, -, -, -, -, -, hsigM⟩ := Cond.codeWith_spec hcode
  have hstatic : methM.isStatic = true := Cond.static_spec hnamed hmethM hstat
  obtain ⟨kP, hkP, -⟩ := className_of_methodNamed hnamed
  have hinitP : kP.init = .initialized := Cond.initialized_spec (findClass_of_methodNamed hnamed) hkP hinit
  obtain ⟨vm₁, X₁, hstep₁⟩ := X.invokestatic hexec hown hlink hnamed hmethM hstatic hkP hinitP hy (g := g) hg (argsL := argsL) (rest := rest) (hlen _ hsigM) hstack hdg
  obtain ⟨v, B, X', hpost, hsteps⟩ := hK m meth c ⟨T.setVm vm₁, locs, cells, slots⟩ { g with stack := rest } (.invokestatic index) mk argsL.toArray X₁ hg hsize hdg hW (X₁.named hnamed) (hpre vm₁ X₁.warmed)
  exact ⟨v, vm₁, B, X₁.warmed, X', hpost, fun target h => hstep₁ _ fun acts => by rw [doInvoke_state]; exact hsteps.trans h⟩
theorem vx_runSW {y : MethodName} {bytes cc : ByteArray} {maxL nL mc ms n index : Nat} {ret : Option FieldType} {hh : List (Nat × Nat × Nat × Nat)} {ws : List Cond} {rm : Room} {Pc : Array Value → State → Prop} {Qc : Array Value → State → Outcome → State → Prop} {free : Addr → Prop} {Ts : List Cond} {own : String} {As rest : List Value} {g : JFrame}
    (S : CallFix p m c cc nL s args Ts own) (hM : Met l y ws rm Pc Qc mc ms free) (cw : vx_CSW R s args own index y bytes maxL ret hh ws rm mc ms n) (hp : PreS s H Pc As)
    (hg : g.method = m) (hn : As.length = n) (hsize : g.locals.size = nL) (hstack : g.stack = As.reverse ++ rest) (hW : 2 * g.monitorRoom + (rest.map fun v => v.category).sum ≤ 8) (hdg : decode cc g.pc = .ok (.invokestatic index, 3)) (hf : cells + mc ≤ R.cells ∧ slots + ms ≤ R.slots) :
    va_Run p l e R s m args below meth c H locs cells slots mc ms g rest (Qc As.toArray) (free) := by
  obtain ⟨⟨hrc, hrs, hfr, hlo, hws, hcw⟩, hcode, hini, hy, hlen, hl, hstt⟩ := cw
  have hK : Back l R p e below s args y 3 8 (PreOf R mc ms Pc) (PostOf Qc mc ms free) := va_backW (hh := hh) (bytes := bytes) (maxL := maxL) (ret := ret) hM hp.1 hrc hrs hfr hlo hws hcw (fun a' U hW => word_at hW (Or.inl (by first | rfl | simp [Cond.onTables, Cond.keeps, Cond.steady])) hini)
  obtain ⟨hx, hb, hml, ho, -⟩ := S
  intro T hT X
  obtain ⟨v, vm₁, ⟨U', l2, c2, s2⟩, hW₁, X', ⟨g', mk, t, L, e1, e2, hq, h1, hL, h2, h3⟩, st⟩ := vx_callSW X hx (hh := hh) (bytes := bytes) (maxL := maxL) (ret := ret) ho hl hstt hini hcode hy hK hg (hsize.trans hml.symm) (argsL := As) (rest := rest) (fun sig h => hn.trans (hlen sig h)) hstack hW (by rw [hb]; exact hdg)
    (fun vm₁ hW₁ => ⟨hf.1, hf.2, hp.2 (T.setVm vm₁) hT hW₁⟩)
  dsimp only [Pt.U, Pt.locs, Pt.cells, Pt.slots] at X' e1 e2 h1 h2 h3 st
  subst h1; subst h2; subst h3
  exact ⟨v, (T.setVm vm₁).calling g' mk As.toArray, t, U', L, hT, X', hL, e1, e2, hq, st⟩
/-- not caught here, past rows that name other classes: it goes on to the caller -/
theorem vx_outP {p : Program} {l : Launch} {e : Env} {R : Room} {s : State} {m : MethodId} {args : Array Value} {below : List Frame} {meth : Method} {c : Code} {H : Heap} {locs : List Loc} {cells slots : Nat} {free : Addr → Prop} {ls : Array Slot} {rest : List Value} {Qc : Array Value → State → Outcome → State → Prop} {XC : String → State → State → Prop}
    {pc : Nat} {own E : String} {ce : Cell} {q : Addr} {mc ms : Nat} (hown : s.vm.findClass own = some m.cls) (hlocks : meth.locks = false)
    (hpass : ∀ z ∈ c.exceptionTable.toList, covers z pc = false ∨ (z.catchType ≠ 0 ∧ ∃ nm : String, (Cond.classLink own z.catchType nm).before args s = true ∧ va_Nc E nm s)) (hcell : H[q]? = some ce) (hv : ce.vm = .none) (hcl : s.vm.findClass E = some ce.cls)
    (hx : ∀ t : State, t.heap = H → s.vm.Alike t.vm → XC E s t) (hf : ∀ z ∈ locs, free z.base) (hc : cells ≤ mc) (hs : slots ≤ ms) :
    vx_W p l e R s m args below meth c H locs cells slots (vx_MQ below Qc XC args s mc ms free) (F0 m pc ls rest) q := by
  intro T hT X
  have hpl : e.platform.magicAccessors = ({} : Platform).magicAccessors := by rw [X.admits.platform]
  obtain ⟨vm', hW', X', st⟩ := X.outThrough hlocks q (g := F0 m pc ls rest) rfl rfl rfl (cell := ce) (by rw [hT]; exact hcell) (by rw [hv]; rfl)
    (by obtain ⟨k9, h9, -⟩ := Vm.findClass_spec hcl; exact ⟨k9, h9⟩) (fun z hz => by
      rcases hpass z hz with h | ⟨hz0, nm, hl1, hn1⟩
      · exact Or.inl h
      · obtain ⟨c6, hc6, hcl6⟩ := Cond.classLink_spec hown hl1 e.platform hpl
        obtain ⟨a8, b8, h1, h2, h3⟩ := hn1
        cases Option.some.inj (h1.symm.trans hcl)
        cases Option.some.inj (h2.symm.trans hc6)
        exact Or.inr ⟨hz0, _, hcl6, h3⟩)
  obtain ⟨g₀, hfr⟩ := X'.frames_eq
  have hcell9 : ((T.setVm vm').setFrames (.throwing q :: below)).heap[q]? = some ce := by
    show T.heap[q]? = some ce
    rw [hT]; exact hcell
  have hend : Ended ((T.setVm vm').setFrames (.throwing q :: below)) below (.threw q) := State.frames_setFrames _ (State.cur_lt_of_frames hfr)
  refine ⟨(T.setVm vm').setFrames (.throwing q :: below), ?_, .threw q, X'.here.running, hend, Or.inr ⟨q, rfl, E, ce, locs, hx _ hT (X'.ends _).1.alike, hcell9, hv, hcl, (X'.ends _).1, (X'.ends _).2.mono hc hs, hf⟩⟩
  rw [X.pushThrowing_eq]
  exact st
/-- a thing of a world lies in the heap -/
theorem vx_lt {D : va_G} {cl : List vw_C} {ws : va_W} {H1 : Heap} (h : va_P D cl ws H1) {k : Nat} {q : Nat × va_E} (hk : ws[k]? = some q) : q.1 < H1.size := (h k q hk).lt
end VXS
/-! ===== END ===== -/
/-! ===== BEGIN methods with a table of their own: called by a name, returning or throwing ===== -/
section VXH
/-! vx_backW, vx_callVX, vx_callSX, vx_callVW, vx_runVW, vx_runVX, vx_runSX, vx_ofWH follow the same proofs as their sisters above (Free/Laws.lean, Shelf42/LK1.lean); vx_outP calls Shelf42/NT130.lean (outThrough). -/
section
variable {l : Launch} {R : Room} {p : Program} {e : Env} {below : List Frame} {s : State} {sargs : Array Value} {y : MethodName} {len W9 : Nat}
theorem vx_backW {ws : List Cond} {rm : Room} {Pc : Array Value → State → Prop} {Qc : Array Value → State → Outcome → State → Prop} {XC : String → State → State → Prop} {mc ms : Nat} {free : Addr → Prop} {bytes : ByteArray} {maxL : Nat} {ret : Option FieldType} {hh : List (Nat × Nat × Nat × Nat)}
    (hM : vx_Met l y ws rm Pc Qc XC mc ms free) (hblind : FrameBlind Pc) (hrc : rm.cells = mc) (hrs : rm.slots = ms)
    (hframes : rm.frames + 1 ≤ R.frames) (hlocals : W9 + (maxL + 11) + rm.locals ≤ R.locals)
    (hws : ∀ w ∈ ws, ∀ a' U, s.WarmedH U.vm → w.before a' U = true) (hcode : Cond.codeWith y bytes maxL ret hh ∈ ws) (hinit : ∀ a' U, s.WarmedH U.vm → (Cond.initialized y.cls).before a' U = true) :
    vx_Back l R p e below s sargs y len W9 (PreOf R mc ms Pc) (PostOf Qc mc ms free) (vx_Post XC mc ms free) := by
  intro m meth c A g ig mk a X hg hsize hdg hW hn hp
  have h1 : (headSpec ws rm).pre.before a A.U = true := atoms_intro fun w hw => hws w hw _ _ X.warmed
  have h2 : (Cond.codeWith y bytes maxL ret hh).before a A.U = true := hws _ hcode _ _ X.warmed
  have h3 : (Cond.initialized y.cls).before a A.U = true := hinit _ _ X.warmed
  have h4 : A.cells + (headSpec ws rm).room.cells ≤ R.cells := by rw [show (headSpec ws rm).room.cells = mc from hrc]; exact hp.1
  have h5 : A.slots + (headSpec ws rm).room.slots ≤ R.slots := by rw [show (headSpec ws rm).room.slots = ms from hrs]; exact hp.2.1
  have hPc : Pc a (A.U.calling g mk a) := hblind _ _ _ _ hp.2.2
  obtain ⟨U, Ls, c0, s0⟩ := A
  dsimp only [Pt.U, Pt.locs, Pt.cells, Pt.slots] at h1 h2 h3 h4 h5 X hn hPc ⊢
  obtain ⟨m9, methY, cY, hn9, hmY, hcY, -, hlY, -⟩ := Cond.codeWith_spec h2
  cases Option.some.inj (hn9.symm.trans hn)
  obtain ⟨kY, hkY, -⟩ := className_of_methodNamed hn
  have hinitY : kY.init = .initialized := Cond.initialized_spec (findClass_of_methodNamed hn) hkY h3
  have h : At U g.method c below := by rw [hg]; exact X.here
  have hlocals9 : W9 + (maxL + 11) + (headSpec ws rm).room.locals ≤ R.locals := hlocals
  have happ : (headSpec ws rm).appliesLoose y e.platform (U.calling g mk a) = true :=
    Spec.appliesLoose_calling (g := g) h hdg hn hkY hinitY
      (X.room_calling (g := g) (R' := (headSpec ws rm).room) hsize hmY hcY hframes (by rw [hlY]; omega) h4 h5) h1
  obtain ⟨mid, hmid⟩ := h.above
  have hfr : (U.setTop g).frames = (.java g :: mid) ++ below := by rw [State.frames_setTop' g h.top, hmid]; rfl
  obtain ⟨o, s₂, hsteps, -, hend, hq⟩ := Steps.callFree hM p X.admits X.cas X.clock (acts := []) hfr happ hPc trivial
  have hq' : vx_Q Qc XC mc ms free a (U.calling g mk a) o s₂ := hq
  rw [State.frames_setTop' g h.top] at hend
  obtain ⟨g₀, hg0⟩ := Option.isSome_iff_exists.mp h.top
  obtain ⟨r, hr⟩ := State.topJava?_eq_some.mp hg0
  have hr' : (({ U with heap := s₂.heap, slotsUsed := s₂.slotsUsed } : State).setVm s₂.vm).frames = .java g₀ :: r := hr
  rcases hq' with ⟨hqc, L, hfe, hL⟩ | ⟨q, rfl, E, ce, L, hx, hce, hcv, hcl, hW₂, hsm, hL⟩
  · obtain ⟨⟨v, rfl⟩, hW₂, e2, q2, q3, q4, q5, q6⟩ := id hfe
    have e3 : s₂ = ({ (U.calling g mk a).setFrames s₂.frames with heap := s₂.heap, slotsUsed := s₂.slotsUsed } : State).setVm s₂.vm := by
      have : s₂ = ({ s₂ with vm := (U.calling g mk a).vm } : State).setVm s₂.vm := rfl
      rw [e2] at this
      exact this
    obtain ⟨c₂, i₂, len₂, hc₂, hd₂, hf₂⟩ := hend
    have hW' : U.WarmedH s₂.vm := hW₂
    have hcc : c₂ = c := by
      have h1 : s₂.code? g.method = U.code? g.method := by
        rw [State.code?_eq, State.code?_eq, hW'.alike.method?]
      exact Option.some.inj (hc₂.symm.trans (h1.trans h.code))
    subst hcc
    have hlen : len₂ = len := by rw [hdg] at hd₂; cases hd₂; rfl
    subst hlen
    have hs₂ : s₂ = (({ U with heap := s₂.heap, slotsUsed := s₂.slotsUsed } : State).setVm s₂.vm).setTop { g with pc := g.pc + len₂, stack := v.toList ++ g.stack } := by
      refine e3.trans ?_
      rw [hf₂, State.calling_eq h.top, State.setFrames_setFrames, State.setTop_of_frames _ hr', hr]
      rfl
    have hsame : U.sameButNew ({ U with heap := s₂.heap, slotsUsed := s₂.slotsUsed } : State) L mc ms := by
      refine ⟨?_, q2, q3, q4, q5, q6⟩
      obtain ⟨t, ht, -⟩ := State.frames_cons hr
      show ({ U with heap := s₂.heap, slotsUsed := s₂.slotsUsed } : State) = { U.setFrames U.frames with heap := s₂.heap, slotsUsed := s₂.slotsUsed }
      rw [State.setFrames_self ht]
    subst hg
    refine Or.inl ⟨v, ⟨(({ U with heap := s₂.heap, slotsUsed := s₂.slotsUsed } : State).setVm s₂.vm), Ls ++ L, c0 + mc, s0 + ms⟩,
      ⟨X.admits, X.cas, X.clock, X.frames, X.room, X.hears, X.method, X.code, (X.here.setHeapUsed s₂.heap s₂.slotsUsed).setVm hW'.alike, X.tail, State.WarmedH.trans X.warmed hW', X.limits, X.bytes, X.same.trans (hsame.setVm s.vm)⟩,
      ⟨g, mk, s₂, L, rfl, rfl, hqc, rfl, hL, rfl, rfl⟩, ?_⟩
    show Steps p.tables e below _ ((({ U with heap := s₂.heap, slotsUsed := s₂.slotsUsed } : State).setVm s₂.vm).setTop { g with pc := g.pc + len₂, stack := v.toList ++ g.stack })
    rw [← hs₂]
    exact hsteps
  · obtain ⟨e2, q2, q3, q4, q5, q6⟩ := id hsm
    have e3 : s₂ = ({ (U.calling g mk a).setFrames s₂.frames with heap := s₂.heap, slotsUsed := s₂.slotsUsed } : State).setVm s₂.vm := by
      have : s₂ = ({ s₂ with vm := (U.calling g mk a).vm } : State).setVm s₂.vm := rfl
      rw [e2] at this
      exact this
    have hf₂ : s₂.frames = .throwing q :: .java g :: U.frames.tail := hend
    have hW' : U.WarmedH s₂.vm := hW₂
    have hs₂ : s₂ = ((({ U with heap := s₂.heap, slotsUsed := s₂.slotsUsed } : State).setVm s₂.vm).setTop g).pushFrame (.throwing q) := by
      refine e3.trans ?_
      rw [hf₂, State.calling_eq h.top, State.setFrames_setFrames, State.pushFrame, State.frames_setTop _ hr', State.setTop_of_frames _ hr', State.setFrames_setFrames, hr]
      rfl
    have hsame : U.sameButNew ({ U with heap := s₂.heap, slotsUsed := s₂.slotsUsed } : State) L mc ms := by
      refine ⟨?_, q2, q3, q4, q5, q6⟩
      obtain ⟨t, ht, -⟩ := State.frames_cons hr
      show ({ U with heap := s₂.heap, slotsUsed := s₂.slotsUsed } : State) = { U.setFrames U.frames with heap := s₂.heap, slotsUsed := s₂.slotsUsed }
      rw [State.setFrames_self ht]
    subst hg
    refine Or.inr ⟨q, ⟨(({ U with heap := s₂.heap, slotsUsed := s₂.slotsUsed } : State).setVm s₂.vm), Ls ++ L, c0 + mc, s0 + ms⟩,
      ⟨X.admits, X.cas, X.clock, X.frames, X.room, X.hears, X.method, X.code, (X.here.setHeapUsed s₂.heap s₂.slotsUsed).setVm hW'.alike, X.tail, State.WarmedH.trans X.warmed hW', X.limits, X.bytes, X.same.trans (hsame.setVm s.vm)⟩,
      ⟨g, mk, s₂, L, E, ce, rfl, rfl, hx, hce, hcv, hcl, rfl, hL, rfl, rfl⟩, ?_⟩
    show Steps p.tables e below _ (((({ U with heap := s₂.heap, slotsUsed := s₂.slotsUsed } : State).setVm s₂.vm).setTop g).pushFrame (.throwing q))
    rw [← hs₂]
    exact hsteps
end
variable {p : Program} {l : Launch} {e : Env} {R : Room} {s : State} {m : MethodId} {args : Array Value} {below : List Frame} {meth : Method} {c : Code} {T : State} {H : Heap} {locs : List Loc} {cells slots : Nat}
theorem vx_callVX (X : Stand p l e R s m args below meth c T locs cells slots) (hexec : p.tables.exec = Jvm.exec) {own C : String} {index : Nat} {y : MethodName} {bytes : ByteArray} {maxL : Nat} {ret : Option FieldType} {hh : List (Nat × Nat × Nat × Nat)}
    (hown : s.vm.findClass own = some m.cls) (hlink : (Cond.methodLink own index y).before args s = true) (hinst : (Cond.instanceMethod y).before args s = true) (hsel : (Cond.selects C y y).before args s = true)
    (hcode : (Cond.codeWith y bytes maxL ret hh).before args s = true) (hy : y.cls ≠ "java/lang/invoke/MethodHandle" ∧ y.cls ≠ "java/lang/invoke/VarHandle")
    {W9 : Nat} {Pre : Pt → Array Value → Prop} {Post : Pt → Array Value → Option Value → Pt → Prop} {PostX : Pt → Array Value → Addr → Pt → Prop} (hK : vx_Back l R p e below s args y 3 W9 Pre Post PostX)
    {b : Addr} {cellB : Cell} (hcell : T.heap[b]? = some cellB) (hobj : cellB.vm.isStatics = false) (hcls : s.vm.findClass C = some cellB.cls)
    {g : JFrame} (hg : g.method = m) (hsize : g.locals.size = c.maxLocals) {argsL rest : List Value} (hlen : ∀ sig, parseMethodDescriptor y.desc = some sig → argsL.length = sig.parameters.length)
    (hstack : g.stack = argsL.reverse ++ .ref b :: rest) (hW : 2 * g.monitorRoom + (rest.map fun v => v.category).sum ≤ W9) (hdg : decode c.code g.pc = .ok (.invokevirtual index, 3))
    (hpre : ∀ vm₁, s.WarmedH vm₁ → Pre ⟨T.setVm vm₁, locs, cells, slots⟩ (Value.ref b :: argsL).toArray) :
    (∃ (v : Option Value) (vm₁ : Vm) (B : Pt), s.WarmedH vm₁ ∧ Stand p l e R s m args below meth c B.U B.locs B.cells B.slots ∧ Post ⟨T.setVm vm₁, locs, cells, slots⟩ (Value.ref b :: argsL).toArray v B ∧
      ∀ target, Steps p.tables e below (B.U.setTop { g with pc := g.pc + 3, stack := v.toList ++ rest }) target → Steps p.tables e below (T.setTop g) target) ∨
    (∃ (q : Addr) (vm₁ : Vm) (B : Pt), s.WarmedH vm₁ ∧ Stand p l e R s m args below meth c B.U B.locs B.cells B.slots ∧ PostX ⟨T.setVm vm₁, locs, cells, slots⟩ (Value.ref b :: argsL).toArray q B ∧
      Steps p.tables e below (T.setTop g) ((B.U.setTop { g with stack := rest }).pushFrame (.throwing q))) := by
  obtain ⟨mk, methM, hnamed, hmethM, hstM, habM⟩ := Cond.instanceMethod_spec hinst
  obtain ⟨m8, methM', cM, hn8, hmethM', -, -, -, -, -, -, hsigM⟩ := Cond.codeWith_spec hcode
  cases Option.some.inj (hn8.symm.trans hnamed)
  cases hmethM.symm.trans hmethM'
  obtain ⟨c2, r2, m2, q1, q2, q3, q4, kP, hkP, hkPi⟩ := Cond.selects_spec hsel
  cases hcls.symm.trans q1
  cases (State.methodFound?_of_named hnamed hy).symm.trans q2
  cases hnamed.symm.trans q3
  have hselP : selectMethod e.platform s.vm cellB.cls mk = .method mk := by rw [Launch.admits_selectMethod X.admits]; exact q4
  obtain ⟨vm₁, X₁, hstep₁⟩ := X.invokevirtual hexec hown hlink hnamed hmethM hstM hkP hkPi hy (a := b) (cell := cellB) hcell
    (fun z h => by rw [h] at hobj; cases hobj) hselP hmethM habM hkP hkPi (g := g) hg (argsL := argsL) (rest := rest) (hlen _ hsigM) hstack hdg
  rcases hK m meth c ⟨T.setVm vm₁, locs, cells, slots⟩ { g with stack := rest } (.invokevirtual index) mk (Value.ref b :: argsL).toArray X₁ hg hsize hdg hW (X₁.named hnamed) (hpre vm₁ X₁.warmed) with ⟨v, B, X', hpost, hsteps⟩ | ⟨q, B, X', hpost, hsteps⟩
  · exact Or.inl ⟨v, vm₁, B, X₁.warmed, X', hpost, fun target h => hstep₁ _ fun acts => by rw [doInvoke_state]; exact hsteps.trans h⟩
  · exact Or.inr ⟨q, vm₁, B, X₁.warmed, X', hpost, hstep₁ _ fun acts => by rw [doInvoke_state]; exact hsteps⟩
theorem vx_callSX (X : Stand p l e R s m args below meth c T locs cells slots) (hexec : p.tables.exec = Jvm.exec) {own : String} {index : Nat} {y : MethodName} {bytes : ByteArray} {maxL : Nat} {ret : Option FieldType} {hh : List (Nat × Nat × Nat × Nat)}
    (hown : s.vm.findClass own = some m.cls) (hlink : (Cond.methodLink own index y).before args s = true) (hstat : (Cond.static y).before args s = true) (hinit : (Cond.initialized y.cls).before args s = true)
    (hcode : (Cond.codeWith y bytes maxL ret hh).before args s = true) (hy : y.cls ≠ "java/lang/invoke/MethodHandle" ∧ y.cls ≠ "java/lang/invoke/VarHandle")
    {W9 : Nat} {Pre : Pt → Array Value → Prop} {Post : Pt → Array Value → Option Value → Pt → Prop} {PostX : Pt → Array Value → Addr → Pt → Prop} (hK : vx_Back l R p e below s args y 3 W9 Pre Post PostX)
    {g : JFrame} (hg : g.method = m) (hsize : g.locals.size = c.maxLocals) {argsL rest : List Value} (hlen : ∀ sig, parseMethodDescriptor y.desc = some sig → argsL.length = sig.parameters.length)
    (hstack : g.stack = argsL.reverse ++ rest) (hW : 2 * g.monitorRoom + (rest.map fun v => v.category).sum ≤ W9) (hdg : decode c.code g.pc = .ok (.invokestatic index, 3))
    (hpre : ∀ vm₁, s.WarmedH vm₁ → Pre ⟨T.setVm vm₁, locs, cells, slots⟩ argsL.toArray) :
    (∃ (v : Option Value) (vm₁ : Vm) (B : Pt), s.WarmedH vm₁ ∧ Stand p l e R s m args below meth c B.U B.locs B.cells B.slots ∧ Post ⟨T.setVm vm₁, locs, cells, slots⟩ argsL.toArray v B ∧
      ∀ target, Steps p.tables e below (B.U.setTop { g with pc := g.pc + 3, stack := v.toList ++ rest }) target → Steps p.tables e below (T.setTop g) target) ∨
    (∃ (q : Addr) (vm₁ : Vm) (B : Pt), s.WarmedH vm₁ ∧ Stand p l e R s m args below meth c B.U B.locs B.cells B.slots ∧ PostX ⟨T.setVm vm₁, locs, cells, slots⟩ argsL.toArray q B ∧
      Steps p.tables e below (T.setTop g) ((B.U.setTop { g with stack := rest }).pushFrame (.throwing q))) := by
  obtain ⟨mk, methM, cM, hnamed, hmethM, -, -, -, -, -, -, hsigM⟩ := Cond.codeWith_spec hcode
  have hstatic : methM.isStatic = true := Cond.static_spec hnamed hmethM hstat
  obtain ⟨kP, hkP, -⟩ := className_of_methodNamed hnamed
  have hinitP : kP.init = .initialized := Cond.initialized_spec (findClass_of_methodNamed hnamed) hkP hinit
  obtain ⟨vm₁, X₁, hstep₁⟩ := X.invokestatic hexec hown hlink hnamed hmethM hstatic hkP hinitP hy (g := g) hg (argsL := argsL) (rest := rest) (hlen _ hsigM) hstack hdg
  rcases hK m meth c ⟨T.setVm vm₁, locs, cells, slots⟩ { g with stack := rest } (.invokestatic index) mk argsL.toArray X₁ hg hsize hdg hW (X₁.named hnamed) (hpre vm₁ X₁.warmed) with ⟨v, B, X', hpost, hsteps⟩ | ⟨q, B, X', hpost, hsteps⟩
  · exact Or.inl ⟨v, vm₁, B, X₁.warmed, X', hpost, fun target h => hstep₁ _ fun acts => by rw [doInvoke_state]; exact hsteps.trans h⟩
  · exact Or.inr ⟨q, vm₁, B, X₁.warmed, X', hpost, hstep₁ _ fun acts => by rw [doInvoke_state]; exact hsteps⟩
theorem vx_callVW (X : Stand p l e R s m args below meth c T locs cells slots) (hexec : p.tables.exec = Jvm.exec) {own C : String} {index : Nat} {y : MethodName} {bytes : ByteArray} {maxL : Nat} {ret : Option FieldType} {hh : List (Nat × Nat × Nat × Nat)}
    (hown : s.vm.findClass own = some m.cls) (hlink : (Cond.methodLink own index y).before args s = true) (hinst : (Cond.instanceMethod y).before args s = true) (hsel : (Cond.selects C y y).before args s = true)
    (hcode : (Cond.codeWith y bytes maxL ret hh).before args s = true) (hy : y.cls ≠ "java/lang/invoke/MethodHandle" ∧ y.cls ≠ "java/lang/invoke/VarHandle")
    {W9 : Nat} {Pre : Pt → Array Value → Prop} {Post : Pt → Array Value → Option Value → Pt → Prop} (hK : Back l R p e below s args y 3 W9 Pre Post)
    {b : Addr} {cellB : Cell} (hcell : T.heap[b]? = some cellB) (hobj : cellB.vm.isStatics = false) (hcls : s.vm.findClass C = some cellB.cls)
    {g : JFrame} (hg : g.method = m) (hsize : g.locals.size = c.maxLocals) {argsL rest : List Value} (hlen : ∀ sig, parseMethodDescriptor y.desc = some sig → argsL.length = sig.parameters.length)
    (hstack : g.stack = argsL.reverse ++ .ref b :: rest) (hW : 2 * g.monitorRoom + (rest.map fun v => v.category).sum ≤ W9) (hdg : decode c.code g.pc = .ok (.invokevirtual index, 3))
    (hpre : ∀ vm₁, s.WarmedH vm₁ → Pre ⟨T.setVm vm₁, locs, cells, slots⟩ (Value.ref b :: argsL).toArray) :
    ∃ (v : Option Value) (vm₁ : Vm) (B : Pt), s.WarmedH vm₁ ∧ Stand p l e R s m args below meth c B.U B.locs B.cells B.slots ∧ Post ⟨T.setVm vm₁, locs, cells, slots⟩ (Value.ref b :: argsL).toArray v B ∧
      ∀ target, Steps p.tables e below (B.U.setTop { g with pc := g.pc + 3, stack := v.toList ++ rest }) target → Steps p.tables e below (T.setTop g) target := by
  obtain ⟨mk, methM, hnamed, hmethM, hstM, habM⟩ := Cond.instanceMethod_spec hinst
  obtain ⟨m8, methM', cM, hn8, hmethM', -, -, -, -, -, -, hsigM⟩ := Cond.codeWith_spec hcode
  cases Option.some.inj (hn8.symm.trans hnamed)
  cases hmethM.symm.trans hmethM'
  obtain ⟨c2, r2, m2, q1, q2, q3, q4, kP, hkP, hkPi⟩ := Cond.selects_spec hsel
  cases hcls.symm.trans q1
  cases (State.methodFound?_of_named hnamed hy).symm.trans q2
  cases hnamed.symm.trans q3
  have hselP : selectMethod e.platform s.vm cellB.cls mk = .method mk := by rw [Launch.admits_selectMethod X.admits]; exact q4
  obtain ⟨vm₁, X₁, hstep₁⟩ := X.invokevirtual hexec hown hlink hnamed hmethM hstM hkP hkPi hy (a := b) (cell := cellB) hcell
    (fun z h => by rw [h] at hobj; cases hobj) hselP hmethM habM hkP hkPi (g := g) hg (argsL := argsL) (rest := rest) (hlen _ hsigM) hstack hdg
  obtain ⟨v, B, X', hpost, hsteps⟩ := hK m meth c ⟨T.setVm vm₁, locs, cells, slots⟩ { g with stack := rest } (.invokevirtual index) mk (Value.ref b :: argsL).toArray X₁ hg hsize hdg hW (X₁.named hnamed) (hpre vm₁ X₁.warmed)
  exact ⟨v, vm₁, B, X₁.warmed, X', hpost, fun target h => hstep₁ _ fun acts => by rw [doInvoke_state]; exact hsteps.trans h⟩
abbrev vx_CVW (R : Room) (s : State) (args : Array Value) (own C : String) (index : Nat) (y : MethodName) (bytes : ByteArray) (maxL : Nat) (ret : Option FieldType) (hh : List (Nat × Nat × Nat × Nat)) (ws : List Cond) (rm : Room) (mc ms n : Nat) : Prop :=
  (rm.cells = mc ∧ rm.slots = ms ∧ rm.frames + 1 ≤ R.frames ∧ 8 + (maxL + 11) + rm.locals ≤ R.locals ∧ (∀ w ∈ ws, ∀ (a' : Array Value) (U : State), s.WarmedH U.vm → w.before a' U = true) ∧ Cond.codeWith y bytes maxL ret hh ∈ ws) ∧
  (Cond.codeWith y bytes maxL ret hh).before args s = true ∧ (Cond.initialized y.cls).before args s = true ∧ (y.cls ≠ "java/lang/invoke/MethodHandle" ∧ y.cls ≠ "java/lang/invoke/VarHandle") ∧
  (∀ sig, parseMethodDescriptor y.desc = some sig → n = sig.parameters.length) ∧ (Cond.methodLink own index y).before args s = true ∧ (Cond.instanceMethod y).before args s = true ∧ (Cond.selects C y y).before args s = true
theorem vx_cwVW {own C : String} {index maxL mc ms : Nat} {y : MethodName} {bytes : ByteArray} {ret : Option FieldType} {hh : List (Nat × Nat × Nat × Nat)} {Ts ws ws' : List Cond} {rm : Room} (n : Nat) (ht : ∀ w ∈ Ts, w.before args s = true) (hT : GoodIn Ts (wsV own index C y ws)) (hw : ws = Cond.codeWith y bytes maxL ret hh :: ws') (hrc : rm.cells = mc) (hrs : rm.slots = ms)
    (hd : y.cls = C ∧ y.cls ≠ "java/lang/invoke/MethodHandle" ∧ y.cls ≠ "java/lang/invoke/VarHandle" ∧ (parseMethodDescriptor y.desc).map (fun d => d.parameters.length) = some n) (hR : rm.frames + 1 ≤ R.frames ∧ 8 + (maxL + 11) + rm.locals ≤ R.locals) :
    vx_CVW R s args own C index y bytes maxL ret hh ws rm mc ms n := by
  obtain ⟨hC, hd⟩ := hd
  subst hC
  have ok : ∀ w ∈ wsV own index y.cls y ws, w.before args s = true := fun w h => ht w (hT w h).1
  have hG : GoodIn Ts ws := fun w h => hT w (by unfold wsV; exact List.mem_append_right _ h)
  have hc : Cond.codeWith y bytes maxL ret hh ∈ ws := by rw [hw]; exact List.mem_cons_self
  refine ⟨⟨hrc, hrs, hR.1, hR.2, pay_in ht hG, hc⟩, ht _ (hG _ hc).1, ok _ (by simp [wsV]), ⟨hd.1, hd.2.1⟩, fun sig h => ?_, ok _ (by simp [wsV]), ok _ (by simp [wsV]), ok _ (by simp [wsV])⟩
  have h2 := hd.2.2
  rw [h] at h2
  exact (Option.some.inj h2).symm
theorem vx_runVW {y : MethodName} {bytes cc : ByteArray} {maxL nL mc ms n index : Nat} {ret : Option FieldType} {hh : List (Nat × Nat × Nat × Nat)} {ws : List Cond} {rm : Room} {Pc : Array Value → State → Prop} {Qc : Array Value → State → Outcome → State → Prop} {free : Addr → Prop} {Ts : List Cond} {own C : String} {b : Addr} {As rest : List Value} {g : JFrame}
    (S : CallFix p m c cc nL s args Ts own) (hM : Met l y ws rm Pc Qc mc ms free) (cw : vx_CVW R s args own C index y bytes maxL ret hh ws rm mc ms n) (hp : PreV s H C b Pc As)
    (hg : g.method = m) (hn : As.length = n) (hsize : g.locals.size = nL) (hstack : g.stack = As.reverse ++ .ref b :: rest) (hW : 2 * g.monitorRoom + (rest.map fun v => v.category).sum ≤ 8) (hdg : decode cc g.pc = .ok (.invokevirtual index, 3)) (hf : cells + mc ≤ R.cells ∧ slots + ms ≤ R.slots) :
    va_Run p l e R s m args below meth c H locs cells slots mc ms g rest (Qc (Value.ref b :: As).toArray) free := by
  obtain ⟨⟨hrc, hrs, hfr, hlo, hws, hcw⟩, hcode, hini, hy, hlen, hl, hin, hse⟩ := cw
  have hK : Back l R p e below s args y 3 8 (PreOf R mc ms Pc) (PostOf Qc mc ms free) := va_backW (hh := hh) (bytes := bytes) (maxL := maxL) (ret := ret) hM hp.1 hrc hrs hfr hlo hws hcw (fun a' U hW => word_at hW (Or.inl (by first | rfl | simp [Cond.onTables, Cond.keeps, Cond.steady])) hini)
  obtain ⟨hx, hb, hml, ho, -⟩ := S
  obtain ⟨-, ⟨cellB, hcB, hoB, hclB⟩, hPc⟩ := hp
  intro T hT X
  obtain ⟨v, vm₁, ⟨U', l2, c2, s2⟩, hW₁, X', ⟨g', mk, t, L, e1, e2, hq, h1, hL, h2, h3⟩, st⟩ := vx_callVW X hx (C := C) (hh := hh) (bytes := bytes) (maxL := maxL) (ret := ret) ho hl hin hse hcode hy hK (by rw [hT]; exact hcB) hoB hclB hg (hsize.trans hml.symm) (argsL := As) (rest := rest) (fun sig h => hn.trans (hlen sig h)) hstack hW (by rw [hb]; exact hdg)
    (fun vm₁ hW₁ => ⟨hf.1, hf.2, hPc (T.setVm vm₁) hT hW₁⟩)
  dsimp only [Pt.U, Pt.locs, Pt.cells, Pt.slots] at X' e1 e2 h1 h2 h3 st
  subst h1; subst h2; subst h3
  exact ⟨v, (T.setVm vm₁).calling g' mk (Value.ref b :: As).toArray, t, U', L, hT, X', hL, e1, e2, hq, st⟩
section
variable {y : MethodName} {bytes cc : ByteArray} {maxL nL mc ms n index : Nat} {ret : Option FieldType} {ws : List Cond} {rm : Room} {Pc : Array Value → State → Prop} {Qc : Array Value → State → Outcome → State → Prop} {XC : String → State → State → Prop} {free : Addr → Prop} {Ts : List Cond} {own C : String} {b : Addr} {As rest : List Value} {g : JFrame}
theorem vx_runVX {hh : List (Nat × Nat × Nat × Nat)} (S : CallFix p m c cc nL s args Ts own) (hM : vx_Met l y ws rm Pc Qc XC mc ms free) (cw : vx_CVW R s args own C index y bytes maxL ret hh ws rm mc ms n) (hp : PreV s H C b Pc As)
    (hg : g.method = m) (hn : As.length = n) (hsize : g.locals.size = nL) (hstack : g.stack = As.reverse ++ .ref b :: rest) (hW : 2 * g.monitorRoom + (rest.map fun v => v.category).sum ≤ 8) (hdg : decode cc g.pc = .ok (.invokevirtual index, 3)) (hf : cells + mc ≤ R.cells ∧ slots + ms ≤ R.slots) :
    vx_Run p l e R s m args below meth c H locs cells slots mc ms g rest (Qc (Value.ref b :: As).toArray) XC free := by
  obtain ⟨⟨hrc, hrs, hfr, hlo, hws, hcw⟩, hcode, hini, hy, hlen, hl, hin, hse⟩ := cw
  have hK : vx_Back l R p e below s args y 3 8 (PreOf R mc ms Pc) (PostOf Qc mc ms free) (vx_Post XC mc ms free) := vx_backW (hh := hh) (bytes := bytes) (maxL := maxL) (ret := ret) hM hp.1 hrc hrs hfr hlo hws hcw (fun a' U hW => word_at hW (Or.inl (by first | rfl | simp [Cond.onTables, Cond.keeps, Cond.steady])) hini)
  obtain ⟨hx, hb, hml, ho, -⟩ := S
  obtain ⟨-, ⟨cellB, hcB, hoB, hclB⟩, hPc⟩ := hp
  intro T hT X
  rcases vx_callVX X hx (C := C) (hh := hh) (bytes := bytes) (maxL := maxL) (ret := ret) ho hl hin hse hcode hy hK (by rw [hT]; exact hcB) hoB hclB hg (hsize.trans hml.symm) (argsL := As) (rest := rest) (fun sig h => hn.trans (hlen sig h)) hstack hW (by rw [hb]; exact hdg)
    (fun vm₁ hW₁ => ⟨hf.1, hf.2, hPc (T.setVm vm₁) hT hW₁⟩) with ⟨v, vm₁, ⟨U', l2, c2, s2⟩, hW₁, X', ⟨g', mk, t, L, e1, e2, hq, h1, hL, h2, h3⟩, st⟩ | ⟨q, vm₁, ⟨U', l2, c2, s2⟩, hW₁, X', ⟨g', mk, t, L, E, ce, e1, e2, hq, hce, hcv, hcl, h1, hL, h2, h3⟩, st⟩
  · dsimp only [Pt.U, Pt.locs, Pt.cells, Pt.slots] at X' e1 e2 h1 h2 h3 st
    subst h1; subst h2; subst h3
    exact Or.inl ⟨v, (T.setVm vm₁).calling g' mk (Value.ref b :: As).toArray, t, U', L, hT, X', hL, e1, e2, hq, st⟩
  · dsimp only [Pt.U, Pt.locs, Pt.cells, Pt.slots] at X' e1 e2 h1 h2 h3 st hcl
    subst h1; subst h2; subst h3
    exact Or.inr ⟨q, (T.setVm vm₁).calling g' mk (Value.ref b :: As).toArray, t, U', L, E, ce, hT, X', hL, e1, e2, hq, hce, hcv, vx_cls hW₁ hcl, st⟩
theorem vx_runSX {hh : List (Nat × Nat × Nat × Nat)} (S : CallFix p m c cc nL s args Ts own) (hM : vx_Met l y ws rm Pc Qc XC mc ms free) (cw : vx_CSW R s args own index y bytes maxL ret hh ws rm mc ms n) (hp : PreS s H Pc As)
    (hg : g.method = m) (hn : As.length = n) (hsize : g.locals.size = nL) (hstack : g.stack = As.reverse ++ rest) (hW : 2 * g.monitorRoom + (rest.map fun v => v.category).sum ≤ 8) (hdg : decode cc g.pc = .ok (.invokestatic index, 3)) (hf : cells + mc ≤ R.cells ∧ slots + ms ≤ R.slots) :
    vx_Run p l e R s m args below meth c H locs cells slots mc ms g rest (Qc As.toArray) XC free := by
  obtain ⟨⟨hrc, hrs, hfr, hlo, hws, hcw⟩, hcode, hini, hy, hlen, hl, hstt⟩ := cw
  have hK : vx_Back l R p e below s args y 3 8 (PreOf R mc ms Pc) (PostOf Qc mc ms free) (vx_Post XC mc ms free) := vx_backW (hh := hh) (bytes := bytes) (maxL := maxL) (ret := ret) hM hp.1 hrc hrs hfr hlo hws hcw (fun a' U hW => word_at hW (Or.inl (by first | rfl | simp [Cond.onTables, Cond.keeps, Cond.steady])) hini)
  obtain ⟨hx, hb, hml, ho, -⟩ := S
  intro T hT X
  rcases vx_callSX X hx (hh := hh) (bytes := bytes) (maxL := maxL) (ret := ret) ho hl hstt hini hcode hy hK hg (hsize.trans hml.symm) (argsL := As) (rest := rest) (fun sig h => hn.trans (hlen sig h)) hstack hW (by rw [hb]; exact hdg)
    (fun vm₁ hW₁ => ⟨hf.1, hf.2, hp.2 (T.setVm vm₁) hT hW₁⟩) with ⟨v, vm₁, ⟨U', l2, c2, s2⟩, hW₁, X', ⟨g', mk, t, L, e1, e2, hq, h1, hL, h2, h3⟩, st⟩ | ⟨q, vm₁, ⟨U', l2, c2, s2⟩, hW₁, X', ⟨g', mk, t, L, E, ce, e1, e2, hq, hce, hcv, hcl, h1, hL, h2, h3⟩, st⟩
  · dsimp only [Pt.U, Pt.locs, Pt.cells, Pt.slots] at X' e1 e2 h1 h2 h3 st
    subst h1; subst h2; subst h3
    exact Or.inl ⟨v, (T.setVm vm₁).calling g' mk As.toArray, t, U', L, hT, X', hL, e1, e2, hq, st⟩
  · dsimp only [Pt.U, Pt.locs, Pt.cells, Pt.slots] at X' e1 e2 h1 h2 h3 st hcl
    subst h1; subst h2; subst h3
    exact Or.inr ⟨q, (T.setVm vm₁).calling g' mk As.toArray, t, U', L, E, ce, hT, X', hL, e1, e2, hq, hce, hcv, vx_cls hW₁ hcl, st⟩
end
end VXH
theorem vx_ofWH {l : Launch} {y : MethodName} {ws ws' : List Cond} {rm : Room} {Pc : Array Value → State → Prop} {Qc : Array Value → State → Outcome → State → Prop} {XC : String → State → State → Prop} {mc ms : Nat} {free : Addr → Prop} {cc : ByteArray} {maxL : Nat} {ret : Option FieldType} {hh : List (Nat × Nat × Nat × Nat)}
    (hy : plainName y.cls = true) (hw : ws = Cond.codeWith y cc maxL ret hh :: ws')
    (body : ∀ p e s m args below meth c s₁, BodyLoose p l y (headSpec ws rm) cc maxL ret e s m args below meth c s₁ → c.maxLocals = maxL → Pc args s →
      W p l e (headSpec ws rm).room s m args below meth c s.heap [] 0 0 (vx_MQ below Qc XC args s mc ms free) (entryFrame m args maxL)) : vx_Met l y ws rm Pc Qc XC mc ms free := by
  refine MetFree.of_bodyS (code := cc) (maxLocals := maxL) (ret := ret) hy ?_ ?_
  · intro args s m h hn
    obtain ⟨m9, meth, c, hn9, h1, h2, h3, h4, -, h5, h6, -⟩ := Cond.codeWith_spec (atoms_spec (ws := ws) h _ (by rw [hw]; exact List.mem_cons_self))
    cases hn.symm.trans hn9
    exact ⟨meth, c, h1, h2, h3, h4, h5, h6⟩
  · intro p e s m args below meth c s₁ B hml hP _
    have hh0 : s₁.heap = s.heap := by rw [B.state]; rfl
    obtain ⟨t, a1, o, b1, b2, b3⟩ := body p e s m args below meth c s₁ B hml hP s₁ hh0 (Stand.of_body B)
    exact ⟨t, o, a1, b1, b2, b3⟩
/-! ===== END ===== -/
end
section
def RX0 : String := "Replen$DayBook"
def TX0 : u_T := fun k => match k with
  | _ => ("Replen$DayBook", "units", "[I", true)
def tyX0 : Nat → FieldType := fun k => match k with
  | _ => .array .int
abbrev wsX00 : List Cond := u_ws RX0 TX0 1
theorem nmX0 : ∀ a, a < 1 → ∀ b, b < 1 → a ≠ b → (TX0 a).2.1 ≠ (TX0 b).2.1 := by decide +kernel
theorem tyX0_ok : ∀ k, k < 1 → parseFieldDescriptor (TX0 k).2.2.1 = some (tyX0 k) := by decide +kernel
abbrev cX0_init : ByteArray := prog_2_method_1_code
def yX0_init : MethodName := ⟨RX0, "<init>", "()V"⟩
abbrev cX0_on : ByteArray := prog_2_method_2_code
def yX0_on : MethodName := ⟨RX0, "on", "(I)I"⟩
abbrev cX0_add : ByteArray := prog_2_method_3_code
def yX0_add : MethodName := ⟨RX0, "add", "(II)V"⟩
abbrev cX0_sumUpTo : ByteArray := prog_2_method_4_code
def yX0_sumUpTo : MethodName := ⟨RX0, "sumUpTo", "(I)I"⟩
def RX1 : String := "Replen$Item"
def TX1 : u_T := fun k => match k with
  | 0 => ("Replen$Item", "pack", "I", true)
  | 1 => ("Replen$Item", "firstStock", "I", true)
  | 2 => ("Replen$Item", "takenIn", "LReplen$DayBook;", true)
  | 3 => ("Replen$Item", "givenOut", "LReplen$DayBook;", true)
  | 4 => ("Replen$Item", "promotions", "LReplen$DayBook;", true)
  | _ => ("Replen$Item", "stock", "I", false)
def tyX1 : Nat → FieldType := fun k => match k with
  | 0 => .int
  | 1 => .int
  | 2 => .object "Replen$DayBook"
  | 3 => .object "Replen$DayBook"
  | 4 => .object "Replen$DayBook"
  | _ => .int
abbrev wsX10 : List Cond := u_ws RX1 TX1 6
theorem nmX1 : ∀ a, a < 6 → ∀ b, b < 6 → a ≠ b → (TX1 a).2.1 ≠ (TX1 b).2.1 := by decide +kernel
theorem tyX1_ok : ∀ k, k < 6 → parseFieldDescriptor (TX1 k).2.2.1 = some (tyX1 k) := by decide +kernel
abbrev cX1_init : ByteArray := prog_3_method_1_code
def yX1_init : MethodName := ⟨RX1, "<init>", "(II)V"⟩
abbrev cX1_hasPromotion : ByteArray := prog_3_method_2_code
def yX1_hasPromotion : MethodName := ⟨RX1, "hasPromotion", "(I)Z"⟩
abbrev cX1_takeIn : ByteArray := prog_3_method_3_code
def yX1_takeIn : MethodName := ⟨RX1, "takeIn", "(II)V"⟩
abbrev cX1_giveOut : ByteArray := prog_3_method_4_code
def yX1_giveOut : MethodName := ⟨RX1, "giveOut", "(II)V"⟩
abbrev cX1_wholePacks : ByteArray := prog_3_method_5_code
def yX1_wholePacks : MethodName := ⟨RX1, "wholePacks", "()I"⟩
abbrev cX1_packsFor : ByteArray := prog_3_method_6_code
def yX1_packsFor : MethodName := ⟨RX1, "packsFor", "(I)I"⟩
abbrev cX1_journalStock : ByteArray := prog_3_method_7_code
def yX1_journalStock : MethodName := ⟨RX1, "journalStock", "(I)I"⟩
def RX2 : String := "Replen$Learner"
def TX2 : u_T := fun k => match k with
  | 0 => ("Replen$Learner", "seasons", "[I", true)
  | _ => ("Replen$Learner", "level", "I", false)
def tyX2 : Nat → FieldType := fun k => match k with
  | 0 => .array .int
  | _ => .int
abbrev wsX20 : List Cond := u_ws RX2 TX2 2
theorem nmX2 : ∀ a, a < 2 → ∀ b, b < 2 → a ≠ b → (TX2 a).2.1 ≠ (TX2 b).2.1 := by decide +kernel
theorem tyX2_ok : ∀ k, k < 2 → parseFieldDescriptor (TX2 k).2.2.1 = some (tyX2 k) := by decide +kernel
abbrev cX2_init : ByteArray := prog_4_method_1_code
def yX2_init : MethodName := ⟨RX2, "<init>", "()V"⟩
abbrev cX2_start : ByteArray := prog_4_method_2_code
def yX2_start : MethodName := ⟨RX2, "start", "(I)V"⟩
abbrev cX2_seasonOf : ByteArray := prog_4_method_3_code
def yX2_seasonOf : MethodName := ⟨RX2, "seasonOf", "(I)I"⟩
abbrev cX2_thousandthsFor : ByteArray := prog_4_method_4_code
def yX2_thousandthsFor : MethodName := ⟨RX2, "thousandthsFor", "(I)I"⟩
abbrev cX2_unitsFor : ByteArray := prog_4_method_5_code
def yX2_unitsFor : MethodName := ⟨RX2, "unitsFor", "(I)I"⟩
abbrev cX2_learn : ByteArray := prog_4_method_6_code
def yX2_learn : MethodName := ⟨RX2, "learn", "(IIII)V"⟩
def RX3 : String := "Replen$Line"
def TX3 : u_T := fun k => match k with
  | 0 => ("Replen$Line", "item", "LReplen$Item;", true)
  | 1 => ("Replen$Line", "lead", "I", true)
  | 2 => ("Replen$Line", "firstDay", "I", true)
  | 3 => ("Replen$Line", "firstStock", "I", true)
  | 4 => ("Replen$Line", "firstLevel", "I", true)
  | 5 => ("Replen$Line", "learner", "LReplen$Learner;", true)
  | 6 => ("Replen$Line", "errorTimes", "[I", true)
  | 7 => ("Replen$Line", "demands", "LReplen$DayBook;", true)
  | 8 => ("Replen$Line", "sales", "LReplen$DayBook;", true)
  | 9 => ("Replen$Line", "arrivals", "LReplen$DayBook;", true)
  | 10 => ("Replen$Line", "errorSum", "I", false)
  | 11 => ("Replen$Line", "stock", "I", false)
  | 12 => ("Replen$Line", "soldSum", "I", false)
  | _ => ("Replen$Line", "lostSum", "I", false)
def tyX3 : Nat → FieldType := fun k => match k with
  | 0 => .object "Replen$Item"
  | 1 => .int
  | 2 => .int
  | 3 => .int
  | 4 => .int
  | 5 => .object "Replen$Learner"
  | 6 => .array .int
  | 7 => .object "Replen$DayBook"
  | 8 => .object "Replen$DayBook"
  | 9 => .object "Replen$DayBook"
  | 10 => .int
  | 11 => .int
  | 12 => .int
  | _ => .int
abbrev wsX30 : List Cond := u_ws RX3 TX3 14
theorem nmX3 : ∀ a, a < 14 → ∀ b, b < 14 → a ≠ b → (TX3 a).2.1 ≠ (TX3 b).2.1 := by decide +kernel
theorem tyX3_ok : ∀ k, k < 14 → parseFieldDescriptor (TX3 k).2.2.1 = some (tyX3 k) := by decide +kernel
abbrev cX3_init : ByteArray := prog_5_method_1_code
def yX3_init : MethodName := ⟨RX3, "<init>", "(LReplen$Item;IIII)V"⟩
abbrev cX3_sell : ByteArray := prog_5_method_2_code
def yX3_sell : MethodName := ⟨RX3, "sell", "(II)I"⟩
abbrev cX3_learnFrom : ByteArray := prog_5_method_3_code
def yX3_learnFrom : MethodName := ⟨RX3, "learnFrom", "(III)V"⟩
abbrev cX3_timesOf : ByteArray := prog_5_method_4_code
def yX3_timesOf : MethodName := ⟨RX3, "timesOf", "(I)I"⟩
abbrev cX3_safetyAt : ByteArray := prog_5_method_5_code
def yX3_safetyAt : MethodName := ⟨RX3, "safetyAt", "(I)I"⟩
abbrev cX3_dueAfter : ByteArray := prog_5_method_6_code
def yX3_dueAfter : MethodName := ⟨RX3, "dueAfter", "(I)I"⟩
abbrev cX3_send : ByteArray := prog_5_method_7_code
def yX3_send : MethodName := ⟨RX3, "send", "(II)V"⟩
abbrev cX3_firstDueAfter : ByteArray := prog_5_method_8_code
def yX3_firstDueAfter : MethodName := ⟨RX3, "firstDueAfter", "(I)I"⟩
abbrev cX3_needOn : ByteArray := prog_5_method_9_code
def yX3_needOn : MethodName := ⟨RX3, "needOn", "(II)I"⟩
abbrev cX3_requestOn : ByteArray := prog_5_method_10_code
def yX3_requestOn : MethodName := ⟨RX3, "requestOn", "(II)I"⟩
abbrev cX3_journalStock : ByteArray := prog_5_method_11_code
def yX3_journalStock : MethodName := ⟨RX3, "journalStock", "(I)I"⟩
def RX4 : String := "Replen$Sharing"
def TX4 : u_T := fun k => match k with
  | 0 => ("Replen$Sharing", "requests", "[I", true)
  | 1 => ("Replen$Sharing", "given", "[I", true)
  | _ => ("Replen$Sharing", "packs", "I", false)
def tyX4 : Nat → FieldType := fun k => match k with
  | 0 => .array .int
  | 1 => .array .int
  | _ => .int
abbrev wsX40 : List Cond := u_ws RX4 TX4 3
theorem nmX4 : ∀ a, a < 3 → ∀ b, b < 3 → a ≠ b → (TX4 a).2.1 ≠ (TX4 b).2.1 := by decide +kernel
theorem tyX4_ok : ∀ k, k < 3 → parseFieldDescriptor (TX4 k).2.2.1 = some (tyX4 k) := by decide +kernel
abbrev cX4_init : ByteArray := prog_6_method_1_code
def yX4_init : MethodName := ⟨RX4, "<init>", "()V"⟩
abbrev cX4_start : ByteArray := prog_6_method_2_code
def yX4_start : MethodName := ⟨RX4, "start", "(I)V"⟩
abbrev cX4_ask : ByteArray := prog_6_method_3_code
def yX4_ask : MethodName := ⟨RX4, "ask", "(II)V"⟩
abbrev cX4_counted : ByteArray := prog_6_method_4_code
def yX4_counted : MethodName := ⟨RX4, "counted", "(I)I"⟩
abbrev cX4_givenAhead : ByteArray := prog_6_method_5_code
def yX4_givenAhead : MethodName := ⟨RX4, "givenAhead", "(II)J"⟩
abbrev cX4_handedOut : ByteArray := prog_6_method_6_code
def yX4_handedOut : MethodName := ⟨RX4, "handedOut", "(I)I"⟩
abbrev cX4_nextToGet : ByteArray := prog_6_method_7_code
def yX4_nextToGet : MethodName := ⟨RX4, "nextToGet", "()I"⟩
def RX5 : String := "Replen"
def TX5 : u_T := fun k => match k with
  | 0 => ("Replen", "leads", "[I", true)
  | 1 => ("Replen", "items", "[LReplen$Item;", true)
  | 2 => ("Replen", "lines", "[LReplen$Line;", true)
  | 3 => ("Replen", "levelRates", "LReplen$DayBook;", true)
  | 4 => ("Replen", "seasonRates", "LReplen$DayBook;", true)
  | 5 => ("Replen", "replay", "LReplen$Learner;", true)
  | 6 => ("Replen", "sharing", "LReplen$Sharing;", true)
  | 7 => ("Replen", "shopCount", "I", false)
  | 8 => ("Replen", "itemCount", "I", false)
  | 9 => ("Replen", "lineCount", "I", false)
  | 10 => ("Replen", "day", "I", false)
  | 11 => ("Replen", "percent", "I", false)
  | 12 => ("Replen", "levelRate", "I", false)
  | _ => ("Replen", "seasonRate", "I", false)
def tyX5 : Nat → FieldType := fun k => match k with
  | 0 => .array .int
  | 1 => .array (.object "Replen$Item")
  | 2 => .array (.object "Replen$Line")
  | 3 => .object "Replen$DayBook"
  | 4 => .object "Replen$DayBook"
  | 5 => .object "Replen$Learner"
  | 6 => .object "Replen$Sharing"
  | 7 => .int
  | 8 => .int
  | 9 => .int
  | 10 => .int
  | 11 => .int
  | 12 => .int
  | _ => .int
abbrev wsX50 : List Cond := u_ws RX5 TX5 14
theorem nmX5 : ∀ a, a < 14 → ∀ b, b < 14 → a ≠ b → (TX5 a).2.1 ≠ (TX5 b).2.1 := by decide +kernel
theorem tyX5_ok : ∀ k, k < 14 → parseFieldDescriptor (TX5 k).2.2.1 = some (tyX5 k) := by decide +kernel
abbrev cX5_init : ByteArray := prog_1_method_1_code
def yX5_init : MethodName := ⟨RX5, "<init>", "()V"⟩
abbrev cX5_addShop : ByteArray := prog_1_method_2_code
def yX5_addShop : MethodName := ⟨RX5, "addShop", "(I)I"⟩
abbrev cX5_addItem : ByteArray := prog_1_method_3_code
def yX5_addItem : MethodName := ⟨RX5, "addItem", "(II)I"⟩
abbrev cX5_carry : ByteArray := prog_1_method_4_code
def yX5_carry : MethodName := ⟨RX5, "carry", "(IIII)I"⟩
abbrev cX5_carries : ByteArray := prog_1_method_5_code
def yX5_carries : MethodName := ⟨RX5, "carries", "(II)Z"⟩
abbrev cX5_supply : ByteArray := prog_1_method_6_code
def yX5_supply : MethodName := ⟨RX5, "supply", "(II)I"⟩
abbrev cX5_setService : ByteArray := prog_1_method_7_code
def yX5_setService : MethodName := ⟨RX5, "setService", "(I)I"⟩
abbrev cX5_setRates : ByteArray := prog_1_method_8_code
def yX5_setRates : MethodName := ⟨RX5, "setRates", "(II)I"⟩
abbrev cX5_mark : ByteArray := prog_1_method_9_code
def yX5_mark : MethodName := ⟨RX5, "mark", "(II)Z"⟩
abbrev cX5_isMarked : ByteArray := prog_1_method_10_code
def yX5_isMarked : MethodName := ⟨RX5, "isMarked", "(II)Z"⟩
abbrev cX5_demand : ByteArray := prog_1_method_11_code
def yX5_demand : MethodName := ⟨RX5, "demand", "(III)I"⟩
abbrev cX5_night : ByteArray := prog_1_method_12_code
def yX5_night : MethodName := ⟨RX5, "night", "()I"⟩
abbrev cX5_today : ByteArray := prog_1_method_13_code
def yX5_today : MethodName := ⟨RX5, "today", "()I"⟩
abbrev cX5_demandToday : ByteArray := prog_1_method_14_code
def yX5_demandToday : MethodName := ⟨RX5, "demandToday", "(II)I"⟩
abbrev cX5_level : ByteArray := prog_1_method_15_code
def yX5_level : MethodName := ⟨RX5, "level", "(II)I"⟩
abbrev cX5_levelByDays : ByteArray := prog_1_method_16_code
def yX5_levelByDays : MethodName := ⟨RX5, "levelByDays", "(II)I"⟩
abbrev cX5_season : ByteArray := prog_1_method_17_code
def yX5_season : MethodName := ⟨RX5, "season", "(III)I"⟩
abbrev cX5_forecast : ByteArray := prog_1_method_18_code
def yX5_forecast : MethodName := ⟨RX5, "forecast", "(III)I"⟩
abbrev cX5_errors : ByteArray := prog_1_method_19_code
def yX5_errors : MethodName := ⟨RX5, "errors", "(III)I"⟩
abbrev cX5_safety : ByteArray := prog_1_method_20_code
def yX5_safety : MethodName := ⟨RX5, "safety", "(II)I"⟩
abbrev cX5_stock : ByteArray := prog_1_method_21_code
def yX5_stock : MethodName := ⟨RX5, "stock", "(II)I"⟩
abbrev cX5_stockByJournal : ByteArray := prog_1_method_22_code
def yX5_stockByJournal : MethodName := ⟨RX5, "stockByJournal", "(II)I"⟩
abbrev cX5_onWay : ByteArray := prog_1_method_23_code
def yX5_onWay : MethodName := ⟨RX5, "onWay", "(II)I"⟩
abbrev cX5_nextArrival : ByteArray := prog_1_method_24_code
def yX5_nextArrival : MethodName := ⟨RX5, "nextArrival", "(II)I"⟩
abbrev cX5_need : ByteArray := prog_1_method_25_code
def yX5_need : MethodName := ⟨RX5, "need", "(II)I"⟩
abbrev cX5_request : ByteArray := prog_1_method_26_code
def yX5_request : MethodName := ⟨RX5, "request", "(II)I"⟩
abbrev cX5_share : ByteArray := prog_1_method_27_code
def yX5_share : MethodName := ⟨RX5, "share", "(II)I"⟩
abbrev cX5_shareByPacks : ByteArray := prog_1_method_28_code
def yX5_shareByPacks : MethodName := ⟨RX5, "shareByPacks", "(II)I"⟩
abbrev cX5_centre : ByteArray := prog_1_method_29_code
def yX5_centre : MethodName := ⟨RX5, "centre", "(I)I"⟩
abbrev cX5_centreByJournal : ByteArray := prog_1_method_30_code
def yX5_centreByJournal : MethodName := ⟨RX5, "centreByJournal", "(I)I"⟩
abbrev cX5_lost : ByteArray := prog_1_method_32_code
def yX5_lost : MethodName := ⟨RX5, "lost", "(II)I"⟩
abbrev cX5_units : ByteArray := prog_1_method_33_code
def yX5_units : MethodName := ⟨RX5, "units", "()J"⟩
abbrev cX5_isShop : ByteArray := prog_1_method_35_code
def yX5_isShop : MethodName := ⟨RX5, "isShop", "(I)Z"⟩
abbrev cX5_isItem : ByteArray := prog_1_method_36_code
def yX5_isItem : MethodName := ⟨RX5, "isItem", "(I)Z"⟩
abbrev cX5_requireShop : ByteArray := prog_1_method_37_code
def yX5_requireShop : MethodName := ⟨RX5, "requireShop", "(I)V"⟩
abbrev cX5_requireItem : ByteArray := prog_1_method_38_code
def yX5_requireItem : MethodName := ⟨RX5, "requireItem", "(I)LReplen$Item;"⟩
abbrev cX5_itemOrNull : ByteArray := prog_1_method_39_code
def yX5_itemOrNull : MethodName := ⟨RX5, "itemOrNull", "(I)LReplen$Item;"⟩
abbrev cX5_requireLine : ByteArray := prog_1_method_40_code
def yX5_requireLine : MethodName := ⟨RX5, "requireLine", "(II)LReplen$Line;"⟩
abbrev cX5_lineOrNull : ByteArray := prog_1_method_41_code
def yX5_lineOrNull : MethodName := ⟨RX5, "lineOrNull", "(II)LReplen$Line;"⟩
abbrev cX5_placeOf : ByteArray := prog_1_method_42_code
def yX5_placeOf : MethodName := ⟨RX5, "placeOf", "(II)I"⟩
abbrev cX5_leadOf : ByteArray := prog_1_method_43_code
def yX5_leadOf : MethodName := ⟨RX5, "leadOf", "(I)I"⟩
abbrev cX5_learnToday : ByteArray := prog_1_method_44_code
def yX5_learnToday : MethodName := ⟨RX5, "learnToday", "()V"⟩
abbrev cX5_receiveToday : ByteArray := prog_1_method_45_code
def yX5_receiveToday : MethodName := ⟨RX5, "receiveToday", "()V"⟩
abbrev cX5_askForAll : ByteArray := prog_1_method_46_code
def yX5_askForAll : MethodName := ⟨RX5, "askForAll", "(I)V"⟩
abbrev cX5_sendPacks : ByteArray := prog_1_method_47_code
def yX5_sendPacks : MethodName := ⟨RX5, "sendPacks", "(I)I"⟩
def RX6 : String := "ReplenModel"
def TX6 : u_T := fun k => match k with
  | _ => ("", "", "", false)
def tyX6 : Nat → FieldType := fun k => match k with
  | _ => .int
abbrev wsX60 : List Cond := u_ws RX6 TX6 0
theorem nmX6 : ∀ a, a < 0 → ∀ b, b < 0 → a ≠ b → (TX6 a).2.1 ≠ (TX6 b).2.1 := by decide +kernel
theorem tyX6_ok : ∀ k, k < 0 → parseFieldDescriptor (TX6 k).2.2.1 = some (tyX6 k) := by decide +kernel
def RJx145de : String := "java/io/Serializable"
def TJx145de : u_T := fun k => match k with
  | _ => ("", "", "", false)
def tyJx145de : Nat → FieldType := fun k => match k with
  | _ => .int
abbrev wsJx145de0 : List Cond := u_ws RJx145de TJx145de 0
theorem nmJx145de : ∀ a, a < 0 → ∀ b, b < 0 → a ≠ b → (TJx145de a).2.1 ≠ (TJx145de b).2.1 := by decide +kernel
theorem tyJx145de_ok : ∀ k, k < 0 → parseFieldDescriptor (TJx145de k).2.2.1 = some (tyJx145de k) := by decide +kernel
def RJ9 : String := "java/lang/Math"
def TJ9 : u_T := fun k => match k with
  | _ => ("", "", "", false)
def tyJ9 : Nat → FieldType := fun k => match k with
  | _ => .int
abbrev wsJ90 : List Cond := u_ws RJ9 TJ9 0
theorem nmJ9 : ∀ a, a < 0 → ∀ b, b < 0 → a ≠ b → (TJ9 a).2.1 ≠ (TJ9 b).2.1 := by decide +kernel
theorem tyJ9_ok : ∀ k, k < 0 → parseFieldDescriptor (TJ9 k).2.2.1 = some (tyJ9 k) := by decide +kernel
abbrev cJ9_floorDiv_f86c9 : ByteArray := prog_14_method_49_code
def yJ9_floorDiv_f86c9 : MethodName := ⟨RJ9, "floorDiv", "(JJ)J"⟩
abbrev cJ9_abs_0f7a4 : ByteArray := prog_14_method_59_code
def yJ9_abs_0f7a4 : MethodName := ⟨RJ9, "abs", "(I)I"⟩
abbrev cJ9_max_f86c9 : ByteArray := prog_14_method_66_code
def yJ9_max_f86c9 : MethodName := ⟨RJ9, "max", "(JJ)J"⟩
abbrev cJ9_min_7cf53 : ByteArray := prog_14_method_69_code
def yJ9_min_7cf53 : MethodName := ⟨RJ9, "min", "(II)I"⟩
abbrev cJ9_min_f86c9 : ByteArray := prog_14_method_70_code
def yJ9_min_f86c9 : MethodName := ⟨RJ9, "min", "(JJ)J"⟩
def RJ0 : String := "java/lang/String"
def TJ0 : u_T := fun k => match k with
  | _ => ("", "", "", false)
def tyJ0 : Nat → FieldType := fun k => match k with
  | _ => .int
abbrev wsJ00 : List Cond := u_ws RJ0 TJ0 0
theorem nmJ0 : ∀ a, a < 0 → ∀ b, b < 0 → a ≠ b → (TJ0 a).2.1 ≠ (TJ0 b).2.1 := by decide +kernel
theorem tyJ0_ok : ∀ k, k < 0 → parseFieldDescriptor (TJ0 k).2.2.1 = some (tyJ0 k) := by decide +kernel
def RL : String := "ReplenLaw"
abbrev cL_cell : ByteArray := method_2_code
def yL_cell : MethodName := ⟨RL, "cell", "([II)I"⟩
abbrev cL_pick : ByteArray := method_3_code
def yL_pick : MethodName := ⟨RL, "pick", "([III)I"⟩
abbrev cL_addShop : ByteArray := method_4_code
def yL_addShop : MethodName := ⟨RL, "addShop", "(LReplen;I)I"⟩
abbrev cL_addItem : ByteArray := method_5_code
def yL_addItem : MethodName := ⟨RL, "addItem", "(LReplen;II)I"⟩
abbrev cL_carry : ByteArray := method_6_code
def yL_carry : MethodName := ⟨RL, "carry", "(LReplen;IIII)I"⟩
abbrev cL_carries : ByteArray := method_7_code
def yL_carries : MethodName := ⟨RL, "carries", "(LReplen;II)I"⟩
abbrev cL_supply : ByteArray := method_8_code
def yL_supply : MethodName := ⟨RL, "supply", "(LReplen;II)I"⟩
abbrev cL_setService : ByteArray := method_9_code
def yL_setService : MethodName := ⟨RL, "setService", "(LReplen;I)I"⟩
abbrev cL_setRates : ByteArray := method_10_code
def yL_setRates : MethodName := ⟨RL, "setRates", "(LReplen;II)I"⟩
abbrev cL_mark : ByteArray := method_11_code
def yL_mark : MethodName := ⟨RL, "mark", "(LReplen;II)I"⟩
abbrev cL_isMarked : ByteArray := method_12_code
def yL_isMarked : MethodName := ⟨RL, "isMarked", "(LReplen;II)I"⟩
abbrev cL_demand : ByteArray := method_13_code
def yL_demand : MethodName := ⟨RL, "demand", "(LReplen;III)I"⟩
abbrev cL_night : ByteArray := method_14_code
def yL_night : MethodName := ⟨RL, "night", "(LReplen;)I"⟩
abbrev cL_demandToday : ByteArray := method_15_code
def yL_demandToday : MethodName := ⟨RL, "demandToday", "(LReplen;II)I"⟩
abbrev cL_level : ByteArray := method_16_code
def yL_level : MethodName := ⟨RL, "level", "(LReplen;II)I"⟩
abbrev cL_levelByDays : ByteArray := method_17_code
def yL_levelByDays : MethodName := ⟨RL, "levelByDays", "(LReplen;II)I"⟩
abbrev cL_season : ByteArray := method_18_code
def yL_season : MethodName := ⟨RL, "season", "(LReplen;III)I"⟩
abbrev cL_forecast : ByteArray := method_19_code
def yL_forecast : MethodName := ⟨RL, "forecast", "(LReplen;III)I"⟩
abbrev cL_errors : ByteArray := method_20_code
def yL_errors : MethodName := ⟨RL, "errors", "(LReplen;III)I"⟩
abbrev cL_safety : ByteArray := method_21_code
def yL_safety : MethodName := ⟨RL, "safety", "(LReplen;II)I"⟩
abbrev cL_stock : ByteArray := method_22_code
def yL_stock : MethodName := ⟨RL, "stock", "(LReplen;II)I"⟩
abbrev cL_stockByJournal : ByteArray := method_23_code
def yL_stockByJournal : MethodName := ⟨RL, "stockByJournal", "(LReplen;II)I"⟩
abbrev cL_onWay : ByteArray := method_24_code
def yL_onWay : MethodName := ⟨RL, "onWay", "(LReplen;II)I"⟩
abbrev cL_nextArrival : ByteArray := method_25_code
def yL_nextArrival : MethodName := ⟨RL, "nextArrival", "(LReplen;II)I"⟩
abbrev cL_need : ByteArray := method_26_code
def yL_need : MethodName := ⟨RL, "need", "(LReplen;II)I"⟩
abbrev cL_request : ByteArray := method_27_code
def yL_request : MethodName := ⟨RL, "request", "(LReplen;II)I"⟩
abbrev cL_share : ByteArray := method_28_code
def yL_share : MethodName := ⟨RL, "share", "(LReplen;II)I"⟩
abbrev cL_shareByPacks : ByteArray := method_29_code
def yL_shareByPacks : MethodName := ⟨RL, "shareByPacks", "(LReplen;II)I"⟩
abbrev cL_centre : ByteArray := method_30_code
def yL_centre : MethodName := ⟨RL, "centre", "(LReplen;I)I"⟩
abbrev cL_centreByJournal : ByteArray := method_31_code
def yL_centreByJournal : MethodName := ⟨RL, "centreByJournal", "(LReplen;I)I"⟩
abbrev cL_lost : ByteArray := method_32_code
def yL_lost : MethodName := ⟨RL, "lost", "(LReplen;II)I"⟩
abbrev cL_law : ByteArray := code
def yL_law : MethodName := ⟨RL, "law", "([I)Z"⟩
abbrev cL_sum : ByteArray := method_34_code
def yL_sum : MethodName := ⟨RL, "sum", "(LReplen;)J"⟩
abbrev cL_areEven : ByteArray := method_35_code
def yL_areEven : MethodName := ⟨RL, "areEven", "(LReplen;[II)Z"⟩
abbrev cL_areLines : ByteArray := method_36_code
def yL_areLines : MethodName := ⟨RL, "areLines", "(LReplen;[I[I[I)Z"⟩
abbrev cL_isLine : ByteArray := method_37_code
def yL_isLine : MethodName := ⟨RL, "isLine", "(LReplen;IIIII)Z"⟩
theorem inJx145de : ∀ w ∈ wsJx145de0, w ∈ lw_tbl := by decide +kernel
theorem inJ9 : ∀ w ∈ wsJ90, w ∈ lw_tbl := by decide +kernel
theorem inJ0 : ∀ w ∈ wsJ00, w ∈ lw_tbl := by decide +kernel
theorem dX0_init_0 : decode cX0_init 0 = .ok (.aload_n 0, 1) := by decide +kernel
theorem dX0_init_1 : decode cX0_init 1 = .ok (.invokespecial 3, 3) := by decide +kernel
theorem dX0_init_4 : decode cX0_init 4 = .ok (.aload_n 0, 1) := by decide +kernel
theorem dX0_init_5 : decode cX0_init 5 = .ok (.sipush 1005, 3) := by decide +kernel
theorem dX0_init_8 : decode cX0_init 8 = .ok (.newarray .int, 2) := by decide +kernel
theorem dX0_init_10 : decode cX0_init 10 = .ok (.putfield 9, 3) := by decide +kernel
theorem dX0_init_13 : decode cX0_init 13 = .ok (.return_, 1) := by decide +kernel
theorem dX0_on_0 : decode cX0_on 0 = .ok (.iload_n 1, 1) := by decide +kernel
theorem dX0_on_1 : decode cX0_on 1 = .ok (.ifCond .lt 21, 3) := by decide +kernel
theorem dX0_on_4 : decode cX0_on 4 = .ok (.iload_n 1, 1) := by decide +kernel
theorem dX0_on_5 : decode cX0_on 5 = .ok (.aload_n 0, 1) := by decide +kernel
theorem dX0_on_6 : decode cX0_on 6 = .ok (.getfield 9, 3) := by decide +kernel
theorem dX0_on_9 : decode cX0_on 9 = .ok (.arraylength, 1) := by decide +kernel
theorem dX0_on_10 : decode cX0_on 10 = .ok (.if_icmp .ge 12, 3) := by decide +kernel
theorem dX0_on_13 : decode cX0_on 13 = .ok (.aload_n 0, 1) := by decide +kernel
theorem dX0_on_14 : decode cX0_on 14 = .ok (.getfield 9, 3) := by decide +kernel
theorem dX0_on_17 : decode cX0_on 17 = .ok (.iload_n 1, 1) := by decide +kernel
theorem dX0_on_18 : decode cX0_on 18 = .ok (.iaload, 1) := by decide +kernel
theorem dX0_on_19 : decode cX0_on 19 = .ok (.goto 4, 3) := by decide +kernel
theorem dX0_on_22 : decode cX0_on 22 = .ok (.iconst 0, 1) := by decide +kernel
theorem dX0_on_23 : decode cX0_on 23 = .ok (.ireturn, 1) := by decide +kernel
theorem dX0_add_0 : decode cX0_add 0 = .ok (.iload_n 1, 1) := by decide +kernel
theorem dX0_add_1 : decode cX0_add 1 = .ok (.ifCond .lt 22, 3) := by decide +kernel
theorem dX0_add_4 : decode cX0_add 4 = .ok (.iload_n 1, 1) := by decide +kernel
theorem dX0_add_5 : decode cX0_add 5 = .ok (.aload_n 0, 1) := by decide +kernel
theorem dX0_add_6 : decode cX0_add 6 = .ok (.getfield 9, 3) := by decide +kernel
theorem dX0_add_9 : decode cX0_add 9 = .ok (.arraylength, 1) := by decide +kernel
theorem dX0_add_10 : decode cX0_add 10 = .ok (.if_icmp .ge 13, 3) := by decide +kernel
theorem dX0_add_13 : decode cX0_add 13 = .ok (.aload_n 0, 1) := by decide +kernel
theorem dX0_add_14 : decode cX0_add 14 = .ok (.getfield 9, 3) := by decide +kernel
theorem dX0_add_17 : decode cX0_add 17 = .ok (.iload_n 1, 1) := by decide +kernel
theorem dX0_add_18 : decode cX0_add 18 = .ok (.dup2, 1) := by decide +kernel
theorem dX0_add_19 : decode cX0_add 19 = .ok (.iaload, 1) := by decide +kernel
theorem dX0_add_20 : decode cX0_add 20 = .ok (.iload_n 2, 1) := by decide +kernel
theorem dX0_add_21 : decode cX0_add 21 = .ok (.iadd, 1) := by decide +kernel
theorem dX0_add_22 : decode cX0_add 22 = .ok (.iastore, 1) := by decide +kernel
theorem dX0_add_23 : decode cX0_add 23 = .ok (.return_, 1) := by decide +kernel
theorem dX0_sumUpTo_0 : decode cX0_sumUpTo 0 = .ok (.iconst 0, 1) := by decide +kernel
theorem dX0_sumUpTo_1 : decode cX0_sumUpTo 1 = .ok (.istore_n 2, 1) := by decide +kernel
theorem dX0_sumUpTo_2 : decode cX0_sumUpTo 2 = .ok (.iconst 0, 1) := by decide +kernel
theorem dX0_sumUpTo_3 : decode cX0_sumUpTo 3 = .ok (.istore_n 3, 1) := by decide +kernel
theorem dX0_sumUpTo_4 : decode cX0_sumUpTo 4 = .ok (.iload_n 3, 1) := by decide +kernel
theorem dX0_sumUpTo_5 : decode cX0_sumUpTo 5 = .ok (.iload_n 1, 1) := by decide +kernel
theorem dX0_sumUpTo_6 : decode cX0_sumUpTo 6 = .ok (.if_icmp .gt 27, 3) := by decide +kernel
theorem dX0_sumUpTo_9 : decode cX0_sumUpTo 9 = .ok (.iload_n 3, 1) := by decide +kernel
theorem dX0_sumUpTo_10 : decode cX0_sumUpTo 10 = .ok (.aload_n 0, 1) := by decide +kernel
theorem dX0_sumUpTo_11 : decode cX0_sumUpTo 11 = .ok (.getfield 9, 3) := by decide +kernel
theorem dX0_sumUpTo_14 : decode cX0_sumUpTo 14 = .ok (.arraylength, 1) := by decide +kernel
theorem dX0_sumUpTo_15 : decode cX0_sumUpTo 15 = .ok (.if_icmp .ge 18, 3) := by decide +kernel
theorem dX0_sumUpTo_18 : decode cX0_sumUpTo 18 = .ok (.iload_n 2, 1) := by decide +kernel
theorem dX0_sumUpTo_19 : decode cX0_sumUpTo 19 = .ok (.aload_n 0, 1) := by decide +kernel
theorem dX0_sumUpTo_20 : decode cX0_sumUpTo 20 = .ok (.getfield 9, 3) := by decide +kernel
theorem dX0_sumUpTo_23 : decode cX0_sumUpTo 23 = .ok (.iload_n 3, 1) := by decide +kernel
theorem dX0_sumUpTo_24 : decode cX0_sumUpTo 24 = .ok (.iaload, 1) := by decide +kernel
theorem dX0_sumUpTo_25 : decode cX0_sumUpTo 25 = .ok (.iadd, 1) := by decide +kernel
theorem dX0_sumUpTo_26 : decode cX0_sumUpTo 26 = .ok (.istore_n 2, 1) := by decide +kernel
theorem dX0_sumUpTo_27 : decode cX0_sumUpTo 27 = .ok (.iinc 3 1, 3) := by decide +kernel
theorem dX0_sumUpTo_30 : decode cX0_sumUpTo 30 = .ok (.goto (-26), 3) := by decide +kernel
theorem dX0_sumUpTo_33 : decode cX0_sumUpTo 33 = .ok (.iload_n 2, 1) := by decide +kernel
theorem dX0_sumUpTo_34 : decode cX0_sumUpTo 34 = .ok (.ireturn, 1) := by decide +kernel
theorem dX1_init_0 : decode cX1_init 0 = .ok (.aload_n 0, 1) := by decide +kernel
theorem dX1_init_1 : decode cX1_init 1 = .ok (.invokespecial 1, 3) := by decide +kernel
theorem dX1_init_4 : decode cX1_init 4 = .ok (.aload_n 0, 1) := by decide +kernel
theorem dX1_init_5 : decode cX1_init 5 = .ok (.new 7, 3) := by decide +kernel
theorem dX1_init_8 : decode cX1_init 8 = .ok (.dup, 1) := by decide +kernel
theorem dX1_init_9 : decode cX1_init 9 = .ok (.invokespecial 9, 3) := by decide +kernel
theorem dX1_init_12 : decode cX1_init 12 = .ok (.putfield 10, 3) := by decide +kernel
theorem dX1_init_15 : decode cX1_init 15 = .ok (.aload_n 0, 1) := by decide +kernel
theorem dX1_init_16 : decode cX1_init 16 = .ok (.new 7, 3) := by decide +kernel
theorem dX1_init_19 : decode cX1_init 19 = .ok (.dup, 1) := by decide +kernel
theorem dX1_init_20 : decode cX1_init 20 = .ok (.invokespecial 9, 3) := by decide +kernel
theorem dX1_init_23 : decode cX1_init 23 = .ok (.putfield 16, 3) := by decide +kernel
theorem dX1_init_26 : decode cX1_init 26 = .ok (.aload_n 0, 1) := by decide +kernel
theorem dX1_init_27 : decode cX1_init 27 = .ok (.new 7, 3) := by decide +kernel
theorem dX1_init_30 : decode cX1_init 30 = .ok (.dup, 1) := by decide +kernel
theorem dX1_init_31 : decode cX1_init 31 = .ok (.invokespecial 9, 3) := by decide +kernel
theorem dX1_init_34 : decode cX1_init 34 = .ok (.putfield 19, 3) := by decide +kernel
theorem dX1_init_37 : decode cX1_init 37 = .ok (.aload_n 0, 1) := by decide +kernel
theorem dX1_init_38 : decode cX1_init 38 = .ok (.iload_n 1, 1) := by decide +kernel
theorem dX1_init_39 : decode cX1_init 39 = .ok (.putfield 22, 3) := by decide +kernel
theorem dX1_init_42 : decode cX1_init 42 = .ok (.aload_n 0, 1) := by decide +kernel
theorem dX1_init_43 : decode cX1_init 43 = .ok (.iload_n 2, 1) := by decide +kernel
theorem dX1_init_44 : decode cX1_init 44 = .ok (.putfield 26, 3) := by decide +kernel
theorem dX1_init_47 : decode cX1_init 47 = .ok (.aload_n 0, 1) := by decide +kernel
theorem dX1_init_48 : decode cX1_init 48 = .ok (.iload_n 2, 1) := by decide +kernel
theorem dX1_init_49 : decode cX1_init 49 = .ok (.putfield 29, 3) := by decide +kernel
theorem dX1_init_52 : decode cX1_init 52 = .ok (.return_, 1) := by decide +kernel
theorem dX1_hasPromotion_0 : decode cX1_hasPromotion 0 = .ok (.aload_n 0, 1) := by decide +kernel
theorem dX1_hasPromotion_1 : decode cX1_hasPromotion 1 = .ok (.getfield 19, 3) := by decide +kernel
theorem dX1_hasPromotion_4 : decode cX1_hasPromotion 4 = .ok (.iload_n 1, 1) := by decide +kernel
theorem dX1_hasPromotion_5 : decode cX1_hasPromotion 5 = .ok (.invokevirtual 32, 3) := by decide +kernel
theorem dX1_hasPromotion_8 : decode cX1_hasPromotion 8 = .ok (.ifCond .le 7, 3) := by decide +kernel
theorem dX1_hasPromotion_11 : decode cX1_hasPromotion 11 = .ok (.iconst 1, 1) := by decide +kernel
theorem dX1_hasPromotion_12 : decode cX1_hasPromotion 12 = .ok (.goto 4, 3) := by decide +kernel
theorem dX1_hasPromotion_15 : decode cX1_hasPromotion 15 = .ok (.iconst 0, 1) := by decide +kernel
theorem dX1_hasPromotion_16 : decode cX1_hasPromotion 16 = .ok (.ireturn, 1) := by decide +kernel
theorem dX1_takeIn_0 : decode cX1_takeIn 0 = .ok (.aload_n 0, 1) := by decide +kernel
theorem dX1_takeIn_1 : decode cX1_takeIn 1 = .ok (.getfield 10, 3) := by decide +kernel
theorem dX1_takeIn_4 : decode cX1_takeIn 4 = .ok (.iload_n 1, 1) := by decide +kernel
theorem dX1_takeIn_5 : decode cX1_takeIn 5 = .ok (.iload_n 2, 1) := by decide +kernel
theorem dX1_takeIn_6 : decode cX1_takeIn 6 = .ok (.invokevirtual 36, 3) := by decide +kernel
theorem dX1_takeIn_9 : decode cX1_takeIn 9 = .ok (.aload_n 0, 1) := by decide +kernel
theorem dX1_takeIn_10 : decode cX1_takeIn 10 = .ok (.dup, 1) := by decide +kernel
theorem dX1_takeIn_11 : decode cX1_takeIn 11 = .ok (.getfield 29, 3) := by decide +kernel
theorem dX1_takeIn_14 : decode cX1_takeIn 14 = .ok (.iload_n 2, 1) := by decide +kernel
theorem dX1_takeIn_15 : decode cX1_takeIn 15 = .ok (.iadd, 1) := by decide +kernel
theorem dX1_takeIn_16 : decode cX1_takeIn 16 = .ok (.putfield 29, 3) := by decide +kernel
theorem dX1_takeIn_19 : decode cX1_takeIn 19 = .ok (.return_, 1) := by decide +kernel
theorem dX1_giveOut_0 : decode cX1_giveOut 0 = .ok (.aload_n 0, 1) := by decide +kernel
theorem dX1_giveOut_1 : decode cX1_giveOut 1 = .ok (.getfield 16, 3) := by decide +kernel
theorem dX1_giveOut_4 : decode cX1_giveOut 4 = .ok (.iload_n 1, 1) := by decide +kernel
theorem dX1_giveOut_5 : decode cX1_giveOut 5 = .ok (.iload_n 2, 1) := by decide +kernel
theorem dX1_giveOut_6 : decode cX1_giveOut 6 = .ok (.invokevirtual 36, 3) := by decide +kernel
theorem dX1_giveOut_9 : decode cX1_giveOut 9 = .ok (.aload_n 0, 1) := by decide +kernel
theorem dX1_giveOut_10 : decode cX1_giveOut 10 = .ok (.dup, 1) := by decide +kernel
theorem dX1_giveOut_11 : decode cX1_giveOut 11 = .ok (.getfield 29, 3) := by decide +kernel
theorem dX1_giveOut_14 : decode cX1_giveOut 14 = .ok (.iload_n 2, 1) := by decide +kernel
theorem dX1_giveOut_15 : decode cX1_giveOut 15 = .ok (.isub, 1) := by decide +kernel
theorem dX1_giveOut_16 : decode cX1_giveOut 16 = .ok (.putfield 29, 3) := by decide +kernel
theorem dX1_giveOut_19 : decode cX1_giveOut 19 = .ok (.return_, 1) := by decide +kernel
theorem dX1_wholePacks_0 : decode cX1_wholePacks 0 = .ok (.aload_n 0, 1) := by decide +kernel
theorem dX1_wholePacks_1 : decode cX1_wholePacks 1 = .ok (.getfield 22, 3) := by decide +kernel
theorem dX1_wholePacks_4 : decode cX1_wholePacks 4 = .ok (.ifCond .le 15, 3) := by decide +kernel
theorem dX1_wholePacks_7 : decode cX1_wholePacks 7 = .ok (.aload_n 0, 1) := by decide +kernel
theorem dX1_wholePacks_8 : decode cX1_wholePacks 8 = .ok (.getfield 29, 3) := by decide +kernel
theorem dX1_wholePacks_11 : decode cX1_wholePacks 11 = .ok (.aload_n 0, 1) := by decide +kernel
theorem dX1_wholePacks_12 : decode cX1_wholePacks 12 = .ok (.getfield 22, 3) := by decide +kernel
theorem dX1_wholePacks_15 : decode cX1_wholePacks 15 = .ok (.idiv, 1) := by decide +kernel
theorem dX1_wholePacks_16 : decode cX1_wholePacks 16 = .ok (.goto 4, 3) := by decide +kernel
theorem dX1_wholePacks_19 : decode cX1_wholePacks 19 = .ok (.iconst 0, 1) := by decide +kernel
theorem dX1_wholePacks_20 : decode cX1_wholePacks 20 = .ok (.ireturn, 1) := by decide +kernel
theorem dX1_packsFor_0 : decode cX1_packsFor 0 = .ok (.iload_n 1, 1) := by decide +kernel
theorem dX1_packsFor_1 : decode cX1_packsFor 1 = .ok (.ifCond .le 26, 3) := by decide +kernel
theorem dX1_packsFor_4 : decode cX1_packsFor 4 = .ok (.aload_n 0, 1) := by decide +kernel
theorem dX1_packsFor_5 : decode cX1_packsFor 5 = .ok (.getfield 22, 3) := by decide +kernel
theorem dX1_packsFor_8 : decode cX1_packsFor 8 = .ok (.ifCond .le 19, 3) := by decide +kernel
theorem dX1_packsFor_11 : decode cX1_packsFor 11 = .ok (.iload_n 1, 1) := by decide +kernel
theorem dX1_packsFor_12 : decode cX1_packsFor 12 = .ok (.aload_n 0, 1) := by decide +kernel
theorem dX1_packsFor_13 : decode cX1_packsFor 13 = .ok (.getfield 22, 3) := by decide +kernel
theorem dX1_packsFor_16 : decode cX1_packsFor 16 = .ok (.iadd, 1) := by decide +kernel
theorem dX1_packsFor_17 : decode cX1_packsFor 17 = .ok (.iconst 1, 1) := by decide +kernel
theorem dX1_packsFor_18 : decode cX1_packsFor 18 = .ok (.isub, 1) := by decide +kernel
theorem dX1_packsFor_19 : decode cX1_packsFor 19 = .ok (.aload_n 0, 1) := by decide +kernel
theorem dX1_packsFor_20 : decode cX1_packsFor 20 = .ok (.getfield 22, 3) := by decide +kernel
theorem dX1_packsFor_23 : decode cX1_packsFor 23 = .ok (.idiv, 1) := by decide +kernel
theorem dX1_packsFor_24 : decode cX1_packsFor 24 = .ok (.goto 4, 3) := by decide +kernel
theorem dX1_packsFor_27 : decode cX1_packsFor 27 = .ok (.iconst 0, 1) := by decide +kernel
theorem dX1_packsFor_28 : decode cX1_packsFor 28 = .ok (.ireturn, 1) := by decide +kernel
theorem dX1_journalStock_0 : decode cX1_journalStock 0 = .ok (.aload_n 0, 1) := by decide +kernel
theorem dX1_journalStock_1 : decode cX1_journalStock 1 = .ok (.getfield 26, 3) := by decide +kernel
theorem dX1_journalStock_4 : decode cX1_journalStock 4 = .ok (.aload_n 0, 1) := by decide +kernel
theorem dX1_journalStock_5 : decode cX1_journalStock 5 = .ok (.getfield 10, 3) := by decide +kernel
theorem dX1_journalStock_8 : decode cX1_journalStock 8 = .ok (.iload_n 1, 1) := by decide +kernel
theorem dX1_journalStock_9 : decode cX1_journalStock 9 = .ok (.invokevirtual 40, 3) := by decide +kernel
theorem dX1_journalStock_12 : decode cX1_journalStock 12 = .ok (.iadd, 1) := by decide +kernel
theorem dX1_journalStock_13 : decode cX1_journalStock 13 = .ok (.aload_n 0, 1) := by decide +kernel
theorem dX1_journalStock_14 : decode cX1_journalStock 14 = .ok (.getfield 16, 3) := by decide +kernel
theorem dX1_journalStock_17 : decode cX1_journalStock 17 = .ok (.iload_n 1, 1) := by decide +kernel
theorem dX1_journalStock_18 : decode cX1_journalStock 18 = .ok (.invokevirtual 40, 3) := by decide +kernel
theorem dX1_journalStock_21 : decode cX1_journalStock 21 = .ok (.isub, 1) := by decide +kernel
theorem dX1_journalStock_22 : decode cX1_journalStock 22 = .ok (.ireturn, 1) := by decide +kernel
theorem dX2_init_0 : decode cX2_init 0 = .ok (.aload_n 0, 1) := by decide +kernel
theorem dX2_init_1 : decode cX2_init 1 = .ok (.invokespecial 3, 3) := by decide +kernel
theorem dX2_init_4 : decode cX2_init 4 = .ok (.aload_n 0, 1) := by decide +kernel
theorem dX2_init_5 : decode cX2_init 5 = .ok (.bipush 7, 2) := by decide +kernel
theorem dX2_init_7 : decode cX2_init 7 = .ok (.newarray .int, 2) := by decide +kernel
theorem dX2_init_9 : decode cX2_init 9 = .ok (.putfield 9, 3) := by decide +kernel
theorem dX2_init_12 : decode cX2_init 12 = .ok (.aload_n 0, 1) := by decide +kernel
theorem dX2_init_13 : decode cX2_init 13 = .ok (.iconst 0, 1) := by decide +kernel
theorem dX2_init_14 : decode cX2_init 14 = .ok (.putfield 15, 3) := by decide +kernel
theorem dX2_init_17 : decode cX2_init 17 = .ok (.return_, 1) := by decide +kernel
theorem dX2_start_0 : decode cX2_start 0 = .ok (.aload_n 0, 1) := by decide +kernel
theorem dX2_start_1 : decode cX2_start 1 = .ok (.iload_n 1, 1) := by decide +kernel
theorem dX2_start_2 : decode cX2_start 2 = .ok (.putfield 15, 3) := by decide +kernel
theorem dX2_start_5 : decode cX2_start 5 = .ok (.iconst 0, 1) := by decide +kernel
theorem dX2_start_6 : decode cX2_start 6 = .ok (.istore_n 2, 1) := by decide +kernel
theorem dX2_start_7 : decode cX2_start 7 = .ok (.iload_n 2, 1) := by decide +kernel
theorem dX2_start_8 : decode cX2_start 8 = .ok (.aload_n 0, 1) := by decide +kernel
theorem dX2_start_9 : decode cX2_start 9 = .ok (.getfield 9, 3) := by decide +kernel
theorem dX2_start_12 : decode cX2_start 12 = .ok (.arraylength, 1) := by decide +kernel
theorem dX2_start_13 : decode cX2_start 13 = .ok (.if_icmp .ge 18, 3) := by decide +kernel
theorem dX2_start_16 : decode cX2_start 16 = .ok (.aload_n 0, 1) := by decide +kernel
theorem dX2_start_17 : decode cX2_start 17 = .ok (.getfield 9, 3) := by decide +kernel
theorem dX2_start_20 : decode cX2_start 20 = .ok (.iload_n 2, 1) := by decide +kernel
theorem dX2_start_21 : decode cX2_start 21 = .ok (.sipush 1000, 3) := by decide +kernel
theorem dX2_start_24 : decode cX2_start 24 = .ok (.iastore, 1) := by decide +kernel
theorem dX2_start_25 : decode cX2_start 25 = .ok (.iinc 2 1, 3) := by decide +kernel
theorem dX2_start_28 : decode cX2_start 28 = .ok (.goto (-21), 3) := by decide +kernel
theorem dX2_start_31 : decode cX2_start 31 = .ok (.return_, 1) := by decide +kernel
theorem dX2_seasonOf_0 : decode cX2_seasonOf 0 = .ok (.iload_n 1, 1) := by decide +kernel
theorem dX2_seasonOf_1 : decode cX2_seasonOf 1 = .ok (.ifCond .lt 21, 3) := by decide +kernel
theorem dX2_seasonOf_4 : decode cX2_seasonOf 4 = .ok (.iload_n 1, 1) := by decide +kernel
theorem dX2_seasonOf_5 : decode cX2_seasonOf 5 = .ok (.aload_n 0, 1) := by decide +kernel
theorem dX2_seasonOf_6 : decode cX2_seasonOf 6 = .ok (.getfield 9, 3) := by decide +kernel
theorem dX2_seasonOf_9 : decode cX2_seasonOf 9 = .ok (.arraylength, 1) := by decide +kernel
theorem dX2_seasonOf_10 : decode cX2_seasonOf 10 = .ok (.if_icmp .ge 12, 3) := by decide +kernel
theorem dX2_seasonOf_13 : decode cX2_seasonOf 13 = .ok (.aload_n 0, 1) := by decide +kernel
theorem dX2_seasonOf_14 : decode cX2_seasonOf 14 = .ok (.getfield 9, 3) := by decide +kernel
theorem dX2_seasonOf_17 : decode cX2_seasonOf 17 = .ok (.iload_n 1, 1) := by decide +kernel
theorem dX2_seasonOf_18 : decode cX2_seasonOf 18 = .ok (.iaload, 1) := by decide +kernel
theorem dX2_seasonOf_19 : decode cX2_seasonOf 19 = .ok (.goto 6, 3) := by decide +kernel
theorem dX2_seasonOf_22 : decode cX2_seasonOf 22 = .ok (.sipush 1000, 3) := by decide +kernel
theorem dX2_seasonOf_25 : decode cX2_seasonOf 25 = .ok (.ireturn, 1) := by decide +kernel
theorem dX2_thousandthsFor_0 : decode cX2_thousandthsFor 0 = .ok (.aload_n 0, 1) := by decide +kernel
theorem dX2_thousandthsFor_1 : decode cX2_thousandthsFor 1 = .ok (.getfield 15, 3) := by decide +kernel
theorem dX2_thousandthsFor_4 : decode cX2_thousandthsFor 4 = .ok (.i2l, 1) := by decide +kernel
theorem dX2_thousandthsFor_5 : decode cX2_thousandthsFor 5 = .ok (.aload_n 0, 1) := by decide +kernel
theorem dX2_thousandthsFor_6 : decode cX2_thousandthsFor 6 = .ok (.iload_n 1, 1) := by decide +kernel
theorem dX2_thousandthsFor_7 : decode cX2_thousandthsFor 7 = .ok (.bipush 7, 2) := by decide +kernel
theorem dX2_thousandthsFor_9 : decode cX2_thousandthsFor 9 = .ok (.irem, 1) := by decide +kernel
theorem dX2_thousandthsFor_10 : decode cX2_thousandthsFor 10 = .ok (.invokevirtual 19, 3) := by decide +kernel
theorem dX2_thousandthsFor_13 : decode cX2_thousandthsFor 13 = .ok (.i2l, 1) := by decide +kernel
theorem dX2_thousandthsFor_14 : decode cX2_thousandthsFor 14 = .ok (.lmul, 1) := by decide +kernel
theorem dX2_thousandthsFor_15 : decode cX2_thousandthsFor 15 = .ok (.ldc2_w 23, 3) := by decide +kernel
theorem dX2_thousandthsFor_18 : decode cX2_thousandthsFor 18 = .ok (.ldiv, 1) := by decide +kernel
theorem dX2_thousandthsFor_19 : decode cX2_thousandthsFor 19 = .ok (.l2i, 1) := by decide +kernel
theorem dX2_thousandthsFor_20 : decode cX2_thousandthsFor 20 = .ok (.ireturn, 1) := by decide +kernel
theorem dX2_unitsFor_0 : decode cX2_unitsFor 0 = .ok (.aload_n 0, 1) := by decide +kernel
theorem dX2_unitsFor_1 : decode cX2_unitsFor 1 = .ok (.iload_n 1, 1) := by decide +kernel
theorem dX2_unitsFor_2 : decode cX2_unitsFor 2 = .ok (.invokevirtual 25, 3) := by decide +kernel
theorem dX2_unitsFor_5 : decode cX2_unitsFor 5 = .ok (.sipush 500, 3) := by decide +kernel
theorem dX2_unitsFor_8 : decode cX2_unitsFor 8 = .ok (.iadd, 1) := by decide +kernel
theorem dX2_unitsFor_9 : decode cX2_unitsFor 9 = .ok (.sipush 1000, 3) := by decide +kernel
theorem dX2_unitsFor_12 : decode cX2_unitsFor 12 = .ok (.idiv, 1) := by decide +kernel
theorem dX2_unitsFor_13 : decode cX2_unitsFor 13 = .ok (.ireturn, 1) := by decide +kernel
theorem dX2_learn_0 : decode cX2_learn 0 = .ok (.iload_n 1, 1) := by decide +kernel
theorem dX2_learn_1 : decode cX2_learn 1 = .ok (.bipush 7, 2) := by decide +kernel
theorem dX2_learn_3 : decode cX2_learn 3 = .ok (.irem, 1) := by decide +kernel
theorem dX2_learn_4 : decode cX2_learn 4 = .ok (.istore 5, 2) := by decide +kernel
theorem dX2_learn_6 : decode cX2_learn 6 = .ok (.aload_n 0, 1) := by decide +kernel
theorem dX2_learn_7 : decode cX2_learn 7 = .ok (.iload 5, 2) := by decide +kernel
theorem dX2_learn_9 : decode cX2_learn 9 = .ok (.invokevirtual 19, 3) := by decide +kernel
theorem dX2_learn_12 : decode cX2_learn 12 = .ok (.istore 6, 2) := by decide +kernel
theorem dX2_learn_14 : decode cX2_learn 14 = .ok (.iload 5, 2) := by decide +kernel
theorem dX2_learn_16 : decode cX2_learn 16 = .ok (.ifCond .lt 18, 3) := by decide +kernel
theorem dX2_learn_19 : decode cX2_learn 19 = .ok (.iload 5, 2) := by decide +kernel
theorem dX2_learn_21 : decode cX2_learn 21 = .ok (.aload_n 0, 1) := by decide +kernel
theorem dX2_learn_22 : decode cX2_learn 22 = .ok (.getfield 9, 3) := by decide +kernel
theorem dX2_learn_25 : decode cX2_learn 25 = .ok (.arraylength, 1) := by decide +kernel
theorem dX2_learn_26 : decode cX2_learn 26 = .ok (.if_icmp .ge 8, 3) := by decide +kernel
theorem dX2_learn_29 : decode cX2_learn 29 = .ok (.iload 6, 2) := by decide +kernel
theorem dX2_learn_31 : decode cX2_learn 31 = .ok (.ifCond .gt 4, 3) := by decide +kernel
theorem dX2_learn_34 : decode cX2_learn 34 = .ok (.return_, 1) := by decide +kernel
theorem dX2_learn_35 : decode cX2_learn 35 = .ok (.iload_n 2, 1) := by decide +kernel
theorem dX2_learn_36 : decode cX2_learn 36 = .ok (.i2l, 1) := by decide +kernel
theorem dX2_learn_37 : decode cX2_learn 37 = .ok (.ldc2_w 28, 3) := by decide +kernel
theorem dX2_learn_40 : decode cX2_learn 40 = .ok (.lmul, 1) := by decide +kernel
theorem dX2_learn_41 : decode cX2_learn 41 = .ok (.lstore 7, 2) := by decide +kernel
theorem dX2_learn_43 : decode cX2_learn 43 = .ok (.aload_n 0, 1) := by decide +kernel
theorem dX2_learn_44 : decode cX2_learn 44 = .ok (.dup, 1) := by decide +kernel
theorem dX2_learn_45 : decode cX2_learn 45 = .ok (.getfield 15, 3) := by decide +kernel
theorem dX2_learn_48 : decode cX2_learn 48 = .ok (.iload_n 3, 1) := by decide +kernel
theorem dX2_learn_49 : decode cX2_learn 49 = .ok (.i2l, 1) := by decide +kernel
theorem dX2_learn_50 : decode cX2_learn 50 = .ok (.lload 7, 2) := by decide +kernel
theorem dX2_learn_52 : decode cX2_learn 52 = .ok (.iload 6, 2) := by decide +kernel
theorem dX2_learn_54 : decode cX2_learn 54 = .ok (.i2l, 1) := by decide +kernel
theorem dX2_learn_55 : decode cX2_learn 55 = .ok (.ldiv, 1) := by decide +kernel
theorem dX2_learn_56 : decode cX2_learn 56 = .ok (.aload_n 0, 1) := by decide +kernel
theorem dX2_learn_57 : decode cX2_learn 57 = .ok (.getfield 15, 3) := by decide +kernel
theorem dX2_learn_60 : decode cX2_learn 60 = .ok (.i2l, 1) := by decide +kernel
theorem dX2_learn_61 : decode cX2_learn 61 = .ok (.lsub, 1) := by decide +kernel
theorem dX2_learn_62 : decode cX2_learn 62 = .ok (.lmul, 1) := by decide +kernel
theorem dX2_learn_63 : decode cX2_learn 63 = .ok (.ldc2_w 30, 3) := by decide +kernel
theorem dX2_learn_66 : decode cX2_learn 66 = .ok (.invokestatic 32, 3) := by decide +kernel
theorem dX2_learn_69 : decode cX2_learn 69 = .ok (.l2i, 1) := by decide +kernel
theorem dX2_learn_70 : decode cX2_learn 70 = .ok (.iadd, 1) := by decide +kernel
theorem dX2_learn_71 : decode cX2_learn 71 = .ok (.putfield 15, 3) := by decide +kernel
theorem dX2_learn_74 : decode cX2_learn 74 = .ok (.aload_n 0, 1) := by decide +kernel
theorem dX2_learn_75 : decode cX2_learn 75 = .ok (.getfield 15, 3) := by decide +kernel
theorem dX2_learn_78 : decode cX2_learn 78 = .ok (.ifCond .le 53, 3) := by decide +kernel
theorem dX2_learn_81 : decode cX2_learn 81 = .ok (.iload 6, 2) := by decide +kernel
theorem dX2_learn_83 : decode cX2_learn 83 = .ok (.i2l, 1) := by decide +kernel
theorem dX2_learn_84 : decode cX2_learn 84 = .ok (.iload 4, 2) := by decide +kernel
theorem dX2_learn_86 : decode cX2_learn 86 = .ok (.i2l, 1) := by decide +kernel
theorem dX2_learn_87 : decode cX2_learn 87 = .ok (.lload 7, 2) := by decide +kernel
theorem dX2_learn_89 : decode cX2_learn 89 = .ok (.aload_n 0, 1) := by decide +kernel
theorem dX2_learn_90 : decode cX2_learn 90 = .ok (.getfield 15, 3) := by decide +kernel
theorem dX2_learn_93 : decode cX2_learn 93 = .ok (.i2l, 1) := by decide +kernel
theorem dX2_learn_94 : decode cX2_learn 94 = .ok (.ldiv, 1) := by decide +kernel
theorem dX2_learn_95 : decode cX2_learn 95 = .ok (.iload 6, 2) := by decide +kernel
theorem dX2_learn_97 : decode cX2_learn 97 = .ok (.i2l, 1) := by decide +kernel
theorem dX2_learn_98 : decode cX2_learn 98 = .ok (.lsub, 1) := by decide +kernel
theorem dX2_learn_99 : decode cX2_learn 99 = .ok (.lmul, 1) := by decide +kernel
theorem dX2_learn_100 : decode cX2_learn 100 = .ok (.ldc2_w 30, 3) := by decide +kernel
theorem dX2_learn_103 : decode cX2_learn 103 = .ok (.invokestatic 32, 3) := by decide +kernel
theorem dX2_learn_106 : decode cX2_learn 106 = .ok (.ladd, 1) := by decide +kernel
theorem dX2_learn_107 : decode cX2_learn 107 = .ok (.lstore 9, 2) := by decide +kernel
theorem dX2_learn_109 : decode cX2_learn 109 = .ok (.aload_n 0, 1) := by decide +kernel
theorem dX2_learn_110 : decode cX2_learn 110 = .ok (.getfield 9, 3) := by decide +kernel
theorem dX2_learn_113 : decode cX2_learn 113 = .ok (.iload 5, 2) := by decide +kernel
theorem dX2_learn_115 : decode cX2_learn 115 = .ok (.ldc2_w 30, 3) := by decide +kernel
theorem dX2_learn_118 : decode cX2_learn 118 = .ok (.ldc2_w 38, 3) := by decide +kernel
theorem dX2_learn_121 : decode cX2_learn 121 = .ok (.lload 9, 2) := by decide +kernel
theorem dX2_learn_123 : decode cX2_learn 123 = .ok (.invokestatic 40, 3) := by decide +kernel
theorem dX2_learn_126 : decode cX2_learn 126 = .ok (.invokestatic 43, 3) := by decide +kernel
theorem dX2_learn_129 : decode cX2_learn 129 = .ok (.l2i, 1) := by decide +kernel
theorem dX2_learn_130 : decode cX2_learn 130 = .ok (.iastore, 1) := by decide +kernel
theorem dX2_learn_131 : decode cX2_learn 131 = .ok (.return_, 1) := by decide +kernel
theorem dX3_init_0 : decode cX3_init 0 = .ok (.aload_n 0, 1) := by decide +kernel
theorem dX3_init_1 : decode cX3_init 1 = .ok (.invokespecial 3, 3) := by decide +kernel
theorem dX3_init_4 : decode cX3_init 4 = .ok (.aload_n 0, 1) := by decide +kernel
theorem dX3_init_5 : decode cX3_init 5 = .ok (.new 9, 3) := by decide +kernel
theorem dX3_init_8 : decode cX3_init 8 = .ok (.dup, 1) := by decide +kernel
theorem dX3_init_9 : decode cX3_init 9 = .ok (.invokespecial 11, 3) := by decide +kernel
theorem dX3_init_12 : decode cX3_init 12 = .ok (.putfield 12, 3) := by decide +kernel
theorem dX3_init_15 : decode cX3_init 15 = .ok (.aload_n 0, 1) := by decide +kernel
theorem dX3_init_16 : decode cX3_init 16 = .ok (.bipush 21, 2) := by decide +kernel
theorem dX3_init_18 : decode cX3_init 18 = .ok (.newarray .int, 2) := by decide +kernel
theorem dX3_init_20 : decode cX3_init 20 = .ok (.putfield 18, 3) := by decide +kernel
theorem dX3_init_23 : decode cX3_init 23 = .ok (.aload_n 0, 1) := by decide +kernel
theorem dX3_init_24 : decode cX3_init 24 = .ok (.new 22, 3) := by decide +kernel
theorem dX3_init_27 : decode cX3_init 27 = .ok (.dup, 1) := by decide +kernel
theorem dX3_init_28 : decode cX3_init 28 = .ok (.invokespecial 24, 3) := by decide +kernel
theorem dX3_init_31 : decode cX3_init 31 = .ok (.putfield 25, 3) := by decide +kernel
theorem dX3_init_34 : decode cX3_init 34 = .ok (.aload_n 0, 1) := by decide +kernel
theorem dX3_init_35 : decode cX3_init 35 = .ok (.new 22, 3) := by decide +kernel
theorem dX3_init_38 : decode cX3_init 38 = .ok (.dup, 1) := by decide +kernel
theorem dX3_init_39 : decode cX3_init 39 = .ok (.invokespecial 24, 3) := by decide +kernel
theorem dX3_init_42 : decode cX3_init 42 = .ok (.putfield 29, 3) := by decide +kernel
theorem dX3_init_45 : decode cX3_init 45 = .ok (.aload_n 0, 1) := by decide +kernel
theorem dX3_init_46 : decode cX3_init 46 = .ok (.new 22, 3) := by decide +kernel
theorem dX3_init_49 : decode cX3_init 49 = .ok (.dup, 1) := by decide +kernel
theorem dX3_init_50 : decode cX3_init 50 = .ok (.invokespecial 24, 3) := by decide +kernel
theorem dX3_init_53 : decode cX3_init 53 = .ok (.putfield 32, 3) := by decide +kernel
theorem dX3_init_56 : decode cX3_init 56 = .ok (.aload_n 0, 1) := by decide +kernel
theorem dX3_init_57 : decode cX3_init 57 = .ok (.iconst 0, 1) := by decide +kernel
theorem dX3_init_58 : decode cX3_init 58 = .ok (.putfield 35, 3) := by decide +kernel
theorem dX3_init_61 : decode cX3_init 61 = .ok (.aload_n 0, 1) := by decide +kernel
theorem dX3_init_62 : decode cX3_init 62 = .ok (.iconst 0, 1) := by decide +kernel
theorem dX3_init_63 : decode cX3_init 63 = .ok (.putfield 39, 3) := by decide +kernel
theorem dX3_init_66 : decode cX3_init 66 = .ok (.aload_n 0, 1) := by decide +kernel
theorem dX3_init_67 : decode cX3_init 67 = .ok (.iconst 0, 1) := by decide +kernel
theorem dX3_init_68 : decode cX3_init 68 = .ok (.putfield 42, 3) := by decide +kernel
theorem dX3_init_71 : decode cX3_init 71 = .ok (.aload_n 0, 1) := by decide +kernel
theorem dX3_init_72 : decode cX3_init 72 = .ok (.aload_n 1, 1) := by decide +kernel
theorem dX3_init_73 : decode cX3_init 73 = .ok (.putfield 45, 3) := by decide +kernel
theorem dX3_init_76 : decode cX3_init 76 = .ok (.aload_n 0, 1) := by decide +kernel
theorem dX3_init_77 : decode cX3_init 77 = .ok (.iload_n 2, 1) := by decide +kernel
theorem dX3_init_78 : decode cX3_init 78 = .ok (.putfield 49, 3) := by decide +kernel
theorem dX3_init_81 : decode cX3_init 81 = .ok (.aload_n 0, 1) := by decide +kernel
theorem dX3_init_82 : decode cX3_init 82 = .ok (.iload_n 3, 1) := by decide +kernel
theorem dX3_init_83 : decode cX3_init 83 = .ok (.putfield 52, 3) := by decide +kernel
theorem dX3_init_86 : decode cX3_init 86 = .ok (.aload_n 0, 1) := by decide +kernel
theorem dX3_init_87 : decode cX3_init 87 = .ok (.iload 4, 2) := by decide +kernel
theorem dX3_init_89 : decode cX3_init 89 = .ok (.putfield 55, 3) := by decide +kernel
theorem dX3_init_92 : decode cX3_init 92 = .ok (.aload_n 0, 1) := by decide +kernel
theorem dX3_init_93 : decode cX3_init 93 = .ok (.iload 5, 2) := by decide +kernel
theorem dX3_init_95 : decode cX3_init 95 = .ok (.putfield 58, 3) := by decide +kernel
theorem dX3_init_98 : decode cX3_init 98 = .ok (.aload_n 0, 1) := by decide +kernel
theorem dX3_init_99 : decode cX3_init 99 = .ok (.iload 4, 2) := by decide +kernel
theorem dX3_init_101 : decode cX3_init 101 = .ok (.putfield 61, 3) := by decide +kernel
theorem dX3_init_104 : decode cX3_init 104 = .ok (.aload_n 0, 1) := by decide +kernel
theorem dX3_init_105 : decode cX3_init 105 = .ok (.getfield 12, 3) := by decide +kernel
theorem dX3_init_108 : decode cX3_init 108 = .ok (.iload 5, 2) := by decide +kernel
theorem dX3_init_110 : decode cX3_init 110 = .ok (.invokevirtual 64, 3) := by decide +kernel
theorem dX3_init_113 : decode cX3_init 113 = .ok (.return_, 1) := by decide +kernel
theorem dX3_sell_0 : decode cX3_sell 0 = .ok (.iload_n 2, 1) := by decide +kernel
theorem dX3_sell_1 : decode cX3_sell 1 = .ok (.aload_n 0, 1) := by decide +kernel
theorem dX3_sell_2 : decode cX3_sell 2 = .ok (.getfield 61, 3) := by decide +kernel
theorem dX3_sell_5 : decode cX3_sell 5 = .ok (.invokestatic 68, 3) := by decide +kernel
theorem dX3_sell_8 : decode cX3_sell 8 = .ok (.istore_n 3, 1) := by decide +kernel
theorem dX3_sell_9 : decode cX3_sell 9 = .ok (.aload_n 0, 1) := by decide +kernel
theorem dX3_sell_10 : decode cX3_sell 10 = .ok (.getfield 25, 3) := by decide +kernel
theorem dX3_sell_13 : decode cX3_sell 13 = .ok (.iload_n 1, 1) := by decide +kernel
theorem dX3_sell_14 : decode cX3_sell 14 = .ok (.iload_n 2, 1) := by decide +kernel
theorem dX3_sell_15 : decode cX3_sell 15 = .ok (.invokevirtual 74, 3) := by decide +kernel
theorem dX3_sell_18 : decode cX3_sell 18 = .ok (.aload_n 0, 1) := by decide +kernel
theorem dX3_sell_19 : decode cX3_sell 19 = .ok (.getfield 29, 3) := by decide +kernel
theorem dX3_sell_22 : decode cX3_sell 22 = .ok (.iload_n 1, 1) := by decide +kernel
theorem dX3_sell_23 : decode cX3_sell 23 = .ok (.iload_n 3, 1) := by decide +kernel
theorem dX3_sell_24 : decode cX3_sell 24 = .ok (.invokevirtual 74, 3) := by decide +kernel
theorem dX3_sell_27 : decode cX3_sell 27 = .ok (.aload_n 0, 1) := by decide +kernel
theorem dX3_sell_28 : decode cX3_sell 28 = .ok (.dup, 1) := by decide +kernel
theorem dX3_sell_29 : decode cX3_sell 29 = .ok (.getfield 61, 3) := by decide +kernel
theorem dX3_sell_32 : decode cX3_sell 32 = .ok (.iload_n 3, 1) := by decide +kernel
theorem dX3_sell_33 : decode cX3_sell 33 = .ok (.isub, 1) := by decide +kernel
theorem dX3_sell_34 : decode cX3_sell 34 = .ok (.putfield 61, 3) := by decide +kernel
theorem dX3_sell_37 : decode cX3_sell 37 = .ok (.aload_n 0, 1) := by decide +kernel
theorem dX3_sell_38 : decode cX3_sell 38 = .ok (.dup, 1) := by decide +kernel
theorem dX3_sell_39 : decode cX3_sell 39 = .ok (.getfield 39, 3) := by decide +kernel
theorem dX3_sell_42 : decode cX3_sell 42 = .ok (.iload_n 3, 1) := by decide +kernel
theorem dX3_sell_43 : decode cX3_sell 43 = .ok (.iadd, 1) := by decide +kernel
theorem dX3_sell_44 : decode cX3_sell 44 = .ok (.putfield 39, 3) := by decide +kernel
theorem dX3_sell_47 : decode cX3_sell 47 = .ok (.aload_n 0, 1) := by decide +kernel
theorem dX3_sell_48 : decode cX3_sell 48 = .ok (.dup, 1) := by decide +kernel
theorem dX3_sell_49 : decode cX3_sell 49 = .ok (.getfield 42, 3) := by decide +kernel
theorem dX3_sell_52 : decode cX3_sell 52 = .ok (.iload_n 2, 1) := by decide +kernel
theorem dX3_sell_53 : decode cX3_sell 53 = .ok (.iload_n 3, 1) := by decide +kernel
theorem dX3_sell_54 : decode cX3_sell 54 = .ok (.isub, 1) := by decide +kernel
theorem dX3_sell_55 : decode cX3_sell 55 = .ok (.iadd, 1) := by decide +kernel
theorem dX3_sell_56 : decode cX3_sell 56 = .ok (.putfield 42, 3) := by decide +kernel
theorem dX3_sell_59 : decode cX3_sell 59 = .ok (.iload_n 3, 1) := by decide +kernel
theorem dX3_sell_60 : decode cX3_sell 60 = .ok (.ireturn, 1) := by decide +kernel
theorem dX3_learnFrom_0 : decode cX3_learnFrom 0 = .ok (.aload_n 0, 1) := by decide +kernel
theorem dX3_learnFrom_1 : decode cX3_learnFrom 1 = .ok (.getfield 25, 3) := by decide +kernel
theorem dX3_learnFrom_4 : decode cX3_learnFrom 4 = .ok (.iload_n 1, 1) := by decide +kernel
theorem dX3_learnFrom_5 : decode cX3_learnFrom 5 = .ok (.invokevirtual 78, 3) := by decide +kernel
theorem dX3_learnFrom_8 : decode cX3_learnFrom 8 = .ok (.istore 4, 2) := by decide +kernel
theorem dX3_learnFrom_10 : decode cX3_learnFrom 10 = .ok (.bipush 20, 2) := by decide +kernel
theorem dX3_learnFrom_12 : decode cX3_learnFrom 12 = .ok (.iload 4, 2) := by decide +kernel
theorem dX3_learnFrom_14 : decode cX3_learnFrom 14 = .ok (.aload_n 0, 1) := by decide +kernel
theorem dX3_learnFrom_15 : decode cX3_learnFrom 15 = .ok (.getfield 12, 3) := by decide +kernel
theorem dX3_learnFrom_18 : decode cX3_learnFrom 18 = .ok (.iload_n 1, 1) := by decide +kernel
theorem dX3_learnFrom_19 : decode cX3_learnFrom 19 = .ok (.invokevirtual 82, 3) := by decide +kernel
theorem dX3_learnFrom_22 : decode cX3_learnFrom 22 = .ok (.isub, 1) := by decide +kernel
theorem dX3_learnFrom_23 : decode cX3_learnFrom 23 = .ok (.invokestatic 85, 3) := by decide +kernel
theorem dX3_learnFrom_26 : decode cX3_learnFrom 26 = .ok (.invokestatic 68, 3) := by decide +kernel
theorem dX3_learnFrom_29 : decode cX3_learnFrom 29 = .ok (.istore 5, 2) := by decide +kernel
theorem dX3_learnFrom_31 : decode cX3_learnFrom 31 = .ok (.iload 5, 2) := by decide +kernel
theorem dX3_learnFrom_33 : decode cX3_learnFrom 33 = .ok (.ifCond .lt 34, 3) := by decide +kernel
theorem dX3_learnFrom_36 : decode cX3_learnFrom 36 = .ok (.iload 5, 2) := by decide +kernel
theorem dX3_learnFrom_38 : decode cX3_learnFrom 38 = .ok (.aload_n 0, 1) := by decide +kernel
theorem dX3_learnFrom_39 : decode cX3_learnFrom 39 = .ok (.getfield 18, 3) := by decide +kernel
theorem dX3_learnFrom_42 : decode cX3_learnFrom 42 = .ok (.arraylength, 1) := by decide +kernel
theorem dX3_learnFrom_43 : decode cX3_learnFrom 43 = .ok (.if_icmp .ge 24, 3) := by decide +kernel
theorem dX3_learnFrom_46 : decode cX3_learnFrom 46 = .ok (.aload_n 0, 1) := by decide +kernel
theorem dX3_learnFrom_47 : decode cX3_learnFrom 47 = .ok (.getfield 18, 3) := by decide +kernel
theorem dX3_learnFrom_50 : decode cX3_learnFrom 50 = .ok (.iload 5, 2) := by decide +kernel
theorem dX3_learnFrom_52 : decode cX3_learnFrom 52 = .ok (.dup2, 1) := by decide +kernel
theorem dX3_learnFrom_53 : decode cX3_learnFrom 53 = .ok (.iaload, 1) := by decide +kernel
theorem dX3_learnFrom_54 : decode cX3_learnFrom 54 = .ok (.iconst 1, 1) := by decide +kernel
theorem dX3_learnFrom_55 : decode cX3_learnFrom 55 = .ok (.iadd, 1) := by decide +kernel
theorem dX3_learnFrom_56 : decode cX3_learnFrom 56 = .ok (.iastore, 1) := by decide +kernel
theorem dX3_learnFrom_57 : decode cX3_learnFrom 57 = .ok (.aload_n 0, 1) := by decide +kernel
theorem dX3_learnFrom_58 : decode cX3_learnFrom 58 = .ok (.dup, 1) := by decide +kernel
theorem dX3_learnFrom_59 : decode cX3_learnFrom 59 = .ok (.getfield 35, 3) := by decide +kernel
theorem dX3_learnFrom_62 : decode cX3_learnFrom 62 = .ok (.iconst 1, 1) := by decide +kernel
theorem dX3_learnFrom_63 : decode cX3_learnFrom 63 = .ok (.iadd, 1) := by decide +kernel
theorem dX3_learnFrom_64 : decode cX3_learnFrom 64 = .ok (.putfield 35, 3) := by decide +kernel
theorem dX3_learnFrom_67 : decode cX3_learnFrom 67 = .ok (.aload_n 0, 1) := by decide +kernel
theorem dX3_learnFrom_68 : decode cX3_learnFrom 68 = .ok (.getfield 12, 3) := by decide +kernel
theorem dX3_learnFrom_71 : decode cX3_learnFrom 71 = .ok (.iload_n 1, 1) := by decide +kernel
theorem dX3_learnFrom_72 : decode cX3_learnFrom 72 = .ok (.iload 4, 2) := by decide +kernel
theorem dX3_learnFrom_74 : decode cX3_learnFrom 74 = .ok (.iload_n 2, 1) := by decide +kernel
theorem dX3_learnFrom_75 : decode cX3_learnFrom 75 = .ok (.iload_n 3, 1) := by decide +kernel
theorem dX3_learnFrom_76 : decode cX3_learnFrom 76 = .ok (.invokevirtual 88, 3) := by decide +kernel
theorem dX3_learnFrom_79 : decode cX3_learnFrom 79 = .ok (.return_, 1) := by decide +kernel
theorem dX3_timesOf_0 : decode cX3_timesOf 0 = .ok (.iload_n 1, 1) := by decide +kernel
theorem dX3_timesOf_1 : decode cX3_timesOf 1 = .ok (.ifCond .lt 21, 3) := by decide +kernel
theorem dX3_timesOf_4 : decode cX3_timesOf 4 = .ok (.iload_n 1, 1) := by decide +kernel
theorem dX3_timesOf_5 : decode cX3_timesOf 5 = .ok (.aload_n 0, 1) := by decide +kernel
theorem dX3_timesOf_6 : decode cX3_timesOf 6 = .ok (.getfield 18, 3) := by decide +kernel
theorem dX3_timesOf_9 : decode cX3_timesOf 9 = .ok (.arraylength, 1) := by decide +kernel
theorem dX3_timesOf_10 : decode cX3_timesOf 10 = .ok (.if_icmp .ge 12, 3) := by decide +kernel
theorem dX3_timesOf_13 : decode cX3_timesOf 13 = .ok (.aload_n 0, 1) := by decide +kernel
theorem dX3_timesOf_14 : decode cX3_timesOf 14 = .ok (.getfield 18, 3) := by decide +kernel
theorem dX3_timesOf_17 : decode cX3_timesOf 17 = .ok (.iload_n 1, 1) := by decide +kernel
theorem dX3_timesOf_18 : decode cX3_timesOf 18 = .ok (.iaload, 1) := by decide +kernel
theorem dX3_timesOf_19 : decode cX3_timesOf 19 = .ok (.goto 4, 3) := by decide +kernel
theorem dX3_timesOf_22 : decode cX3_timesOf 22 = .ok (.iconst 0, 1) := by decide +kernel
theorem dX3_timesOf_23 : decode cX3_timesOf 23 = .ok (.ireturn, 1) := by decide +kernel
theorem dX3_safetyAt_0 : decode cX3_safetyAt 0 = .ok (.iconst 0, 1) := by decide +kernel
theorem dX3_safetyAt_1 : decode cX3_safetyAt 1 = .ok (.istore_n 2, 1) := by decide +kernel
theorem dX3_safetyAt_2 : decode cX3_safetyAt 2 = .ok (.iconst 0, 1) := by decide +kernel
theorem dX3_safetyAt_3 : decode cX3_safetyAt 3 = .ok (.istore_n 3, 1) := by decide +kernel
theorem dX3_safetyAt_4 : decode cX3_safetyAt 4 = .ok (.iload_n 3, 1) := by decide +kernel
theorem dX3_safetyAt_5 : decode cX3_safetyAt 5 = .ok (.aload_n 0, 1) := by decide +kernel
theorem dX3_safetyAt_6 : decode cX3_safetyAt 6 = .ok (.getfield 18, 3) := by decide +kernel
theorem dX3_safetyAt_9 : decode cX3_safetyAt 9 = .ok (.arraylength, 1) := by decide +kernel
theorem dX3_safetyAt_10 : decode cX3_safetyAt 10 = .ok (.if_icmp .ge 33, 3) := by decide +kernel
theorem dX3_safetyAt_13 : decode cX3_safetyAt 13 = .ok (.iload_n 2, 1) := by decide +kernel
theorem dX3_safetyAt_14 : decode cX3_safetyAt 14 = .ok (.aload_n 0, 1) := by decide +kernel
theorem dX3_safetyAt_15 : decode cX3_safetyAt 15 = .ok (.getfield 18, 3) := by decide +kernel
theorem dX3_safetyAt_18 : decode cX3_safetyAt 18 = .ok (.iload_n 3, 1) := by decide +kernel
theorem dX3_safetyAt_19 : decode cX3_safetyAt 19 = .ok (.iaload, 1) := by decide +kernel
theorem dX3_safetyAt_20 : decode cX3_safetyAt 20 = .ok (.iadd, 1) := by decide +kernel
theorem dX3_safetyAt_21 : decode cX3_safetyAt 21 = .ok (.istore_n 2, 1) := by decide +kernel
theorem dX3_safetyAt_22 : decode cX3_safetyAt 22 = .ok (.iload_n 2, 1) := by decide +kernel
theorem dX3_safetyAt_23 : decode cX3_safetyAt 23 = .ok (.bipush 100, 2) := by decide +kernel
theorem dX3_safetyAt_25 : decode cX3_safetyAt 25 = .ok (.imul, 1) := by decide +kernel
theorem dX3_safetyAt_26 : decode cX3_safetyAt 26 = .ok (.iload_n 1, 1) := by decide +kernel
theorem dX3_safetyAt_27 : decode cX3_safetyAt 27 = .ok (.aload_n 0, 1) := by decide +kernel
theorem dX3_safetyAt_28 : decode cX3_safetyAt 28 = .ok (.getfield 35, 3) := by decide +kernel
theorem dX3_safetyAt_31 : decode cX3_safetyAt 31 = .ok (.imul, 1) := by decide +kernel
theorem dX3_safetyAt_32 : decode cX3_safetyAt 32 = .ok (.if_icmp .lt 5, 3) := by decide +kernel
theorem dX3_safetyAt_35 : decode cX3_safetyAt 35 = .ok (.iload_n 3, 1) := by decide +kernel
theorem dX3_safetyAt_36 : decode cX3_safetyAt 36 = .ok (.ireturn, 1) := by decide +kernel
theorem dX3_safetyAt_37 : decode cX3_safetyAt 37 = .ok (.iinc 3 1, 3) := by decide +kernel
theorem dX3_safetyAt_40 : decode cX3_safetyAt 40 = .ok (.goto (-36), 3) := by decide +kernel
theorem dX3_safetyAt_43 : decode cX3_safetyAt 43 = .ok (.bipush 20, 2) := by decide +kernel
theorem dX3_safetyAt_45 : decode cX3_safetyAt 45 = .ok (.ireturn, 1) := by decide +kernel
theorem dX3_dueAfter_0 : decode cX3_dueAfter 0 = .ok (.iconst 0, 1) := by decide +kernel
theorem dX3_dueAfter_1 : decode cX3_dueAfter 1 = .ok (.istore_n 2, 1) := by decide +kernel
theorem dX3_dueAfter_2 : decode cX3_dueAfter 2 = .ok (.iconst 1, 1) := by decide +kernel
theorem dX3_dueAfter_3 : decode cX3_dueAfter 3 = .ok (.istore_n 3, 1) := by decide +kernel
theorem dX3_dueAfter_4 : decode cX3_dueAfter 4 = .ok (.iload_n 3, 1) := by decide +kernel
theorem dX3_dueAfter_5 : decode cX3_dueAfter 5 = .ok (.iconst 5, 1) := by decide +kernel
theorem dX3_dueAfter_6 : decode cX3_dueAfter 6 = .ok (.if_icmp .gt 22, 3) := by decide +kernel
theorem dX3_dueAfter_9 : decode cX3_dueAfter 9 = .ok (.iload_n 2, 1) := by decide +kernel
theorem dX3_dueAfter_10 : decode cX3_dueAfter 10 = .ok (.aload_n 0, 1) := by decide +kernel
theorem dX3_dueAfter_11 : decode cX3_dueAfter 11 = .ok (.getfield 32, 3) := by decide +kernel
theorem dX3_dueAfter_14 : decode cX3_dueAfter 14 = .ok (.iload_n 1, 1) := by decide +kernel
theorem dX3_dueAfter_15 : decode cX3_dueAfter 15 = .ok (.iload_n 3, 1) := by decide +kernel
theorem dX3_dueAfter_16 : decode cX3_dueAfter 16 = .ok (.iadd, 1) := by decide +kernel
theorem dX3_dueAfter_17 : decode cX3_dueAfter 17 = .ok (.invokevirtual 78, 3) := by decide +kernel
theorem dX3_dueAfter_20 : decode cX3_dueAfter 20 = .ok (.iadd, 1) := by decide +kernel
theorem dX3_dueAfter_21 : decode cX3_dueAfter 21 = .ok (.istore_n 2, 1) := by decide +kernel
theorem dX3_dueAfter_22 : decode cX3_dueAfter 22 = .ok (.iinc 3 1, 3) := by decide +kernel
theorem dX3_dueAfter_25 : decode cX3_dueAfter 25 = .ok (.goto (-21), 3) := by decide +kernel
theorem dX3_dueAfter_28 : decode cX3_dueAfter 28 = .ok (.iload_n 2, 1) := by decide +kernel
theorem dX3_dueAfter_29 : decode cX3_dueAfter 29 = .ok (.ireturn, 1) := by decide +kernel
theorem dX3_send_0 : decode cX3_send 0 = .ok (.iload_n 2, 1) := by decide +kernel
theorem dX3_send_1 : decode cX3_send 1 = .ok (.aload_n 0, 1) := by decide +kernel
theorem dX3_send_2 : decode cX3_send 2 = .ok (.getfield 45, 3) := by decide +kernel
theorem dX3_send_5 : decode cX3_send 5 = .ok (.getfield 92, 3) := by decide +kernel
theorem dX3_send_8 : decode cX3_send 8 = .ok (.imul, 1) := by decide +kernel
theorem dX3_send_9 : decode cX3_send 9 = .ok (.istore_n 3, 1) := by decide +kernel
theorem dX3_send_10 : decode cX3_send 10 = .ok (.aload_n 0, 1) := by decide +kernel
theorem dX3_send_11 : decode cX3_send 11 = .ok (.getfield 45, 3) := by decide +kernel
theorem dX3_send_14 : decode cX3_send 14 = .ok (.iload_n 1, 1) := by decide +kernel
theorem dX3_send_15 : decode cX3_send 15 = .ok (.iload_n 3, 1) := by decide +kernel
theorem dX3_send_16 : decode cX3_send 16 = .ok (.invokevirtual 97, 3) := by decide +kernel
theorem dX3_send_19 : decode cX3_send 19 = .ok (.aload_n 0, 1) := by decide +kernel
theorem dX3_send_20 : decode cX3_send 20 = .ok (.getfield 32, 3) := by decide +kernel
theorem dX3_send_23 : decode cX3_send 23 = .ok (.iload_n 1, 1) := by decide +kernel
theorem dX3_send_24 : decode cX3_send 24 = .ok (.aload_n 0, 1) := by decide +kernel
theorem dX3_send_25 : decode cX3_send 25 = .ok (.getfield 49, 3) := by decide +kernel
theorem dX3_send_28 : decode cX3_send 28 = .ok (.iadd, 1) := by decide +kernel
theorem dX3_send_29 : decode cX3_send 29 = .ok (.iload_n 3, 1) := by decide +kernel
theorem dX3_send_30 : decode cX3_send 30 = .ok (.invokevirtual 74, 3) := by decide +kernel
theorem dX3_send_33 : decode cX3_send 33 = .ok (.return_, 1) := by decide +kernel
theorem dX3_firstDueAfter_0 : decode cX3_firstDueAfter 0 = .ok (.iconst 1, 1) := by decide +kernel
theorem dX3_firstDueAfter_1 : decode cX3_firstDueAfter 1 = .ok (.istore_n 2, 1) := by decide +kernel
theorem dX3_firstDueAfter_2 : decode cX3_firstDueAfter 2 = .ok (.iload_n 2, 1) := by decide +kernel
theorem dX3_firstDueAfter_3 : decode cX3_firstDueAfter 3 = .ok (.iconst 5, 1) := by decide +kernel
theorem dX3_firstDueAfter_4 : decode cX3_firstDueAfter 4 = .ok (.if_icmp .gt 26, 3) := by decide +kernel
theorem dX3_firstDueAfter_7 : decode cX3_firstDueAfter 7 = .ok (.aload_n 0, 1) := by decide +kernel
theorem dX3_firstDueAfter_8 : decode cX3_firstDueAfter 8 = .ok (.getfield 32, 3) := by decide +kernel
theorem dX3_firstDueAfter_11 : decode cX3_firstDueAfter 11 = .ok (.iload_n 1, 1) := by decide +kernel
theorem dX3_firstDueAfter_12 : decode cX3_firstDueAfter 12 = .ok (.iload_n 2, 1) := by decide +kernel
theorem dX3_firstDueAfter_13 : decode cX3_firstDueAfter 13 = .ok (.iadd, 1) := by decide +kernel
theorem dX3_firstDueAfter_14 : decode cX3_firstDueAfter 14 = .ok (.invokevirtual 78, 3) := by decide +kernel
theorem dX3_firstDueAfter_17 : decode cX3_firstDueAfter 17 = .ok (.ifCond .le 7, 3) := by decide +kernel
theorem dX3_firstDueAfter_20 : decode cX3_firstDueAfter 20 = .ok (.iload_n 1, 1) := by decide +kernel
theorem dX3_firstDueAfter_21 : decode cX3_firstDueAfter 21 = .ok (.iload_n 2, 1) := by decide +kernel
theorem dX3_firstDueAfter_22 : decode cX3_firstDueAfter 22 = .ok (.iadd, 1) := by decide +kernel
theorem dX3_firstDueAfter_23 : decode cX3_firstDueAfter 23 = .ok (.ireturn, 1) := by decide +kernel
theorem dX3_firstDueAfter_24 : decode cX3_firstDueAfter 24 = .ok (.iinc 2 1, 3) := by decide +kernel
theorem dX3_firstDueAfter_27 : decode cX3_firstDueAfter 27 = .ok (.goto (-25), 3) := by decide +kernel
theorem dX3_firstDueAfter_30 : decode cX3_firstDueAfter 30 = .ok (.iconst (-1), 1) := by decide +kernel
theorem dX3_firstDueAfter_31 : decode cX3_firstDueAfter 31 = .ok (.ireturn, 1) := by decide +kernel
theorem dX3_needOn_0 : decode cX3_needOn 0 = .ok (.lconst 0, 1) := by decide +kernel
theorem dX3_needOn_1 : decode cX3_needOn 1 = .ok (.lstore_n 3, 1) := by decide +kernel
theorem dX3_needOn_2 : decode cX3_needOn 2 = .ok (.iconst 0, 1) := by decide +kernel
theorem dX3_needOn_3 : decode cX3_needOn 3 = .ok (.istore 5, 2) := by decide +kernel
theorem dX3_needOn_5 : decode cX3_needOn 5 = .ok (.iload 5, 2) := by decide +kernel
theorem dX3_needOn_7 : decode cX3_needOn 7 = .ok (.aload_n 0, 1) := by decide +kernel
theorem dX3_needOn_8 : decode cX3_needOn 8 = .ok (.getfield 49, 3) := by decide +kernel
theorem dX3_needOn_11 : decode cX3_needOn 11 = .ok (.if_icmp .gt 24, 3) := by decide +kernel
theorem dX3_needOn_14 : decode cX3_needOn 14 = .ok (.lload_n 3, 1) := by decide +kernel
theorem dX3_needOn_15 : decode cX3_needOn 15 = .ok (.aload_n 0, 1) := by decide +kernel
theorem dX3_needOn_16 : decode cX3_needOn 16 = .ok (.getfield 12, 3) := by decide +kernel
theorem dX3_needOn_19 : decode cX3_needOn 19 = .ok (.iload_n 1, 1) := by decide +kernel
theorem dX3_needOn_20 : decode cX3_needOn 20 = .ok (.iload 5, 2) := by decide +kernel
theorem dX3_needOn_22 : decode cX3_needOn 22 = .ok (.iadd, 1) := by decide +kernel
theorem dX3_needOn_23 : decode cX3_needOn 23 = .ok (.invokevirtual 100, 3) := by decide +kernel
theorem dX3_needOn_26 : decode cX3_needOn 26 = .ok (.i2l, 1) := by decide +kernel
theorem dX3_needOn_27 : decode cX3_needOn 27 = .ok (.ladd, 1) := by decide +kernel
theorem dX3_needOn_28 : decode cX3_needOn 28 = .ok (.lstore_n 3, 1) := by decide +kernel
theorem dX3_needOn_29 : decode cX3_needOn 29 = .ok (.iinc 5 1, 3) := by decide +kernel
theorem dX3_needOn_32 : decode cX3_needOn 32 = .ok (.goto (-27), 3) := by decide +kernel
theorem dX3_needOn_35 : decode cX3_needOn 35 = .ok (.lload_n 3, 1) := by decide +kernel
theorem dX3_needOn_36 : decode cX3_needOn 36 = .ok (.ldc2_w 103, 3) := by decide +kernel
theorem dX3_needOn_39 : decode cX3_needOn 39 = .ok (.ladd, 1) := by decide +kernel
theorem dX3_needOn_40 : decode cX3_needOn 40 = .ok (.ldc2_w 105, 3) := by decide +kernel
theorem dX3_needOn_43 : decode cX3_needOn 43 = .ok (.ldiv, 1) := by decide +kernel
theorem dX3_needOn_44 : decode cX3_needOn 44 = .ok (.l2i, 1) := by decide +kernel
theorem dX3_needOn_45 : decode cX3_needOn 45 = .ok (.istore 5, 2) := by decide +kernel
theorem dX3_needOn_47 : decode cX3_needOn 47 = .ok (.iload 5, 2) := by decide +kernel
theorem dX3_needOn_49 : decode cX3_needOn 49 = .ok (.aload_n 0, 1) := by decide +kernel
theorem dX3_needOn_50 : decode cX3_needOn 50 = .ok (.iload_n 2, 1) := by decide +kernel
theorem dX3_needOn_51 : decode cX3_needOn 51 = .ok (.invokevirtual 107, 3) := by decide +kernel
theorem dX3_needOn_54 : decode cX3_needOn 54 = .ok (.iadd, 1) := by decide +kernel
theorem dX3_needOn_55 : decode cX3_needOn 55 = .ok (.aload_n 0, 1) := by decide +kernel
theorem dX3_needOn_56 : decode cX3_needOn 56 = .ok (.getfield 61, 3) := by decide +kernel
theorem dX3_needOn_59 : decode cX3_needOn 59 = .ok (.isub, 1) := by decide +kernel
theorem dX3_needOn_60 : decode cX3_needOn 60 = .ok (.aload_n 0, 1) := by decide +kernel
theorem dX3_needOn_61 : decode cX3_needOn 61 = .ok (.iload_n 1, 1) := by decide +kernel
theorem dX3_needOn_62 : decode cX3_needOn 62 = .ok (.invokevirtual 110, 3) := by decide +kernel
theorem dX3_needOn_65 : decode cX3_needOn 65 = .ok (.isub, 1) := by decide +kernel
theorem dX3_needOn_66 : decode cX3_needOn 66 = .ok (.ireturn, 1) := by decide +kernel
theorem dX3_requestOn_0 : decode cX3_requestOn 0 = .ok (.aload_n 0, 1) := by decide +kernel
theorem dX3_requestOn_1 : decode cX3_requestOn 1 = .ok (.getfield 45, 3) := by decide +kernel
theorem dX3_requestOn_4 : decode cX3_requestOn 4 = .ok (.aload_n 0, 1) := by decide +kernel
theorem dX3_requestOn_5 : decode cX3_requestOn 5 = .ok (.iload_n 1, 1) := by decide +kernel
theorem dX3_requestOn_6 : decode cX3_requestOn 6 = .ok (.iload_n 2, 1) := by decide +kernel
theorem dX3_requestOn_7 : decode cX3_requestOn 7 = .ok (.invokevirtual 113, 3) := by decide +kernel
theorem dX3_requestOn_10 : decode cX3_requestOn 10 = .ok (.invokevirtual 116, 3) := by decide +kernel
theorem dX3_requestOn_13 : decode cX3_requestOn 13 = .ok (.ireturn, 1) := by decide +kernel
theorem dX3_journalStock_0 : decode cX3_journalStock 0 = .ok (.aload_n 0, 1) := by decide +kernel
theorem dX3_journalStock_1 : decode cX3_journalStock 1 = .ok (.getfield 55, 3) := by decide +kernel
theorem dX3_journalStock_4 : decode cX3_journalStock 4 = .ok (.aload_n 0, 1) := by decide +kernel
theorem dX3_journalStock_5 : decode cX3_journalStock 5 = .ok (.getfield 32, 3) := by decide +kernel
theorem dX3_journalStock_8 : decode cX3_journalStock 8 = .ok (.iload_n 1, 1) := by decide +kernel
theorem dX3_journalStock_9 : decode cX3_journalStock 9 = .ok (.invokevirtual 119, 3) := by decide +kernel
theorem dX3_journalStock_12 : decode cX3_journalStock 12 = .ok (.iadd, 1) := by decide +kernel
theorem dX3_journalStock_13 : decode cX3_journalStock 13 = .ok (.aload_n 0, 1) := by decide +kernel
theorem dX3_journalStock_14 : decode cX3_journalStock 14 = .ok (.getfield 29, 3) := by decide +kernel
theorem dX3_journalStock_17 : decode cX3_journalStock 17 = .ok (.iload_n 1, 1) := by decide +kernel
theorem dX3_journalStock_18 : decode cX3_journalStock 18 = .ok (.invokevirtual 119, 3) := by decide +kernel
theorem dX3_journalStock_21 : decode cX3_journalStock 21 = .ok (.isub, 1) := by decide +kernel
theorem dX3_journalStock_22 : decode cX3_journalStock 22 = .ok (.ireturn, 1) := by decide +kernel
theorem dX4_init_0 : decode cX4_init 0 = .ok (.aload_n 0, 1) := by decide +kernel
theorem dX4_init_1 : decode cX4_init 1 = .ok (.invokespecial 3, 3) := by decide +kernel
theorem dX4_init_4 : decode cX4_init 4 = .ok (.aload_n 0, 1) := by decide +kernel
theorem dX4_init_5 : decode cX4_init 5 = .ok (.iconst 4, 1) := by decide +kernel
theorem dX4_init_6 : decode cX4_init 6 = .ok (.newarray .int, 2) := by decide +kernel
theorem dX4_init_8 : decode cX4_init 8 = .ok (.putfield 9, 3) := by decide +kernel
theorem dX4_init_11 : decode cX4_init 11 = .ok (.aload_n 0, 1) := by decide +kernel
theorem dX4_init_12 : decode cX4_init 12 = .ok (.iconst 4, 1) := by decide +kernel
theorem dX4_init_13 : decode cX4_init 13 = .ok (.newarray .int, 2) := by decide +kernel
theorem dX4_init_15 : decode cX4_init 15 = .ok (.putfield 15, 3) := by decide +kernel
theorem dX4_init_18 : decode cX4_init 18 = .ok (.aload_n 0, 1) := by decide +kernel
theorem dX4_init_19 : decode cX4_init 19 = .ok (.iconst 0, 1) := by decide +kernel
theorem dX4_init_20 : decode cX4_init 20 = .ok (.putfield 18, 3) := by decide +kernel
theorem dX4_init_23 : decode cX4_init 23 = .ok (.return_, 1) := by decide +kernel
theorem dX4_start_0 : decode cX4_start 0 = .ok (.aload_n 0, 1) := by decide +kernel
theorem dX4_start_1 : decode cX4_start 1 = .ok (.iload_n 1, 1) := by decide +kernel
theorem dX4_start_2 : decode cX4_start 2 = .ok (.putfield 18, 3) := by decide +kernel
theorem dX4_start_5 : decode cX4_start 5 = .ok (.iconst 0, 1) := by decide +kernel
theorem dX4_start_6 : decode cX4_start 6 = .ok (.istore_n 2, 1) := by decide +kernel
theorem dX4_start_7 : decode cX4_start 7 = .ok (.iload_n 2, 1) := by decide +kernel
theorem dX4_start_8 : decode cX4_start 8 = .ok (.aload_n 0, 1) := by decide +kernel
theorem dX4_start_9 : decode cX4_start 9 = .ok (.getfield 9, 3) := by decide +kernel
theorem dX4_start_12 : decode cX4_start 12 = .ok (.arraylength, 1) := by decide +kernel
theorem dX4_start_13 : decode cX4_start 13 = .ok (.if_icmp .ge 16, 3) := by decide +kernel
theorem dX4_start_16 : decode cX4_start 16 = .ok (.aload_n 0, 1) := by decide +kernel
theorem dX4_start_17 : decode cX4_start 17 = .ok (.getfield 9, 3) := by decide +kernel
theorem dX4_start_20 : decode cX4_start 20 = .ok (.iload_n 2, 1) := by decide +kernel
theorem dX4_start_21 : decode cX4_start 21 = .ok (.iconst 0, 1) := by decide +kernel
theorem dX4_start_22 : decode cX4_start 22 = .ok (.iastore, 1) := by decide +kernel
theorem dX4_start_23 : decode cX4_start 23 = .ok (.iinc 2 1, 3) := by decide +kernel
theorem dX4_start_26 : decode cX4_start 26 = .ok (.goto (-19), 3) := by decide +kernel
theorem dX4_start_29 : decode cX4_start 29 = .ok (.return_, 1) := by decide +kernel
theorem dX4_ask_0 : decode cX4_ask 0 = .ok (.iload_n 1, 1) := by decide +kernel
theorem dX4_ask_1 : decode cX4_ask 1 = .ok (.ifCond .lt 19, 3) := by decide +kernel
theorem dX4_ask_4 : decode cX4_ask 4 = .ok (.iload_n 1, 1) := by decide +kernel
theorem dX4_ask_5 : decode cX4_ask 5 = .ok (.aload_n 0, 1) := by decide +kernel
theorem dX4_ask_6 : decode cX4_ask 6 = .ok (.getfield 9, 3) := by decide +kernel
theorem dX4_ask_9 : decode cX4_ask 9 = .ok (.arraylength, 1) := by decide +kernel
theorem dX4_ask_10 : decode cX4_ask 10 = .ok (.if_icmp .ge 10, 3) := by decide +kernel
theorem dX4_ask_13 : decode cX4_ask 13 = .ok (.aload_n 0, 1) := by decide +kernel
theorem dX4_ask_14 : decode cX4_ask 14 = .ok (.getfield 9, 3) := by decide +kernel
theorem dX4_ask_17 : decode cX4_ask 17 = .ok (.iload_n 1, 1) := by decide +kernel
theorem dX4_ask_18 : decode cX4_ask 18 = .ok (.iload_n 2, 1) := by decide +kernel
theorem dX4_ask_19 : decode cX4_ask 19 = .ok (.iastore, 1) := by decide +kernel
theorem dX4_ask_20 : decode cX4_ask 20 = .ok (.return_, 1) := by decide +kernel
theorem dX4_counted_0 : decode cX4_counted 0 = .ok (.iload_n 1, 1) := by decide +kernel
theorem dX4_counted_1 : decode cX4_counted 1 = .ok (.ifCond .lt 12, 3) := by decide +kernel
theorem dX4_counted_4 : decode cX4_counted 4 = .ok (.iload_n 1, 1) := by decide +kernel
theorem dX4_counted_5 : decode cX4_counted 5 = .ok (.aload_n 0, 1) := by decide +kernel
theorem dX4_counted_6 : decode cX4_counted 6 = .ok (.getfield 9, 3) := by decide +kernel
theorem dX4_counted_9 : decode cX4_counted 9 = .ok (.arraylength, 1) := by decide +kernel
theorem dX4_counted_10 : decode cX4_counted 10 = .ok (.if_icmp .lt 5, 3) := by decide +kernel
theorem dX4_counted_13 : decode cX4_counted 13 = .ok (.iconst 0, 1) := by decide +kernel
theorem dX4_counted_14 : decode cX4_counted 14 = .ok (.ireturn, 1) := by decide +kernel
theorem dX4_counted_15 : decode cX4_counted 15 = .ok (.iconst 0, 1) := by decide +kernel
theorem dX4_counted_16 : decode cX4_counted 16 = .ok (.istore_n 2, 1) := by decide +kernel
theorem dX4_counted_17 : decode cX4_counted 17 = .ok (.aload_n 0, 1) := by decide +kernel
theorem dX4_counted_18 : decode cX4_counted 18 = .ok (.getfield 9, 3) := by decide +kernel
theorem dX4_counted_21 : decode cX4_counted 21 = .ok (.iload_n 1, 1) := by decide +kernel
theorem dX4_counted_22 : decode cX4_counted 22 = .ok (.iaload, 1) := by decide +kernel
theorem dX4_counted_23 : decode cX4_counted 23 = .ok (.istore_n 3, 1) := by decide +kernel
theorem dX4_counted_24 : decode cX4_counted 24 = .ok (.iconst 0, 1) := by decide +kernel
theorem dX4_counted_25 : decode cX4_counted 25 = .ok (.istore 4, 2) := by decide +kernel
theorem dX4_counted_27 : decode cX4_counted 27 = .ok (.iload 4, 2) := by decide +kernel
theorem dX4_counted_29 : decode cX4_counted 29 = .ok (.bipush 32, 2) := by decide +kernel
theorem dX4_counted_31 : decode cX4_counted 31 = .ok (.if_icmp .ge 50, 3) := by decide +kernel
theorem dX4_counted_34 : decode cX4_counted 34 = .ok (.iload_n 2, 1) := by decide +kernel
theorem dX4_counted_35 : decode cX4_counted 35 = .ok (.iload_n 3, 1) := by decide +kernel
theorem dX4_counted_36 : decode cX4_counted 36 = .ok (.if_icmp .ge 45, 3) := by decide +kernel
theorem dX4_counted_39 : decode cX4_counted 39 = .ok (.iload_n 2, 1) := by decide +kernel
theorem dX4_counted_40 : decode cX4_counted 40 = .ok (.iload_n 3, 1) := by decide +kernel
theorem dX4_counted_41 : decode cX4_counted 41 = .ok (.iload_n 2, 1) := by decide +kernel
theorem dX4_counted_42 : decode cX4_counted 42 = .ok (.isub, 1) := by decide +kernel
theorem dX4_counted_43 : decode cX4_counted 43 = .ok (.iconst 2, 1) := by decide +kernel
theorem dX4_counted_44 : decode cX4_counted 44 = .ok (.idiv, 1) := by decide +kernel
theorem dX4_counted_45 : decode cX4_counted 45 = .ok (.iadd, 1) := by decide +kernel
theorem dX4_counted_46 : decode cX4_counted 46 = .ok (.istore 5, 2) := by decide +kernel
theorem dX4_counted_48 : decode cX4_counted 48 = .ok (.aload_n 0, 1) := by decide +kernel
theorem dX4_counted_49 : decode cX4_counted 49 = .ok (.iload_n 1, 1) := by decide +kernel
theorem dX4_counted_50 : decode cX4_counted 50 = .ok (.iload 5, 2) := by decide +kernel
theorem dX4_counted_52 : decode cX4_counted 52 = .ok (.invokevirtual 22, 3) := by decide +kernel
theorem dX4_counted_55 : decode cX4_counted 55 = .ok (.aload_n 0, 1) := by decide +kernel
theorem dX4_counted_56 : decode cX4_counted 56 = .ok (.getfield 18, 3) := by decide +kernel
theorem dX4_counted_59 : decode cX4_counted 59 = .ok (.i2l, 1) := by decide +kernel
theorem dX4_counted_60 : decode cX4_counted 60 = .ok (.lcmp, 1) := by decide +kernel
theorem dX4_counted_61 : decode cX4_counted 61 = .ok (.ifCond .ge 11, 3) := by decide +kernel
theorem dX4_counted_64 : decode cX4_counted 64 = .ok (.iload 5, 2) := by decide +kernel
theorem dX4_counted_66 : decode cX4_counted 66 = .ok (.iconst 1, 1) := by decide +kernel
theorem dX4_counted_67 : decode cX4_counted 67 = .ok (.iadd, 1) := by decide +kernel
theorem dX4_counted_68 : decode cX4_counted 68 = .ok (.istore_n 2, 1) := by decide +kernel
theorem dX4_counted_69 : decode cX4_counted 69 = .ok (.goto 6, 3) := by decide +kernel
theorem dX4_counted_72 : decode cX4_counted 72 = .ok (.iload 5, 2) := by decide +kernel
theorem dX4_counted_74 : decode cX4_counted 74 = .ok (.istore_n 3, 1) := by decide +kernel
theorem dX4_counted_75 : decode cX4_counted 75 = .ok (.iinc 4 1, 3) := by decide +kernel
theorem dX4_counted_78 : decode cX4_counted 78 = .ok (.goto (-51), 3) := by decide +kernel
theorem dX4_counted_81 : decode cX4_counted 81 = .ok (.iload_n 2, 1) := by decide +kernel
theorem dX4_counted_82 : decode cX4_counted 82 = .ok (.ireturn, 1) := by decide +kernel
theorem dX4_givenAhead_0 : decode cX4_givenAhead 0 = .ok (.iload_n 1, 1) := by decide +kernel
theorem dX4_givenAhead_1 : decode cX4_givenAhead 1 = .ok (.ifCond .lt 22, 3) := by decide +kernel
theorem dX4_givenAhead_4 : decode cX4_givenAhead 4 = .ok (.iload_n 1, 1) := by decide +kernel
theorem dX4_givenAhead_5 : decode cX4_givenAhead 5 = .ok (.aload_n 0, 1) := by decide +kernel
theorem dX4_givenAhead_6 : decode cX4_givenAhead 6 = .ok (.getfield 9, 3) := by decide +kernel
theorem dX4_givenAhead_9 : decode cX4_givenAhead 9 = .ok (.arraylength, 1) := by decide +kernel
theorem dX4_givenAhead_10 : decode cX4_givenAhead 10 = .ok (.if_icmp .ge 13, 3) := by decide +kernel
theorem dX4_givenAhead_13 : decode cX4_givenAhead 13 = .ok (.aload_n 0, 1) := by decide +kernel
theorem dX4_givenAhead_14 : decode cX4_givenAhead 14 = .ok (.getfield 9, 3) := by decide +kernel
theorem dX4_givenAhead_17 : decode cX4_givenAhead 17 = .ok (.iload_n 1, 1) := by decide +kernel
theorem dX4_givenAhead_18 : decode cX4_givenAhead 18 = .ok (.iaload, 1) := by decide +kernel
theorem dX4_givenAhead_19 : decode cX4_givenAhead 19 = .ok (.i2l, 1) := by decide +kernel
theorem dX4_givenAhead_20 : decode cX4_givenAhead 20 = .ok (.goto 4, 3) := by decide +kernel
theorem dX4_givenAhead_23 : decode cX4_givenAhead 23 = .ok (.lconst 0, 1) := by decide +kernel
theorem dX4_givenAhead_24 : decode cX4_givenAhead 24 = .ok (.lstore_n 3, 1) := by decide +kernel
theorem dX4_givenAhead_25 : decode cX4_givenAhead 25 = .ok (.lload_n 3, 1) := by decide +kernel
theorem dX4_givenAhead_26 : decode cX4_givenAhead 26 = .ok (.lconst 0, 1) := by decide +kernel
theorem dX4_givenAhead_27 : decode cX4_givenAhead 27 = .ok (.lcmp, 1) := by decide +kernel
theorem dX4_givenAhead_28 : decode cX4_givenAhead 28 = .ok (.ifCond .gt 5, 3) := by decide +kernel
theorem dX4_givenAhead_31 : decode cX4_givenAhead 31 = .ok (.lconst 0, 1) := by decide +kernel
theorem dX4_givenAhead_32 : decode cX4_givenAhead 32 = .ok (.lreturn, 1) := by decide +kernel
theorem dX4_givenAhead_33 : decode cX4_givenAhead 33 = .ok (.iload_n 2, 1) := by decide +kernel
theorem dX4_givenAhead_34 : decode cX4_givenAhead 34 = .ok (.i2l, 1) := by decide +kernel
theorem dX4_givenAhead_35 : decode cX4_givenAhead 35 = .ok (.lstore 5, 2) := by decide +kernel
theorem dX4_givenAhead_37 : decode cX4_givenAhead 37 = .ok (.iconst 0, 1) := by decide +kernel
theorem dX4_givenAhead_38 : decode cX4_givenAhead 38 = .ok (.istore 7, 2) := by decide +kernel
theorem dX4_givenAhead_40 : decode cX4_givenAhead 40 = .ok (.iload 7, 2) := by decide +kernel
theorem dX4_givenAhead_42 : decode cX4_givenAhead 42 = .ok (.aload_n 0, 1) := by decide +kernel
theorem dX4_givenAhead_43 : decode cX4_givenAhead 43 = .ok (.getfield 9, 3) := by decide +kernel
theorem dX4_givenAhead_46 : decode cX4_givenAhead 46 = .ok (.arraylength, 1) := by decide +kernel
theorem dX4_givenAhead_47 : decode cX4_givenAhead 47 = .ok (.if_icmp .ge 81, 3) := by decide +kernel
theorem dX4_givenAhead_50 : decode cX4_givenAhead 50 = .ok (.iload_n 2, 1) := by decide +kernel
theorem dX4_givenAhead_51 : decode cX4_givenAhead 51 = .ok (.i2l, 1) := by decide +kernel
theorem dX4_givenAhead_52 : decode cX4_givenAhead 52 = .ok (.aload_n 0, 1) := by decide +kernel
theorem dX4_givenAhead_53 : decode cX4_givenAhead 53 = .ok (.getfield 9, 3) := by decide +kernel
theorem dX4_givenAhead_56 : decode cX4_givenAhead 56 = .ok (.iload 7, 2) := by decide +kernel
theorem dX4_givenAhead_58 : decode cX4_givenAhead 58 = .ok (.iaload, 1) := by decide +kernel
theorem dX4_givenAhead_59 : decode cX4_givenAhead 59 = .ok (.i2l, 1) := by decide +kernel
theorem dX4_givenAhead_60 : decode cX4_givenAhead 60 = .ok (.lmul, 1) := by decide +kernel
theorem dX4_givenAhead_61 : decode cX4_givenAhead 61 = .ok (.lstore 8, 2) := by decide +kernel
theorem dX4_givenAhead_63 : decode cX4_givenAhead 63 = .ok (.aload_n 0, 1) := by decide +kernel
theorem dX4_givenAhead_64 : decode cX4_givenAhead 64 = .ok (.getfield 9, 3) := by decide +kernel
theorem dX4_givenAhead_67 : decode cX4_givenAhead 67 = .ok (.iload 7, 2) := by decide +kernel
theorem dX4_givenAhead_69 : decode cX4_givenAhead 69 = .ok (.iaload, 1) := by decide +kernel
theorem dX4_givenAhead_70 : decode cX4_givenAhead 70 = .ok (.ifCond .le 23, 3) := by decide +kernel
theorem dX4_givenAhead_73 : decode cX4_givenAhead 73 = .ok (.iload 7, 2) := by decide +kernel
theorem dX4_givenAhead_75 : decode cX4_givenAhead 75 = .ok (.iload_n 1, 1) := by decide +kernel
theorem dX4_givenAhead_76 : decode cX4_givenAhead 76 = .ok (.if_icmp .ge 17, 3) := by decide +kernel
theorem dX4_givenAhead_79 : decode cX4_givenAhead 79 = .ok (.lload 5, 2) := by decide +kernel
theorem dX4_givenAhead_81 : decode cX4_givenAhead 81 = .ok (.lload 8, 2) := by decide +kernel
theorem dX4_givenAhead_83 : decode cX4_givenAhead 83 = .ok (.lload_n 3, 1) := by decide +kernel
theorem dX4_givenAhead_84 : decode cX4_givenAhead 84 = .ok (.ldiv, 1) := by decide +kernel
theorem dX4_givenAhead_85 : decode cX4_givenAhead 85 = .ok (.lconst 1, 1) := by decide +kernel
theorem dX4_givenAhead_86 : decode cX4_givenAhead 86 = .ok (.ladd, 1) := by decide +kernel
theorem dX4_givenAhead_87 : decode cX4_givenAhead 87 = .ok (.ladd, 1) := by decide +kernel
theorem dX4_givenAhead_88 : decode cX4_givenAhead 88 = .ok (.lstore 5, 2) := by decide +kernel
theorem dX4_givenAhead_90 : decode cX4_givenAhead 90 = .ok (.goto 32, 3) := by decide +kernel
theorem dX4_givenAhead_93 : decode cX4_givenAhead 93 = .ok (.aload_n 0, 1) := by decide +kernel
theorem dX4_givenAhead_94 : decode cX4_givenAhead 94 = .ok (.getfield 9, 3) := by decide +kernel
theorem dX4_givenAhead_97 : decode cX4_givenAhead 97 = .ok (.iload 7, 2) := by decide +kernel
theorem dX4_givenAhead_99 : decode cX4_givenAhead 99 = .ok (.iaload, 1) := by decide +kernel
theorem dX4_givenAhead_100 : decode cX4_givenAhead 100 = .ok (.ifCond .le 22, 3) := by decide +kernel
theorem dX4_givenAhead_103 : decode cX4_givenAhead 103 = .ok (.iload 7, 2) := by decide +kernel
theorem dX4_givenAhead_105 : decode cX4_givenAhead 105 = .ok (.iload_n 1, 1) := by decide +kernel
theorem dX4_givenAhead_106 : decode cX4_givenAhead 106 = .ok (.if_icmp .le 16, 3) := by decide +kernel
theorem dX4_givenAhead_109 : decode cX4_givenAhead 109 = .ok (.lload 5, 2) := by decide +kernel
theorem dX4_givenAhead_111 : decode cX4_givenAhead 111 = .ok (.lload 8, 2) := by decide +kernel
theorem dX4_givenAhead_113 : decode cX4_givenAhead 113 = .ok (.lload_n 3, 1) := by decide +kernel
theorem dX4_givenAhead_114 : decode cX4_givenAhead 114 = .ok (.ladd, 1) := by decide +kernel
theorem dX4_givenAhead_115 : decode cX4_givenAhead 115 = .ok (.lconst 1, 1) := by decide +kernel
theorem dX4_givenAhead_116 : decode cX4_givenAhead 116 = .ok (.lsub, 1) := by decide +kernel
theorem dX4_givenAhead_117 : decode cX4_givenAhead 117 = .ok (.lload_n 3, 1) := by decide +kernel
theorem dX4_givenAhead_118 : decode cX4_givenAhead 118 = .ok (.ldiv, 1) := by decide +kernel
theorem dX4_givenAhead_119 : decode cX4_givenAhead 119 = .ok (.ladd, 1) := by decide +kernel
theorem dX4_givenAhead_120 : decode cX4_givenAhead 120 = .ok (.lstore 5, 2) := by decide +kernel
theorem dX4_givenAhead_122 : decode cX4_givenAhead 122 = .ok (.iinc 7 1, 3) := by decide +kernel
theorem dX4_givenAhead_125 : decode cX4_givenAhead 125 = .ok (.goto (-85), 3) := by decide +kernel
theorem dX4_givenAhead_128 : decode cX4_givenAhead 128 = .ok (.lload 5, 2) := by decide +kernel
theorem dX4_givenAhead_130 : decode cX4_givenAhead 130 = .ok (.lreturn, 1) := by decide +kernel
theorem dX4_handedOut_0 : decode cX4_handedOut 0 = .ok (.iconst 0, 1) := by decide +kernel
theorem dX4_handedOut_1 : decode cX4_handedOut 1 = .ok (.istore_n 2, 1) := by decide +kernel
theorem dX4_handedOut_2 : decode cX4_handedOut 2 = .ok (.iload_n 2, 1) := by decide +kernel
theorem dX4_handedOut_3 : decode cX4_handedOut 3 = .ok (.aload_n 0, 1) := by decide +kernel
theorem dX4_handedOut_4 : decode cX4_handedOut 4 = .ok (.getfield 15, 3) := by decide +kernel
theorem dX4_handedOut_7 : decode cX4_handedOut 7 = .ok (.arraylength, 1) := by decide +kernel
theorem dX4_handedOut_8 : decode cX4_handedOut 8 = .ok (.if_icmp .ge 16, 3) := by decide +kernel
theorem dX4_handedOut_11 : decode cX4_handedOut 11 = .ok (.aload_n 0, 1) := by decide +kernel
theorem dX4_handedOut_12 : decode cX4_handedOut 12 = .ok (.getfield 15, 3) := by decide +kernel
theorem dX4_handedOut_15 : decode cX4_handedOut 15 = .ok (.iload_n 2, 1) := by decide +kernel
theorem dX4_handedOut_16 : decode cX4_handedOut 16 = .ok (.iconst 0, 1) := by decide +kernel
theorem dX4_handedOut_17 : decode cX4_handedOut 17 = .ok (.iastore, 1) := by decide +kernel
theorem dX4_handedOut_18 : decode cX4_handedOut 18 = .ok (.iinc 2 1, 3) := by decide +kernel
theorem dX4_handedOut_21 : decode cX4_handedOut 21 = .ok (.goto (-19), 3) := by decide +kernel
theorem dX4_handedOut_24 : decode cX4_handedOut 24 = .ok (.aload_n 0, 1) := by decide +kernel
theorem dX4_handedOut_25 : decode cX4_handedOut 25 = .ok (.invokevirtual 26, 3) := by decide +kernel
theorem dX4_handedOut_28 : decode cX4_handedOut 28 = .ok (.istore_n 2, 1) := by decide +kernel
theorem dX4_handedOut_29 : decode cX4_handedOut 29 = .ok (.iconst 0, 1) := by decide +kernel
theorem dX4_handedOut_30 : decode cX4_handedOut 30 = .ok (.istore_n 3, 1) := by decide +kernel
theorem dX4_handedOut_31 : decode cX4_handedOut 31 = .ok (.iload_n 3, 1) := by decide +kernel
theorem dX4_handedOut_32 : decode cX4_handedOut 32 = .ok (.aload_n 0, 1) := by decide +kernel
theorem dX4_handedOut_33 : decode cX4_handedOut 33 = .ok (.getfield 18, 3) := by decide +kernel
theorem dX4_handedOut_36 : decode cX4_handedOut 36 = .ok (.if_icmp .ge 37, 3) := by decide +kernel
theorem dX4_handedOut_39 : decode cX4_handedOut 39 = .ok (.iload_n 2, 1) := by decide +kernel
theorem dX4_handedOut_40 : decode cX4_handedOut 40 = .ok (.ifCond .lt 33, 3) := by decide +kernel
theorem dX4_handedOut_43 : decode cX4_handedOut 43 = .ok (.iload_n 2, 1) := by decide +kernel
theorem dX4_handedOut_44 : decode cX4_handedOut 44 = .ok (.aload_n 0, 1) := by decide +kernel
theorem dX4_handedOut_45 : decode cX4_handedOut 45 = .ok (.getfield 15, 3) := by decide +kernel
theorem dX4_handedOut_48 : decode cX4_handedOut 48 = .ok (.arraylength, 1) := by decide +kernel
theorem dX4_handedOut_49 : decode cX4_handedOut 49 = .ok (.if_icmp .ge 24, 3) := by decide +kernel
theorem dX4_handedOut_52 : decode cX4_handedOut 52 = .ok (.aload_n 0, 1) := by decide +kernel
theorem dX4_handedOut_53 : decode cX4_handedOut 53 = .ok (.getfield 15, 3) := by decide +kernel
theorem dX4_handedOut_56 : decode cX4_handedOut 56 = .ok (.iload_n 2, 1) := by decide +kernel
theorem dX4_handedOut_57 : decode cX4_handedOut 57 = .ok (.dup2, 1) := by decide +kernel
theorem dX4_handedOut_58 : decode cX4_handedOut 58 = .ok (.iaload, 1) := by decide +kernel
theorem dX4_handedOut_59 : decode cX4_handedOut 59 = .ok (.iconst 1, 1) := by decide +kernel
theorem dX4_handedOut_60 : decode cX4_handedOut 60 = .ok (.iadd, 1) := by decide +kernel
theorem dX4_handedOut_61 : decode cX4_handedOut 61 = .ok (.iastore, 1) := by decide +kernel
theorem dX4_handedOut_62 : decode cX4_handedOut 62 = .ok (.aload_n 0, 1) := by decide +kernel
theorem dX4_handedOut_63 : decode cX4_handedOut 63 = .ok (.invokevirtual 26, 3) := by decide +kernel
theorem dX4_handedOut_66 : decode cX4_handedOut 66 = .ok (.istore_n 2, 1) := by decide +kernel
theorem dX4_handedOut_67 : decode cX4_handedOut 67 = .ok (.iinc 3 1, 3) := by decide +kernel
theorem dX4_handedOut_70 : decode cX4_handedOut 70 = .ok (.goto (-39), 3) := by decide +kernel
theorem dX4_handedOut_73 : decode cX4_handedOut 73 = .ok (.iload_n 1, 1) := by decide +kernel
theorem dX4_handedOut_74 : decode cX4_handedOut 74 = .ok (.ifCond .lt 21, 3) := by decide +kernel
theorem dX4_handedOut_77 : decode cX4_handedOut 77 = .ok (.iload_n 1, 1) := by decide +kernel
theorem dX4_handedOut_78 : decode cX4_handedOut 78 = .ok (.aload_n 0, 1) := by decide +kernel
theorem dX4_handedOut_79 : decode cX4_handedOut 79 = .ok (.getfield 15, 3) := by decide +kernel
theorem dX4_handedOut_82 : decode cX4_handedOut 82 = .ok (.arraylength, 1) := by decide +kernel
theorem dX4_handedOut_83 : decode cX4_handedOut 83 = .ok (.if_icmp .ge 12, 3) := by decide +kernel
theorem dX4_handedOut_86 : decode cX4_handedOut 86 = .ok (.aload_n 0, 1) := by decide +kernel
theorem dX4_handedOut_87 : decode cX4_handedOut 87 = .ok (.getfield 15, 3) := by decide +kernel
theorem dX4_handedOut_90 : decode cX4_handedOut 90 = .ok (.iload_n 1, 1) := by decide +kernel
theorem dX4_handedOut_91 : decode cX4_handedOut 91 = .ok (.iaload, 1) := by decide +kernel
theorem dX4_handedOut_92 : decode cX4_handedOut 92 = .ok (.goto 4, 3) := by decide +kernel
theorem dX4_handedOut_95 : decode cX4_handedOut 95 = .ok (.iconst 0, 1) := by decide +kernel
theorem dX4_handedOut_96 : decode cX4_handedOut 96 = .ok (.ireturn, 1) := by decide +kernel
theorem dX4_nextToGet_0 : decode cX4_nextToGet 0 = .ok (.iconst (-1), 1) := by decide +kernel
theorem dX4_nextToGet_1 : decode cX4_nextToGet 1 = .ok (.istore_n 1, 1) := by decide +kernel
theorem dX4_nextToGet_2 : decode cX4_nextToGet 2 = .ok (.lconst 0, 1) := by decide +kernel
theorem dX4_nextToGet_3 : decode cX4_nextToGet 3 = .ok (.lstore_n 2, 1) := by decide +kernel
theorem dX4_nextToGet_4 : decode cX4_nextToGet 4 = .ok (.lconst 1, 1) := by decide +kernel
theorem dX4_nextToGet_5 : decode cX4_nextToGet 5 = .ok (.lstore 4, 2) := by decide +kernel
theorem dX4_nextToGet_7 : decode cX4_nextToGet 7 = .ok (.iconst 0, 1) := by decide +kernel
theorem dX4_nextToGet_8 : decode cX4_nextToGet 8 = .ok (.istore 6, 2) := by decide +kernel
theorem dX4_nextToGet_10 : decode cX4_nextToGet 10 = .ok (.iload 6, 2) := by decide +kernel
theorem dX4_nextToGet_12 : decode cX4_nextToGet 12 = .ok (.aload_n 0, 1) := by decide +kernel
theorem dX4_nextToGet_13 : decode cX4_nextToGet 13 = .ok (.getfield 15, 3) := by decide +kernel
theorem dX4_nextToGet_16 : decode cX4_nextToGet 16 = .ok (.arraylength, 1) := by decide +kernel
theorem dX4_nextToGet_17 : decode cX4_nextToGet 17 = .ok (.if_icmp .ge 99, 3) := by decide +kernel
theorem dX4_nextToGet_20 : decode cX4_nextToGet 20 = .ok (.iload 6, 2) := by decide +kernel
theorem dX4_nextToGet_22 : decode cX4_nextToGet 22 = .ok (.aload_n 0, 1) := by decide +kernel
theorem dX4_nextToGet_23 : decode cX4_nextToGet 23 = .ok (.getfield 9, 3) := by decide +kernel
theorem dX4_nextToGet_26 : decode cX4_nextToGet 26 = .ok (.arraylength, 1) := by decide +kernel
theorem dX4_nextToGet_27 : decode cX4_nextToGet 27 = .ok (.if_icmp .ge 89, 3) := by decide +kernel
theorem dX4_nextToGet_30 : decode cX4_nextToGet 30 = .ok (.aload_n 0, 1) := by decide +kernel
theorem dX4_nextToGet_31 : decode cX4_nextToGet 31 = .ok (.getfield 15, 3) := by decide +kernel
theorem dX4_nextToGet_34 : decode cX4_nextToGet 34 = .ok (.iload 6, 2) := by decide +kernel
theorem dX4_nextToGet_36 : decode cX4_nextToGet 36 = .ok (.iaload, 1) := by decide +kernel
theorem dX4_nextToGet_37 : decode cX4_nextToGet 37 = .ok (.aload_n 0, 1) := by decide +kernel
theorem dX4_nextToGet_38 : decode cX4_nextToGet 38 = .ok (.getfield 9, 3) := by decide +kernel
theorem dX4_nextToGet_41 : decode cX4_nextToGet 41 = .ok (.iload 6, 2) := by decide +kernel
theorem dX4_nextToGet_43 : decode cX4_nextToGet 43 = .ok (.iaload, 1) := by decide +kernel
theorem dX4_nextToGet_44 : decode cX4_nextToGet 44 = .ok (.if_icmp .ge 7, 3) := by decide +kernel
theorem dX4_nextToGet_47 : decode cX4_nextToGet 47 = .ok (.iconst 1, 1) := by decide +kernel
theorem dX4_nextToGet_48 : decode cX4_nextToGet 48 = .ok (.goto 4, 3) := by decide +kernel
theorem dX4_nextToGet_51 : decode cX4_nextToGet 51 = .ok (.iconst 0, 1) := by decide +kernel
theorem dX4_nextToGet_52 : decode cX4_nextToGet 52 = .ok (.istore 7, 2) := by decide +kernel
theorem dX4_nextToGet_54 : decode cX4_nextToGet 54 = .ok (.iload 7, 2) := by decide +kernel
theorem dX4_nextToGet_56 : decode cX4_nextToGet 56 = .ok (.ifCond .eq 54, 3) := by decide +kernel
theorem dX4_nextToGet_59 : decode cX4_nextToGet 59 = .ok (.iload_n 1, 1) := by decide +kernel
theorem dX4_nextToGet_60 : decode cX4_nextToGet 60 = .ok (.ifCond .lt 28, 3) := by decide +kernel
theorem dX4_nextToGet_63 : decode cX4_nextToGet 63 = .ok (.aload_n 0, 1) := by decide +kernel
theorem dX4_nextToGet_64 : decode cX4_nextToGet 64 = .ok (.getfield 15, 3) := by decide +kernel
theorem dX4_nextToGet_67 : decode cX4_nextToGet 67 = .ok (.iload 6, 2) := by decide +kernel
theorem dX4_nextToGet_69 : decode cX4_nextToGet 69 = .ok (.iaload, 1) := by decide +kernel
theorem dX4_nextToGet_70 : decode cX4_nextToGet 70 = .ok (.i2l, 1) := by decide +kernel
theorem dX4_nextToGet_71 : decode cX4_nextToGet 71 = .ok (.lload 4, 2) := by decide +kernel
theorem dX4_nextToGet_73 : decode cX4_nextToGet 73 = .ok (.lmul, 1) := by decide +kernel
theorem dX4_nextToGet_74 : decode cX4_nextToGet 74 = .ok (.lload_n 2, 1) := by decide +kernel
theorem dX4_nextToGet_75 : decode cX4_nextToGet 75 = .ok (.aload_n 0, 1) := by decide +kernel
theorem dX4_nextToGet_76 : decode cX4_nextToGet 76 = .ok (.getfield 9, 3) := by decide +kernel
theorem dX4_nextToGet_79 : decode cX4_nextToGet 79 = .ok (.iload 6, 2) := by decide +kernel
theorem dX4_nextToGet_81 : decode cX4_nextToGet 81 = .ok (.iaload, 1) := by decide +kernel
theorem dX4_nextToGet_82 : decode cX4_nextToGet 82 = .ok (.i2l, 1) := by decide +kernel
theorem dX4_nextToGet_83 : decode cX4_nextToGet 83 = .ok (.lmul, 1) := by decide +kernel
theorem dX4_nextToGet_84 : decode cX4_nextToGet 84 = .ok (.lcmp, 1) := by decide +kernel
theorem dX4_nextToGet_85 : decode cX4_nextToGet 85 = .ok (.ifCond .ge 25, 3) := by decide +kernel
theorem dX4_nextToGet_88 : decode cX4_nextToGet 88 = .ok (.iload 6, 2) := by decide +kernel
theorem dX4_nextToGet_90 : decode cX4_nextToGet 90 = .ok (.istore_n 1, 1) := by decide +kernel
theorem dX4_nextToGet_91 : decode cX4_nextToGet 91 = .ok (.aload_n 0, 1) := by decide +kernel
theorem dX4_nextToGet_92 : decode cX4_nextToGet 92 = .ok (.getfield 15, 3) := by decide +kernel
theorem dX4_nextToGet_95 : decode cX4_nextToGet 95 = .ok (.iload 6, 2) := by decide +kernel
theorem dX4_nextToGet_97 : decode cX4_nextToGet 97 = .ok (.iaload, 1) := by decide +kernel
theorem dX4_nextToGet_98 : decode cX4_nextToGet 98 = .ok (.i2l, 1) := by decide +kernel
theorem dX4_nextToGet_99 : decode cX4_nextToGet 99 = .ok (.lstore_n 2, 1) := by decide +kernel
theorem dX4_nextToGet_100 : decode cX4_nextToGet 100 = .ok (.aload_n 0, 1) := by decide +kernel
theorem dX4_nextToGet_101 : decode cX4_nextToGet 101 = .ok (.getfield 9, 3) := by decide +kernel
theorem dX4_nextToGet_104 : decode cX4_nextToGet 104 = .ok (.iload 6, 2) := by decide +kernel
theorem dX4_nextToGet_106 : decode cX4_nextToGet 106 = .ok (.iaload, 1) := by decide +kernel
theorem dX4_nextToGet_107 : decode cX4_nextToGet 107 = .ok (.i2l, 1) := by decide +kernel
theorem dX4_nextToGet_108 : decode cX4_nextToGet 108 = .ok (.lstore 4, 2) := by decide +kernel
theorem dX4_nextToGet_110 : decode cX4_nextToGet 110 = .ok (.iinc 6 1, 3) := by decide +kernel
theorem dX4_nextToGet_113 : decode cX4_nextToGet 113 = .ok (.goto (-103), 3) := by decide +kernel
theorem dX4_nextToGet_116 : decode cX4_nextToGet 116 = .ok (.iload_n 1, 1) := by decide +kernel
theorem dX4_nextToGet_117 : decode cX4_nextToGet 117 = .ok (.ireturn, 1) := by decide +kernel
theorem dX5_init_0 : decode cX5_init 0 = .ok (.aload_n 0, 1) := by decide +kernel
theorem dX5_init_1 : decode cX5_init 1 = .ok (.invokespecial 3, 3) := by decide +kernel
theorem dX5_init_4 : decode cX5_init 4 = .ok (.aload_n 0, 1) := by decide +kernel
theorem dX5_init_5 : decode cX5_init 5 = .ok (.iconst 4, 1) := by decide +kernel
theorem dX5_init_6 : decode cX5_init 6 = .ok (.newarray .int, 2) := by decide +kernel
theorem dX5_init_8 : decode cX5_init 8 = .ok (.putfield 9, 3) := by decide +kernel
theorem dX5_init_11 : decode cX5_init 11 = .ok (.aload_n 0, 1) := by decide +kernel
theorem dX5_init_12 : decode cX5_init 12 = .ok (.iconst 5, 1) := by decide +kernel
theorem dX5_init_13 : decode cX5_init 13 = .ok (.anewarray 13, 3) := by decide +kernel
theorem dX5_init_16 : decode cX5_init 16 = .ok (.putfield 15, 3) := by decide +kernel
theorem dX5_init_19 : decode cX5_init 19 = .ok (.aload_n 0, 1) := by decide +kernel
theorem dX5_init_20 : decode cX5_init 20 = .ok (.bipush 20, 2) := by decide +kernel
theorem dX5_init_22 : decode cX5_init 22 = .ok (.anewarray 19, 3) := by decide +kernel
theorem dX5_init_25 : decode cX5_init 25 = .ok (.putfield 21, 3) := by decide +kernel
theorem dX5_init_28 : decode cX5_init 28 = .ok (.aload_n 0, 1) := by decide +kernel
theorem dX5_init_29 : decode cX5_init 29 = .ok (.new 25, 3) := by decide +kernel
theorem dX5_init_32 : decode cX5_init 32 = .ok (.dup, 1) := by decide +kernel
theorem dX5_init_33 : decode cX5_init 33 = .ok (.invokespecial 27, 3) := by decide +kernel
theorem dX5_init_36 : decode cX5_init 36 = .ok (.putfield 28, 3) := by decide +kernel
theorem dX5_init_39 : decode cX5_init 39 = .ok (.aload_n 0, 1) := by decide +kernel
theorem dX5_init_40 : decode cX5_init 40 = .ok (.new 25, 3) := by decide +kernel
theorem dX5_init_43 : decode cX5_init 43 = .ok (.dup, 1) := by decide +kernel
theorem dX5_init_44 : decode cX5_init 44 = .ok (.invokespecial 27, 3) := by decide +kernel
theorem dX5_init_47 : decode cX5_init 47 = .ok (.putfield 32, 3) := by decide +kernel
theorem dX5_init_50 : decode cX5_init 50 = .ok (.aload_n 0, 1) := by decide +kernel
theorem dX5_init_51 : decode cX5_init 51 = .ok (.new 35, 3) := by decide +kernel
theorem dX5_init_54 : decode cX5_init 54 = .ok (.dup, 1) := by decide +kernel
theorem dX5_init_55 : decode cX5_init 55 = .ok (.invokespecial 37, 3) := by decide +kernel
theorem dX5_init_58 : decode cX5_init 58 = .ok (.putfield 38, 3) := by decide +kernel
theorem dX5_init_61 : decode cX5_init 61 = .ok (.aload_n 0, 1) := by decide +kernel
theorem dX5_init_62 : decode cX5_init 62 = .ok (.new 42, 3) := by decide +kernel
theorem dX5_init_65 : decode cX5_init 65 = .ok (.dup, 1) := by decide +kernel
theorem dX5_init_66 : decode cX5_init 66 = .ok (.invokespecial 44, 3) := by decide +kernel
theorem dX5_init_69 : decode cX5_init 69 = .ok (.putfield 45, 3) := by decide +kernel
theorem dX5_init_72 : decode cX5_init 72 = .ok (.aload_n 0, 1) := by decide +kernel
theorem dX5_init_73 : decode cX5_init 73 = .ok (.iconst 0, 1) := by decide +kernel
theorem dX5_init_74 : decode cX5_init 74 = .ok (.putfield 49, 3) := by decide +kernel
theorem dX5_init_77 : decode cX5_init 77 = .ok (.aload_n 0, 1) := by decide +kernel
theorem dX5_init_78 : decode cX5_init 78 = .ok (.iconst 0, 1) := by decide +kernel
theorem dX5_init_79 : decode cX5_init 79 = .ok (.putfield 53, 3) := by decide +kernel
theorem dX5_init_82 : decode cX5_init 82 = .ok (.aload_n 0, 1) := by decide +kernel
theorem dX5_init_83 : decode cX5_init 83 = .ok (.iconst 0, 1) := by decide +kernel
theorem dX5_init_84 : decode cX5_init 84 = .ok (.putfield 56, 3) := by decide +kernel
theorem dX5_init_87 : decode cX5_init 87 = .ok (.aload_n 0, 1) := by decide +kernel
theorem dX5_init_88 : decode cX5_init 88 = .ok (.iconst 0, 1) := by decide +kernel
theorem dX5_init_89 : decode cX5_init 89 = .ok (.putfield 59, 3) := by decide +kernel
theorem dX5_init_92 : decode cX5_init 92 = .ok (.aload_n 0, 1) := by decide +kernel
theorem dX5_init_93 : decode cX5_init 93 = .ok (.bipush 90, 2) := by decide +kernel
theorem dX5_init_95 : decode cX5_init 95 = .ok (.putfield 62, 3) := by decide +kernel
theorem dX5_init_98 : decode cX5_init 98 = .ok (.aload_n 0, 1) := by decide +kernel
theorem dX5_init_99 : decode cX5_init 99 = .ok (.bipush 20, 2) := by decide +kernel
theorem dX5_init_101 : decode cX5_init 101 = .ok (.putfield 65, 3) := by decide +kernel
theorem dX5_init_104 : decode cX5_init 104 = .ok (.aload_n 0, 1) := by decide +kernel
theorem dX5_init_105 : decode cX5_init 105 = .ok (.bipush 10, 2) := by decide +kernel
theorem dX5_init_107 : decode cX5_init 107 = .ok (.putfield 68, 3) := by decide +kernel
theorem dX5_init_110 : decode cX5_init 110 = .ok (.return_, 1) := by decide +kernel
theorem dX5_addShop_0 : decode cX5_addShop 0 = .ok (.iload_n 1, 1) := by decide +kernel
theorem dX5_addShop_1 : decode cX5_addShop 1 = .ok (.iconst 1, 1) := by decide +kernel
theorem dX5_addShop_2 : decode cX5_addShop 2 = .ok (.if_icmp .lt 8, 3) := by decide +kernel
theorem dX5_addShop_5 : decode cX5_addShop 5 = .ok (.iload_n 1, 1) := by decide +kernel
theorem dX5_addShop_6 : decode cX5_addShop 6 = .ok (.iconst 5, 1) := by decide +kernel
theorem dX5_addShop_7 : decode cX5_addShop 7 = .ok (.if_icmp .le 13, 3) := by decide +kernel
theorem dX5_addShop_10 : decode cX5_addShop 10 = .ok (.new 71, 3) := by decide +kernel
theorem dX5_addShop_13 : decode cX5_addShop 13 = .ok (.dup, 1) := by decide +kernel
theorem dX5_addShop_14 : decode cX5_addShop 14 = .ok (.ldc 73, 2) := by decide +kernel
theorem dX5_addShop_16 : decode cX5_addShop 16 = .ok (.invokespecial 75, 3) := by decide +kernel
theorem dX5_addShop_19 : decode cX5_addShop 19 = .ok (.athrow, 1) := by decide +kernel
theorem dX5_addShop_20 : decode cX5_addShop 20 = .ok (.aload_n 0, 1) := by decide +kernel
theorem dX5_addShop_21 : decode cX5_addShop 21 = .ok (.getfield 49, 3) := by decide +kernel
theorem dX5_addShop_24 : decode cX5_addShop 24 = .ok (.aload_n 0, 1) := by decide +kernel
theorem dX5_addShop_25 : decode cX5_addShop 25 = .ok (.getfield 9, 3) := by decide +kernel
theorem dX5_addShop_28 : decode cX5_addShop 28 = .ok (.arraylength, 1) := by decide +kernel
theorem dX5_addShop_29 : decode cX5_addShop 29 = .ok (.if_icmp .lt 13, 3) := by decide +kernel
theorem dX5_addShop_32 : decode cX5_addShop 32 = .ok (.new 78, 3) := by decide +kernel
theorem dX5_addShop_35 : decode cX5_addShop 35 = .ok (.dup, 1) := by decide +kernel
theorem dX5_addShop_36 : decode cX5_addShop 36 = .ok (.ldc 80, 2) := by decide +kernel
theorem dX5_addShop_38 : decode cX5_addShop 38 = .ok (.invokespecial 82, 3) := by decide +kernel
theorem dX5_addShop_41 : decode cX5_addShop 41 = .ok (.athrow, 1) := by decide +kernel
theorem dX5_addShop_42 : decode cX5_addShop 42 = .ok (.aload_n 0, 1) := by decide +kernel
theorem dX5_addShop_43 : decode cX5_addShop 43 = .ok (.getfield 9, 3) := by decide +kernel
theorem dX5_addShop_46 : decode cX5_addShop 46 = .ok (.aload_n 0, 1) := by decide +kernel
theorem dX5_addShop_47 : decode cX5_addShop 47 = .ok (.getfield 49, 3) := by decide +kernel
theorem dX5_addShop_50 : decode cX5_addShop 50 = .ok (.iload_n 1, 1) := by decide +kernel
theorem dX5_addShop_51 : decode cX5_addShop 51 = .ok (.iastore, 1) := by decide +kernel
theorem dX5_addShop_52 : decode cX5_addShop 52 = .ok (.aload_n 0, 1) := by decide +kernel
theorem dX5_addShop_53 : decode cX5_addShop 53 = .ok (.dup, 1) := by decide +kernel
theorem dX5_addShop_54 : decode cX5_addShop 54 = .ok (.getfield 49, 3) := by decide +kernel
theorem dX5_addShop_57 : decode cX5_addShop 57 = .ok (.iconst 1, 1) := by decide +kernel
theorem dX5_addShop_58 : decode cX5_addShop 58 = .ok (.iadd, 1) := by decide +kernel
theorem dX5_addShop_59 : decode cX5_addShop 59 = .ok (.putfield 49, 3) := by decide +kernel
theorem dX5_addShop_62 : decode cX5_addShop 62 = .ok (.aload_n 0, 1) := by decide +kernel
theorem dX5_addShop_63 : decode cX5_addShop 63 = .ok (.getfield 49, 3) := by decide +kernel
theorem dX5_addShop_66 : decode cX5_addShop 66 = .ok (.iconst 1, 1) := by decide +kernel
theorem dX5_addShop_67 : decode cX5_addShop 67 = .ok (.isub, 1) := by decide +kernel
theorem dX5_addShop_68 : decode cX5_addShop 68 = .ok (.ireturn, 1) := by decide +kernel
theorem dX5_addItem_0 : decode cX5_addItem 0 = .ok (.iload_n 1, 1) := by decide +kernel
theorem dX5_addItem_1 : decode cX5_addItem 1 = .ok (.iconst 1, 1) := by decide +kernel
theorem dX5_addItem_2 : decode cX5_addItem 2 = .ok (.if_icmp .lt 9, 3) := by decide +kernel
theorem dX5_addItem_5 : decode cX5_addItem 5 = .ok (.iload_n 1, 1) := by decide +kernel
theorem dX5_addItem_6 : decode cX5_addItem 6 = .ok (.bipush 50, 2) := by decide +kernel
theorem dX5_addItem_8 : decode cX5_addItem 8 = .ok (.if_icmp .le 13, 3) := by decide +kernel
theorem dX5_addItem_11 : decode cX5_addItem 11 = .ok (.new 71, 3) := by decide +kernel
theorem dX5_addItem_14 : decode cX5_addItem 14 = .ok (.dup, 1) := by decide +kernel
theorem dX5_addItem_15 : decode cX5_addItem 15 = .ok (.ldc 83, 2) := by decide +kernel
theorem dX5_addItem_17 : decode cX5_addItem 17 = .ok (.invokespecial 75, 3) := by decide +kernel
theorem dX5_addItem_20 : decode cX5_addItem 20 = .ok (.athrow, 1) := by decide +kernel
theorem dX5_addItem_21 : decode cX5_addItem 21 = .ok (.iload_n 2, 1) := by decide +kernel
theorem dX5_addItem_22 : decode cX5_addItem 22 = .ok (.ifCond .lt 10, 3) := by decide +kernel
theorem dX5_addItem_25 : decode cX5_addItem 25 = .ok (.iload_n 2, 1) := by decide +kernel
theorem dX5_addItem_26 : decode cX5_addItem 26 = .ok (.sipush 9999, 3) := by decide +kernel
theorem dX5_addItem_29 : decode cX5_addItem 29 = .ok (.if_icmp .le 13, 3) := by decide +kernel
theorem dX5_addItem_32 : decode cX5_addItem 32 = .ok (.new 71, 3) := by decide +kernel
theorem dX5_addItem_35 : decode cX5_addItem 35 = .ok (.dup, 1) := by decide +kernel
theorem dX5_addItem_36 : decode cX5_addItem 36 = .ok (.ldc 85, 2) := by decide +kernel
theorem dX5_addItem_38 : decode cX5_addItem 38 = .ok (.invokespecial 75, 3) := by decide +kernel
theorem dX5_addItem_41 : decode cX5_addItem 41 = .ok (.athrow, 1) := by decide +kernel
theorem dX5_addItem_42 : decode cX5_addItem 42 = .ok (.aload_n 0, 1) := by decide +kernel
theorem dX5_addItem_43 : decode cX5_addItem 43 = .ok (.getfield 53, 3) := by decide +kernel
theorem dX5_addItem_46 : decode cX5_addItem 46 = .ok (.aload_n 0, 1) := by decide +kernel
theorem dX5_addItem_47 : decode cX5_addItem 47 = .ok (.getfield 15, 3) := by decide +kernel
theorem dX5_addItem_50 : decode cX5_addItem 50 = .ok (.arraylength, 1) := by decide +kernel
theorem dX5_addItem_51 : decode cX5_addItem 51 = .ok (.if_icmp .lt 13, 3) := by decide +kernel
theorem dX5_addItem_54 : decode cX5_addItem 54 = .ok (.new 78, 3) := by decide +kernel
theorem dX5_addItem_57 : decode cX5_addItem 57 = .ok (.dup, 1) := by decide +kernel
theorem dX5_addItem_58 : decode cX5_addItem 58 = .ok (.ldc 87, 2) := by decide +kernel
theorem dX5_addItem_60 : decode cX5_addItem 60 = .ok (.invokespecial 82, 3) := by decide +kernel
theorem dX5_addItem_63 : decode cX5_addItem 63 = .ok (.athrow, 1) := by decide +kernel
theorem dX5_addItem_64 : decode cX5_addItem 64 = .ok (.aload_n 0, 1) := by decide +kernel
theorem dX5_addItem_65 : decode cX5_addItem 65 = .ok (.getfield 15, 3) := by decide +kernel
theorem dX5_addItem_68 : decode cX5_addItem 68 = .ok (.aload_n 0, 1) := by decide +kernel
theorem dX5_addItem_69 : decode cX5_addItem 69 = .ok (.getfield 53, 3) := by decide +kernel
theorem dX5_addItem_72 : decode cX5_addItem 72 = .ok (.new 13, 3) := by decide +kernel
theorem dX5_addItem_75 : decode cX5_addItem 75 = .ok (.dup, 1) := by decide +kernel
theorem dX5_addItem_76 : decode cX5_addItem 76 = .ok (.iload_n 1, 1) := by decide +kernel
theorem dX5_addItem_77 : decode cX5_addItem 77 = .ok (.iload_n 2, 1) := by decide +kernel
theorem dX5_addItem_78 : decode cX5_addItem 78 = .ok (.invokespecial 89, 3) := by decide +kernel
theorem dX5_addItem_81 : decode cX5_addItem 81 = .ok (.aastore, 1) := by decide +kernel
theorem dX5_addItem_82 : decode cX5_addItem 82 = .ok (.aload_n 0, 1) := by decide +kernel
theorem dX5_addItem_83 : decode cX5_addItem 83 = .ok (.dup, 1) := by decide +kernel
theorem dX5_addItem_84 : decode cX5_addItem 84 = .ok (.getfield 53, 3) := by decide +kernel
theorem dX5_addItem_87 : decode cX5_addItem 87 = .ok (.iconst 1, 1) := by decide +kernel
theorem dX5_addItem_88 : decode cX5_addItem 88 = .ok (.iadd, 1) := by decide +kernel
theorem dX5_addItem_89 : decode cX5_addItem 89 = .ok (.putfield 53, 3) := by decide +kernel
theorem dX5_addItem_92 : decode cX5_addItem 92 = .ok (.aload_n 0, 1) := by decide +kernel
theorem dX5_addItem_93 : decode cX5_addItem 93 = .ok (.getfield 53, 3) := by decide +kernel
theorem dX5_addItem_96 : decode cX5_addItem 96 = .ok (.iconst 1, 1) := by decide +kernel
theorem dX5_addItem_97 : decode cX5_addItem 97 = .ok (.isub, 1) := by decide +kernel
theorem dX5_addItem_98 : decode cX5_addItem 98 = .ok (.ireturn, 1) := by decide +kernel
theorem dX5_carry_0 : decode cX5_carry 0 = .ok (.aload_n 0, 1) := by decide +kernel
theorem dX5_carry_1 : decode cX5_carry 1 = .ok (.iload_n 1, 1) := by decide +kernel
theorem dX5_carry_2 : decode cX5_carry 2 = .ok (.invokevirtual 92, 3) := by decide +kernel
theorem dX5_carry_5 : decode cX5_carry 5 = .ok (.aload_n 0, 1) := by decide +kernel
theorem dX5_carry_6 : decode cX5_carry 6 = .ok (.iload_n 2, 1) := by decide +kernel
theorem dX5_carry_7 : decode cX5_carry 7 = .ok (.invokevirtual 96, 3) := by decide +kernel
theorem dX5_carry_10 : decode cX5_carry 10 = .ok (.astore 5, 2) := by decide +kernel
theorem dX5_carry_12 : decode cX5_carry 12 = .ok (.iload_n 3, 1) := by decide +kernel
theorem dX5_carry_13 : decode cX5_carry 13 = .ok (.ifCond .lt 10, 3) := by decide +kernel
theorem dX5_carry_16 : decode cX5_carry 16 = .ok (.iload_n 3, 1) := by decide +kernel
theorem dX5_carry_17 : decode cX5_carry 17 = .ok (.sipush 999, 3) := by decide +kernel
theorem dX5_carry_20 : decode cX5_carry 20 = .ok (.if_icmp .le 13, 3) := by decide +kernel
theorem dX5_carry_23 : decode cX5_carry 23 = .ok (.new 71, 3) := by decide +kernel
theorem dX5_carry_26 : decode cX5_carry 26 = .ok (.dup, 1) := by decide +kernel
theorem dX5_carry_27 : decode cX5_carry 27 = .ok (.ldc 100, 2) := by decide +kernel
theorem dX5_carry_29 : decode cX5_carry 29 = .ok (.invokespecial 75, 3) := by decide +kernel
theorem dX5_carry_32 : decode cX5_carry 32 = .ok (.athrow, 1) := by decide +kernel
theorem dX5_carry_33 : decode cX5_carry 33 = .ok (.iload 4, 2) := by decide +kernel
theorem dX5_carry_35 : decode cX5_carry 35 = .ok (.ifCond .lt 10, 3) := by decide +kernel
theorem dX5_carry_38 : decode cX5_carry 38 = .ok (.iload 4, 2) := by decide +kernel
theorem dX5_carry_40 : decode cX5_carry 40 = .ok (.ldc 102, 2) := by decide +kernel
theorem dX5_carry_42 : decode cX5_carry 42 = .ok (.if_icmp .le 13, 3) := by decide +kernel
theorem dX5_carry_45 : decode cX5_carry 45 = .ok (.new 71, 3) := by decide +kernel
theorem dX5_carry_48 : decode cX5_carry 48 = .ok (.dup, 1) := by decide +kernel
theorem dX5_carry_49 : decode cX5_carry 49 = .ok (.ldc 103, 2) := by decide +kernel
theorem dX5_carry_51 : decode cX5_carry 51 = .ok (.invokespecial 75, 3) := by decide +kernel
theorem dX5_carry_54 : decode cX5_carry 54 = .ok (.athrow, 1) := by decide +kernel
theorem dX5_carry_55 : decode cX5_carry 55 = .ok (.aload_n 0, 1) := by decide +kernel
theorem dX5_carry_56 : decode cX5_carry 56 = .ok (.iload_n 1, 1) := by decide +kernel
theorem dX5_carry_57 : decode cX5_carry 57 = .ok (.iload_n 2, 1) := by decide +kernel
theorem dX5_carry_58 : decode cX5_carry 58 = .ok (.invokevirtual 105, 3) := by decide +kernel
theorem dX5_carry_61 : decode cX5_carry 61 = .ok (.istore 6, 2) := by decide +kernel
theorem dX5_carry_63 : decode cX5_carry 63 = .ok (.iload 6, 2) := by decide +kernel
theorem dX5_carry_65 : decode cX5_carry 65 = .ok (.ifCond .lt 23, 3) := by decide +kernel
theorem dX5_carry_68 : decode cX5_carry 68 = .ok (.iload 6, 2) := by decide +kernel
theorem dX5_carry_70 : decode cX5_carry 70 = .ok (.aload_n 0, 1) := by decide +kernel
theorem dX5_carry_71 : decode cX5_carry 71 = .ok (.getfield 21, 3) := by decide +kernel
theorem dX5_carry_74 : decode cX5_carry 74 = .ok (.arraylength, 1) := by decide +kernel
theorem dX5_carry_75 : decode cX5_carry 75 = .ok (.if_icmp .ge 13, 3) := by decide +kernel
theorem dX5_carry_78 : decode cX5_carry 78 = .ok (.aload_n 0, 1) := by decide +kernel
theorem dX5_carry_79 : decode cX5_carry 79 = .ok (.getfield 21, 3) := by decide +kernel
theorem dX5_carry_82 : decode cX5_carry 82 = .ok (.iload 6, 2) := by decide +kernel
theorem dX5_carry_84 : decode cX5_carry 84 = .ok (.aaload, 1) := by decide +kernel
theorem dX5_carry_85 : decode cX5_carry 85 = .ok (.ifnull 13, 3) := by decide +kernel
theorem dX5_carry_88 : decode cX5_carry 88 = .ok (.new 78, 3) := by decide +kernel
theorem dX5_carry_91 : decode cX5_carry 91 = .ok (.dup, 1) := by decide +kernel
theorem dX5_carry_92 : decode cX5_carry 92 = .ok (.ldc 109, 2) := by decide +kernel
theorem dX5_carry_94 : decode cX5_carry 94 = .ok (.invokespecial 82, 3) := by decide +kernel
theorem dX5_carry_97 : decode cX5_carry 97 = .ok (.athrow, 1) := by decide +kernel
theorem dX5_carry_98 : decode cX5_carry 98 = .ok (.aload_n 0, 1) := by decide +kernel
theorem dX5_carry_99 : decode cX5_carry 99 = .ok (.getfield 21, 3) := by decide +kernel
theorem dX5_carry_102 : decode cX5_carry 102 = .ok (.iload 6, 2) := by decide +kernel
theorem dX5_carry_104 : decode cX5_carry 104 = .ok (.new 19, 3) := by decide +kernel
theorem dX5_carry_107 : decode cX5_carry 107 = .ok (.dup, 1) := by decide +kernel
theorem dX5_carry_108 : decode cX5_carry 108 = .ok (.aload 5, 2) := by decide +kernel
theorem dX5_carry_110 : decode cX5_carry 110 = .ok (.aload_n 0, 1) := by decide +kernel
theorem dX5_carry_111 : decode cX5_carry 111 = .ok (.iload_n 1, 1) := by decide +kernel
theorem dX5_carry_112 : decode cX5_carry 112 = .ok (.invokevirtual 111, 3) := by decide +kernel
theorem dX5_carry_115 : decode cX5_carry 115 = .ok (.aload_n 0, 1) := by decide +kernel
theorem dX5_carry_116 : decode cX5_carry 116 = .ok (.getfield 59, 3) := by decide +kernel
theorem dX5_carry_119 : decode cX5_carry 119 = .ok (.iload_n 3, 1) := by decide +kernel
theorem dX5_carry_120 : decode cX5_carry 120 = .ok (.iload 4, 2) := by decide +kernel
theorem dX5_carry_122 : decode cX5_carry 122 = .ok (.invokespecial 115, 3) := by decide +kernel
theorem dX5_carry_125 : decode cX5_carry 125 = .ok (.aastore, 1) := by decide +kernel
theorem dX5_carry_126 : decode cX5_carry 126 = .ok (.aload_n 0, 1) := by decide +kernel
theorem dX5_carry_127 : decode cX5_carry 127 = .ok (.dup, 1) := by decide +kernel
theorem dX5_carry_128 : decode cX5_carry 128 = .ok (.getfield 56, 3) := by decide +kernel
theorem dX5_carry_131 : decode cX5_carry 131 = .ok (.iconst 1, 1) := by decide +kernel
theorem dX5_carry_132 : decode cX5_carry 132 = .ok (.iadd, 1) := by decide +kernel
theorem dX5_carry_133 : decode cX5_carry 133 = .ok (.putfield 56, 3) := by decide +kernel
theorem dX5_carry_136 : decode cX5_carry 136 = .ok (.aload_n 0, 1) := by decide +kernel
theorem dX5_carry_137 : decode cX5_carry 137 = .ok (.getfield 56, 3) := by decide +kernel
theorem dX5_carry_140 : decode cX5_carry 140 = .ok (.ireturn, 1) := by decide +kernel
theorem dX5_carries_0 : decode cX5_carries 0 = .ok (.aload_n 0, 1) := by decide +kernel
theorem dX5_carries_1 : decode cX5_carries 1 = .ok (.iload_n 1, 1) := by decide +kernel
theorem dX5_carries_2 : decode cX5_carries 2 = .ok (.invokevirtual 92, 3) := by decide +kernel
theorem dX5_carries_5 : decode cX5_carries 5 = .ok (.aload_n 0, 1) := by decide +kernel
theorem dX5_carries_6 : decode cX5_carries 6 = .ok (.iload_n 2, 1) := by decide +kernel
theorem dX5_carries_7 : decode cX5_carries 7 = .ok (.invokevirtual 96, 3) := by decide +kernel
theorem dX5_carries_10 : decode cX5_carries 10 = .ok (.pop, 1) := by decide +kernel
theorem dX5_carries_11 : decode cX5_carries 11 = .ok (.aload_n 0, 1) := by decide +kernel
theorem dX5_carries_12 : decode cX5_carries 12 = .ok (.iload_n 1, 1) := by decide +kernel
theorem dX5_carries_13 : decode cX5_carries 13 = .ok (.iload_n 2, 1) := by decide +kernel
theorem dX5_carries_14 : decode cX5_carries 14 = .ok (.invokevirtual 118, 3) := by decide +kernel
theorem dX5_carries_17 : decode cX5_carries 17 = .ok (.ifnull 7, 3) := by decide +kernel
theorem dX5_carries_20 : decode cX5_carries 20 = .ok (.iconst 1, 1) := by decide +kernel
theorem dX5_carries_21 : decode cX5_carries 21 = .ok (.goto 4, 3) := by decide +kernel
theorem dX5_carries_24 : decode cX5_carries 24 = .ok (.iconst 0, 1) := by decide +kernel
theorem dX5_carries_25 : decode cX5_carries 25 = .ok (.ireturn, 1) := by decide +kernel
theorem dX5_supply_0 : decode cX5_supply 0 = .ok (.aload_n 0, 1) := by decide +kernel
theorem dX5_supply_1 : decode cX5_supply 1 = .ok (.iload_n 1, 1) := by decide +kernel
theorem dX5_supply_2 : decode cX5_supply 2 = .ok (.invokevirtual 96, 3) := by decide +kernel
theorem dX5_supply_5 : decode cX5_supply 5 = .ok (.astore_n 3, 1) := by decide +kernel
theorem dX5_supply_6 : decode cX5_supply 6 = .ok (.iload_n 2, 1) := by decide +kernel
theorem dX5_supply_7 : decode cX5_supply 7 = .ok (.iconst 1, 1) := by decide +kernel
theorem dX5_supply_8 : decode cX5_supply 8 = .ok (.if_icmp .lt 10, 3) := by decide +kernel
theorem dX5_supply_11 : decode cX5_supply 11 = .ok (.iload_n 2, 1) := by decide +kernel
theorem dX5_supply_12 : decode cX5_supply 12 = .ok (.sipush 9999, 3) := by decide +kernel
theorem dX5_supply_15 : decode cX5_supply 15 = .ok (.if_icmp .le 13, 3) := by decide +kernel
theorem dX5_supply_18 : decode cX5_supply 18 = .ok (.new 71, 3) := by decide +kernel
theorem dX5_supply_21 : decode cX5_supply 21 = .ok (.dup, 1) := by decide +kernel
theorem dX5_supply_22 : decode cX5_supply 22 = .ok (.ldc 122, 2) := by decide +kernel
theorem dX5_supply_24 : decode cX5_supply 24 = .ok (.invokespecial 75, 3) := by decide +kernel
theorem dX5_supply_27 : decode cX5_supply 27 = .ok (.athrow, 1) := by decide +kernel
theorem dX5_supply_28 : decode cX5_supply 28 = .ok (.aload_n 3, 1) := by decide +kernel
theorem dX5_supply_29 : decode cX5_supply 29 = .ok (.getfield 124, 3) := by decide +kernel
theorem dX5_supply_32 : decode cX5_supply 32 = .ok (.iload_n 2, 1) := by decide +kernel
theorem dX5_supply_33 : decode cX5_supply 33 = .ok (.iadd, 1) := by decide +kernel
theorem dX5_supply_34 : decode cX5_supply 34 = .ok (.ldc 102, 2) := by decide +kernel
theorem dX5_supply_36 : decode cX5_supply 36 = .ok (.if_icmp .le 13, 3) := by decide +kernel
theorem dX5_supply_39 : decode cX5_supply 39 = .ok (.new 78, 3) := by decide +kernel
theorem dX5_supply_42 : decode cX5_supply 42 = .ok (.dup, 1) := by decide +kernel
theorem dX5_supply_43 : decode cX5_supply 43 = .ok (.ldc 127, 2) := by decide +kernel
theorem dX5_supply_45 : decode cX5_supply 45 = .ok (.invokespecial 82, 3) := by decide +kernel
theorem dX5_supply_48 : decode cX5_supply 48 = .ok (.athrow, 1) := by decide +kernel
theorem dX5_supply_49 : decode cX5_supply 49 = .ok (.aload_n 3, 1) := by decide +kernel
theorem dX5_supply_50 : decode cX5_supply 50 = .ok (.aload_n 0, 1) := by decide +kernel
theorem dX5_supply_51 : decode cX5_supply 51 = .ok (.getfield 59, 3) := by decide +kernel
theorem dX5_supply_54 : decode cX5_supply 54 = .ok (.iload_n 2, 1) := by decide +kernel
theorem dX5_supply_55 : decode cX5_supply 55 = .ok (.invokevirtual 129, 3) := by decide +kernel
theorem dX5_supply_58 : decode cX5_supply 58 = .ok (.aload_n 3, 1) := by decide +kernel
theorem dX5_supply_59 : decode cX5_supply 59 = .ok (.getfield 124, 3) := by decide +kernel
theorem dX5_supply_62 : decode cX5_supply 62 = .ok (.ireturn, 1) := by decide +kernel
theorem dX5_setService_0 : decode cX5_setService 0 = .ok (.iload_n 1, 1) := by decide +kernel
theorem dX5_setService_1 : decode cX5_setService 1 = .ok (.iconst 1, 1) := by decide +kernel
theorem dX5_setService_2 : decode cX5_setService 2 = .ok (.if_icmp .lt 9, 3) := by decide +kernel
theorem dX5_setService_5 : decode cX5_setService 5 = .ok (.iload_n 1, 1) := by decide +kernel
theorem dX5_setService_6 : decode cX5_setService 6 = .ok (.bipush 100, 2) := by decide +kernel
theorem dX5_setService_8 : decode cX5_setService 8 = .ok (.if_icmp .le 13, 3) := by decide +kernel
theorem dX5_setService_11 : decode cX5_setService 11 = .ok (.new 71, 3) := by decide +kernel
theorem dX5_setService_14 : decode cX5_setService 14 = .ok (.dup, 1) := by decide +kernel
theorem dX5_setService_15 : decode cX5_setService 15 = .ok (.ldc 132, 2) := by decide +kernel
theorem dX5_setService_17 : decode cX5_setService 17 = .ok (.invokespecial 75, 3) := by decide +kernel
theorem dX5_setService_20 : decode cX5_setService 20 = .ok (.athrow, 1) := by decide +kernel
theorem dX5_setService_21 : decode cX5_setService 21 = .ok (.aload_n 0, 1) := by decide +kernel
theorem dX5_setService_22 : decode cX5_setService 22 = .ok (.getfield 62, 3) := by decide +kernel
theorem dX5_setService_25 : decode cX5_setService 25 = .ok (.istore_n 2, 1) := by decide +kernel
theorem dX5_setService_26 : decode cX5_setService 26 = .ok (.aload_n 0, 1) := by decide +kernel
theorem dX5_setService_27 : decode cX5_setService 27 = .ok (.iload_n 1, 1) := by decide +kernel
theorem dX5_setService_28 : decode cX5_setService 28 = .ok (.putfield 62, 3) := by decide +kernel
theorem dX5_setService_31 : decode cX5_setService 31 = .ok (.iload_n 2, 1) := by decide +kernel
theorem dX5_setService_32 : decode cX5_setService 32 = .ok (.ireturn, 1) := by decide +kernel
theorem dX5_setRates_0 : decode cX5_setRates 0 = .ok (.iload_n 1, 1) := by decide +kernel
theorem dX5_setRates_1 : decode cX5_setRates 1 = .ok (.ifCond .lt 9, 3) := by decide +kernel
theorem dX5_setRates_4 : decode cX5_setRates 4 = .ok (.iload_n 1, 1) := by decide +kernel
theorem dX5_setRates_5 : decode cX5_setRates 5 = .ok (.bipush 100, 2) := by decide +kernel
theorem dX5_setRates_7 : decode cX5_setRates 7 = .ok (.if_icmp .le 13, 3) := by decide +kernel
theorem dX5_setRates_10 : decode cX5_setRates 10 = .ok (.new 71, 3) := by decide +kernel
theorem dX5_setRates_13 : decode cX5_setRates 13 = .ok (.dup, 1) := by decide +kernel
theorem dX5_setRates_14 : decode cX5_setRates 14 = .ok (.ldc 134, 2) := by decide +kernel
theorem dX5_setRates_16 : decode cX5_setRates 16 = .ok (.invokespecial 75, 3) := by decide +kernel
theorem dX5_setRates_19 : decode cX5_setRates 19 = .ok (.athrow, 1) := by decide +kernel
theorem dX5_setRates_20 : decode cX5_setRates 20 = .ok (.iload_n 2, 1) := by decide +kernel
theorem dX5_setRates_21 : decode cX5_setRates 21 = .ok (.ifCond .lt 9, 3) := by decide +kernel
theorem dX5_setRates_24 : decode cX5_setRates 24 = .ok (.iload_n 2, 1) := by decide +kernel
theorem dX5_setRates_25 : decode cX5_setRates 25 = .ok (.bipush 100, 2) := by decide +kernel
theorem dX5_setRates_27 : decode cX5_setRates 27 = .ok (.if_icmp .le 13, 3) := by decide +kernel
theorem dX5_setRates_30 : decode cX5_setRates 30 = .ok (.new 71, 3) := by decide +kernel
theorem dX5_setRates_33 : decode cX5_setRates 33 = .ok (.dup, 1) := by decide +kernel
theorem dX5_setRates_34 : decode cX5_setRates 34 = .ok (.ldc 136, 2) := by decide +kernel
theorem dX5_setRates_36 : decode cX5_setRates 36 = .ok (.invokespecial 75, 3) := by decide +kernel
theorem dX5_setRates_39 : decode cX5_setRates 39 = .ok (.athrow, 1) := by decide +kernel
theorem dX5_setRates_40 : decode cX5_setRates 40 = .ok (.aload_n 0, 1) := by decide +kernel
theorem dX5_setRates_41 : decode cX5_setRates 41 = .ok (.getfield 65, 3) := by decide +kernel
theorem dX5_setRates_44 : decode cX5_setRates 44 = .ok (.istore_n 3, 1) := by decide +kernel
theorem dX5_setRates_45 : decode cX5_setRates 45 = .ok (.aload_n 0, 1) := by decide +kernel
theorem dX5_setRates_46 : decode cX5_setRates 46 = .ok (.iload_n 1, 1) := by decide +kernel
theorem dX5_setRates_47 : decode cX5_setRates 47 = .ok (.putfield 65, 3) := by decide +kernel
theorem dX5_setRates_50 : decode cX5_setRates 50 = .ok (.aload_n 0, 1) := by decide +kernel
theorem dX5_setRates_51 : decode cX5_setRates 51 = .ok (.iload_n 2, 1) := by decide +kernel
theorem dX5_setRates_52 : decode cX5_setRates 52 = .ok (.putfield 68, 3) := by decide +kernel
theorem dX5_setRates_55 : decode cX5_setRates 55 = .ok (.iload_n 3, 1) := by decide +kernel
theorem dX5_setRates_56 : decode cX5_setRates 56 = .ok (.ireturn, 1) := by decide +kernel
theorem dX5_mark_0 : decode cX5_mark 0 = .ok (.aload_n 0, 1) := by decide +kernel
theorem dX5_mark_1 : decode cX5_mark 1 = .ok (.iload_n 1, 1) := by decide +kernel
theorem dX5_mark_2 : decode cX5_mark 2 = .ok (.invokevirtual 96, 3) := by decide +kernel
theorem dX5_mark_5 : decode cX5_mark 5 = .ok (.astore_n 3, 1) := by decide +kernel
theorem dX5_mark_6 : decode cX5_mark 6 = .ok (.iload_n 2, 1) := by decide +kernel
theorem dX5_mark_7 : decode cX5_mark 7 = .ok (.aload_n 0, 1) := by decide +kernel
theorem dX5_mark_8 : decode cX5_mark 8 = .ok (.getfield 59, 3) := by decide +kernel
theorem dX5_mark_11 : decode cX5_mark 11 = .ok (.if_icmp .lt 10, 3) := by decide +kernel
theorem dX5_mark_14 : decode cX5_mark 14 = .ok (.iload_n 2, 1) := by decide +kernel
theorem dX5_mark_15 : decode cX5_mark 15 = .ok (.sipush 999, 3) := by decide +kernel
theorem dX5_mark_18 : decode cX5_mark 18 = .ok (.if_icmp .le 13, 3) := by decide +kernel
theorem dX5_mark_21 : decode cX5_mark 21 = .ok (.new 71, 3) := by decide +kernel
theorem dX5_mark_24 : decode cX5_mark 24 = .ok (.dup, 1) := by decide +kernel
theorem dX5_mark_25 : decode cX5_mark 25 = .ok (.ldc 138, 2) := by decide +kernel
theorem dX5_mark_27 : decode cX5_mark 27 = .ok (.invokespecial 75, 3) := by decide +kernel
theorem dX5_mark_30 : decode cX5_mark 30 = .ok (.athrow, 1) := by decide +kernel
theorem dX5_mark_31 : decode cX5_mark 31 = .ok (.aload_n 3, 1) := by decide +kernel
theorem dX5_mark_32 : decode cX5_mark 32 = .ok (.iload_n 2, 1) := by decide +kernel
theorem dX5_mark_33 : decode cX5_mark 33 = .ok (.invokevirtual 140, 3) := by decide +kernel
theorem dX5_mark_36 : decode cX5_mark 36 = .ok (.istore 4, 2) := by decide +kernel
theorem dX5_mark_38 : decode cX5_mark 38 = .ok (.iload 4, 2) := by decide +kernel
theorem dX5_mark_40 : decode cX5_mark 40 = .ok (.ifCond .ne 12, 3) := by decide +kernel
theorem dX5_mark_43 : decode cX5_mark 43 = .ok (.aload_n 3, 1) := by decide +kernel
theorem dX5_mark_44 : decode cX5_mark 44 = .ok (.getfield 144, 3) := by decide +kernel
theorem dX5_mark_47 : decode cX5_mark 47 = .ok (.iload_n 2, 1) := by decide +kernel
theorem dX5_mark_48 : decode cX5_mark 48 = .ok (.iconst 1, 1) := by decide +kernel
theorem dX5_mark_49 : decode cX5_mark 49 = .ok (.invokevirtual 147, 3) := by decide +kernel
theorem dX5_mark_52 : decode cX5_mark 52 = .ok (.iload 4, 2) := by decide +kernel
theorem dX5_mark_54 : decode cX5_mark 54 = .ok (.ireturn, 1) := by decide +kernel
theorem dX5_isMarked_0 : decode cX5_isMarked 0 = .ok (.aload_n 0, 1) := by decide +kernel
theorem dX5_isMarked_1 : decode cX5_isMarked 1 = .ok (.iload_n 1, 1) := by decide +kernel
theorem dX5_isMarked_2 : decode cX5_isMarked 2 = .ok (.invokevirtual 96, 3) := by decide +kernel
theorem dX5_isMarked_5 : decode cX5_isMarked 5 = .ok (.astore_n 3, 1) := by decide +kernel
theorem dX5_isMarked_6 : decode cX5_isMarked 6 = .ok (.iload_n 2, 1) := by decide +kernel
theorem dX5_isMarked_7 : decode cX5_isMarked 7 = .ok (.ifCond .lt 10, 3) := by decide +kernel
theorem dX5_isMarked_10 : decode cX5_isMarked 10 = .ok (.iload_n 2, 1) := by decide +kernel
theorem dX5_isMarked_11 : decode cX5_isMarked 11 = .ok (.sipush 999, 3) := by decide +kernel
theorem dX5_isMarked_14 : decode cX5_isMarked 14 = .ok (.if_icmp .le 13, 3) := by decide +kernel
theorem dX5_isMarked_17 : decode cX5_isMarked 17 = .ok (.new 71, 3) := by decide +kernel
theorem dX5_isMarked_20 : decode cX5_isMarked 20 = .ok (.dup, 1) := by decide +kernel
theorem dX5_isMarked_21 : decode cX5_isMarked 21 = .ok (.ldc 150, 2) := by decide +kernel
theorem dX5_isMarked_23 : decode cX5_isMarked 23 = .ok (.invokespecial 75, 3) := by decide +kernel
theorem dX5_isMarked_26 : decode cX5_isMarked 26 = .ok (.athrow, 1) := by decide +kernel
theorem dX5_isMarked_27 : decode cX5_isMarked 27 = .ok (.aload_n 3, 1) := by decide +kernel
theorem dX5_isMarked_28 : decode cX5_isMarked 28 = .ok (.iload_n 2, 1) := by decide +kernel
theorem dX5_isMarked_29 : decode cX5_isMarked 29 = .ok (.invokevirtual 140, 3) := by decide +kernel
theorem dX5_isMarked_32 : decode cX5_isMarked 32 = .ok (.ireturn, 1) := by decide +kernel
theorem dX5_demand_0 : decode cX5_demand 0 = .ok (.aload_n 0, 1) := by decide +kernel
theorem dX5_demand_1 : decode cX5_demand 1 = .ok (.iload_n 1, 1) := by decide +kernel
theorem dX5_demand_2 : decode cX5_demand 2 = .ok (.iload_n 2, 1) := by decide +kernel
theorem dX5_demand_3 : decode cX5_demand 3 = .ok (.invokevirtual 152, 3) := by decide +kernel
theorem dX5_demand_6 : decode cX5_demand 6 = .ok (.astore 4, 2) := by decide +kernel
theorem dX5_demand_8 : decode cX5_demand 8 = .ok (.iload_n 3, 1) := by decide +kernel
theorem dX5_demand_9 : decode cX5_demand 9 = .ok (.iconst 1, 1) := by decide +kernel
theorem dX5_demand_10 : decode cX5_demand 10 = .ok (.if_icmp .lt 9, 3) := by decide +kernel
theorem dX5_demand_13 : decode cX5_demand 13 = .ok (.iload_n 3, 1) := by decide +kernel
theorem dX5_demand_14 : decode cX5_demand 14 = .ok (.bipush 99, 2) := by decide +kernel
theorem dX5_demand_16 : decode cX5_demand 16 = .ok (.if_icmp .le 13, 3) := by decide +kernel
theorem dX5_demand_19 : decode cX5_demand 19 = .ok (.new 71, 3) := by decide +kernel
theorem dX5_demand_22 : decode cX5_demand 22 = .ok (.dup, 1) := by decide +kernel
theorem dX5_demand_23 : decode cX5_demand 23 = .ok (.ldc 155, 2) := by decide +kernel
theorem dX5_demand_25 : decode cX5_demand 25 = .ok (.invokespecial 75, 3) := by decide +kernel
theorem dX5_demand_28 : decode cX5_demand 28 = .ok (.athrow, 1) := by decide +kernel
theorem dX5_demand_29 : decode cX5_demand 29 = .ok (.aload 4, 2) := by decide +kernel
theorem dX5_demand_31 : decode cX5_demand 31 = .ok (.getfield 157, 3) := by decide +kernel
theorem dX5_demand_34 : decode cX5_demand 34 = .ok (.aload_n 0, 1) := by decide +kernel
theorem dX5_demand_35 : decode cX5_demand 35 = .ok (.getfield 59, 3) := by decide +kernel
theorem dX5_demand_38 : decode cX5_demand 38 = .ok (.invokevirtual 160, 3) := by decide +kernel
theorem dX5_demand_41 : decode cX5_demand 41 = .ok (.iload_n 3, 1) := by decide +kernel
theorem dX5_demand_42 : decode cX5_demand 42 = .ok (.iadd, 1) := by decide +kernel
theorem dX5_demand_43 : decode cX5_demand 43 = .ok (.sipush 999, 3) := by decide +kernel
theorem dX5_demand_46 : decode cX5_demand 46 = .ok (.if_icmp .le 13, 3) := by decide +kernel
theorem dX5_demand_49 : decode cX5_demand 49 = .ok (.new 163, 3) := by decide +kernel
theorem dX5_demand_52 : decode cX5_demand 52 = .ok (.dup, 1) := by decide +kernel
theorem dX5_demand_53 : decode cX5_demand 53 = .ok (.ldc 165, 2) := by decide +kernel
theorem dX5_demand_55 : decode cX5_demand 55 = .ok (.invokespecial 167, 3) := by decide +kernel
theorem dX5_demand_58 : decode cX5_demand 58 = .ok (.athrow, 1) := by decide +kernel
theorem dX5_demand_59 : decode cX5_demand 59 = .ok (.aload 4, 2) := by decide +kernel
theorem dX5_demand_61 : decode cX5_demand 61 = .ok (.aload_n 0, 1) := by decide +kernel
theorem dX5_demand_62 : decode cX5_demand 62 = .ok (.getfield 59, 3) := by decide +kernel
theorem dX5_demand_65 : decode cX5_demand 65 = .ok (.iload_n 3, 1) := by decide +kernel
theorem dX5_demand_66 : decode cX5_demand 66 = .ok (.invokevirtual 168, 3) := by decide +kernel
theorem dX5_demand_69 : decode cX5_demand 69 = .ok (.ireturn, 1) := by decide +kernel
theorem dX5_night_0 : decode cX5_night 0 = .ok (.aload_n 0, 1) := by decide +kernel
theorem dX5_night_1 : decode cX5_night 1 = .ok (.getfield 59, 3) := by decide +kernel
theorem dX5_night_4 : decode cX5_night 4 = .ok (.sipush 999, 3) := by decide +kernel
theorem dX5_night_7 : decode cX5_night 7 = .ok (.if_icmp .lt 13, 3) := by decide +kernel
theorem dX5_night_10 : decode cX5_night 10 = .ok (.new 78, 3) := by decide +kernel
theorem dX5_night_13 : decode cX5_night 13 = .ok (.dup, 1) := by decide +kernel
theorem dX5_night_14 : decode cX5_night 14 = .ok (.ldc 171, 2) := by decide +kernel
theorem dX5_night_16 : decode cX5_night 16 = .ok (.invokespecial 82, 3) := by decide +kernel
theorem dX5_night_19 : decode cX5_night 19 = .ok (.athrow, 1) := by decide +kernel
theorem dX5_night_20 : decode cX5_night 20 = .ok (.aload_n 0, 1) := by decide +kernel
theorem dX5_night_21 : decode cX5_night 21 = .ok (.invokevirtual 173, 3) := by decide +kernel
theorem dX5_night_24 : decode cX5_night 24 = .ok (.aload_n 0, 1) := by decide +kernel
theorem dX5_night_25 : decode cX5_night 25 = .ok (.dup, 1) := by decide +kernel
theorem dX5_night_26 : decode cX5_night 26 = .ok (.getfield 59, 3) := by decide +kernel
theorem dX5_night_29 : decode cX5_night 29 = .ok (.iconst 1, 1) := by decide +kernel
theorem dX5_night_30 : decode cX5_night 30 = .ok (.iadd, 1) := by decide +kernel
theorem dX5_night_31 : decode cX5_night 31 = .ok (.putfield 59, 3) := by decide +kernel
theorem dX5_night_34 : decode cX5_night 34 = .ok (.aload_n 0, 1) := by decide +kernel
theorem dX5_night_35 : decode cX5_night 35 = .ok (.invokevirtual 176, 3) := by decide +kernel
theorem dX5_night_38 : decode cX5_night 38 = .ok (.iconst 0, 1) := by decide +kernel
theorem dX5_night_39 : decode cX5_night 39 = .ok (.istore_n 1, 1) := by decide +kernel
theorem dX5_night_40 : decode cX5_night 40 = .ok (.iconst 0, 1) := by decide +kernel
theorem dX5_night_41 : decode cX5_night 41 = .ok (.istore_n 2, 1) := by decide +kernel
theorem dX5_night_42 : decode cX5_night 42 = .ok (.iload_n 2, 1) := by decide +kernel
theorem dX5_night_43 : decode cX5_night 43 = .ok (.aload_n 0, 1) := by decide +kernel
theorem dX5_night_44 : decode cX5_night 44 = .ok (.getfield 53, 3) := by decide +kernel
theorem dX5_night_47 : decode cX5_night 47 = .ok (.if_icmp .ge 17, 3) := by decide +kernel
theorem dX5_night_50 : decode cX5_night 50 = .ok (.iload_n 1, 1) := by decide +kernel
theorem dX5_night_51 : decode cX5_night 51 = .ok (.aload_n 0, 1) := by decide +kernel
theorem dX5_night_52 : decode cX5_night 52 = .ok (.iload_n 2, 1) := by decide +kernel
theorem dX5_night_53 : decode cX5_night 53 = .ok (.invokevirtual 179, 3) := by decide +kernel
theorem dX5_night_56 : decode cX5_night 56 = .ok (.iadd, 1) := by decide +kernel
theorem dX5_night_57 : decode cX5_night 57 = .ok (.istore_n 1, 1) := by decide +kernel
theorem dX5_night_58 : decode cX5_night 58 = .ok (.iinc 2 1, 3) := by decide +kernel
theorem dX5_night_61 : decode cX5_night 61 = .ok (.goto (-19), 3) := by decide +kernel
theorem dX5_night_64 : decode cX5_night 64 = .ok (.iload_n 1, 1) := by decide +kernel
theorem dX5_night_65 : decode cX5_night 65 = .ok (.ireturn, 1) := by decide +kernel
theorem dX5_today_0 : decode cX5_today 0 = .ok (.aload_n 0, 1) := by decide +kernel
theorem dX5_today_1 : decode cX5_today 1 = .ok (.getfield 59, 3) := by decide +kernel
theorem dX5_today_4 : decode cX5_today 4 = .ok (.ireturn, 1) := by decide +kernel
theorem dX5_demandToday_0 : decode cX5_demandToday 0 = .ok (.aload_n 0, 1) := by decide +kernel
theorem dX5_demandToday_1 : decode cX5_demandToday 1 = .ok (.iload_n 1, 1) := by decide +kernel
theorem dX5_demandToday_2 : decode cX5_demandToday 2 = .ok (.iload_n 2, 1) := by decide +kernel
theorem dX5_demandToday_3 : decode cX5_demandToday 3 = .ok (.invokevirtual 152, 3) := by decide +kernel
theorem dX5_demandToday_6 : decode cX5_demandToday 6 = .ok (.getfield 157, 3) := by decide +kernel
theorem dX5_demandToday_9 : decode cX5_demandToday 9 = .ok (.aload_n 0, 1) := by decide +kernel
theorem dX5_demandToday_10 : decode cX5_demandToday 10 = .ok (.getfield 59, 3) := by decide +kernel
theorem dX5_demandToday_13 : decode cX5_demandToday 13 = .ok (.invokevirtual 160, 3) := by decide +kernel
theorem dX5_demandToday_16 : decode cX5_demandToday 16 = .ok (.ireturn, 1) := by decide +kernel
theorem dX5_level_0 : decode cX5_level 0 = .ok (.aload_n 0, 1) := by decide +kernel
theorem dX5_level_1 : decode cX5_level 1 = .ok (.iload_n 1, 1) := by decide +kernel
theorem dX5_level_2 : decode cX5_level 2 = .ok (.iload_n 2, 1) := by decide +kernel
theorem dX5_level_3 : decode cX5_level 3 = .ok (.invokevirtual 152, 3) := by decide +kernel
theorem dX5_level_6 : decode cX5_level 6 = .ok (.getfield 182, 3) := by decide +kernel
theorem dX5_level_9 : decode cX5_level 9 = .ok (.getfield 185, 3) := by decide +kernel
theorem dX5_level_12 : decode cX5_level 12 = .ok (.ireturn, 1) := by decide +kernel
theorem dX5_levelByDays_0 : decode cX5_levelByDays 0 = .ok (.aload_n 0, 1) := by decide +kernel
theorem dX5_levelByDays_1 : decode cX5_levelByDays 1 = .ok (.iload_n 1, 1) := by decide +kernel
theorem dX5_levelByDays_2 : decode cX5_levelByDays 2 = .ok (.iload_n 2, 1) := by decide +kernel
theorem dX5_levelByDays_3 : decode cX5_levelByDays 3 = .ok (.invokevirtual 152, 3) := by decide +kernel
theorem dX5_levelByDays_6 : decode cX5_levelByDays 6 = .ok (.astore_n 3, 1) := by decide +kernel
theorem dX5_levelByDays_7 : decode cX5_levelByDays 7 = .ok (.aload_n 0, 1) := by decide +kernel
theorem dX5_levelByDays_8 : decode cX5_levelByDays 8 = .ok (.getfield 38, 3) := by decide +kernel
theorem dX5_levelByDays_11 : decode cX5_levelByDays 11 = .ok (.aload_n 3, 1) := by decide +kernel
theorem dX5_levelByDays_12 : decode cX5_levelByDays 12 = .ok (.getfield 188, 3) := by decide +kernel
theorem dX5_levelByDays_15 : decode cX5_levelByDays 15 = .ok (.invokevirtual 191, 3) := by decide +kernel
theorem dX5_levelByDays_18 : decode cX5_levelByDays 18 = .ok (.aload_n 3, 1) := by decide +kernel
theorem dX5_levelByDays_19 : decode cX5_levelByDays 19 = .ok (.getfield 194, 3) := by decide +kernel
theorem dX5_levelByDays_22 : decode cX5_levelByDays 22 = .ok (.istore 4, 2) := by decide +kernel
theorem dX5_levelByDays_24 : decode cX5_levelByDays 24 = .ok (.iload 4, 2) := by decide +kernel
theorem dX5_levelByDays_26 : decode cX5_levelByDays 26 = .ok (.aload_n 0, 1) := by decide +kernel
theorem dX5_levelByDays_27 : decode cX5_levelByDays 27 = .ok (.getfield 59, 3) := by decide +kernel
theorem dX5_levelByDays_30 : decode cX5_levelByDays 30 = .ok (.if_icmp .ge 57, 3) := by decide +kernel
theorem dX5_levelByDays_33 : decode cX5_levelByDays 33 = .ok (.aload_n 3, 1) := by decide +kernel
theorem dX5_levelByDays_34 : decode cX5_levelByDays 34 = .ok (.getfield 197, 3) := by decide +kernel
theorem dX5_levelByDays_37 : decode cX5_levelByDays 37 = .ok (.iload 4, 2) := by decide +kernel
theorem dX5_levelByDays_39 : decode cX5_levelByDays 39 = .ok (.invokevirtual 140, 3) := by decide +kernel
theorem dX5_levelByDays_42 : decode cX5_levelByDays 42 = .ok (.ifCond .ne 39, 3) := by decide +kernel
theorem dX5_levelByDays_45 : decode cX5_levelByDays 45 = .ok (.aload_n 0, 1) := by decide +kernel
theorem dX5_levelByDays_46 : decode cX5_levelByDays 46 = .ok (.getfield 38, 3) := by decide +kernel
theorem dX5_levelByDays_49 : decode cX5_levelByDays 49 = .ok (.iload 4, 2) := by decide +kernel
theorem dX5_levelByDays_51 : decode cX5_levelByDays 51 = .ok (.aload_n 3, 1) := by decide +kernel
theorem dX5_levelByDays_52 : decode cX5_levelByDays 52 = .ok (.getfield 157, 3) := by decide +kernel
theorem dX5_levelByDays_55 : decode cX5_levelByDays 55 = .ok (.iload 4, 2) := by decide +kernel
theorem dX5_levelByDays_57 : decode cX5_levelByDays 57 = .ok (.invokevirtual 160, 3) := by decide +kernel
theorem dX5_levelByDays_60 : decode cX5_levelByDays 60 = .ok (.aload_n 0, 1) := by decide +kernel
theorem dX5_levelByDays_61 : decode cX5_levelByDays 61 = .ok (.getfield 28, 3) := by decide +kernel
theorem dX5_levelByDays_64 : decode cX5_levelByDays 64 = .ok (.iload 4, 2) := by decide +kernel
theorem dX5_levelByDays_66 : decode cX5_levelByDays 66 = .ok (.invokevirtual 160, 3) := by decide +kernel
theorem dX5_levelByDays_69 : decode cX5_levelByDays 69 = .ok (.aload_n 0, 1) := by decide +kernel
theorem dX5_levelByDays_70 : decode cX5_levelByDays 70 = .ok (.getfield 32, 3) := by decide +kernel
theorem dX5_levelByDays_73 : decode cX5_levelByDays 73 = .ok (.iload 4, 2) := by decide +kernel
theorem dX5_levelByDays_75 : decode cX5_levelByDays 75 = .ok (.invokevirtual 160, 3) := by decide +kernel
theorem dX5_levelByDays_78 : decode cX5_levelByDays 78 = .ok (.invokevirtual 201, 3) := by decide +kernel
theorem dX5_levelByDays_81 : decode cX5_levelByDays 81 = .ok (.iinc 4 1, 3) := by decide +kernel
theorem dX5_levelByDays_84 : decode cX5_levelByDays 84 = .ok (.goto (-60), 3) := by decide +kernel
theorem dX5_levelByDays_87 : decode cX5_levelByDays 87 = .ok (.aload_n 0, 1) := by decide +kernel
theorem dX5_levelByDays_88 : decode cX5_levelByDays 88 = .ok (.getfield 38, 3) := by decide +kernel
theorem dX5_levelByDays_91 : decode cX5_levelByDays 91 = .ok (.getfield 185, 3) := by decide +kernel
theorem dX5_levelByDays_94 : decode cX5_levelByDays 94 = .ok (.ireturn, 1) := by decide +kernel
theorem dX5_season_0 : decode cX5_season 0 = .ok (.aload_n 0, 1) := by decide +kernel
theorem dX5_season_1 : decode cX5_season 1 = .ok (.iload_n 1, 1) := by decide +kernel
theorem dX5_season_2 : decode cX5_season 2 = .ok (.iload_n 2, 1) := by decide +kernel
theorem dX5_season_3 : decode cX5_season 3 = .ok (.invokevirtual 152, 3) := by decide +kernel
theorem dX5_season_6 : decode cX5_season 6 = .ok (.astore 4, 2) := by decide +kernel
theorem dX5_season_8 : decode cX5_season 8 = .ok (.iload_n 3, 1) := by decide +kernel
theorem dX5_season_9 : decode cX5_season 9 = .ok (.ifCond .lt 9, 3) := by decide +kernel
theorem dX5_season_12 : decode cX5_season 12 = .ok (.iload_n 3, 1) := by decide +kernel
theorem dX5_season_13 : decode cX5_season 13 = .ok (.bipush 7, 2) := by decide +kernel
theorem dX5_season_15 : decode cX5_season 15 = .ok (.if_icmp .lt 13, 3) := by decide +kernel
theorem dX5_season_18 : decode cX5_season 18 = .ok (.new 71, 3) := by decide +kernel
theorem dX5_season_21 : decode cX5_season 21 = .ok (.dup, 1) := by decide +kernel
theorem dX5_season_22 : decode cX5_season 22 = .ok (.ldc 205, 2) := by decide +kernel
theorem dX5_season_24 : decode cX5_season 24 = .ok (.invokespecial 75, 3) := by decide +kernel
theorem dX5_season_27 : decode cX5_season 27 = .ok (.athrow, 1) := by decide +kernel
theorem dX5_season_28 : decode cX5_season 28 = .ok (.aload 4, 2) := by decide +kernel
theorem dX5_season_30 : decode cX5_season 30 = .ok (.getfield 182, 3) := by decide +kernel
theorem dX5_season_33 : decode cX5_season 33 = .ok (.iload_n 3, 1) := by decide +kernel
theorem dX5_season_34 : decode cX5_season 34 = .ok (.invokevirtual 207, 3) := by decide +kernel
theorem dX5_season_37 : decode cX5_season 37 = .ok (.ireturn, 1) := by decide +kernel
theorem dX5_forecast_0 : decode cX5_forecast 0 = .ok (.aload_n 0, 1) := by decide +kernel
theorem dX5_forecast_1 : decode cX5_forecast 1 = .ok (.iload_n 1, 1) := by decide +kernel
theorem dX5_forecast_2 : decode cX5_forecast 2 = .ok (.iload_n 2, 1) := by decide +kernel
theorem dX5_forecast_3 : decode cX5_forecast 3 = .ok (.invokevirtual 152, 3) := by decide +kernel
theorem dX5_forecast_6 : decode cX5_forecast 6 = .ok (.astore 4, 2) := by decide +kernel
theorem dX5_forecast_8 : decode cX5_forecast 8 = .ok (.iload_n 3, 1) := by decide +kernel
theorem dX5_forecast_9 : decode cX5_forecast 9 = .ok (.aload_n 0, 1) := by decide +kernel
theorem dX5_forecast_10 : decode cX5_forecast 10 = .ok (.getfield 59, 3) := by decide +kernel
theorem dX5_forecast_13 : decode cX5_forecast 13 = .ok (.if_icmp .lt 10, 3) := by decide +kernel
theorem dX5_forecast_16 : decode cX5_forecast 16 = .ok (.iload_n 3, 1) := by decide +kernel
theorem dX5_forecast_17 : decode cX5_forecast 17 = .ok (.sipush 1099, 3) := by decide +kernel
theorem dX5_forecast_20 : decode cX5_forecast 20 = .ok (.if_icmp .le 13, 3) := by decide +kernel
theorem dX5_forecast_23 : decode cX5_forecast 23 = .ok (.new 71, 3) := by decide +kernel
theorem dX5_forecast_26 : decode cX5_forecast 26 = .ok (.dup, 1) := by decide +kernel
theorem dX5_forecast_27 : decode cX5_forecast 27 = .ok (.ldc 210, 2) := by decide +kernel
theorem dX5_forecast_29 : decode cX5_forecast 29 = .ok (.invokespecial 75, 3) := by decide +kernel
theorem dX5_forecast_32 : decode cX5_forecast 32 = .ok (.athrow, 1) := by decide +kernel
theorem dX5_forecast_33 : decode cX5_forecast 33 = .ok (.aload 4, 2) := by decide +kernel
theorem dX5_forecast_35 : decode cX5_forecast 35 = .ok (.getfield 182, 3) := by decide +kernel
theorem dX5_forecast_38 : decode cX5_forecast 38 = .ok (.iload_n 3, 1) := by decide +kernel
theorem dX5_forecast_39 : decode cX5_forecast 39 = .ok (.invokevirtual 212, 3) := by decide +kernel
theorem dX5_forecast_42 : decode cX5_forecast 42 = .ok (.ireturn, 1) := by decide +kernel
theorem dX5_errors_0 : decode cX5_errors 0 = .ok (.aload_n 0, 1) := by decide +kernel
theorem dX5_errors_1 : decode cX5_errors 1 = .ok (.iload_n 1, 1) := by decide +kernel
theorem dX5_errors_2 : decode cX5_errors 2 = .ok (.iload_n 2, 1) := by decide +kernel
theorem dX5_errors_3 : decode cX5_errors 3 = .ok (.invokevirtual 152, 3) := by decide +kernel
theorem dX5_errors_6 : decode cX5_errors 6 = .ok (.astore 4, 2) := by decide +kernel
theorem dX5_errors_8 : decode cX5_errors 8 = .ok (.iload_n 3, 1) := by decide +kernel
theorem dX5_errors_9 : decode cX5_errors 9 = .ok (.ifCond .lt 9, 3) := by decide +kernel
theorem dX5_errors_12 : decode cX5_errors 12 = .ok (.iload_n 3, 1) := by decide +kernel
theorem dX5_errors_13 : decode cX5_errors 13 = .ok (.bipush 20, 2) := by decide +kernel
theorem dX5_errors_15 : decode cX5_errors 15 = .ok (.if_icmp .le 13, 3) := by decide +kernel
theorem dX5_errors_18 : decode cX5_errors 18 = .ok (.new 71, 3) := by decide +kernel
theorem dX5_errors_21 : decode cX5_errors 21 = .ok (.dup, 1) := by decide +kernel
theorem dX5_errors_22 : decode cX5_errors 22 = .ok (.ldc 215, 2) := by decide +kernel
theorem dX5_errors_24 : decode cX5_errors 24 = .ok (.invokespecial 75, 3) := by decide +kernel
theorem dX5_errors_27 : decode cX5_errors 27 = .ok (.athrow, 1) := by decide +kernel
theorem dX5_errors_28 : decode cX5_errors 28 = .ok (.aload 4, 2) := by decide +kernel
theorem dX5_errors_30 : decode cX5_errors 30 = .ok (.iload_n 3, 1) := by decide +kernel
theorem dX5_errors_31 : decode cX5_errors 31 = .ok (.invokevirtual 217, 3) := by decide +kernel
theorem dX5_errors_34 : decode cX5_errors 34 = .ok (.ireturn, 1) := by decide +kernel
theorem dX5_safety_0 : decode cX5_safety 0 = .ok (.aload_n 0, 1) := by decide +kernel
theorem dX5_safety_1 : decode cX5_safety 1 = .ok (.iload_n 1, 1) := by decide +kernel
theorem dX5_safety_2 : decode cX5_safety 2 = .ok (.iload_n 2, 1) := by decide +kernel
theorem dX5_safety_3 : decode cX5_safety 3 = .ok (.invokevirtual 152, 3) := by decide +kernel
theorem dX5_safety_6 : decode cX5_safety 6 = .ok (.aload_n 0, 1) := by decide +kernel
theorem dX5_safety_7 : decode cX5_safety 7 = .ok (.getfield 62, 3) := by decide +kernel
theorem dX5_safety_10 : decode cX5_safety 10 = .ok (.invokevirtual 220, 3) := by decide +kernel
theorem dX5_safety_13 : decode cX5_safety 13 = .ok (.ireturn, 1) := by decide +kernel
theorem dX5_stock_0 : decode cX5_stock 0 = .ok (.aload_n 0, 1) := by decide +kernel
theorem dX5_stock_1 : decode cX5_stock 1 = .ok (.iload_n 1, 1) := by decide +kernel
theorem dX5_stock_2 : decode cX5_stock 2 = .ok (.iload_n 2, 1) := by decide +kernel
theorem dX5_stock_3 : decode cX5_stock 3 = .ok (.invokevirtual 152, 3) := by decide +kernel
theorem dX5_stock_6 : decode cX5_stock 6 = .ok (.getfield 223, 3) := by decide +kernel
theorem dX5_stock_9 : decode cX5_stock 9 = .ok (.ireturn, 1) := by decide +kernel
theorem dX5_stockByJournal_0 : decode cX5_stockByJournal 0 = .ok (.aload_n 0, 1) := by decide +kernel
theorem dX5_stockByJournal_1 : decode cX5_stockByJournal 1 = .ok (.iload_n 1, 1) := by decide +kernel
theorem dX5_stockByJournal_2 : decode cX5_stockByJournal 2 = .ok (.iload_n 2, 1) := by decide +kernel
theorem dX5_stockByJournal_3 : decode cX5_stockByJournal 3 = .ok (.invokevirtual 152, 3) := by decide +kernel
theorem dX5_stockByJournal_6 : decode cX5_stockByJournal 6 = .ok (.aload_n 0, 1) := by decide +kernel
theorem dX5_stockByJournal_7 : decode cX5_stockByJournal 7 = .ok (.getfield 59, 3) := by decide +kernel
theorem dX5_stockByJournal_10 : decode cX5_stockByJournal 10 = .ok (.invokevirtual 224, 3) := by decide +kernel
theorem dX5_stockByJournal_13 : decode cX5_stockByJournal 13 = .ok (.ireturn, 1) := by decide +kernel
theorem dX5_onWay_0 : decode cX5_onWay 0 = .ok (.aload_n 0, 1) := by decide +kernel
theorem dX5_onWay_1 : decode cX5_onWay 1 = .ok (.iload_n 1, 1) := by decide +kernel
theorem dX5_onWay_2 : decode cX5_onWay 2 = .ok (.iload_n 2, 1) := by decide +kernel
theorem dX5_onWay_3 : decode cX5_onWay 3 = .ok (.invokevirtual 152, 3) := by decide +kernel
theorem dX5_onWay_6 : decode cX5_onWay 6 = .ok (.aload_n 0, 1) := by decide +kernel
theorem dX5_onWay_7 : decode cX5_onWay 7 = .ok (.getfield 59, 3) := by decide +kernel
theorem dX5_onWay_10 : decode cX5_onWay 10 = .ok (.invokevirtual 227, 3) := by decide +kernel
theorem dX5_onWay_13 : decode cX5_onWay 13 = .ok (.ireturn, 1) := by decide +kernel
theorem dX5_nextArrival_0 : decode cX5_nextArrival 0 = .ok (.aload_n 0, 1) := by decide +kernel
theorem dX5_nextArrival_1 : decode cX5_nextArrival 1 = .ok (.iload_n 1, 1) := by decide +kernel
theorem dX5_nextArrival_2 : decode cX5_nextArrival 2 = .ok (.iload_n 2, 1) := by decide +kernel
theorem dX5_nextArrival_3 : decode cX5_nextArrival 3 = .ok (.invokevirtual 152, 3) := by decide +kernel
theorem dX5_nextArrival_6 : decode cX5_nextArrival 6 = .ok (.aload_n 0, 1) := by decide +kernel
theorem dX5_nextArrival_7 : decode cX5_nextArrival 7 = .ok (.getfield 59, 3) := by decide +kernel
theorem dX5_nextArrival_10 : decode cX5_nextArrival 10 = .ok (.invokevirtual 230, 3) := by decide +kernel
theorem dX5_nextArrival_13 : decode cX5_nextArrival 13 = .ok (.istore_n 3, 1) := by decide +kernel
theorem dX5_nextArrival_14 : decode cX5_nextArrival 14 = .ok (.iload_n 3, 1) := by decide +kernel
theorem dX5_nextArrival_15 : decode cX5_nextArrival 15 = .ok (.ifCond .ge 13, 3) := by decide +kernel
theorem dX5_nextArrival_18 : decode cX5_nextArrival 18 = .ok (.new 233, 3) := by decide +kernel
theorem dX5_nextArrival_21 : decode cX5_nextArrival 21 = .ok (.dup, 1) := by decide +kernel
theorem dX5_nextArrival_22 : decode cX5_nextArrival 22 = .ok (.ldc 235, 2) := by decide +kernel
theorem dX5_nextArrival_24 : decode cX5_nextArrival 24 = .ok (.invokespecial 237, 3) := by decide +kernel
theorem dX5_nextArrival_27 : decode cX5_nextArrival 27 = .ok (.athrow, 1) := by decide +kernel
theorem dX5_nextArrival_28 : decode cX5_nextArrival 28 = .ok (.iload_n 3, 1) := by decide +kernel
theorem dX5_nextArrival_29 : decode cX5_nextArrival 29 = .ok (.ireturn, 1) := by decide +kernel
theorem dX5_need_0 : decode cX5_need 0 = .ok (.aload_n 0, 1) := by decide +kernel
theorem dX5_need_1 : decode cX5_need 1 = .ok (.iload_n 1, 1) := by decide +kernel
theorem dX5_need_2 : decode cX5_need 2 = .ok (.iload_n 2, 1) := by decide +kernel
theorem dX5_need_3 : decode cX5_need 3 = .ok (.invokevirtual 152, 3) := by decide +kernel
theorem dX5_need_6 : decode cX5_need 6 = .ok (.aload_n 0, 1) := by decide +kernel
theorem dX5_need_7 : decode cX5_need 7 = .ok (.getfield 59, 3) := by decide +kernel
theorem dX5_need_10 : decode cX5_need 10 = .ok (.aload_n 0, 1) := by decide +kernel
theorem dX5_need_11 : decode cX5_need 11 = .ok (.getfield 62, 3) := by decide +kernel
theorem dX5_need_14 : decode cX5_need 14 = .ok (.invokevirtual 238, 3) := by decide +kernel
theorem dX5_need_17 : decode cX5_need 17 = .ok (.ireturn, 1) := by decide +kernel
theorem dX5_request_0 : decode cX5_request 0 = .ok (.aload_n 0, 1) := by decide +kernel
theorem dX5_request_1 : decode cX5_request 1 = .ok (.iload_n 1, 1) := by decide +kernel
theorem dX5_request_2 : decode cX5_request 2 = .ok (.iload_n 2, 1) := by decide +kernel
theorem dX5_request_3 : decode cX5_request 3 = .ok (.invokevirtual 152, 3) := by decide +kernel
theorem dX5_request_6 : decode cX5_request 6 = .ok (.aload_n 0, 1) := by decide +kernel
theorem dX5_request_7 : decode cX5_request 7 = .ok (.getfield 59, 3) := by decide +kernel
theorem dX5_request_10 : decode cX5_request 10 = .ok (.aload_n 0, 1) := by decide +kernel
theorem dX5_request_11 : decode cX5_request 11 = .ok (.getfield 62, 3) := by decide +kernel
theorem dX5_request_14 : decode cX5_request 14 = .ok (.invokevirtual 241, 3) := by decide +kernel
theorem dX5_request_17 : decode cX5_request 17 = .ok (.ireturn, 1) := by decide +kernel
theorem dX5_share_0 : decode cX5_share 0 = .ok (.aload_n 0, 1) := by decide +kernel
theorem dX5_share_1 : decode cX5_share 1 = .ok (.iload_n 1, 1) := by decide +kernel
theorem dX5_share_2 : decode cX5_share 2 = .ok (.iload_n 2, 1) := by decide +kernel
theorem dX5_share_3 : decode cX5_share 3 = .ok (.invokevirtual 152, 3) := by decide +kernel
theorem dX5_share_6 : decode cX5_share 6 = .ok (.pop, 1) := by decide +kernel
theorem dX5_share_7 : decode cX5_share 7 = .ok (.aload_n 0, 1) := by decide +kernel
theorem dX5_share_8 : decode cX5_share 8 = .ok (.iload_n 2, 1) := by decide +kernel
theorem dX5_share_9 : decode cX5_share 9 = .ok (.invokevirtual 244, 3) := by decide +kernel
theorem dX5_share_12 : decode cX5_share 12 = .ok (.aload_n 0, 1) := by decide +kernel
theorem dX5_share_13 : decode cX5_share 13 = .ok (.getfield 45, 3) := by decide +kernel
theorem dX5_share_16 : decode cX5_share 16 = .ok (.iload_n 1, 1) := by decide +kernel
theorem dX5_share_17 : decode cX5_share 17 = .ok (.invokevirtual 247, 3) := by decide +kernel
theorem dX5_share_20 : decode cX5_share 20 = .ok (.ireturn, 1) := by decide +kernel
theorem dX5_shareByPacks_0 : decode cX5_shareByPacks 0 = .ok (.aload_n 0, 1) := by decide +kernel
theorem dX5_shareByPacks_1 : decode cX5_shareByPacks 1 = .ok (.iload_n 1, 1) := by decide +kernel
theorem dX5_shareByPacks_2 : decode cX5_shareByPacks 2 = .ok (.iload_n 2, 1) := by decide +kernel
theorem dX5_shareByPacks_3 : decode cX5_shareByPacks 3 = .ok (.invokevirtual 152, 3) := by decide +kernel
theorem dX5_shareByPacks_6 : decode cX5_shareByPacks 6 = .ok (.pop, 1) := by decide +kernel
theorem dX5_shareByPacks_7 : decode cX5_shareByPacks 7 = .ok (.aload_n 0, 1) := by decide +kernel
theorem dX5_shareByPacks_8 : decode cX5_shareByPacks 8 = .ok (.iload_n 2, 1) := by decide +kernel
theorem dX5_shareByPacks_9 : decode cX5_shareByPacks 9 = .ok (.invokevirtual 244, 3) := by decide +kernel
theorem dX5_shareByPacks_12 : decode cX5_shareByPacks 12 = .ok (.aload_n 0, 1) := by decide +kernel
theorem dX5_shareByPacks_13 : decode cX5_shareByPacks 13 = .ok (.getfield 45, 3) := by decide +kernel
theorem dX5_shareByPacks_16 : decode cX5_shareByPacks 16 = .ok (.iload_n 1, 1) := by decide +kernel
theorem dX5_shareByPacks_17 : decode cX5_shareByPacks 17 = .ok (.invokevirtual 250, 3) := by decide +kernel
theorem dX5_shareByPacks_20 : decode cX5_shareByPacks 20 = .ok (.ireturn, 1) := by decide +kernel
theorem dX5_centre_0 : decode cX5_centre 0 = .ok (.aload_n 0, 1) := by decide +kernel
theorem dX5_centre_1 : decode cX5_centre 1 = .ok (.iload_n 1, 1) := by decide +kernel
theorem dX5_centre_2 : decode cX5_centre 2 = .ok (.invokevirtual 96, 3) := by decide +kernel
theorem dX5_centre_5 : decode cX5_centre 5 = .ok (.getfield 124, 3) := by decide +kernel
theorem dX5_centre_8 : decode cX5_centre 8 = .ok (.ireturn, 1) := by decide +kernel
theorem dX5_centreByJournal_0 : decode cX5_centreByJournal 0 = .ok (.aload_n 0, 1) := by decide +kernel
theorem dX5_centreByJournal_1 : decode cX5_centreByJournal 1 = .ok (.iload_n 1, 1) := by decide +kernel
theorem dX5_centreByJournal_2 : decode cX5_centreByJournal 2 = .ok (.invokevirtual 96, 3) := by decide +kernel
theorem dX5_centreByJournal_5 : decode cX5_centreByJournal 5 = .ok (.aload_n 0, 1) := by decide +kernel
theorem dX5_centreByJournal_6 : decode cX5_centreByJournal 6 = .ok (.getfield 59, 3) := by decide +kernel
theorem dX5_centreByJournal_9 : decode cX5_centreByJournal 9 = .ok (.invokevirtual 253, 3) := by decide +kernel
theorem dX5_centreByJournal_12 : decode cX5_centreByJournal 12 = .ok (.ireturn, 1) := by decide +kernel
theorem dX5_lost_0 : decode cX5_lost 0 = .ok (.aload_n 0, 1) := by decide +kernel
theorem dX5_lost_1 : decode cX5_lost 1 = .ok (.iload_n 1, 1) := by decide +kernel
theorem dX5_lost_2 : decode cX5_lost 2 = .ok (.iload_n 2, 1) := by decide +kernel
theorem dX5_lost_3 : decode cX5_lost 3 = .ok (.invokevirtual 152, 3) := by decide +kernel
theorem dX5_lost_6 : decode cX5_lost 6 = .ok (.getfield 257, 3) := by decide +kernel
theorem dX5_lost_9 : decode cX5_lost 9 = .ok (.ireturn, 1) := by decide +kernel
theorem dX5_units_0 : decode cX5_units 0 = .ok (.lconst 0, 1) := by decide +kernel
theorem dX5_units_1 : decode cX5_units 1 = .ok (.lstore_n 1, 1) := by decide +kernel
theorem dX5_units_2 : decode cX5_units 2 = .ok (.iconst 0, 1) := by decide +kernel
theorem dX5_units_3 : decode cX5_units 3 = .ok (.istore_n 3, 1) := by decide +kernel
theorem dX5_units_4 : decode cX5_units 4 = .ok (.iload_n 3, 1) := by decide +kernel
theorem dX5_units_5 : decode cX5_units 5 = .ok (.aload_n 0, 1) := by decide +kernel
theorem dX5_units_6 : decode cX5_units 6 = .ok (.getfield 15, 3) := by decide +kernel
theorem dX5_units_9 : decode cX5_units 9 = .ok (.arraylength, 1) := by decide +kernel
theorem dX5_units_10 : decode cX5_units 10 = .ok (.if_icmp .ge 31, 3) := by decide +kernel
theorem dX5_units_13 : decode cX5_units 13 = .ok (.aload_n 0, 1) := by decide +kernel
theorem dX5_units_14 : decode cX5_units 14 = .ok (.getfield 15, 3) := by decide +kernel
theorem dX5_units_17 : decode cX5_units 17 = .ok (.iload_n 3, 1) := by decide +kernel
theorem dX5_units_18 : decode cX5_units 18 = .ok (.aaload, 1) := by decide +kernel
theorem dX5_units_19 : decode cX5_units 19 = .ok (.astore 4, 2) := by decide +kernel
theorem dX5_units_21 : decode cX5_units 21 = .ok (.aload 4, 2) := by decide +kernel
theorem dX5_units_23 : decode cX5_units 23 = .ok (.ifnull 12, 3) := by decide +kernel
theorem dX5_units_26 : decode cX5_units 26 = .ok (.lload_n 1, 1) := by decide +kernel
theorem dX5_units_27 : decode cX5_units 27 = .ok (.aload 4, 2) := by decide +kernel
theorem dX5_units_29 : decode cX5_units 29 = .ok (.getfield 124, 3) := by decide +kernel
theorem dX5_units_32 : decode cX5_units 32 = .ok (.i2l, 1) := by decide +kernel
theorem dX5_units_33 : decode cX5_units 33 = .ok (.ladd, 1) := by decide +kernel
theorem dX5_units_34 : decode cX5_units 34 = .ok (.lstore_n 1, 1) := by decide +kernel
theorem dX5_units_35 : decode cX5_units 35 = .ok (.iinc 3 1, 3) := by decide +kernel
theorem dX5_units_38 : decode cX5_units 38 = .ok (.goto (-34), 3) := by decide +kernel
theorem dX5_units_41 : decode cX5_units 41 = .ok (.iconst 0, 1) := by decide +kernel
theorem dX5_units_42 : decode cX5_units 42 = .ok (.istore_n 3, 1) := by decide +kernel
theorem dX5_units_43 : decode cX5_units 43 = .ok (.iload_n 3, 1) := by decide +kernel
theorem dX5_units_44 : decode cX5_units 44 = .ok (.aload_n 0, 1) := by decide +kernel
theorem dX5_units_45 : decode cX5_units 45 = .ok (.getfield 21, 3) := by decide +kernel
theorem dX5_units_48 : decode cX5_units 48 = .ok (.arraylength, 1) := by decide +kernel
theorem dX5_units_49 : decode cX5_units 49 = .ok (.if_icmp .ge 44, 3) := by decide +kernel
theorem dX5_units_52 : decode cX5_units 52 = .ok (.aload_n 0, 1) := by decide +kernel
theorem dX5_units_53 : decode cX5_units 53 = .ok (.getfield 21, 3) := by decide +kernel
theorem dX5_units_56 : decode cX5_units 56 = .ok (.iload_n 3, 1) := by decide +kernel
theorem dX5_units_57 : decode cX5_units 57 = .ok (.aaload, 1) := by decide +kernel
theorem dX5_units_58 : decode cX5_units 58 = .ok (.astore 4, 2) := by decide +kernel
theorem dX5_units_60 : decode cX5_units 60 = .ok (.aload 4, 2) := by decide +kernel
theorem dX5_units_62 : decode cX5_units 62 = .ok (.ifnull 25, 3) := by decide +kernel
theorem dX5_units_65 : decode cX5_units 65 = .ok (.lload_n 1, 1) := by decide +kernel
theorem dX5_units_66 : decode cX5_units 66 = .ok (.aload 4, 2) := by decide +kernel
theorem dX5_units_68 : decode cX5_units 68 = .ok (.getfield 223, 3) := by decide +kernel
theorem dX5_units_71 : decode cX5_units 71 = .ok (.i2l, 1) := by decide +kernel
theorem dX5_units_72 : decode cX5_units 72 = .ok (.ladd, 1) := by decide +kernel
theorem dX5_units_73 : decode cX5_units 73 = .ok (.lstore_n 1, 1) := by decide +kernel
theorem dX5_units_74 : decode cX5_units 74 = .ok (.lload_n 1, 1) := by decide +kernel
theorem dX5_units_75 : decode cX5_units 75 = .ok (.aload 4, 2) := by decide +kernel
theorem dX5_units_77 : decode cX5_units 77 = .ok (.aload_n 0, 1) := by decide +kernel
theorem dX5_units_78 : decode cX5_units 78 = .ok (.getfield 59, 3) := by decide +kernel
theorem dX5_units_81 : decode cX5_units 81 = .ok (.invokevirtual 227, 3) := by decide +kernel
theorem dX5_units_84 : decode cX5_units 84 = .ok (.i2l, 1) := by decide +kernel
theorem dX5_units_85 : decode cX5_units 85 = .ok (.ladd, 1) := by decide +kernel
theorem dX5_units_86 : decode cX5_units 86 = .ok (.lstore_n 1, 1) := by decide +kernel
theorem dX5_units_87 : decode cX5_units 87 = .ok (.iinc 3 1, 3) := by decide +kernel
theorem dX5_units_90 : decode cX5_units 90 = .ok (.goto (-47), 3) := by decide +kernel
theorem dX5_units_93 : decode cX5_units 93 = .ok (.lload_n 1, 1) := by decide +kernel
theorem dX5_units_94 : decode cX5_units 94 = .ok (.lreturn, 1) := by decide +kernel
theorem dX5_isShop_0 : decode cX5_isShop 0 = .ok (.iload_n 1, 1) := by decide +kernel
theorem dX5_isShop_1 : decode cX5_isShop 1 = .ok (.ifCond .lt 24, 3) := by decide +kernel
theorem dX5_isShop_4 : decode cX5_isShop 4 = .ok (.iload_n 1, 1) := by decide +kernel
theorem dX5_isShop_5 : decode cX5_isShop 5 = .ok (.aload_n 0, 1) := by decide +kernel
theorem dX5_isShop_6 : decode cX5_isShop 6 = .ok (.getfield 49, 3) := by decide +kernel
theorem dX5_isShop_9 : decode cX5_isShop 9 = .ok (.if_icmp .ge 16, 3) := by decide +kernel
theorem dX5_isShop_12 : decode cX5_isShop 12 = .ok (.iload_n 1, 1) := by decide +kernel
theorem dX5_isShop_13 : decode cX5_isShop 13 = .ok (.aload_n 0, 1) := by decide +kernel
theorem dX5_isShop_14 : decode cX5_isShop 14 = .ok (.getfield 9, 3) := by decide +kernel
theorem dX5_isShop_17 : decode cX5_isShop 17 = .ok (.arraylength, 1) := by decide +kernel
theorem dX5_isShop_18 : decode cX5_isShop 18 = .ok (.if_icmp .ge 7, 3) := by decide +kernel
theorem dX5_isShop_21 : decode cX5_isShop 21 = .ok (.iconst 1, 1) := by decide +kernel
theorem dX5_isShop_22 : decode cX5_isShop 22 = .ok (.goto 4, 3) := by decide +kernel
theorem dX5_isShop_25 : decode cX5_isShop 25 = .ok (.iconst 0, 1) := by decide +kernel
theorem dX5_isShop_26 : decode cX5_isShop 26 = .ok (.ireturn, 1) := by decide +kernel
theorem dX5_isItem_0 : decode cX5_isItem 0 = .ok (.iload_n 1, 1) := by decide +kernel
theorem dX5_isItem_1 : decode cX5_isItem 1 = .ok (.ifCond .lt 24, 3) := by decide +kernel
theorem dX5_isItem_4 : decode cX5_isItem 4 = .ok (.iload_n 1, 1) := by decide +kernel
theorem dX5_isItem_5 : decode cX5_isItem 5 = .ok (.aload_n 0, 1) := by decide +kernel
theorem dX5_isItem_6 : decode cX5_isItem 6 = .ok (.getfield 53, 3) := by decide +kernel
theorem dX5_isItem_9 : decode cX5_isItem 9 = .ok (.if_icmp .ge 16, 3) := by decide +kernel
theorem dX5_isItem_12 : decode cX5_isItem 12 = .ok (.iload_n 1, 1) := by decide +kernel
theorem dX5_isItem_13 : decode cX5_isItem 13 = .ok (.aload_n 0, 1) := by decide +kernel
theorem dX5_isItem_14 : decode cX5_isItem 14 = .ok (.getfield 15, 3) := by decide +kernel
theorem dX5_isItem_17 : decode cX5_isItem 17 = .ok (.arraylength, 1) := by decide +kernel
theorem dX5_isItem_18 : decode cX5_isItem 18 = .ok (.if_icmp .ge 7, 3) := by decide +kernel
theorem dX5_isItem_21 : decode cX5_isItem 21 = .ok (.iconst 1, 1) := by decide +kernel
theorem dX5_isItem_22 : decode cX5_isItem 22 = .ok (.goto 4, 3) := by decide +kernel
theorem dX5_isItem_25 : decode cX5_isItem 25 = .ok (.iconst 0, 1) := by decide +kernel
theorem dX5_isItem_26 : decode cX5_isItem 26 = .ok (.ireturn, 1) := by decide +kernel
theorem dX5_requireShop_0 : decode cX5_requireShop 0 = .ok (.aload_n 0, 1) := by decide +kernel
theorem dX5_requireShop_1 : decode cX5_requireShop 1 = .ok (.iload_n 1, 1) := by decide +kernel
theorem dX5_requireShop_2 : decode cX5_requireShop 2 = .ok (.invokevirtual 262, 3) := by decide +kernel
theorem dX5_requireShop_5 : decode cX5_requireShop 5 = .ok (.ifCond .ne 14, 3) := by decide +kernel
theorem dX5_requireShop_8 : decode cX5_requireShop 8 = .ok (.new 265, 3) := by decide +kernel
theorem dX5_requireShop_11 : decode cX5_requireShop 11 = .ok (.dup, 1) := by decide +kernel
theorem dX5_requireShop_12 : decode cX5_requireShop 12 = .ok (.ldc_w 267, 3) := by decide +kernel
theorem dX5_requireShop_15 : decode cX5_requireShop 15 = .ok (.invokespecial 269, 3) := by decide +kernel
theorem dX5_requireShop_18 : decode cX5_requireShop 18 = .ok (.athrow, 1) := by decide +kernel
theorem dX5_requireShop_19 : decode cX5_requireShop 19 = .ok (.return_, 1) := by decide +kernel
theorem dX5_requireItem_0 : decode cX5_requireItem 0 = .ok (.aload_n 0, 1) := by decide +kernel
theorem dX5_requireItem_1 : decode cX5_requireItem 1 = .ok (.iload_n 1, 1) := by decide +kernel
theorem dX5_requireItem_2 : decode cX5_requireItem 2 = .ok (.invokevirtual 270, 3) := by decide +kernel
theorem dX5_requireItem_5 : decode cX5_requireItem 5 = .ok (.astore_n 2, 1) := by decide +kernel
theorem dX5_requireItem_6 : decode cX5_requireItem 6 = .ok (.aload_n 2, 1) := by decide +kernel
theorem dX5_requireItem_7 : decode cX5_requireItem 7 = .ok (.ifnonnull 14, 3) := by decide +kernel
theorem dX5_requireItem_10 : decode cX5_requireItem 10 = .ok (.new 265, 3) := by decide +kernel
theorem dX5_requireItem_13 : decode cX5_requireItem 13 = .ok (.dup, 1) := by decide +kernel
theorem dX5_requireItem_14 : decode cX5_requireItem 14 = .ok (.ldc_w 273, 3) := by decide +kernel
theorem dX5_requireItem_17 : decode cX5_requireItem 17 = .ok (.invokespecial 269, 3) := by decide +kernel
theorem dX5_requireItem_20 : decode cX5_requireItem 20 = .ok (.athrow, 1) := by decide +kernel
theorem dX5_requireItem_21 : decode cX5_requireItem 21 = .ok (.aload_n 2, 1) := by decide +kernel
theorem dX5_requireItem_22 : decode cX5_requireItem 22 = .ok (.areturn, 1) := by decide +kernel
theorem dX5_itemOrNull_0 : decode cX5_itemOrNull 0 = .ok (.aload_n 0, 1) := by decide +kernel
theorem dX5_itemOrNull_1 : decode cX5_itemOrNull 1 = .ok (.iload_n 1, 1) := by decide +kernel
theorem dX5_itemOrNull_2 : decode cX5_itemOrNull 2 = .ok (.invokevirtual 275, 3) := by decide +kernel
theorem dX5_itemOrNull_5 : decode cX5_itemOrNull 5 = .ok (.ifCond .eq 12, 3) := by decide +kernel
theorem dX5_itemOrNull_8 : decode cX5_itemOrNull 8 = .ok (.aload_n 0, 1) := by decide +kernel
theorem dX5_itemOrNull_9 : decode cX5_itemOrNull 9 = .ok (.getfield 15, 3) := by decide +kernel
theorem dX5_itemOrNull_12 : decode cX5_itemOrNull 12 = .ok (.iload_n 1, 1) := by decide +kernel
theorem dX5_itemOrNull_13 : decode cX5_itemOrNull 13 = .ok (.aaload, 1) := by decide +kernel
theorem dX5_itemOrNull_14 : decode cX5_itemOrNull 14 = .ok (.goto 4, 3) := by decide +kernel
theorem dX5_itemOrNull_17 : decode cX5_itemOrNull 17 = .ok (.aconst_null, 1) := by decide +kernel
theorem dX5_itemOrNull_18 : decode cX5_itemOrNull 18 = .ok (.areturn, 1) := by decide +kernel
theorem dX5_requireLine_0 : decode cX5_requireLine 0 = .ok (.aload_n 0, 1) := by decide +kernel
theorem dX5_requireLine_1 : decode cX5_requireLine 1 = .ok (.iload_n 1, 1) := by decide +kernel
theorem dX5_requireLine_2 : decode cX5_requireLine 2 = .ok (.invokevirtual 92, 3) := by decide +kernel
theorem dX5_requireLine_5 : decode cX5_requireLine 5 = .ok (.aload_n 0, 1) := by decide +kernel
theorem dX5_requireLine_6 : decode cX5_requireLine 6 = .ok (.iload_n 2, 1) := by decide +kernel
theorem dX5_requireLine_7 : decode cX5_requireLine 7 = .ok (.invokevirtual 96, 3) := by decide +kernel
theorem dX5_requireLine_10 : decode cX5_requireLine 10 = .ok (.pop, 1) := by decide +kernel
theorem dX5_requireLine_11 : decode cX5_requireLine 11 = .ok (.aload_n 0, 1) := by decide +kernel
theorem dX5_requireLine_12 : decode cX5_requireLine 12 = .ok (.iload_n 1, 1) := by decide +kernel
theorem dX5_requireLine_13 : decode cX5_requireLine 13 = .ok (.iload_n 2, 1) := by decide +kernel
theorem dX5_requireLine_14 : decode cX5_requireLine 14 = .ok (.invokevirtual 118, 3) := by decide +kernel
theorem dX5_requireLine_17 : decode cX5_requireLine 17 = .ok (.astore_n 3, 1) := by decide +kernel
theorem dX5_requireLine_18 : decode cX5_requireLine 18 = .ok (.aload_n 3, 1) := by decide +kernel
theorem dX5_requireLine_19 : decode cX5_requireLine 19 = .ok (.ifnonnull 14, 3) := by decide +kernel
theorem dX5_requireLine_22 : decode cX5_requireLine 22 = .ok (.new 233, 3) := by decide +kernel
theorem dX5_requireLine_25 : decode cX5_requireLine 25 = .ok (.dup, 1) := by decide +kernel
theorem dX5_requireLine_26 : decode cX5_requireLine 26 = .ok (.ldc_w 278, 3) := by decide +kernel
theorem dX5_requireLine_29 : decode cX5_requireLine 29 = .ok (.invokespecial 237, 3) := by decide +kernel
theorem dX5_requireLine_32 : decode cX5_requireLine 32 = .ok (.athrow, 1) := by decide +kernel
theorem dX5_requireLine_33 : decode cX5_requireLine 33 = .ok (.aload_n 3, 1) := by decide +kernel
theorem dX5_requireLine_34 : decode cX5_requireLine 34 = .ok (.areturn, 1) := by decide +kernel
theorem dX5_lineOrNull_0 : decode cX5_lineOrNull 0 = .ok (.aload_n 0, 1) := by decide +kernel
theorem dX5_lineOrNull_1 : decode cX5_lineOrNull 1 = .ok (.iload_n 1, 1) := by decide +kernel
theorem dX5_lineOrNull_2 : decode cX5_lineOrNull 2 = .ok (.iload_n 2, 1) := by decide +kernel
theorem dX5_lineOrNull_3 : decode cX5_lineOrNull 3 = .ok (.invokevirtual 105, 3) := by decide +kernel
theorem dX5_lineOrNull_6 : decode cX5_lineOrNull 6 = .ok (.istore_n 3, 1) := by decide +kernel
theorem dX5_lineOrNull_7 : decode cX5_lineOrNull 7 = .ok (.iload_n 3, 1) := by decide +kernel
theorem dX5_lineOrNull_8 : decode cX5_lineOrNull 8 = .ok (.ifCond .lt 21, 3) := by decide +kernel
theorem dX5_lineOrNull_11 : decode cX5_lineOrNull 11 = .ok (.iload_n 3, 1) := by decide +kernel
theorem dX5_lineOrNull_12 : decode cX5_lineOrNull 12 = .ok (.aload_n 0, 1) := by decide +kernel
theorem dX5_lineOrNull_13 : decode cX5_lineOrNull 13 = .ok (.getfield 21, 3) := by decide +kernel
theorem dX5_lineOrNull_16 : decode cX5_lineOrNull 16 = .ok (.arraylength, 1) := by decide +kernel
theorem dX5_lineOrNull_17 : decode cX5_lineOrNull 17 = .ok (.if_icmp .ge 12, 3) := by decide +kernel
theorem dX5_lineOrNull_20 : decode cX5_lineOrNull 20 = .ok (.aload_n 0, 1) := by decide +kernel
theorem dX5_lineOrNull_21 : decode cX5_lineOrNull 21 = .ok (.getfield 21, 3) := by decide +kernel
theorem dX5_lineOrNull_24 : decode cX5_lineOrNull 24 = .ok (.iload_n 3, 1) := by decide +kernel
theorem dX5_lineOrNull_25 : decode cX5_lineOrNull 25 = .ok (.aaload, 1) := by decide +kernel
theorem dX5_lineOrNull_26 : decode cX5_lineOrNull 26 = .ok (.goto 4, 3) := by decide +kernel
theorem dX5_lineOrNull_29 : decode cX5_lineOrNull 29 = .ok (.aconst_null, 1) := by decide +kernel
theorem dX5_lineOrNull_30 : decode cX5_lineOrNull 30 = .ok (.areturn, 1) := by decide +kernel
theorem dX5_placeOf_0 : decode cX5_placeOf 0 = .ok (.aload_n 0, 1) := by decide +kernel
theorem dX5_placeOf_1 : decode cX5_placeOf 1 = .ok (.iload_n 1, 1) := by decide +kernel
theorem dX5_placeOf_2 : decode cX5_placeOf 2 = .ok (.invokevirtual 262, 3) := by decide +kernel
theorem dX5_placeOf_5 : decode cX5_placeOf 5 = .ok (.ifCond .eq 19, 3) := by decide +kernel
theorem dX5_placeOf_8 : decode cX5_placeOf 8 = .ok (.aload_n 0, 1) := by decide +kernel
theorem dX5_placeOf_9 : decode cX5_placeOf 9 = .ok (.iload_n 2, 1) := by decide +kernel
theorem dX5_placeOf_10 : decode cX5_placeOf 10 = .ok (.invokevirtual 275, 3) := by decide +kernel
theorem dX5_placeOf_13 : decode cX5_placeOf 13 = .ok (.ifCond .eq 11, 3) := by decide +kernel
theorem dX5_placeOf_16 : decode cX5_placeOf 16 = .ok (.iload_n 1, 1) := by decide +kernel
theorem dX5_placeOf_17 : decode cX5_placeOf 17 = .ok (.iconst 5, 1) := by decide +kernel
theorem dX5_placeOf_18 : decode cX5_placeOf 18 = .ok (.imul, 1) := by decide +kernel
theorem dX5_placeOf_19 : decode cX5_placeOf 19 = .ok (.iload_n 2, 1) := by decide +kernel
theorem dX5_placeOf_20 : decode cX5_placeOf 20 = .ok (.iadd, 1) := by decide +kernel
theorem dX5_placeOf_21 : decode cX5_placeOf 21 = .ok (.goto 4, 3) := by decide +kernel
theorem dX5_placeOf_24 : decode cX5_placeOf 24 = .ok (.iconst (-1), 1) := by decide +kernel
theorem dX5_placeOf_25 : decode cX5_placeOf 25 = .ok (.ireturn, 1) := by decide +kernel
theorem dX5_leadOf_0 : decode cX5_leadOf 0 = .ok (.aload_n 0, 1) := by decide +kernel
theorem dX5_leadOf_1 : decode cX5_leadOf 1 = .ok (.iload_n 1, 1) := by decide +kernel
theorem dX5_leadOf_2 : decode cX5_leadOf 2 = .ok (.invokevirtual 262, 3) := by decide +kernel
theorem dX5_leadOf_5 : decode cX5_leadOf 5 = .ok (.ifCond .eq 12, 3) := by decide +kernel
theorem dX5_leadOf_8 : decode cX5_leadOf 8 = .ok (.aload_n 0, 1) := by decide +kernel
theorem dX5_leadOf_9 : decode cX5_leadOf 9 = .ok (.getfield 9, 3) := by decide +kernel
theorem dX5_leadOf_12 : decode cX5_leadOf 12 = .ok (.iload_n 1, 1) := by decide +kernel
theorem dX5_leadOf_13 : decode cX5_leadOf 13 = .ok (.iaload, 1) := by decide +kernel
theorem dX5_leadOf_14 : decode cX5_leadOf 14 = .ok (.goto 4, 3) := by decide +kernel
theorem dX5_leadOf_17 : decode cX5_leadOf 17 = .ok (.iconst 1, 1) := by decide +kernel
theorem dX5_leadOf_18 : decode cX5_leadOf 18 = .ok (.ireturn, 1) := by decide +kernel
theorem dX5_learnToday_0 : decode cX5_learnToday 0 = .ok (.aload_n 0, 1) := by decide +kernel
theorem dX5_learnToday_1 : decode cX5_learnToday 1 = .ok (.getfield 28, 3) := by decide +kernel
theorem dX5_learnToday_4 : decode cX5_learnToday 4 = .ok (.aload_n 0, 1) := by decide +kernel
theorem dX5_learnToday_5 : decode cX5_learnToday 5 = .ok (.getfield 59, 3) := by decide +kernel
theorem dX5_learnToday_8 : decode cX5_learnToday 8 = .ok (.aload_n 0, 1) := by decide +kernel
theorem dX5_learnToday_9 : decode cX5_learnToday 9 = .ok (.getfield 65, 3) := by decide +kernel
theorem dX5_learnToday_12 : decode cX5_learnToday 12 = .ok (.invokevirtual 147, 3) := by decide +kernel
theorem dX5_learnToday_15 : decode cX5_learnToday 15 = .ok (.aload_n 0, 1) := by decide +kernel
theorem dX5_learnToday_16 : decode cX5_learnToday 16 = .ok (.getfield 32, 3) := by decide +kernel
theorem dX5_learnToday_19 : decode cX5_learnToday 19 = .ok (.aload_n 0, 1) := by decide +kernel
theorem dX5_learnToday_20 : decode cX5_learnToday 20 = .ok (.getfield 59, 3) := by decide +kernel
theorem dX5_learnToday_23 : decode cX5_learnToday 23 = .ok (.aload_n 0, 1) := by decide +kernel
theorem dX5_learnToday_24 : decode cX5_learnToday 24 = .ok (.getfield 68, 3) := by decide +kernel
theorem dX5_learnToday_27 : decode cX5_learnToday 27 = .ok (.invokevirtual 147, 3) := by decide +kernel
theorem dX5_learnToday_30 : decode cX5_learnToday 30 = .ok (.iconst 0, 1) := by decide +kernel
theorem dX5_learnToday_31 : decode cX5_learnToday 31 = .ok (.istore_n 1, 1) := by decide +kernel
theorem dX5_learnToday_32 : decode cX5_learnToday 32 = .ok (.iload_n 1, 1) := by decide +kernel
theorem dX5_learnToday_33 : decode cX5_learnToday 33 = .ok (.aload_n 0, 1) := by decide +kernel
theorem dX5_learnToday_34 : decode cX5_learnToday 34 = .ok (.getfield 21, 3) := by decide +kernel
theorem dX5_learnToday_37 : decode cX5_learnToday 37 = .ok (.arraylength, 1) := by decide +kernel
theorem dX5_learnToday_38 : decode cX5_learnToday 38 = .ok (.if_icmp .ge 50, 3) := by decide +kernel
theorem dX5_learnToday_41 : decode cX5_learnToday 41 = .ok (.aload_n 0, 1) := by decide +kernel
theorem dX5_learnToday_42 : decode cX5_learnToday 42 = .ok (.getfield 21, 3) := by decide +kernel
theorem dX5_learnToday_45 : decode cX5_learnToday 45 = .ok (.iload_n 1, 1) := by decide +kernel
theorem dX5_learnToday_46 : decode cX5_learnToday 46 = .ok (.aaload, 1) := by decide +kernel
theorem dX5_learnToday_47 : decode cX5_learnToday 47 = .ok (.astore_n 2, 1) := by decide +kernel
theorem dX5_learnToday_48 : decode cX5_learnToday 48 = .ok (.aload_n 2, 1) := by decide +kernel
theorem dX5_learnToday_49 : decode cX5_learnToday 49 = .ok (.ifnull 33, 3) := by decide +kernel
theorem dX5_learnToday_52 : decode cX5_learnToday 52 = .ok (.aload_n 2, 1) := by decide +kernel
theorem dX5_learnToday_53 : decode cX5_learnToday 53 = .ok (.getfield 197, 3) := by decide +kernel
theorem dX5_learnToday_56 : decode cX5_learnToday 56 = .ok (.aload_n 0, 1) := by decide +kernel
theorem dX5_learnToday_57 : decode cX5_learnToday 57 = .ok (.getfield 59, 3) := by decide +kernel
theorem dX5_learnToday_60 : decode cX5_learnToday 60 = .ok (.invokevirtual 140, 3) := by decide +kernel
theorem dX5_learnToday_63 : decode cX5_learnToday 63 = .ok (.ifCond .ne 19, 3) := by decide +kernel
theorem dX5_learnToday_66 : decode cX5_learnToday 66 = .ok (.aload_n 2, 1) := by decide +kernel
theorem dX5_learnToday_67 : decode cX5_learnToday 67 = .ok (.aload_n 0, 1) := by decide +kernel
theorem dX5_learnToday_68 : decode cX5_learnToday 68 = .ok (.getfield 59, 3) := by decide +kernel
theorem dX5_learnToday_71 : decode cX5_learnToday 71 = .ok (.aload_n 0, 1) := by decide +kernel
theorem dX5_learnToday_72 : decode cX5_learnToday 72 = .ok (.getfield 65, 3) := by decide +kernel
theorem dX5_learnToday_75 : decode cX5_learnToday 75 = .ok (.aload_n 0, 1) := by decide +kernel
theorem dX5_learnToday_76 : decode cX5_learnToday 76 = .ok (.getfield 68, 3) := by decide +kernel
theorem dX5_learnToday_79 : decode cX5_learnToday 79 = .ok (.invokevirtual 280, 3) := by decide +kernel
theorem dX5_learnToday_82 : decode cX5_learnToday 82 = .ok (.iinc 1 1, 3) := by decide +kernel
theorem dX5_learnToday_85 : decode cX5_learnToday 85 = .ok (.goto (-53), 3) := by decide +kernel
theorem dX5_learnToday_88 : decode cX5_learnToday 88 = .ok (.return_, 1) := by decide +kernel
theorem dX5_receiveToday_0 : decode cX5_receiveToday 0 = .ok (.iconst 0, 1) := by decide +kernel
theorem dX5_receiveToday_1 : decode cX5_receiveToday 1 = .ok (.istore_n 1, 1) := by decide +kernel
theorem dX5_receiveToday_2 : decode cX5_receiveToday 2 = .ok (.iload_n 1, 1) := by decide +kernel
theorem dX5_receiveToday_3 : decode cX5_receiveToday 3 = .ok (.aload_n 0, 1) := by decide +kernel
theorem dX5_receiveToday_4 : decode cX5_receiveToday 4 = .ok (.getfield 21, 3) := by decide +kernel
theorem dX5_receiveToday_7 : decode cX5_receiveToday 7 = .ok (.arraylength, 1) := by decide +kernel
theorem dX5_receiveToday_8 : decode cX5_receiveToday 8 = .ok (.if_icmp .ge 40, 3) := by decide +kernel
theorem dX5_receiveToday_11 : decode cX5_receiveToday 11 = .ok (.aload_n 0, 1) := by decide +kernel
theorem dX5_receiveToday_12 : decode cX5_receiveToday 12 = .ok (.getfield 21, 3) := by decide +kernel
theorem dX5_receiveToday_15 : decode cX5_receiveToday 15 = .ok (.iload_n 1, 1) := by decide +kernel
theorem dX5_receiveToday_16 : decode cX5_receiveToday 16 = .ok (.aaload, 1) := by decide +kernel
theorem dX5_receiveToday_17 : decode cX5_receiveToday 17 = .ok (.astore_n 2, 1) := by decide +kernel
theorem dX5_receiveToday_18 : decode cX5_receiveToday 18 = .ok (.aload_n 2, 1) := by decide +kernel
theorem dX5_receiveToday_19 : decode cX5_receiveToday 19 = .ok (.ifnull 23, 3) := by decide +kernel
theorem dX5_receiveToday_22 : decode cX5_receiveToday 22 = .ok (.aload_n 2, 1) := by decide +kernel
theorem dX5_receiveToday_23 : decode cX5_receiveToday 23 = .ok (.dup, 1) := by decide +kernel
theorem dX5_receiveToday_24 : decode cX5_receiveToday 24 = .ok (.getfield 223, 3) := by decide +kernel
theorem dX5_receiveToday_27 : decode cX5_receiveToday 27 = .ok (.aload_n 2, 1) := by decide +kernel
theorem dX5_receiveToday_28 : decode cX5_receiveToday 28 = .ok (.getfield 284, 3) := by decide +kernel
theorem dX5_receiveToday_31 : decode cX5_receiveToday 31 = .ok (.aload_n 0, 1) := by decide +kernel
theorem dX5_receiveToday_32 : decode cX5_receiveToday 32 = .ok (.getfield 59, 3) := by decide +kernel
theorem dX5_receiveToday_35 : decode cX5_receiveToday 35 = .ok (.invokevirtual 160, 3) := by decide +kernel
theorem dX5_receiveToday_38 : decode cX5_receiveToday 38 = .ok (.iadd, 1) := by decide +kernel
theorem dX5_receiveToday_39 : decode cX5_receiveToday 39 = .ok (.putfield 223, 3) := by decide +kernel
theorem dX5_receiveToday_42 : decode cX5_receiveToday 42 = .ok (.iinc 1 1, 3) := by decide +kernel
theorem dX5_receiveToday_45 : decode cX5_receiveToday 45 = .ok (.goto (-43), 3) := by decide +kernel
theorem dX5_receiveToday_48 : decode cX5_receiveToday 48 = .ok (.return_, 1) := by decide +kernel
theorem dX5_askForAll_0 : decode cX5_askForAll 0 = .ok (.aload_n 0, 1) := by decide +kernel
theorem dX5_askForAll_1 : decode cX5_askForAll 1 = .ok (.iload_n 1, 1) := by decide +kernel
theorem dX5_askForAll_2 : decode cX5_askForAll 2 = .ok (.invokevirtual 270, 3) := by decide +kernel
theorem dX5_askForAll_5 : decode cX5_askForAll 5 = .ok (.astore_n 2, 1) := by decide +kernel
theorem dX5_askForAll_6 : decode cX5_askForAll 6 = .ok (.aload_n 0, 1) := by decide +kernel
theorem dX5_askForAll_7 : decode cX5_askForAll 7 = .ok (.getfield 45, 3) := by decide +kernel
theorem dX5_askForAll_10 : decode cX5_askForAll 10 = .ok (.aload_n 2, 1) := by decide +kernel
theorem dX5_askForAll_11 : decode cX5_askForAll 11 = .ok (.ifnonnull 7, 3) := by decide +kernel
theorem dX5_askForAll_14 : decode cX5_askForAll 14 = .ok (.iconst 0, 1) := by decide +kernel
theorem dX5_askForAll_15 : decode cX5_askForAll 15 = .ok (.goto 7, 3) := by decide +kernel
theorem dX5_askForAll_18 : decode cX5_askForAll 18 = .ok (.aload_n 2, 1) := by decide +kernel
theorem dX5_askForAll_19 : decode cX5_askForAll 19 = .ok (.invokevirtual 287, 3) := by decide +kernel
theorem dX5_askForAll_22 : decode cX5_askForAll 22 = .ok (.invokevirtual 291, 3) := by decide +kernel
theorem dX5_askForAll_25 : decode cX5_askForAll 25 = .ok (.iconst 0, 1) := by decide +kernel
theorem dX5_askForAll_26 : decode cX5_askForAll 26 = .ok (.istore_n 3, 1) := by decide +kernel
theorem dX5_askForAll_27 : decode cX5_askForAll 27 = .ok (.iload_n 3, 1) := by decide +kernel
theorem dX5_askForAll_28 : decode cX5_askForAll 28 = .ok (.aload_n 0, 1) := by decide +kernel
theorem dX5_askForAll_29 : decode cX5_askForAll 29 = .ok (.getfield 49, 3) := by decide +kernel
theorem dX5_askForAll_32 : decode cX5_askForAll 32 = .ok (.if_icmp .ge 43, 3) := by decide +kernel
theorem dX5_askForAll_35 : decode cX5_askForAll 35 = .ok (.aload_n 0, 1) := by decide +kernel
theorem dX5_askForAll_36 : decode cX5_askForAll 36 = .ok (.iload_n 3, 1) := by decide +kernel
theorem dX5_askForAll_37 : decode cX5_askForAll 37 = .ok (.iload_n 1, 1) := by decide +kernel
theorem dX5_askForAll_38 : decode cX5_askForAll 38 = .ok (.invokevirtual 118, 3) := by decide +kernel
theorem dX5_askForAll_41 : decode cX5_askForAll 41 = .ok (.astore 4, 2) := by decide +kernel
theorem dX5_askForAll_43 : decode cX5_askForAll 43 = .ok (.aload 4, 2) := by decide +kernel
theorem dX5_askForAll_45 : decode cX5_askForAll 45 = .ok (.ifnull 24, 3) := by decide +kernel
theorem dX5_askForAll_48 : decode cX5_askForAll 48 = .ok (.aload_n 0, 1) := by decide +kernel
theorem dX5_askForAll_49 : decode cX5_askForAll 49 = .ok (.getfield 45, 3) := by decide +kernel
theorem dX5_askForAll_52 : decode cX5_askForAll 52 = .ok (.iload_n 3, 1) := by decide +kernel
theorem dX5_askForAll_53 : decode cX5_askForAll 53 = .ok (.aload 4, 2) := by decide +kernel
theorem dX5_askForAll_55 : decode cX5_askForAll 55 = .ok (.aload_n 0, 1) := by decide +kernel
theorem dX5_askForAll_56 : decode cX5_askForAll 56 = .ok (.getfield 59, 3) := by decide +kernel
theorem dX5_askForAll_59 : decode cX5_askForAll 59 = .ok (.aload_n 0, 1) := by decide +kernel
theorem dX5_askForAll_60 : decode cX5_askForAll 60 = .ok (.getfield 62, 3) := by decide +kernel
theorem dX5_askForAll_63 : decode cX5_askForAll 63 = .ok (.invokevirtual 241, 3) := by decide +kernel
theorem dX5_askForAll_66 : decode cX5_askForAll 66 = .ok (.invokevirtual 292, 3) := by decide +kernel
theorem dX5_askForAll_69 : decode cX5_askForAll 69 = .ok (.iinc 3 1, 3) := by decide +kernel
theorem dX5_askForAll_72 : decode cX5_askForAll 72 = .ok (.goto (-45), 3) := by decide +kernel
theorem dX5_askForAll_75 : decode cX5_askForAll 75 = .ok (.return_, 1) := by decide +kernel
theorem dX5_sendPacks_0 : decode cX5_sendPacks 0 = .ok (.aload_n 0, 1) := by decide +kernel
theorem dX5_sendPacks_1 : decode cX5_sendPacks 1 = .ok (.iload_n 1, 1) := by decide +kernel
theorem dX5_sendPacks_2 : decode cX5_sendPacks 2 = .ok (.invokevirtual 244, 3) := by decide +kernel
theorem dX5_sendPacks_5 : decode cX5_sendPacks 5 = .ok (.iconst 0, 1) := by decide +kernel
theorem dX5_sendPacks_6 : decode cX5_sendPacks 6 = .ok (.istore_n 2, 1) := by decide +kernel
theorem dX5_sendPacks_7 : decode cX5_sendPacks 7 = .ok (.iconst 0, 1) := by decide +kernel
theorem dX5_sendPacks_8 : decode cX5_sendPacks 8 = .ok (.istore_n 3, 1) := by decide +kernel
theorem dX5_sendPacks_9 : decode cX5_sendPacks 9 = .ok (.iload_n 3, 1) := by decide +kernel
theorem dX5_sendPacks_10 : decode cX5_sendPacks 10 = .ok (.aload_n 0, 1) := by decide +kernel
theorem dX5_sendPacks_11 : decode cX5_sendPacks 11 = .ok (.getfield 49, 3) := by decide +kernel
theorem dX5_sendPacks_14 : decode cX5_sendPacks 14 = .ok (.if_icmp .ge 48, 3) := by decide +kernel
theorem dX5_sendPacks_17 : decode cX5_sendPacks 17 = .ok (.aload_n 0, 1) := by decide +kernel
theorem dX5_sendPacks_18 : decode cX5_sendPacks 18 = .ok (.iload_n 3, 1) := by decide +kernel
theorem dX5_sendPacks_19 : decode cX5_sendPacks 19 = .ok (.iload_n 1, 1) := by decide +kernel
theorem dX5_sendPacks_20 : decode cX5_sendPacks 20 = .ok (.invokevirtual 118, 3) := by decide +kernel
theorem dX5_sendPacks_23 : decode cX5_sendPacks 23 = .ok (.astore 4, 2) := by decide +kernel
theorem dX5_sendPacks_25 : decode cX5_sendPacks 25 = .ok (.aload 4, 2) := by decide +kernel
theorem dX5_sendPacks_27 : decode cX5_sendPacks 27 = .ok (.ifnull 29, 3) := by decide +kernel
theorem dX5_sendPacks_30 : decode cX5_sendPacks 30 = .ok (.aload_n 0, 1) := by decide +kernel
theorem dX5_sendPacks_31 : decode cX5_sendPacks 31 = .ok (.getfield 45, 3) := by decide +kernel
theorem dX5_sendPacks_34 : decode cX5_sendPacks 34 = .ok (.iload_n 3, 1) := by decide +kernel
theorem dX5_sendPacks_35 : decode cX5_sendPacks 35 = .ok (.invokevirtual 247, 3) := by decide +kernel
theorem dX5_sendPacks_38 : decode cX5_sendPacks 38 = .ok (.istore 5, 2) := by decide +kernel
theorem dX5_sendPacks_40 : decode cX5_sendPacks 40 = .ok (.aload 4, 2) := by decide +kernel
theorem dX5_sendPacks_42 : decode cX5_sendPacks 42 = .ok (.aload_n 0, 1) := by decide +kernel
theorem dX5_sendPacks_43 : decode cX5_sendPacks 43 = .ok (.getfield 59, 3) := by decide +kernel
theorem dX5_sendPacks_46 : decode cX5_sendPacks 46 = .ok (.iload 5, 2) := by decide +kernel
theorem dX5_sendPacks_48 : decode cX5_sendPacks 48 = .ok (.invokevirtual 295, 3) := by decide +kernel
theorem dX5_sendPacks_51 : decode cX5_sendPacks 51 = .ok (.iload_n 2, 1) := by decide +kernel
theorem dX5_sendPacks_52 : decode cX5_sendPacks 52 = .ok (.iload 5, 2) := by decide +kernel
theorem dX5_sendPacks_54 : decode cX5_sendPacks 54 = .ok (.iadd, 1) := by decide +kernel
theorem dX5_sendPacks_55 : decode cX5_sendPacks 55 = .ok (.istore_n 2, 1) := by decide +kernel
theorem dX5_sendPacks_56 : decode cX5_sendPacks 56 = .ok (.iinc 3 1, 3) := by decide +kernel
theorem dX5_sendPacks_59 : decode cX5_sendPacks 59 = .ok (.goto (-50), 3) := by decide +kernel
theorem dX5_sendPacks_62 : decode cX5_sendPacks 62 = .ok (.iload_n 2, 1) := by decide +kernel
theorem dX5_sendPacks_63 : decode cX5_sendPacks 63 = .ok (.ireturn, 1) := by decide +kernel
theorem dJ9_floorDiv_f86c9_0 : decode cJ9_floorDiv_f86c9 0 = .ok (.lload_n 0, 1) := by decide +kernel
theorem dJ9_floorDiv_f86c9_1 : decode cJ9_floorDiv_f86c9 1 = .ok (.lload_n 2, 1) := by decide +kernel
theorem dJ9_floorDiv_f86c9_2 : decode cJ9_floorDiv_f86c9 2 = .ok (.ldiv, 1) := by decide +kernel
theorem dJ9_floorDiv_f86c9_3 : decode cJ9_floorDiv_f86c9 3 = .ok (.lstore 4, 2) := by decide +kernel
theorem dJ9_floorDiv_f86c9_5 : decode cJ9_floorDiv_f86c9 5 = .ok (.lload_n 0, 1) := by decide +kernel
theorem dJ9_floorDiv_f86c9_6 : decode cJ9_floorDiv_f86c9 6 = .ok (.lload_n 2, 1) := by decide +kernel
theorem dJ9_floorDiv_f86c9_7 : decode cJ9_floorDiv_f86c9 7 = .ok (.lxor, 1) := by decide +kernel
theorem dJ9_floorDiv_f86c9_8 : decode cJ9_floorDiv_f86c9 8 = .ok (.lconst 0, 1) := by decide +kernel
theorem dJ9_floorDiv_f86c9_9 : decode cJ9_floorDiv_f86c9 9 = .ok (.lcmp, 1) := by decide +kernel
theorem dJ9_floorDiv_f86c9_10 : decode cJ9_floorDiv_f86c9 10 = .ok (.ifCond .ge 17, 3) := by decide +kernel
theorem dJ9_floorDiv_f86c9_13 : decode cJ9_floorDiv_f86c9 13 = .ok (.lload 4, 2) := by decide +kernel
theorem dJ9_floorDiv_f86c9_15 : decode cJ9_floorDiv_f86c9 15 = .ok (.lload_n 2, 1) := by decide +kernel
theorem dJ9_floorDiv_f86c9_16 : decode cJ9_floorDiv_f86c9 16 = .ok (.lmul, 1) := by decide +kernel
theorem dJ9_floorDiv_f86c9_17 : decode cJ9_floorDiv_f86c9 17 = .ok (.lload_n 0, 1) := by decide +kernel
theorem dJ9_floorDiv_f86c9_18 : decode cJ9_floorDiv_f86c9 18 = .ok (.lcmp, 1) := by decide +kernel
theorem dJ9_floorDiv_f86c9_19 : decode cJ9_floorDiv_f86c9 19 = .ok (.ifCond .eq 8, 3) := by decide +kernel
theorem dJ9_floorDiv_f86c9_22 : decode cJ9_floorDiv_f86c9 22 = .ok (.lload 4, 2) := by decide +kernel
theorem dJ9_floorDiv_f86c9_24 : decode cJ9_floorDiv_f86c9 24 = .ok (.lconst 1, 1) := by decide +kernel
theorem dJ9_floorDiv_f86c9_25 : decode cJ9_floorDiv_f86c9 25 = .ok (.lsub, 1) := by decide +kernel
theorem dJ9_floorDiv_f86c9_26 : decode cJ9_floorDiv_f86c9 26 = .ok (.lreturn, 1) := by decide +kernel
theorem dJ9_floorDiv_f86c9_27 : decode cJ9_floorDiv_f86c9 27 = .ok (.lload 4, 2) := by decide +kernel
theorem dJ9_floorDiv_f86c9_29 : decode cJ9_floorDiv_f86c9 29 = .ok (.lreturn, 1) := by decide +kernel
theorem dJ9_abs_0f7a4_0 : decode cJ9_abs_0f7a4 0 = .ok (.iload_n 0, 1) := by decide +kernel
theorem dJ9_abs_0f7a4_1 : decode cJ9_abs_0f7a4 1 = .ok (.ifCond .ge 8, 3) := by decide +kernel
theorem dJ9_abs_0f7a4_4 : decode cJ9_abs_0f7a4 4 = .ok (.iload_n 0, 1) := by decide +kernel
theorem dJ9_abs_0f7a4_5 : decode cJ9_abs_0f7a4 5 = .ok (.ineg, 1) := by decide +kernel
theorem dJ9_abs_0f7a4_6 : decode cJ9_abs_0f7a4 6 = .ok (.goto 4, 3) := by decide +kernel
theorem dJ9_abs_0f7a4_9 : decode cJ9_abs_0f7a4 9 = .ok (.iload_n 0, 1) := by decide +kernel
theorem dJ9_abs_0f7a4_10 : decode cJ9_abs_0f7a4 10 = .ok (.ireturn, 1) := by decide +kernel
theorem dJ9_max_f86c9_0 : decode cJ9_max_f86c9 0 = .ok (.lload_n 0, 1) := by decide +kernel
theorem dJ9_max_f86c9_1 : decode cJ9_max_f86c9 1 = .ok (.lload_n 2, 1) := by decide +kernel
theorem dJ9_max_f86c9_2 : decode cJ9_max_f86c9 2 = .ok (.lcmp, 1) := by decide +kernel
theorem dJ9_max_f86c9_3 : decode cJ9_max_f86c9 3 = .ok (.ifCond .lt 7, 3) := by decide +kernel
theorem dJ9_max_f86c9_6 : decode cJ9_max_f86c9 6 = .ok (.lload_n 0, 1) := by decide +kernel
theorem dJ9_max_f86c9_7 : decode cJ9_max_f86c9 7 = .ok (.goto 4, 3) := by decide +kernel
theorem dJ9_max_f86c9_10 : decode cJ9_max_f86c9 10 = .ok (.lload_n 2, 1) := by decide +kernel
theorem dJ9_max_f86c9_11 : decode cJ9_max_f86c9 11 = .ok (.lreturn, 1) := by decide +kernel
theorem dJ9_min_7cf53_0 : decode cJ9_min_7cf53 0 = .ok (.iload_n 0, 1) := by decide +kernel
theorem dJ9_min_7cf53_1 : decode cJ9_min_7cf53 1 = .ok (.iload_n 1, 1) := by decide +kernel
theorem dJ9_min_7cf53_2 : decode cJ9_min_7cf53 2 = .ok (.if_icmp .gt 7, 3) := by decide +kernel
theorem dJ9_min_7cf53_5 : decode cJ9_min_7cf53 5 = .ok (.iload_n 0, 1) := by decide +kernel
theorem dJ9_min_7cf53_6 : decode cJ9_min_7cf53 6 = .ok (.goto 4, 3) := by decide +kernel
theorem dJ9_min_7cf53_9 : decode cJ9_min_7cf53 9 = .ok (.iload_n 1, 1) := by decide +kernel
theorem dJ9_min_7cf53_10 : decode cJ9_min_7cf53 10 = .ok (.ireturn, 1) := by decide +kernel
theorem dJ9_min_f86c9_0 : decode cJ9_min_f86c9 0 = .ok (.lload_n 0, 1) := by decide +kernel
theorem dJ9_min_f86c9_1 : decode cJ9_min_f86c9 1 = .ok (.lload_n 2, 1) := by decide +kernel
theorem dJ9_min_f86c9_2 : decode cJ9_min_f86c9 2 = .ok (.lcmp, 1) := by decide +kernel
theorem dJ9_min_f86c9_3 : decode cJ9_min_f86c9 3 = .ok (.ifCond .gt 7, 3) := by decide +kernel
theorem dJ9_min_f86c9_6 : decode cJ9_min_f86c9 6 = .ok (.lload_n 0, 1) := by decide +kernel
theorem dJ9_min_f86c9_7 : decode cJ9_min_f86c9 7 = .ok (.goto 4, 3) := by decide +kernel
theorem dJ9_min_f86c9_10 : decode cJ9_min_f86c9 10 = .ok (.lload_n 2, 1) := by decide +kernel
theorem dJ9_min_f86c9_11 : decode cJ9_min_f86c9 11 = .ok (.lreturn, 1) := by decide +kernel
abbrev vwCl : List vw_C := [(RX0, TX0, 1), (RX1, TX1, 6), (RX2, TX2, 2), (RX3, TX3, 14), (RX4, TX4, 3), (RX5, TX5, 14)]
end
section
/-! numbers -/
abbrev iI (z : Int) : Int32 := Int32.ofInt z
abbrev lI (z : Int) : Int64 := Int64.ofInt z
def upI (f : Nat → Int) (k : Nat) (v : Int) : Nat → Int := fun j => if j = k then v else f j
theorem upI_same {f : Nat → Int} {k : Nat} {v : Int} : upI f k v k = v := by simp [upI]
theorem upI_ne {f : Nat → Int} {k j : Nat} {v : Int} (h : j ≠ k) : upI f k v j = f j := by simp [upI, h]
theorem iI_toInt {z : Int} (h : -2147483648 ≤ z ∧ z < 2147483648) : (iI z).toInt = z := Int32.toInt_ofInt_of_le (by omega) (by omega)
theorem lI_toInt {z : Int} (h : -9223372036854775808 ≤ z ∧ z < 9223372036854775808) : (lI z).toInt = z := Int64.toInt_ofInt_of_le (by omega) (by omega)
theorem iI_of (x : Int32) : x = iI x.toInt := (Int32.ofInt_toInt x).symm
theorem iI_rng (x : Int32) : -2147483648 ≤ x.toInt ∧ x.toInt < 2147483648 := by
  have h1 := Int32.le_toInt x
  have h2 := Int32.toInt_lt x
  omega
theorem iI_add (a b : Int) : iI a + iI b = iI (a + b) := (Int32.ofInt_add a b).symm
theorem iI_sub (a b : Int) : iI a - iI b = iI (a - b) := (Int32.ofInt_sub a b).symm
theorem iI_mul (a b : Int) : iI a * iI b = iI (a * b) := (Int32.ofInt_mul a b).symm
theorem lI_add (a b : Int) : lI a + lI b = lI (a + b) := (Int64.ofInt_add a b).symm
theorem lI_sub (a b : Int) : lI a - lI b = lI (a - b) := (Int64.ofInt_sub a b).symm
theorem lI_mul (a b : Int) : lI a * lI b = lI (a * b) := (Int64.ofInt_mul a b).symm
theorem iI_neg (a : Int) : -iI a = iI (-a) := (Int32.ofInt_neg a).symm
theorem lI_neg (a : Int) : -lI a = lI (-a) := (Int64.ofInt_neg a).symm
theorem iI_l {z : Int} (h : -2147483648 ≤ z ∧ z < 2147483648) : (iI z).toInt64 = lI z := Int32.toInt64_ofInt (by simp [Int32.minValue]; omega) (by simp [Int32.maxValue]; omega)
theorem lI_i (z : Int) : (lI z).toInt32 = iI z := Int64.toInt32_ofInt
theorem iI_div {a b : Int} (h : 0 ≤ a ∧ a < 2147483648 ∧ 0 < b ∧ b < 2147483648) : iI a / iI b = iI (a / b) := by
  have h1 : (iI a / iI b) = iI (a.tdiv b) := (Int32.ofInt_tdiv (by rw [show Int32.minValue.toInt = -2147483648 from rfl]; omega) (by rw [show Int32.maxValue.toInt = 2147483647 from rfl]; omega) (by rw [show Int32.minValue.toInt = -2147483648 from rfl]; omega) (by rw [show Int32.maxValue.toInt = 2147483647 from rfl]; omega)).symm
  rw [h1, Int.tdiv_eq_ediv_of_nonneg h.1]
theorem lI_tdiv {a b : Int} (h : -9223372036854775808 ≤ a ∧ a < 9223372036854775808 ∧ -9223372036854775808 ≤ b ∧ b < 9223372036854775808) : lI a / lI b = lI (a.tdiv b) := (Int64.ofInt_tdiv (by rw [show Int64.minValue.toInt = -9223372036854775808 from rfl]; omega) (by rw [show Int64.maxValue.toInt = 9223372036854775807 from rfl]; omega) (by rw [show Int64.minValue.toInt = -9223372036854775808 from rfl]; omega) (by rw [show Int64.maxValue.toInt = 9223372036854775807 from rfl]; omega)).symm
theorem lI_div {a b : Int} (h : 0 ≤ a ∧ a < 9223372036854775808 ∧ 0 < b ∧ b < 9223372036854775808) : lI a / lI b = lI (a / b) := by
  rw [lI_tdiv (by omega), Int.tdiv_eq_ediv_of_nonneg h.1]
theorem iI_ne {z : Int} (h : z ≠ 0 ∧ -2147483648 ≤ z ∧ z < 2147483648) : ¬ iI z = 0 := by
  intro h2
  have h3 := congrArg Int32.toInt h2
  rw [iI_toInt ⟨h.2.1, h.2.2⟩] at h3
  exact h.1 h3
theorem lI_ne {z : Int} (h : z ≠ 0 ∧ -9223372036854775808 ≤ z ∧ z < 9223372036854775808) : ¬ lI z = 0 := by
  intro h2
  have h3 := congrArg Int64.toInt h2
  rw [lI_toInt ⟨h.2.1, h.2.2⟩] at h3
  exact h.1 h3
theorem iI_in {z : Int} {n : Nat} (h : 0 ≤ z ∧ z < n ∧ n < 2147483648) : vp_in (iI z) n := by
  rw [vp_in_iff, iI_toInt (by omega)]; omega
theorem iI_cl {z : Int} (h : -2147483648 ≤ z ∧ z < 2147483648) : (iI z).toNatClampNeg = z.toNat := by
  show (iI z).toInt.toNat = z.toNat
  rw [iI_toInt h]
theorem iI_ofNat (n : Nat) : Int32.ofNat n = iI (n : Int) := (Int32.ofInt_eq_ofNat).symm
theorem upd_iI (f : Nat → Int) (k : Nat) (v : Int) : upd (fun j => iI (f j)) k (iI v) = fun j => iI (upI f k v j) := by
  funext j
  simp only [upd, upI]
  split <;> rfl
/-! cells -/
abbrev TY (cs : Nat → ClassId) : List (ClassId × FieldType) := [(cs 0, .int), (cs 1, .int), (cs 2, .object "Replen$Item"), (cs 3, .object "Replen$Line"), (cs 4, .int), (cs 5, .int)]
abbrev arI (cs : Nat → ClassId) (n : Nat) (f : Nat → Int) : va_E := .inl (cs 0, n, .inl (fun j => iI (f j)))
abbrev arZ (cs : Nat → ClassId) (n : Nat) (f : Nat → Int) : va_E := .inl (cs 1, n, .inl (fun j => iI (f j)))
abbrev arQ (cs : Nat → ClassId) (k n : Nat) (f : Nat → Option Nat) : va_E := .inl (cs k, n, .inr (.inr (.inr (.inr f))))
abbrev KK (D : va_G) (cs : Nat → ClassId) (U : State) : Prop := va_K D vwCl (TY cs) U
def inW (ws : va_W) : Nat → Prop := fun q => q ∈ ws.map Prod.fst
def noA : Nat → Prop := fun _ => False
theorem inW_D {ws : va_W} {A : Nat → Prop} (h : va_D A ws) : va_D (inW ws) ws := ⟨h.1, fun k q hk => List.mem_map.mpr ⟨q, List.mem_of_getElem? hk, rfl⟩⟩
theorem P_kept {D : va_G} {cl : List vw_C} {ws : va_W} {H H1 : Heap} (h : va_P D cl ws H) (hk : ∀ q : Nat, q < H.size → ¬ noA q → H1[q]? = H[q]?) : va_P D cl ws H1 := h.kept fun k q hq => hk q.1 ((h k q hq).lt) (fun h => h)
theorem D_fst {ws ws' : va_W} {A : Nat → Prop} (h : va_D A ws) (e : ws'.map Prod.fst = ws.map Prod.fst) : va_D A ws' := by
  have key : ∀ (k : Nat) (q : Nat × va_E), ws'[k]? = some q → ∃ q0, ws[k]? = some q0 ∧ q0.1 = q.1 := by
    intro k q hq
    have h1 : (ws'.map Prod.fst)[k]? = some q.1 := by rw [List.getElem?_map, hq]; rfl
    rw [e, List.getElem?_map] at h1
    cases hw : ws[k]? with
    | none => rw [hw] at h1; cases h1
    | some q0 => rw [hw] at h1; exact ⟨q0, rfl, Option.some.inj h1⟩
  refine ⟨fun i j p q hi hj hpq => ?_, fun k q hk => ?_⟩
  · obtain ⟨p0, a1, b1⟩ := key i p hi
    obtain ⟨q0, a2, b2⟩ := key j q hj
    exact h.1 i j p0 q0 a1 a2 (by rw [b1, b2, hpq])
  · obtain ⟨q0, a1, b1⟩ := key k q hk
    rw [← b1]; exact h.2 k q0 a1
/-- put the cells W1 at the places is -/
def setAll (ws : va_W) : List Nat → va_W → va_W
  | i :: is, w :: W1 => setAll (ws.set i w) is W1
  | _, _ => ws
/-- what stands at the places of a list -/
def picks (ws : va_W) : List Nat → va_W → Prop
  | i :: is, w :: W => ws[i]? = some w ∧ picks ws is W
  | [], [] => True
  | _, _ => False
theorem picks_get {ws : va_W} : ∀ {is : List Nat} {W : va_W}, picks ws is W → ∀ (k : Nat) (q : Nat × va_E), W[k]? = some q → ∃ i, is[k]? = some i ∧ ws[i]? = some q
  | i :: is, w :: W, h, 0, q, hq => by cases hq; exact ⟨i, rfl, h.1⟩
  | i :: is, w :: W, h, k + 1, q, hq => by
    obtain ⟨j, a, b⟩ := picks_get h.2 k q hq
    exact ⟨j, a, b⟩
  | [], [], _, k, q, hq => by simp at hq
  | [], _ :: _, h, _, _, _ => h.elim
  | _ :: _, [], h, _, _, _ => h.elim
theorem P_pick {D : va_G} {cl : List vw_C} {ws W : va_W} {H : Heap} (h : va_P D cl ws H) (is : List Nat) (hp : picks ws is W) : va_P D cl W H := by
  intro k q hk
  obtain ⟨i, -, hi⟩ := picks_get hp k q hk
  exact h i q hi
theorem D_pick {A : Nat → Prop} {ws W : va_W} (h : va_D A ws) (is : List Nat) (hn : va_nd is = true) (hp : picks ws is W) : va_D A W := by
  refine ⟨fun i j p q hi hj hpq => ?_, fun k q hk => ?_⟩
  · obtain ⟨a, a1, a2⟩ := picks_get hp i p hi
    obtain ⟨b, b1, b2⟩ := picks_get hp j q hj
    have hab := h.1 a b p q a2 b2 hpq
    subst hab
    exact va_nd_inj is hn i j a a1 b1
  · obtain ⟨a, -, a2⟩ := picks_get hp k q hk
    exact h.2 a q a2
theorem setAll_fst : ∀ {is : List Nat} {W W1 ws : va_W}, picks ws is W → W1.map Prod.fst = W.map Prod.fst → va_nd is = true → (setAll ws is W1).map Prod.fst = ws.map Prod.fst
  | [], [], [], _, _, _, _ => rfl
  | i :: is, w :: W, w1 :: W1, ws, h, e, hn => by
    have e0 : w1.1 = w.1 ∧ W1.map Prod.fst = W.map Prod.fst := by simpa using e
    have hfst : (ws.set i w1).map Prod.fst = ws.map Prod.fst := by
      apply List.ext_getElem?
      intro k
      rw [List.getElem?_map, List.getElem?_map]
      by_cases hk : k = i
      · subst hk
        have hl := (List.getElem?_eq_some_iff.mp h.1).1
        rw [List.getElem?_set_self hl, h.1]
        simp [e0.1]
      · rw [List.getElem?_set_ne (Ne.symm hk)]
    have hn2 : va_nd is = true ∧ i ∉ is := by
      have := hn
      simp only [va_nd, Bool.and_eq_true] at this
      constructor
      · exact this.2
      · simpa using this.1
    have h2 : picks (ws.set i w1) is W := by
      have : ∀ {is : List Nat} {W : va_W}, i ∉ is → picks ws is W → picks (ws.set i w1) is W := by
        intro is
        induction is with
        | nil => intro W _ h; cases W <;> exact h
        | cons j is ih =>
          intro W hi h
          cases W with
          | nil => exact h.elim
          | cons w W =>
            simp only [List.mem_cons, not_or] at hi
            exact ⟨by rw [List.getElem?_set_ne hi.1]; exact h.1, ih hi.2 h.2⟩
      exact this hn2.2 h.2
    have := setAll_fst h2 e0.2 hn2.1
    show (setAll (ws.set i w1) is W1).map Prod.fst = _
    rw [this, hfst]
  | [], [], _ :: _, _, _, e, _ => by simp at e
  | _ :: _, _ :: _, [], _, _, e, _ => by simp at e
  | [], _ :: _, _, _, h, _, _ => h.elim
  | _ :: _, [], _, _, h, _, _ => h.elim
theorem setAll_get : ∀ {is : List Nat} {W W1 ws : va_W}, picks ws is W → W1.map Prod.fst = W.map Prod.fst → va_nd is = true → ∀ (k : Nat) (q : Nat × va_E), (setAll ws is W1)[k]? = some q → q ∈ W1 ∨ (k ∉ is ∧ ws[k]? = some q)
  | [], [], [], _, _, _, _, k, q, h => Or.inr ⟨List.not_mem_nil, h⟩
  | i :: is, w :: W, w1 :: W1, ws, h, e, hn, k, q, hq => by
    have e0 : w1.1 = w.1 ∧ W1.map Prod.fst = W.map Prod.fst := by simpa using e
    have hn2 : va_nd is = true ∧ i ∉ is := by
      have := hn
      simp only [va_nd, Bool.and_eq_true] at this
      constructor
      · exact this.2
      · simpa using this.1
    have h2 : picks (ws.set i w1) is W := by
      have : ∀ {is : List Nat} {W : va_W}, i ∉ is → picks ws is W → picks (ws.set i w1) is W := by
        intro is
        induction is with
        | nil => intro W _ h; cases W <;> exact h
        | cons j is ih =>
          intro W hi h
          cases W with
          | nil => exact h.elim
          | cons w W =>
            simp only [List.mem_cons, not_or] at hi
            exact ⟨by rw [List.getElem?_set_ne hi.1]; exact h.1, ih hi.2 h.2⟩
      exact this hn2.2 h.2
    rcases setAll_get h2 e0.2 hn2.1 k q hq with a | ⟨a, b⟩
    · exact Or.inl (List.mem_cons_of_mem _ a)
    · by_cases hk : k = i
      · subst hk
        have hl := (List.getElem?_eq_some_iff.mp h.1).1
        rw [List.getElem?_set_self hl] at b
        cases b
        exact Or.inl List.mem_cons_self
      · rw [List.getElem?_set_ne (Ne.symm hk)] at b
        exact Or.inr ⟨by simp [hk, a], b⟩
  | [], [], _ :: _, _, _, e, _, _, _, _ => by simp at e
  | _ :: _, _ :: _, [], _, _, e, _, _, _, _ => by simp at e
  | [], _ :: _, _, _, h, _, _, _, _, _ => h.elim
  | _ :: _, [], _, _, h, _, _, _, _, _ => h.elim
/-- behind a call of a method that writes its own cells Wc alone: they hold W1, all else is as it was -/
theorem my_join {A0 : Nat → Prop} {D : va_G} {cl : List vw_C} {ws Wc W1 : va_W} {H H1 : Heap} (hP : va_P D cl ws H) (hD : va_D A0 ws) (is : List Nat) (hn : va_nd is = true) (hp : picks ws is Wc) (hf : W1.map Prod.fst = Wc.map Prod.fst)
    (hk : ∀ q : Nat, q < H.size → ¬ inW Wc q → H1[q]? = H[q]?) (hP1 : va_P D cl W1 H1) : va_P D cl (setAll ws is W1) H1 ∧ va_D A0 (setAll ws is W1) := by
  refine ⟨fun k q hq => ?_, D_fst hD (setAll_fst hp hf hn)⟩
  rcases setAll_get hp hf hn k q hq with h | ⟨h1, h2⟩
  · obtain ⟨i, hi⟩ := List.getElem?_of_mem h
    exact hP1 i q hi
  · refine (hP k q h2).kept (hk q.1 (hP k q h2).lt fun h => ?_)
    obtain ⟨w, hw, e⟩ := List.mem_map.mp h
    obtain ⟨j, hj⟩ := List.getElem?_of_mem hw
    obtain ⟨i, hi, hi2⟩ := picks_get hp j w hj
    have := hD.1 k i q w h2 hi2 e.symm
    subst this
    exact h1 (List.mem_of_getElem? hi)
theorem inW_sub {A0 : Nat → Prop} {ws Wc : va_W} (hD : va_D A0 ws) (is : List Nat) (hp : picks ws is Wc) : ∀ q, inW Wc q → A0 q := by
  intro q h
  obtain ⟨w, hw, e⟩ := List.mem_map.mp h
  obtain ⟨j, hj⟩ := List.getElem?_of_mem hw
  obtain ⟨i, -, hi2⟩ := picks_get hp j w hj
  rw [← e]; exact hD.2 i w hi2
end
section
/-! words -/
def ALL : List Cond := lw_tbl.filter goodWord
theorem in_ALL {w : Cond} (i : Nat) (h : lw_tbl[i]? = some w) (g : goodWord w = true) : w ∈ ALL := List.mem_filter.mpr ⟨List.mem_of_getElem? h, g⟩
theorem ALL_tbl : ∀ w ∈ ALL, w ∈ lw_tbl := fun w h => (List.mem_filter.mp h).1
theorem gW {w : Cond} (h : w ∈ ALL) : w ∈ ALL ∧ ((w.onTables && w.keeps) = true ∨ ∃ ty, w = .arrayClass ty) := ⟨h, good_of_word (List.mem_filter.mp h).2⟩
theorem gA {w : Cond} (h : w ∈ ALL) : GoodIn ALL (w :: ALL) := fun x hx => (List.mem_cons.mp hx).elim (fun e => by rw [e]; exact gW h) gW
theorem gV {own C : String} {idx : Nat} {y : MethodName} {w : Cond} (h1 : Cond.methodLink own idx y ∈ ALL) (h2 : Cond.instanceMethod y ∈ ALL) (h3 : Cond.selects C y y ∈ ALL) (h4 : Cond.initialized C ∈ ALL) (h5 : w ∈ ALL) : GoodIn ALL (wsV own idx C y (w :: ALL)) := by
  intro x hx
  simp only [wsV, List.cons_append, List.nil_append, List.mem_cons] at hx
  rcases hx with e | e | e | e | e | e
  · rw [e]; exact gW h1
  · rw [e]; exact gW h2
  · rw [e]; exact gW h3
  · rw [e]; exact gW h4
  · rw [e]; exact gW h5
  · exact gW e
theorem gS {own : String} {idx : Nat} {y : MethodName} {w : Cond} (h1 : Cond.methodLink own idx y ∈ ALL) (h2 : Cond.static y ∈ ALL) (h4 : Cond.initialized y.cls ∈ ALL) (h5 : w ∈ ALL) : GoodIn ALL (va_wsS own idx y (w :: ALL)) := by
  intro x hx
  simp only [va_wsS, List.cons_append, List.nil_append, List.mem_cons] at hx
  rcases hx with e | e | e | e | e
  · rw [e]; exact gW h1
  · rw [e]; exact gW h2
  · rw [e]; exact gW h4
  · rw [e]; exact gW h5
  · exact gW e
set_option maxRecDepth 100000 in
theorem w_0 : (Jvm.Cond.initialized "ReplenLaw") ∈ ALL := in_ALL 16 rfl rfl
set_option maxRecDepth 100000 in
theorem w_1 : (Jvm.Cond.initialized "Replen") ∈ ALL := in_ALL 17 rfl rfl
set_option maxRecDepth 100000 in
theorem w_2 : (Jvm.Cond.initialized "Replen$DayBook") ∈ ALL := in_ALL 18 rfl rfl
set_option maxRecDepth 100000 in
theorem w_3 : (Jvm.Cond.initialized "Replen$Learner") ∈ ALL := in_ALL 19 rfl rfl
set_option maxRecDepth 100000 in
theorem w_4 : (Jvm.Cond.initialized "Replen$Sharing") ∈ ALL := in_ALL 20 rfl rfl
set_option maxRecDepth 100000 in
theorem w_5 : (Jvm.Cond.initialized "java/lang/Throwable") ∈ ALL := in_ALL 21 rfl rfl
set_option maxRecDepth 100000 in
theorem w_6 : (Jvm.Cond.initialized "java/lang/Exception") ∈ ALL := in_ALL 22 rfl rfl
set_option maxRecDepth 100000 in
theorem w_7 : (Jvm.Cond.initialized "java/lang/RuntimeException") ∈ ALL := in_ALL 23 rfl rfl
set_option maxRecDepth 100000 in
theorem w_8 : (Jvm.Cond.initialized "java/lang/IllegalArgumentException") ∈ ALL := in_ALL 24 rfl rfl
set_option maxRecDepth 100000 in
theorem w_9 : (Jvm.Cond.initialized "java/lang/IllegalStateException") ∈ ALL := in_ALL 25 rfl rfl
set_option maxRecDepth 100000 in
theorem w_10 : (Jvm.Cond.initialized "Replen$Item") ∈ ALL := in_ALL 26 rfl rfl
set_option maxRecDepth 100000 in
theorem w_11 : (Jvm.Cond.initialized "java/lang/IndexOutOfBoundsException") ∈ ALL := in_ALL 27 rfl rfl
set_option maxRecDepth 100000 in
theorem w_12 : (Jvm.Cond.initialized "java/util/NoSuchElementException") ∈ ALL := in_ALL 28 rfl rfl
set_option maxRecDepth 100000 in
theorem w_13 : (Jvm.Cond.initialized "Replen$Line") ∈ ALL := in_ALL 29 rfl rfl
set_option maxRecDepth 100000 in
theorem w_14 : (Jvm.Cond.initialized "java/lang/UnsupportedOperationException") ∈ ALL := in_ALL 30 rfl rfl
set_option maxRecDepth 100000 in
theorem w_15 : (Jvm.Cond.initialized "java/lang/Math") ∈ ALL := in_ALL 31 rfl rfl
set_option maxRecDepth 100000 in
theorem w_16 : (Jvm.Cond.classLink "ReplenLaw" (15 : Nat) "Replen") ∈ ALL := in_ALL 32 rfl rfl
set_option maxRecDepth 100000 in
theorem w_17 : (Jvm.Cond.instantiable "Replen" (14 : Nat)) ∈ ALL := in_ALL 33 rfl rfl
set_option maxRecDepth 100000 in
theorem w_18 : (Jvm.Cond.methodLink "ReplenLaw" (119 : Nat) ({ cls := "Replen", name := "<init>", desc := "()V" } : Jvm.MethodName)) ∈ ALL := in_ALL 34 rfl rfl
set_option maxRecDepth 100000 in
theorem w_19 : (Jvm.Cond.instanceMethod ({ cls := "Replen", name := "<init>", desc := "()V" } : Jvm.MethodName)) ∈ ALL := in_ALL 35 rfl rfl
set_option maxRecDepth 100000 in
theorem w_20 : (Jvm.Cond.code ({ cls := "Replen", name := "<init>", desc := "()V" } : Jvm.MethodName) prog_1_method_1_code (1 : Nat) (Option.none : Option Jvm.ClassFile.FieldType)) ∈ ALL := in_ALL 36 rfl rfl
set_option maxRecDepth 100000 in
theorem w_21 : (Jvm.Cond.methodLink "Replen" (3 : Nat) ({ cls := "java/lang/Object", name := "<init>", desc := "()V" } : Jvm.MethodName)) ∈ ALL := in_ALL 37 rfl rfl
set_option maxRecDepth 100000 in
theorem w_22 : (Jvm.Cond.instanceMethod ({ cls := "java/lang/Object", name := "<init>", desc := "()V" } : Jvm.MethodName)) ∈ ALL := in_ALL 38 rfl rfl
set_option maxRecDepth 100000 in
theorem w_23 : (Jvm.Cond.code ({ cls := "java/lang/Object", name := "<init>", desc := "()V" } : Jvm.MethodName) object_method_1_code (1 : Nat) (Option.none : Option Jvm.ClassFile.FieldType)) ∈ ALL := in_ALL 39 rfl rfl
set_option maxRecDepth 100000 in
theorem w_24 : (Jvm.Cond.classLink "Replen" (13 : Nat) "Replen$Item") ∈ ALL := in_ALL 40 rfl rfl
set_option maxRecDepth 100000 in
theorem w_26 : (Jvm.Cond.classLink "Replen" (19 : Nat) "Replen$Line") ∈ ALL := in_ALL 42 rfl rfl
set_option maxRecDepth 100000 in
theorem w_28 : (Jvm.Cond.classLink "Replen" (25 : Nat) "Replen$DayBook") ∈ ALL := in_ALL 44 rfl rfl
set_option maxRecDepth 100000 in
theorem w_29 : (Jvm.Cond.instantiable "Replen$DayBook" (1 : Nat)) ∈ ALL := in_ALL 45 rfl rfl
set_option maxRecDepth 100000 in
theorem w_31 : (Jvm.Cond.instanceMethod ({ cls := "Replen$DayBook", name := "<init>", desc := "()V" } : Jvm.MethodName)) ∈ ALL := in_ALL 47 rfl rfl
set_option maxRecDepth 100000 in
theorem w_32 : (Jvm.Cond.code ({ cls := "Replen$DayBook", name := "<init>", desc := "()V" } : Jvm.MethodName) prog_2_method_1_code (1 : Nat) (Option.none : Option Jvm.ClassFile.FieldType)) ∈ ALL := in_ALL 48 rfl rfl
set_option maxRecDepth 100000 in
theorem w_33 : (Jvm.Cond.methodLink "Replen$DayBook" (3 : Nat) ({ cls := "java/lang/Object", name := "<init>", desc := "()V" } : Jvm.MethodName)) ∈ ALL := in_ALL 49 rfl rfl
set_option maxRecDepth 100000 in
theorem w_34 : (Jvm.Cond.fieldLink "Replen$DayBook" (9 : Nat) "Replen$DayBook" "units" "[I") ∈ ALL := in_ALL 50 rfl rfl
set_option maxRecDepth 100000 in
theorem w_35 : (Jvm.Cond.laysFinal "Replen$DayBook" "Replen$DayBook" "units" "[I") ∈ ALL := in_ALL 51 rfl rfl
set_option maxRecDepth 100000 in
theorem w_38 : (Jvm.Cond.arrayClass Jvm.ClassFile.FieldType.int) ∈ ALL := in_ALL 54 rfl rfl
set_option maxRecDepth 100000 in
theorem w_39 : (Jvm.Cond.classLink "Replen" (35 : Nat) "Replen$Learner") ∈ ALL := in_ALL 55 rfl rfl
set_option maxRecDepth 100000 in
theorem w_40 : (Jvm.Cond.instantiable "Replen$Learner" (2 : Nat)) ∈ ALL := in_ALL 56 rfl rfl
set_option maxRecDepth 100000 in
theorem w_42 : (Jvm.Cond.instanceMethod ({ cls := "Replen$Learner", name := "<init>", desc := "()V" } : Jvm.MethodName)) ∈ ALL := in_ALL 58 rfl rfl
set_option maxRecDepth 100000 in
theorem w_43 : (Jvm.Cond.code ({ cls := "Replen$Learner", name := "<init>", desc := "()V" } : Jvm.MethodName) prog_4_method_1_code (1 : Nat) (Option.none : Option Jvm.ClassFile.FieldType)) ∈ ALL := in_ALL 59 rfl rfl
set_option maxRecDepth 100000 in
theorem w_44 : (Jvm.Cond.methodLink "Replen$Learner" (3 : Nat) ({ cls := "java/lang/Object", name := "<init>", desc := "()V" } : Jvm.MethodName)) ∈ ALL := in_ALL 60 rfl rfl
set_option maxRecDepth 100000 in
theorem w_45 : (Jvm.Cond.fieldLink "Replen$Learner" (9 : Nat) "Replen$Learner" "seasons" "[I") ∈ ALL := in_ALL 61 rfl rfl
set_option maxRecDepth 100000 in
theorem w_46 : (Jvm.Cond.fieldLink "Replen$Learner" (15 : Nat) "Replen$Learner" "level" "I") ∈ ALL := in_ALL 62 rfl rfl
set_option maxRecDepth 100000 in
theorem w_48 : (Jvm.Cond.laysFinal "Replen$Learner" "Replen$Learner" "seasons" "[I") ∈ ALL := in_ALL 64 rfl rfl
set_option maxRecDepth 100000 in
theorem w_50 : (Jvm.Cond.lays "Replen$Learner" "Replen$Learner" "level" "I") ∈ ALL := in_ALL 66 rfl rfl
set_option maxRecDepth 100000 in
theorem w_53 : (Jvm.Cond.classLink "Replen" (42 : Nat) "Replen$Sharing") ∈ ALL := in_ALL 69 rfl rfl
set_option maxRecDepth 100000 in
theorem w_54 : (Jvm.Cond.instantiable "Replen$Sharing" (3 : Nat)) ∈ ALL := in_ALL 70 rfl rfl
set_option maxRecDepth 100000 in
theorem w_56 : (Jvm.Cond.instanceMethod ({ cls := "Replen$Sharing", name := "<init>", desc := "()V" } : Jvm.MethodName)) ∈ ALL := in_ALL 72 rfl rfl
set_option maxRecDepth 100000 in
theorem w_57 : (Jvm.Cond.code ({ cls := "Replen$Sharing", name := "<init>", desc := "()V" } : Jvm.MethodName) prog_6_method_1_code (1 : Nat) (Option.none : Option Jvm.ClassFile.FieldType)) ∈ ALL := in_ALL 73 rfl rfl
set_option maxRecDepth 100000 in
theorem w_58 : (Jvm.Cond.methodLink "Replen$Sharing" (3 : Nat) ({ cls := "java/lang/Object", name := "<init>", desc := "()V" } : Jvm.MethodName)) ∈ ALL := in_ALL 74 rfl rfl
set_option maxRecDepth 100000 in
theorem w_59 : (Jvm.Cond.fieldLink "Replen$Sharing" (9 : Nat) "Replen$Sharing" "requests" "[I") ∈ ALL := in_ALL 75 rfl rfl
set_option maxRecDepth 100000 in
theorem w_60 : (Jvm.Cond.fieldLink "Replen$Sharing" (15 : Nat) "Replen$Sharing" "given" "[I") ∈ ALL := in_ALL 76 rfl rfl
set_option maxRecDepth 100000 in
theorem w_61 : (Jvm.Cond.fieldLink "Replen$Sharing" (18 : Nat) "Replen$Sharing" "packs" "I") ∈ ALL := in_ALL 77 rfl rfl
set_option maxRecDepth 100000 in
theorem w_62 : (Jvm.Cond.laysFinal "Replen$Sharing" "Replen$Sharing" "requests" "[I") ∈ ALL := in_ALL 78 rfl rfl
set_option maxRecDepth 100000 in
theorem w_64 : (Jvm.Cond.laysFinal "Replen$Sharing" "Replen$Sharing" "given" "[I") ∈ ALL := in_ALL 80 rfl rfl
set_option maxRecDepth 100000 in
theorem w_66 : (Jvm.Cond.lays "Replen$Sharing" "Replen$Sharing" "packs" "I") ∈ ALL := in_ALL 82 rfl rfl
set_option maxRecDepth 100000 in
theorem w_69 : (Jvm.Cond.fieldLink "Replen" (9 : Nat) "Replen" "leads" "[I") ∈ ALL := in_ALL 85 rfl rfl
set_option maxRecDepth 100000 in
theorem w_70 : (Jvm.Cond.fieldLink "Replen" (15 : Nat) "Replen" "items" "[LReplen$Item;") ∈ ALL := in_ALL 86 rfl rfl
set_option maxRecDepth 100000 in
theorem w_71 : (Jvm.Cond.fieldLink "Replen" (21 : Nat) "Replen" "lines" "[LReplen$Line;") ∈ ALL := in_ALL 87 rfl rfl
set_option maxRecDepth 100000 in
theorem w_72 : (Jvm.Cond.fieldLink "Replen" (28 : Nat) "Replen" "levelRates" "LReplen$DayBook;") ∈ ALL := in_ALL 88 rfl rfl
set_option maxRecDepth 100000 in
theorem w_73 : (Jvm.Cond.fieldLink "Replen" (32 : Nat) "Replen" "seasonRates" "LReplen$DayBook;") ∈ ALL := in_ALL 89 rfl rfl
set_option maxRecDepth 100000 in
theorem w_74 : (Jvm.Cond.fieldLink "Replen" (38 : Nat) "Replen" "replay" "LReplen$Learner;") ∈ ALL := in_ALL 90 rfl rfl
set_option maxRecDepth 100000 in
theorem w_75 : (Jvm.Cond.fieldLink "Replen" (45 : Nat) "Replen" "sharing" "LReplen$Sharing;") ∈ ALL := in_ALL 91 rfl rfl
set_option maxRecDepth 100000 in
theorem w_76 : (Jvm.Cond.fieldLink "Replen" (49 : Nat) "Replen" "shopCount" "I") ∈ ALL := in_ALL 92 rfl rfl
set_option maxRecDepth 100000 in
theorem w_77 : (Jvm.Cond.fieldLink "Replen" (53 : Nat) "Replen" "itemCount" "I") ∈ ALL := in_ALL 93 rfl rfl
set_option maxRecDepth 100000 in
theorem w_78 : (Jvm.Cond.fieldLink "Replen" (56 : Nat) "Replen" "lineCount" "I") ∈ ALL := in_ALL 94 rfl rfl
set_option maxRecDepth 100000 in
theorem w_79 : (Jvm.Cond.fieldLink "Replen" (59 : Nat) "Replen" "day" "I") ∈ ALL := in_ALL 95 rfl rfl
set_option maxRecDepth 100000 in
theorem w_80 : (Jvm.Cond.fieldLink "Replen" (62 : Nat) "Replen" "percent" "I") ∈ ALL := in_ALL 96 rfl rfl
set_option maxRecDepth 100000 in
theorem w_81 : (Jvm.Cond.fieldLink "Replen" (65 : Nat) "Replen" "levelRate" "I") ∈ ALL := in_ALL 97 rfl rfl
set_option maxRecDepth 100000 in
theorem w_82 : (Jvm.Cond.fieldLink "Replen" (68 : Nat) "Replen" "seasonRate" "I") ∈ ALL := in_ALL 98 rfl rfl
set_option maxRecDepth 100000 in
theorem w_83 : (Jvm.Cond.laysFinal "Replen" "Replen" "leads" "[I") ∈ ALL := in_ALL 99 rfl rfl
set_option maxRecDepth 100000 in
theorem w_85 : (Jvm.Cond.laysFinal "Replen" "Replen" "items" "[LReplen$Item;") ∈ ALL := in_ALL 101 rfl rfl
set_option maxRecDepth 100000 in
theorem w_87 : (Jvm.Cond.laysFinal "Replen" "Replen" "lines" "[LReplen$Line;") ∈ ALL := in_ALL 103 rfl rfl
set_option maxRecDepth 100000 in
theorem w_89 : (Jvm.Cond.laysFinal "Replen" "Replen" "levelRates" "LReplen$DayBook;") ∈ ALL := in_ALL 105 rfl rfl
set_option maxRecDepth 100000 in
theorem w_91 : (Jvm.Cond.laysFinal "Replen" "Replen" "seasonRates" "LReplen$DayBook;") ∈ ALL := in_ALL 107 rfl rfl
set_option maxRecDepth 100000 in
theorem w_93 : (Jvm.Cond.laysFinal "Replen" "Replen" "replay" "LReplen$Learner;") ∈ ALL := in_ALL 109 rfl rfl
set_option maxRecDepth 100000 in
theorem w_95 : (Jvm.Cond.laysFinal "Replen" "Replen" "sharing" "LReplen$Sharing;") ∈ ALL := in_ALL 111 rfl rfl
set_option maxRecDepth 100000 in
theorem w_97 : (Jvm.Cond.lays "Replen" "Replen" "shopCount" "I") ∈ ALL := in_ALL 113 rfl rfl
set_option maxRecDepth 100000 in
theorem w_99 : (Jvm.Cond.lays "Replen" "Replen" "itemCount" "I") ∈ ALL := in_ALL 115 rfl rfl
set_option maxRecDepth 100000 in
theorem w_101 : (Jvm.Cond.lays "Replen" "Replen" "lineCount" "I") ∈ ALL := in_ALL 117 rfl rfl
set_option maxRecDepth 100000 in
theorem w_103 : (Jvm.Cond.lays "Replen" "Replen" "day" "I") ∈ ALL := in_ALL 119 rfl rfl
set_option maxRecDepth 100000 in
theorem w_105 : (Jvm.Cond.lays "Replen" "Replen" "percent" "I") ∈ ALL := in_ALL 121 rfl rfl
set_option maxRecDepth 100000 in
theorem w_107 : (Jvm.Cond.lays "Replen" "Replen" "levelRate" "I") ∈ ALL := in_ALL 123 rfl rfl
set_option maxRecDepth 100000 in
theorem w_109 : (Jvm.Cond.lays "Replen" "Replen" "seasonRate" "I") ∈ ALL := in_ALL 125 rfl rfl
set_option maxRecDepth 100000 in
theorem w_112 : (Jvm.Cond.methodLink "ReplenLaw" (154 : Nat) ({ cls := "Replen", name := "today", desc := "()I" } : Jvm.MethodName)) ∈ ALL := in_ALL 128 rfl rfl
set_option maxRecDepth 100000 in
theorem w_113 : (Jvm.Cond.instanceMethod ({ cls := "Replen", name := "today", desc := "()I" } : Jvm.MethodName)) ∈ ALL := in_ALL 129 rfl rfl
set_option maxRecDepth 100000 in
theorem w_114 : (Jvm.Cond.selects "Replen" ({ cls := "Replen", name := "today", desc := "()I" } : Jvm.MethodName) ({ cls := "Replen", name := "today", desc := "()I" } : Jvm.MethodName)) ∈ ALL := in_ALL 130 rfl rfl
set_option maxRecDepth 100000 in
theorem w_115 : (Jvm.Cond.code ({ cls := "Replen", name := "today", desc := "()I" } : Jvm.MethodName) prog_1_method_13_code (1 : Nat) (Option.some Jvm.ClassFile.FieldType.int)) ∈ ALL := in_ALL 131 rfl rfl
set_option maxRecDepth 100000 in
theorem w_116 : (Jvm.Cond.methodLink "ReplenLaw" (179 : Nat) ({ cls := "Replen", name := "units", desc := "()J" } : Jvm.MethodName)) ∈ ALL := in_ALL 132 rfl rfl
set_option maxRecDepth 100000 in
theorem w_117 : (Jvm.Cond.instanceMethod ({ cls := "Replen", name := "units", desc := "()J" } : Jvm.MethodName)) ∈ ALL := in_ALL 133 rfl rfl
set_option maxRecDepth 100000 in
theorem w_118 : (Jvm.Cond.selects "Replen" ({ cls := "Replen", name := "units", desc := "()J" } : Jvm.MethodName) ({ cls := "Replen", name := "units", desc := "()J" } : Jvm.MethodName)) ∈ ALL := in_ALL 134 rfl rfl
set_option maxRecDepth 100000 in
theorem w_119 : (Jvm.Cond.code ({ cls := "Replen", name := "units", desc := "()J" } : Jvm.MethodName) prog_1_method_33_code (5 : Nat) (Option.some Jvm.ClassFile.FieldType.long)) ∈ ALL := in_ALL 135 rfl rfl
set_option maxRecDepth 100000 in
theorem w_120 : (Jvm.Cond.methodLink "Replen" (227 : Nat) ({ cls := "Replen$Line", name := "dueAfter", desc := "(I)I" } : Jvm.MethodName)) ∈ ALL := in_ALL 136 rfl rfl
set_option maxRecDepth 100000 in
theorem w_121 : (Jvm.Cond.instanceMethod ({ cls := "Replen$Line", name := "dueAfter", desc := "(I)I" } : Jvm.MethodName)) ∈ ALL := in_ALL 137 rfl rfl
set_option maxRecDepth 100000 in
theorem w_122 : (Jvm.Cond.selects "Replen$Line" ({ cls := "Replen$Line", name := "dueAfter", desc := "(I)I" } : Jvm.MethodName) ({ cls := "Replen$Line", name := "dueAfter", desc := "(I)I" } : Jvm.MethodName)) ∈ ALL := in_ALL 138 rfl rfl
set_option maxRecDepth 100000 in
theorem w_123 : (Jvm.Cond.code ({ cls := "Replen$Line", name := "dueAfter", desc := "(I)I" } : Jvm.MethodName) prog_5_method_6_code (4 : Nat) (Option.some Jvm.ClassFile.FieldType.int)) ∈ ALL := in_ALL 139 rfl rfl
set_option maxRecDepth 100000 in
theorem w_124 : (Jvm.Cond.methodLink "Replen$Line" (78 : Nat) ({ cls := "Replen$DayBook", name := "on", desc := "(I)I" } : Jvm.MethodName)) ∈ ALL := in_ALL 140 rfl rfl
set_option maxRecDepth 100000 in
theorem w_125 : (Jvm.Cond.instanceMethod ({ cls := "Replen$DayBook", name := "on", desc := "(I)I" } : Jvm.MethodName)) ∈ ALL := in_ALL 141 rfl rfl
set_option maxRecDepth 100000 in
theorem w_126 : (Jvm.Cond.selects "Replen$DayBook" ({ cls := "Replen$DayBook", name := "on", desc := "(I)I" } : Jvm.MethodName) ({ cls := "Replen$DayBook", name := "on", desc := "(I)I" } : Jvm.MethodName)) ∈ ALL := in_ALL 142 rfl rfl
set_option maxRecDepth 100000 in
theorem w_127 : (Jvm.Cond.code ({ cls := "Replen$DayBook", name := "on", desc := "(I)I" } : Jvm.MethodName) prog_2_method_2_code (2 : Nat) (Option.some Jvm.ClassFile.FieldType.int)) ∈ ALL := in_ALL 143 rfl rfl
set_option maxRecDepth 100000 in
theorem w_128 : (Jvm.Cond.methodLink "ReplenLaw" (120 : Nat) ({ cls := "ReplenLaw", name := "pick", desc := "([III)I" } : Jvm.MethodName)) ∈ ALL := in_ALL 144 rfl rfl
set_option maxRecDepth 100000 in
theorem w_129 : (Jvm.Cond.static ({ cls := "ReplenLaw", name := "pick", desc := "([III)I" } : Jvm.MethodName)) ∈ ALL := in_ALL 145 rfl rfl
set_option maxRecDepth 100000 in
theorem w_130 : (Jvm.Cond.code ({ cls := "ReplenLaw", name := "pick", desc := "([III)I" } : Jvm.MethodName) method_3_code (3 : Nat) (Option.some Jvm.ClassFile.FieldType.int)) ∈ ALL := in_ALL 146 rfl rfl
set_option maxRecDepth 100000 in
theorem w_131 : (Jvm.Cond.methodLink "ReplenLaw" (8 : Nat) ({ cls := "ReplenLaw", name := "cell", desc := "([II)I" } : Jvm.MethodName)) ∈ ALL := in_ALL 147 rfl rfl
set_option maxRecDepth 100000 in
theorem w_132 : (Jvm.Cond.static ({ cls := "ReplenLaw", name := "cell", desc := "([II)I" } : Jvm.MethodName)) ∈ ALL := in_ALL 148 rfl rfl
set_option maxRecDepth 100000 in
theorem w_133 : (Jvm.Cond.code ({ cls := "ReplenLaw", name := "cell", desc := "([II)I" } : Jvm.MethodName) method_2_code (2 : Nat) (Option.some Jvm.ClassFile.FieldType.int)) ∈ ALL := in_ALL 149 rfl rfl
set_option maxRecDepth 100000 in
theorem w_134 : (Jvm.Cond.constant "ReplenLaw" (7 : Nat) (40503 : Int32)) ∈ ALL := in_ALL 150 rfl rfl
set_option maxRecDepth 100000 in
theorem w_135 : (Jvm.Cond.methodLink "ReplenLaw" (124 : Nat) ({ cls := "ReplenLaw", name := "addShop", desc := "(LReplen;I)I" } : Jvm.MethodName)) ∈ ALL := in_ALL 151 rfl rfl
set_option maxRecDepth 100000 in
theorem w_136 : (Jvm.Cond.static ({ cls := "ReplenLaw", name := "addShop", desc := "(LReplen;I)I" } : Jvm.MethodName)) ∈ ALL := in_ALL 152 rfl rfl
set_option maxRecDepth 100000 in
theorem w_137 : (Jvm.Cond.codeWith ({ cls := "ReplenLaw", name := "addShop", desc := "(LReplen;I)I" } : Jvm.MethodName) method_4_code (3 : Nat) (Option.some Jvm.ClassFile.FieldType.int) [((0 : Nat), (5 : Nat), (6 : Nat), (20 : Nat)), ((0 : Nat), (5 : Nat), (10 : Nat), (22 : Nat))]) ∈ ALL := in_ALL 153 rfl rfl
set_option maxRecDepth 100000 in
theorem w_138 : (Jvm.Cond.classLink "ReplenLaw" (20 : Nat) "java/lang/IllegalArgumentException") ∈ ALL := in_ALL 154 rfl rfl
set_option maxRecDepth 100000 in
theorem w_139 : (Jvm.Cond.classLink "ReplenLaw" (22 : Nat) "java/lang/IllegalStateException") ∈ ALL := in_ALL 155 rfl rfl
set_option maxRecDepth 100000 in
theorem w_140 : (Jvm.Cond.methodLink "ReplenLaw" (14 : Nat) ({ cls := "Replen", name := "addShop", desc := "(I)I" } : Jvm.MethodName)) ∈ ALL := in_ALL 156 rfl rfl
set_option maxRecDepth 100000 in
theorem w_141 : (Jvm.Cond.instanceMethod ({ cls := "Replen", name := "addShop", desc := "(I)I" } : Jvm.MethodName)) ∈ ALL := in_ALL 157 rfl rfl
set_option maxRecDepth 100000 in
theorem w_142 : (Jvm.Cond.selects "Replen" ({ cls := "Replen", name := "addShop", desc := "(I)I" } : Jvm.MethodName) ({ cls := "Replen", name := "addShop", desc := "(I)I" } : Jvm.MethodName)) ∈ ALL := in_ALL 158 rfl rfl
set_option maxRecDepth 100000 in
theorem w_143 : (Jvm.Cond.code ({ cls := "Replen", name := "addShop", desc := "(I)I" } : Jvm.MethodName) prog_1_method_2_code (2 : Nat) (Option.some Jvm.ClassFile.FieldType.int)) ∈ ALL := in_ALL 159 rfl rfl
set_option maxRecDepth 100000 in
theorem w_144 : (Jvm.Cond.classLink "Replen" (71 : Nat) "java/lang/IllegalArgumentException") ∈ ALL := in_ALL 160 rfl rfl
set_option maxRecDepth 100000 in
theorem w_145 : (Jvm.Cond.instantiable "java/lang/IllegalArgumentException" (6 : Nat)) ∈ ALL := in_ALL 161 rfl rfl
set_option maxRecDepth 100000 in
theorem w_153 : (Jvm.Cond.selects "java/lang/IllegalArgumentException" ({ cls := "java/lang/Throwable", name := "fillInStackTrace", desc := "(I)Ljava/lang/Throwable;" } : Jvm.MethodName) ({ cls := "java/lang/Throwable", name := "fillInStackTrace", desc := "(I)Ljava/lang/Throwable;" } : Jvm.MethodName)) ∈ ALL := in_ALL 169 rfl rfl
set_option maxRecDepth 100000 in
theorem w_154 : (Jvm.Cond.selects "java/lang/IllegalArgumentException" ({ cls := "java/lang/Throwable", name := "fillInStackTrace", desc := "()Ljava/lang/Throwable;" } : Jvm.MethodName) ({ cls := "java/lang/Throwable", name := "fillInStackTrace", desc := "()Ljava/lang/Throwable;" } : Jvm.MethodName)) ∈ ALL := in_ALL 170 rfl rfl
set_option maxRecDepth 100000 in
theorem w_165 : (Jvm.Cond.fieldLink "java/lang/Throwable" (198 : Nat) "java/lang/Throwable" "backtrace" "Ljava/lang/Object;") ∈ ALL := in_ALL 181 rfl rfl
set_option maxRecDepth 100000 in
theorem w_167 : (Jvm.Cond.instanceMethod ({ cls := "java/lang/Throwable", name := "<init>", desc := "()V" } : Jvm.MethodName)) ∈ ALL := in_ALL 183 rfl rfl
set_option maxRecDepth 100000 in
theorem w_168 : (Jvm.Cond.code ({ cls := "java/lang/Throwable", name := "<init>", desc := "()V" } : Jvm.MethodName) prog_17_method_1_code (1 : Nat) (Option.none : Option Jvm.ClassFile.FieldType)) ∈ ALL := in_ALL 184 rfl rfl
set_option maxRecDepth 100000 in
theorem w_169 : (Jvm.Cond.methodLink "java/lang/Throwable" (1 : Nat) ({ cls := "java/lang/Object", name := "<init>", desc := "()V" } : Jvm.MethodName)) ∈ ALL := in_ALL 185 rfl rfl
set_option maxRecDepth 100000 in
theorem w_170 : (Jvm.Cond.fieldLink "java/lang/Throwable" (13 : Nat) "java/lang/Throwable" "UNASSIGNED_STACK" "[Ljava/lang/StackTraceElement;") ∈ ALL := in_ALL 186 rfl rfl
set_option maxRecDepth 100000 in
theorem w_172 : (Jvm.Cond.fieldLink "java/lang/Throwable" (20 : Nat) "java/lang/Throwable" "SUPPRESSED_SENTINEL" "Ljava/util/List;") ∈ ALL := in_ALL 188 rfl rfl
set_option maxRecDepth 100000 in
theorem w_174 : (Jvm.Cond.methodLink "java/lang/Throwable" (27 : Nat) ({ cls := "java/lang/Throwable", name := "fillInStackTrace", desc := "()Ljava/lang/Throwable;" } : Jvm.MethodName)) ∈ ALL := in_ALL 190 rfl rfl
set_option maxRecDepth 100000 in
theorem w_175 : (Jvm.Cond.instanceMethod ({ cls := "java/lang/Throwable", name := "fillInStackTrace", desc := "()Ljava/lang/Throwable;" } : Jvm.MethodName)) ∈ ALL := in_ALL 191 rfl rfl
set_option maxRecDepth 100000 in
theorem w_177 : (Jvm.Cond.selects "java/lang/IllegalStateException" ({ cls := "java/lang/Throwable", name := "fillInStackTrace", desc := "()Ljava/lang/Throwable;" } : Jvm.MethodName) ({ cls := "java/lang/Throwable", name := "fillInStackTrace", desc := "()Ljava/lang/Throwable;" } : Jvm.MethodName)) ∈ ALL := in_ALL 193 rfl rfl
set_option maxRecDepth 100000 in
theorem w_178 : (Jvm.Cond.selects "java/lang/IndexOutOfBoundsException" ({ cls := "java/lang/Throwable", name := "fillInStackTrace", desc := "()Ljava/lang/Throwable;" } : Jvm.MethodName) ({ cls := "java/lang/Throwable", name := "fillInStackTrace", desc := "()Ljava/lang/Throwable;" } : Jvm.MethodName)) ∈ ALL := in_ALL 194 rfl rfl
set_option maxRecDepth 100000 in
theorem w_179 : (Jvm.Cond.selects "java/lang/UnsupportedOperationException" ({ cls := "java/lang/Throwable", name := "fillInStackTrace", desc := "()Ljava/lang/Throwable;" } : Jvm.MethodName) ({ cls := "java/lang/Throwable", name := "fillInStackTrace", desc := "()Ljava/lang/Throwable;" } : Jvm.MethodName)) ∈ ALL := in_ALL 195 rfl rfl
set_option maxRecDepth 100000 in
theorem w_180 : (Jvm.Cond.selects "java/util/NoSuchElementException" ({ cls := "java/lang/Throwable", name := "fillInStackTrace", desc := "()Ljava/lang/Throwable;" } : Jvm.MethodName) ({ cls := "java/lang/Throwable", name := "fillInStackTrace", desc := "()Ljava/lang/Throwable;" } : Jvm.MethodName)) ∈ ALL := in_ALL 196 rfl rfl
set_option maxRecDepth 100000 in
theorem w_182 : (Jvm.Cond.methodLink "java/lang/Throwable" (202 : Nat) ({ cls := "java/lang/Throwable", name := "fillInStackTrace", desc := "(I)Ljava/lang/Throwable;" } : Jvm.MethodName)) ∈ ALL := in_ALL 198 rfl rfl
set_option maxRecDepth 100000 in
theorem w_184 : (Jvm.Cond.instanceMethod ({ cls := "java/lang/Throwable", name := "fillInStackTrace", desc := "(I)Ljava/lang/Throwable;" } : Jvm.MethodName)) ∈ ALL := in_ALL 200 rfl rfl
set_option maxRecDepth 100000 in
theorem w_185 : (Jvm.Cond.instantiable "java/lang/Throwable" (6 : Nat)) ∈ ALL := in_ALL 201 rfl rfl
set_option maxRecDepth 100000 in
theorem w_188 : (Jvm.Cond.methodLink "Replen" (75 : Nat) ({ cls := "java/lang/IllegalArgumentException", name := "<init>", desc := "(Ljava/lang/String;)V" } : Jvm.MethodName)) ∈ ALL := in_ALL 204 rfl rfl
set_option maxRecDepth 100000 in
theorem w_189 : (Jvm.Cond.instanceMethod ({ cls := "java/lang/IllegalArgumentException", name := "<init>", desc := "(Ljava/lang/String;)V" } : Jvm.MethodName)) ∈ ALL := in_ALL 205 rfl rfl
set_option maxRecDepth 100000 in
theorem w_190 : (Jvm.Cond.code ({ cls := "java/lang/IllegalArgumentException", name := "<init>", desc := "(Ljava/lang/String;)V" } : Jvm.MethodName) prog_11_method_2_code (2 : Nat) (Option.none : Option Jvm.ClassFile.FieldType)) ∈ ALL := in_ALL 206 rfl rfl
set_option maxRecDepth 100000 in
theorem w_191 : (Jvm.Cond.methodLink "java/lang/IllegalArgumentException" (7 : Nat) ({ cls := "java/lang/RuntimeException", name := "<init>", desc := "(Ljava/lang/String;)V" } : Jvm.MethodName)) ∈ ALL := in_ALL 207 rfl rfl
set_option maxRecDepth 100000 in
theorem w_192 : (Jvm.Cond.instanceMethod ({ cls := "java/lang/RuntimeException", name := "<init>", desc := "(Ljava/lang/String;)V" } : Jvm.MethodName)) ∈ ALL := in_ALL 208 rfl rfl
set_option maxRecDepth 100000 in
theorem w_193 : (Jvm.Cond.code ({ cls := "java/lang/RuntimeException", name := "<init>", desc := "(Ljava/lang/String;)V" } : Jvm.MethodName) prog_15_method_2_code (2 : Nat) (Option.none : Option Jvm.ClassFile.FieldType)) ∈ ALL := in_ALL 209 rfl rfl
set_option maxRecDepth 100000 in
theorem w_194 : (Jvm.Cond.methodLink "java/lang/RuntimeException" (7 : Nat) ({ cls := "java/lang/Exception", name := "<init>", desc := "(Ljava/lang/String;)V" } : Jvm.MethodName)) ∈ ALL := in_ALL 210 rfl rfl
set_option maxRecDepth 100000 in
theorem w_195 : (Jvm.Cond.instanceMethod ({ cls := "java/lang/Exception", name := "<init>", desc := "(Ljava/lang/String;)V" } : Jvm.MethodName)) ∈ ALL := in_ALL 211 rfl rfl
set_option maxRecDepth 100000 in
theorem w_196 : (Jvm.Cond.code ({ cls := "java/lang/Exception", name := "<init>", desc := "(Ljava/lang/String;)V" } : Jvm.MethodName) prog_10_method_2_code (2 : Nat) (Option.none : Option Jvm.ClassFile.FieldType)) ∈ ALL := in_ALL 212 rfl rfl
set_option maxRecDepth 100000 in
theorem w_197 : (Jvm.Cond.methodLink "java/lang/Exception" (7 : Nat) ({ cls := "java/lang/Throwable", name := "<init>", desc := "(Ljava/lang/String;)V" } : Jvm.MethodName)) ∈ ALL := in_ALL 213 rfl rfl
set_option maxRecDepth 100000 in
theorem w_198 : (Jvm.Cond.instanceMethod ({ cls := "java/lang/Throwable", name := "<init>", desc := "(Ljava/lang/String;)V" } : Jvm.MethodName)) ∈ ALL := in_ALL 214 rfl rfl
set_option maxRecDepth 100000 in
theorem w_199 : (Jvm.Cond.code ({ cls := "java/lang/Throwable", name := "<init>", desc := "(Ljava/lang/String;)V" } : Jvm.MethodName) prog_17_method_2_code (2 : Nat) (Option.none : Option Jvm.ClassFile.FieldType)) ∈ ALL := in_ALL 215 rfl rfl
set_option maxRecDepth 100000 in
theorem w_200 : (Jvm.Cond.fieldLink "java/lang/Throwable" (198 : Nat) "java/lang/Throwable" "backtrace" "Ljava/lang/Object;") ∈ ALL := in_ALL 216 rfl rfl
set_option maxRecDepth 100000 in
theorem w_201 : (Jvm.Cond.fieldLink "java/lang/Throwable" (31 : Nat) "java/lang/Throwable" "detailMessage" "Ljava/lang/String;") ∈ ALL := in_ALL 217 rfl rfl
set_option maxRecDepth 100000 in
theorem w_202 : (Jvm.Cond.fieldLink "java/lang/Throwable" (7 : Nat) "java/lang/Throwable" "cause" "Ljava/lang/Throwable;") ∈ ALL := in_ALL 218 rfl rfl
set_option maxRecDepth 100000 in
theorem w_203 : (Jvm.Cond.fieldLink "java/lang/Throwable" (17 : Nat) "java/lang/Throwable" "stackTrace" "[Ljava/lang/StackTraceElement;") ∈ ALL := in_ALL 219 rfl rfl
set_option maxRecDepth 100000 in
theorem w_204 : (Jvm.Cond.fieldLink "java/lang/Throwable" (24 : Nat) "java/lang/Throwable" "suppressedExceptions" "Ljava/util/List;") ∈ ALL := in_ALL 220 rfl rfl
set_option maxRecDepth 100000 in
theorem w_213 : (Jvm.Cond.arrayClass Jvm.ClassFile.FieldType.byte) ∈ ALL := in_ALL 229 rfl rfl
set_option maxRecDepth 100000 in
theorem w_214 : (Jvm.Cond.classLink "Replen" (78 : Nat) "java/lang/IllegalStateException") ∈ ALL := in_ALL 230 rfl rfl
set_option maxRecDepth 100000 in
theorem w_215 : (Jvm.Cond.instantiable "java/lang/IllegalStateException" (6 : Nat)) ∈ ALL := in_ALL 231 rfl rfl
set_option maxRecDepth 100000 in
theorem w_217 : (Jvm.Cond.selects "java/lang/IllegalStateException" ({ cls := "java/lang/Throwable", name := "fillInStackTrace", desc := "(I)Ljava/lang/Throwable;" } : Jvm.MethodName) ({ cls := "java/lang/Throwable", name := "fillInStackTrace", desc := "(I)Ljava/lang/Throwable;" } : Jvm.MethodName)) ∈ ALL := in_ALL 233 rfl rfl
set_option maxRecDepth 100000 in
theorem w_224 : (Jvm.Cond.methodLink "Replen" (82 : Nat) ({ cls := "java/lang/IllegalStateException", name := "<init>", desc := "(Ljava/lang/String;)V" } : Jvm.MethodName)) ∈ ALL := in_ALL 240 rfl rfl
set_option maxRecDepth 100000 in
theorem w_225 : (Jvm.Cond.instanceMethod ({ cls := "java/lang/IllegalStateException", name := "<init>", desc := "(Ljava/lang/String;)V" } : Jvm.MethodName)) ∈ ALL := in_ALL 241 rfl rfl
set_option maxRecDepth 100000 in
theorem w_226 : (Jvm.Cond.code ({ cls := "java/lang/IllegalStateException", name := "<init>", desc := "(Ljava/lang/String;)V" } : Jvm.MethodName) prog_12_method_2_code (2 : Nat) (Option.none : Option Jvm.ClassFile.FieldType)) ∈ ALL := in_ALL 242 rfl rfl
set_option maxRecDepth 100000 in
theorem w_227 : (Jvm.Cond.methodLink "java/lang/IllegalStateException" (7 : Nat) ({ cls := "java/lang/RuntimeException", name := "<init>", desc := "(Ljava/lang/String;)V" } : Jvm.MethodName)) ∈ ALL := in_ALL 243 rfl rfl
set_option maxRecDepth 100000 in
theorem w_230 : (Jvm.Cond.methodLink "ReplenLaw" (127 : Nat) ({ cls := "ReplenLaw", name := "addItem", desc := "(LReplen;II)I" } : Jvm.MethodName)) ∈ ALL := in_ALL 246 rfl rfl
set_option maxRecDepth 100000 in
theorem w_231 : (Jvm.Cond.static ({ cls := "ReplenLaw", name := "addItem", desc := "(LReplen;II)I" } : Jvm.MethodName)) ∈ ALL := in_ALL 247 rfl rfl
set_option maxRecDepth 100000 in
theorem w_232 : (Jvm.Cond.codeWith ({ cls := "ReplenLaw", name := "addItem", desc := "(LReplen;II)I" } : Jvm.MethodName) method_5_code (4 : Nat) (Option.some Jvm.ClassFile.FieldType.int) [((0 : Nat), (6 : Nat), (7 : Nat), (20 : Nat)), ((0 : Nat), (6 : Nat), (11 : Nat), (22 : Nat))]) ∈ ALL := in_ALL 248 rfl rfl
set_option maxRecDepth 100000 in
theorem w_233 : (Jvm.Cond.methodLink "ReplenLaw" (24 : Nat) ({ cls := "Replen", name := "addItem", desc := "(II)I" } : Jvm.MethodName)) ∈ ALL := in_ALL 249 rfl rfl
set_option maxRecDepth 100000 in
theorem w_234 : (Jvm.Cond.instanceMethod ({ cls := "Replen", name := "addItem", desc := "(II)I" } : Jvm.MethodName)) ∈ ALL := in_ALL 250 rfl rfl
set_option maxRecDepth 100000 in
theorem w_235 : (Jvm.Cond.selects "Replen" ({ cls := "Replen", name := "addItem", desc := "(II)I" } : Jvm.MethodName) ({ cls := "Replen", name := "addItem", desc := "(II)I" } : Jvm.MethodName)) ∈ ALL := in_ALL 251 rfl rfl
set_option maxRecDepth 100000 in
theorem w_236 : (Jvm.Cond.code ({ cls := "Replen", name := "addItem", desc := "(II)I" } : Jvm.MethodName) prog_1_method_3_code (3 : Nat) (Option.some Jvm.ClassFile.FieldType.int)) ∈ ALL := in_ALL 252 rfl rfl
set_option maxRecDepth 100000 in
theorem w_240 : (Jvm.Cond.instantiable "Replen$Item" (6 : Nat)) ∈ ALL := in_ALL 256 rfl rfl
set_option maxRecDepth 100000 in
theorem w_241 : (Jvm.Cond.methodLink "Replen" (89 : Nat) ({ cls := "Replen$Item", name := "<init>", desc := "(II)V" } : Jvm.MethodName)) ∈ ALL := in_ALL 257 rfl rfl
set_option maxRecDepth 100000 in
theorem w_242 : (Jvm.Cond.instanceMethod ({ cls := "Replen$Item", name := "<init>", desc := "(II)V" } : Jvm.MethodName)) ∈ ALL := in_ALL 258 rfl rfl
set_option maxRecDepth 100000 in
theorem w_243 : (Jvm.Cond.code ({ cls := "Replen$Item", name := "<init>", desc := "(II)V" } : Jvm.MethodName) prog_3_method_1_code (3 : Nat) (Option.none : Option Jvm.ClassFile.FieldType)) ∈ ALL := in_ALL 259 rfl rfl
set_option maxRecDepth 100000 in
theorem w_244 : (Jvm.Cond.methodLink "Replen$Item" (1 : Nat) ({ cls := "java/lang/Object", name := "<init>", desc := "()V" } : Jvm.MethodName)) ∈ ALL := in_ALL 260 rfl rfl
set_option maxRecDepth 100000 in
theorem w_245 : (Jvm.Cond.classLink "Replen$Item" (7 : Nat) "Replen$DayBook") ∈ ALL := in_ALL 261 rfl rfl
set_option maxRecDepth 100000 in
theorem w_247 : (Jvm.Cond.fieldLink "Replen$Item" (22 : Nat) "Replen$Item" "pack" "I") ∈ ALL := in_ALL 263 rfl rfl
set_option maxRecDepth 100000 in
theorem w_249 : (Jvm.Cond.fieldLink "Replen$Item" (26 : Nat) "Replen$Item" "firstStock" "I") ∈ ALL := in_ALL 265 rfl rfl
set_option maxRecDepth 100000 in
theorem w_250 : (Jvm.Cond.fieldLink "Replen$Item" (10 : Nat) "Replen$Item" "takenIn" "LReplen$DayBook;") ∈ ALL := in_ALL 266 rfl rfl
set_option maxRecDepth 100000 in
theorem w_251 : (Jvm.Cond.fieldLink "Replen$Item" (16 : Nat) "Replen$Item" "givenOut" "LReplen$DayBook;") ∈ ALL := in_ALL 267 rfl rfl
set_option maxRecDepth 100000 in
theorem w_252 : (Jvm.Cond.fieldLink "Replen$Item" (19 : Nat) "Replen$Item" "promotions" "LReplen$DayBook;") ∈ ALL := in_ALL 268 rfl rfl
set_option maxRecDepth 100000 in
theorem w_254 : (Jvm.Cond.fieldLink "Replen$Item" (29 : Nat) "Replen$Item" "stock" "I") ∈ ALL := in_ALL 270 rfl rfl
set_option maxRecDepth 100000 in
theorem w_256 : (Jvm.Cond.laysFinal "Replen$Item" "Replen$Item" "pack" "I") ∈ ALL := in_ALL 272 rfl rfl
set_option maxRecDepth 100000 in
theorem w_258 : (Jvm.Cond.laysFinal "Replen$Item" "Replen$Item" "firstStock" "I") ∈ ALL := in_ALL 274 rfl rfl
set_option maxRecDepth 100000 in
theorem w_260 : (Jvm.Cond.laysFinal "Replen$Item" "Replen$Item" "takenIn" "LReplen$DayBook;") ∈ ALL := in_ALL 276 rfl rfl
set_option maxRecDepth 100000 in
theorem w_262 : (Jvm.Cond.laysFinal "Replen$Item" "Replen$Item" "givenOut" "LReplen$DayBook;") ∈ ALL := in_ALL 278 rfl rfl
set_option maxRecDepth 100000 in
theorem w_264 : (Jvm.Cond.laysFinal "Replen$Item" "Replen$Item" "promotions" "LReplen$DayBook;") ∈ ALL := in_ALL 280 rfl rfl
set_option maxRecDepth 100000 in
theorem w_266 : (Jvm.Cond.lays "Replen$Item" "Replen$Item" "stock" "I") ∈ ALL := in_ALL 282 rfl rfl
set_option maxRecDepth 100000 in
theorem w_269 : (Jvm.Cond.methodLink "ReplenLaw" (134 : Nat) ({ cls := "ReplenLaw", name := "carry", desc := "(LReplen;IIII)I" } : Jvm.MethodName)) ∈ ALL := in_ALL 285 rfl rfl
set_option maxRecDepth 100000 in
theorem w_270 : (Jvm.Cond.static ({ cls := "ReplenLaw", name := "carry", desc := "(LReplen;IIII)I" } : Jvm.MethodName)) ∈ ALL := in_ALL 286 rfl rfl
set_option maxRecDepth 100000 in
theorem w_271 : (Jvm.Cond.codeWith ({ cls := "ReplenLaw", name := "carry", desc := "(LReplen;IIII)I" } : Jvm.MethodName) method_6_code (6 : Nat) (Option.some Jvm.ClassFile.FieldType.int) [((0 : Nat), (9 : Nat), (10 : Nat), (32 : Nat)), ((0 : Nat), (9 : Nat), (15 : Nat), (20 : Nat)), ((0 : Nat), (9 : Nat), (20 : Nat), (22 : Nat))]) ∈ ALL := in_ALL 287 rfl rfl
set_option maxRecDepth 100000 in
theorem w_272 : (Jvm.Cond.classLink "ReplenLaw" (32 : Nat) "java/lang/IndexOutOfBoundsException") ∈ ALL := in_ALL 288 rfl rfl
set_option maxRecDepth 100000 in
theorem w_273 : (Jvm.Cond.methodLink "ReplenLaw" (28 : Nat) ({ cls := "Replen", name := "carry", desc := "(IIII)I" } : Jvm.MethodName)) ∈ ALL := in_ALL 289 rfl rfl
set_option maxRecDepth 100000 in
theorem w_274 : (Jvm.Cond.instanceMethod ({ cls := "Replen", name := "carry", desc := "(IIII)I" } : Jvm.MethodName)) ∈ ALL := in_ALL 290 rfl rfl
set_option maxRecDepth 100000 in
theorem w_275 : (Jvm.Cond.selects "Replen" ({ cls := "Replen", name := "carry", desc := "(IIII)I" } : Jvm.MethodName) ({ cls := "Replen", name := "carry", desc := "(IIII)I" } : Jvm.MethodName)) ∈ ALL := in_ALL 291 rfl rfl
set_option maxRecDepth 100000 in
theorem w_276 : (Jvm.Cond.code ({ cls := "Replen", name := "carry", desc := "(IIII)I" } : Jvm.MethodName) prog_1_method_4_code (7 : Nat) (Option.some Jvm.ClassFile.FieldType.int)) ∈ ALL := in_ALL 292 rfl rfl
set_option maxRecDepth 100000 in
theorem w_277 : (Jvm.Cond.methodLink "Replen" (92 : Nat) ({ cls := "Replen", name := "requireShop", desc := "(I)V" } : Jvm.MethodName)) ∈ ALL := in_ALL 293 rfl rfl
set_option maxRecDepth 100000 in
theorem w_279 : (Jvm.Cond.instanceMethod ({ cls := "Replen", name := "requireShop", desc := "(I)V" } : Jvm.MethodName)) ∈ ALL := in_ALL 295 rfl rfl
set_option maxRecDepth 100000 in
theorem w_280 : (Jvm.Cond.code ({ cls := "Replen", name := "requireShop", desc := "(I)V" } : Jvm.MethodName) prog_1_method_37_code (2 : Nat) (Option.none : Option Jvm.ClassFile.FieldType)) ∈ ALL := in_ALL 296 rfl rfl
set_option maxRecDepth 100000 in
theorem w_281 : (Jvm.Cond.methodLink "Replen" (262 : Nat) ({ cls := "Replen", name := "isShop", desc := "(I)Z" } : Jvm.MethodName)) ∈ ALL := in_ALL 297 rfl rfl
set_option maxRecDepth 100000 in
theorem w_283 : (Jvm.Cond.instanceMethod ({ cls := "Replen", name := "isShop", desc := "(I)Z" } : Jvm.MethodName)) ∈ ALL := in_ALL 299 rfl rfl
set_option maxRecDepth 100000 in
theorem w_284 : (Jvm.Cond.code ({ cls := "Replen", name := "isShop", desc := "(I)Z" } : Jvm.MethodName) prog_1_method_35_code (2 : Nat) (Option.some Jvm.ClassFile.FieldType.boolean)) ∈ ALL := in_ALL 300 rfl rfl
set_option maxRecDepth 100000 in
theorem w_285 : (Jvm.Cond.classLink "Replen" (265 : Nat) "java/lang/IndexOutOfBoundsException") ∈ ALL := in_ALL 301 rfl rfl
set_option maxRecDepth 100000 in
theorem w_286 : (Jvm.Cond.instantiable "java/lang/IndexOutOfBoundsException" (6 : Nat)) ∈ ALL := in_ALL 302 rfl rfl
set_option maxRecDepth 100000 in
theorem w_288 : (Jvm.Cond.selects "java/lang/IndexOutOfBoundsException" ({ cls := "java/lang/Throwable", name := "fillInStackTrace", desc := "(I)Ljava/lang/Throwable;" } : Jvm.MethodName) ({ cls := "java/lang/Throwable", name := "fillInStackTrace", desc := "(I)Ljava/lang/Throwable;" } : Jvm.MethodName)) ∈ ALL := in_ALL 304 rfl rfl
set_option maxRecDepth 100000 in
theorem w_295 : (Jvm.Cond.methodLink "Replen" (269 : Nat) ({ cls := "java/lang/IndexOutOfBoundsException", name := "<init>", desc := "(Ljava/lang/String;)V" } : Jvm.MethodName)) ∈ ALL := in_ALL 311 rfl rfl
set_option maxRecDepth 100000 in
theorem w_296 : (Jvm.Cond.instanceMethod ({ cls := "java/lang/IndexOutOfBoundsException", name := "<init>", desc := "(Ljava/lang/String;)V" } : Jvm.MethodName)) ∈ ALL := in_ALL 312 rfl rfl
set_option maxRecDepth 100000 in
theorem w_297 : (Jvm.Cond.code ({ cls := "java/lang/IndexOutOfBoundsException", name := "<init>", desc := "(Ljava/lang/String;)V" } : Jvm.MethodName) prog_13_method_2_code (2 : Nat) (Option.none : Option Jvm.ClassFile.FieldType)) ∈ ALL := in_ALL 313 rfl rfl
set_option maxRecDepth 100000 in
theorem w_298 : (Jvm.Cond.methodLink "java/lang/IndexOutOfBoundsException" (7 : Nat) ({ cls := "java/lang/RuntimeException", name := "<init>", desc := "(Ljava/lang/String;)V" } : Jvm.MethodName)) ∈ ALL := in_ALL 314 rfl rfl
set_option maxRecDepth 100000 in
theorem w_301 : (Jvm.Cond.methodLink "Replen" (96 : Nat) ({ cls := "Replen", name := "requireItem", desc := "(I)LReplen$Item;" } : Jvm.MethodName)) ∈ ALL := in_ALL 317 rfl rfl
set_option maxRecDepth 100000 in
theorem w_303 : (Jvm.Cond.instanceMethod ({ cls := "Replen", name := "requireItem", desc := "(I)LReplen$Item;" } : Jvm.MethodName)) ∈ ALL := in_ALL 319 rfl rfl
set_option maxRecDepth 100000 in
theorem w_304 : (Jvm.Cond.code ({ cls := "Replen", name := "requireItem", desc := "(I)LReplen$Item;" } : Jvm.MethodName) prog_1_method_38_code (3 : Nat) (Option.some (Jvm.ClassFile.FieldType.object "Replen$Item"))) ∈ ALL := in_ALL 320 rfl rfl
set_option maxRecDepth 100000 in
theorem w_305 : (Jvm.Cond.methodLink "Replen" (270 : Nat) ({ cls := "Replen", name := "itemOrNull", desc := "(I)LReplen$Item;" } : Jvm.MethodName)) ∈ ALL := in_ALL 321 rfl rfl
set_option maxRecDepth 100000 in
theorem w_307 : (Jvm.Cond.instanceMethod ({ cls := "Replen", name := "itemOrNull", desc := "(I)LReplen$Item;" } : Jvm.MethodName)) ∈ ALL := in_ALL 323 rfl rfl
set_option maxRecDepth 100000 in
theorem w_308 : (Jvm.Cond.code ({ cls := "Replen", name := "itemOrNull", desc := "(I)LReplen$Item;" } : Jvm.MethodName) prog_1_method_39_code (2 : Nat) (Option.some (Jvm.ClassFile.FieldType.object "Replen$Item"))) ∈ ALL := in_ALL 324 rfl rfl
set_option maxRecDepth 100000 in
theorem w_309 : (Jvm.Cond.methodLink "Replen" (275 : Nat) ({ cls := "Replen", name := "isItem", desc := "(I)Z" } : Jvm.MethodName)) ∈ ALL := in_ALL 325 rfl rfl
set_option maxRecDepth 100000 in
theorem w_311 : (Jvm.Cond.instanceMethod ({ cls := "Replen", name := "isItem", desc := "(I)Z" } : Jvm.MethodName)) ∈ ALL := in_ALL 327 rfl rfl
set_option maxRecDepth 100000 in
theorem w_312 : (Jvm.Cond.code ({ cls := "Replen", name := "isItem", desc := "(I)Z" } : Jvm.MethodName) prog_1_method_36_code (2 : Nat) (Option.some Jvm.ClassFile.FieldType.boolean)) ∈ ALL := in_ALL 328 rfl rfl
set_option maxRecDepth 100000 in
theorem w_315 : (Jvm.Cond.constant "Replen" (102 : Nat) (99999 : Int32)) ∈ ALL := in_ALL 331 rfl rfl
set_option maxRecDepth 100000 in
theorem w_317 : (Jvm.Cond.methodLink "Replen" (105 : Nat) ({ cls := "Replen", name := "placeOf", desc := "(II)I" } : Jvm.MethodName)) ∈ ALL := in_ALL 333 rfl rfl
set_option maxRecDepth 100000 in
theorem w_319 : (Jvm.Cond.instanceMethod ({ cls := "Replen", name := "placeOf", desc := "(II)I" } : Jvm.MethodName)) ∈ ALL := in_ALL 335 rfl rfl
set_option maxRecDepth 100000 in
theorem w_320 : (Jvm.Cond.code ({ cls := "Replen", name := "placeOf", desc := "(II)I" } : Jvm.MethodName) prog_1_method_42_code (3 : Nat) (Option.some Jvm.ClassFile.FieldType.int)) ∈ ALL := in_ALL 336 rfl rfl
set_option maxRecDepth 100000 in
theorem w_322 : (Jvm.Cond.instantiable "Replen$Line" (14 : Nat)) ∈ ALL := in_ALL 338 rfl rfl
set_option maxRecDepth 100000 in
theorem w_323 : (Jvm.Cond.methodLink "Replen" (111 : Nat) ({ cls := "Replen", name := "leadOf", desc := "(I)I" } : Jvm.MethodName)) ∈ ALL := in_ALL 339 rfl rfl
set_option maxRecDepth 100000 in
theorem w_325 : (Jvm.Cond.instanceMethod ({ cls := "Replen", name := "leadOf", desc := "(I)I" } : Jvm.MethodName)) ∈ ALL := in_ALL 341 rfl rfl
set_option maxRecDepth 100000 in
theorem w_326 : (Jvm.Cond.code ({ cls := "Replen", name := "leadOf", desc := "(I)I" } : Jvm.MethodName) prog_1_method_43_code (2 : Nat) (Option.some Jvm.ClassFile.FieldType.int)) ∈ ALL := in_ALL 342 rfl rfl
set_option maxRecDepth 100000 in
theorem w_327 : (Jvm.Cond.methodLink "Replen" (115 : Nat) ({ cls := "Replen$Line", name := "<init>", desc := "(LReplen$Item;IIII)V" } : Jvm.MethodName)) ∈ ALL := in_ALL 343 rfl rfl
set_option maxRecDepth 100000 in
theorem w_328 : (Jvm.Cond.instanceMethod ({ cls := "Replen$Line", name := "<init>", desc := "(LReplen$Item;IIII)V" } : Jvm.MethodName)) ∈ ALL := in_ALL 344 rfl rfl
set_option maxRecDepth 100000 in
theorem w_329 : (Jvm.Cond.code ({ cls := "Replen$Line", name := "<init>", desc := "(LReplen$Item;IIII)V" } : Jvm.MethodName) prog_5_method_1_code (6 : Nat) (Option.none : Option Jvm.ClassFile.FieldType)) ∈ ALL := in_ALL 345 rfl rfl
set_option maxRecDepth 100000 in
theorem w_330 : (Jvm.Cond.methodLink "Replen$Line" (3 : Nat) ({ cls := "java/lang/Object", name := "<init>", desc := "()V" } : Jvm.MethodName)) ∈ ALL := in_ALL 346 rfl rfl
set_option maxRecDepth 100000 in
theorem w_331 : (Jvm.Cond.classLink "Replen$Line" (9 : Nat) "Replen$Learner") ∈ ALL := in_ALL 347 rfl rfl
set_option maxRecDepth 100000 in
theorem w_333 : (Jvm.Cond.classLink "Replen$Line" (22 : Nat) "Replen$DayBook") ∈ ALL := in_ALL 349 rfl rfl
set_option maxRecDepth 100000 in
theorem w_335 : (Jvm.Cond.methodLink "Replen$Line" (64 : Nat) ({ cls := "Replen$Learner", name := "start", desc := "(I)V" } : Jvm.MethodName)) ∈ ALL := in_ALL 351 rfl rfl
set_option maxRecDepth 100000 in
theorem w_336 : (Jvm.Cond.instanceMethod ({ cls := "Replen$Learner", name := "start", desc := "(I)V" } : Jvm.MethodName)) ∈ ALL := in_ALL 352 rfl rfl
set_option maxRecDepth 100000 in
theorem w_337 : (Jvm.Cond.selects "Replen$Learner" ({ cls := "Replen$Learner", name := "start", desc := "(I)V" } : Jvm.MethodName) ({ cls := "Replen$Learner", name := "start", desc := "(I)V" } : Jvm.MethodName)) ∈ ALL := in_ALL 353 rfl rfl
set_option maxRecDepth 100000 in
theorem w_338 : (Jvm.Cond.code ({ cls := "Replen$Learner", name := "start", desc := "(I)V" } : Jvm.MethodName) prog_4_method_2_code (3 : Nat) (Option.none : Option Jvm.ClassFile.FieldType)) ∈ ALL := in_ALL 354 rfl rfl
set_option maxRecDepth 100000 in
theorem w_339 : (Jvm.Cond.fieldLink "Replen$Line" (45 : Nat) "Replen$Line" "item" "LReplen$Item;") ∈ ALL := in_ALL 355 rfl rfl
set_option maxRecDepth 100000 in
theorem w_341 : (Jvm.Cond.fieldLink "Replen$Line" (49 : Nat) "Replen$Line" "lead" "I") ∈ ALL := in_ALL 357 rfl rfl
set_option maxRecDepth 100000 in
theorem w_342 : (Jvm.Cond.fieldLink "Replen$Line" (52 : Nat) "Replen$Line" "firstDay" "I") ∈ ALL := in_ALL 358 rfl rfl
set_option maxRecDepth 100000 in
theorem w_344 : (Jvm.Cond.fieldLink "Replen$Line" (55 : Nat) "Replen$Line" "firstStock" "I") ∈ ALL := in_ALL 360 rfl rfl
set_option maxRecDepth 100000 in
theorem w_345 : (Jvm.Cond.fieldLink "Replen$Line" (58 : Nat) "Replen$Line" "firstLevel" "I") ∈ ALL := in_ALL 361 rfl rfl
set_option maxRecDepth 100000 in
theorem w_347 : (Jvm.Cond.fieldLink "Replen$Line" (12 : Nat) "Replen$Line" "learner" "LReplen$Learner;") ∈ ALL := in_ALL 363 rfl rfl
set_option maxRecDepth 100000 in
theorem w_349 : (Jvm.Cond.fieldLink "Replen$Line" (18 : Nat) "Replen$Line" "errorTimes" "[I") ∈ ALL := in_ALL 365 rfl rfl
set_option maxRecDepth 100000 in
theorem w_350 : (Jvm.Cond.fieldLink "Replen$Line" (25 : Nat) "Replen$Line" "demands" "LReplen$DayBook;") ∈ ALL := in_ALL 366 rfl rfl
set_option maxRecDepth 100000 in
theorem w_352 : (Jvm.Cond.fieldLink "Replen$Line" (29 : Nat) "Replen$Line" "sales" "LReplen$DayBook;") ∈ ALL := in_ALL 368 rfl rfl
set_option maxRecDepth 100000 in
theorem w_353 : (Jvm.Cond.fieldLink "Replen$Line" (32 : Nat) "Replen$Line" "arrivals" "LReplen$DayBook;") ∈ ALL := in_ALL 369 rfl rfl
set_option maxRecDepth 100000 in
theorem w_355 : (Jvm.Cond.fieldLink "Replen$Line" (35 : Nat) "Replen$Line" "errorSum" "I") ∈ ALL := in_ALL 371 rfl rfl
set_option maxRecDepth 100000 in
theorem w_356 : (Jvm.Cond.fieldLink "Replen$Line" (61 : Nat) "Replen$Line" "stock" "I") ∈ ALL := in_ALL 372 rfl rfl
set_option maxRecDepth 100000 in
theorem w_358 : (Jvm.Cond.fieldLink "Replen$Line" (39 : Nat) "Replen$Line" "soldSum" "I") ∈ ALL := in_ALL 374 rfl rfl
set_option maxRecDepth 100000 in
theorem w_359 : (Jvm.Cond.fieldLink "Replen$Line" (42 : Nat) "Replen$Line" "lostSum" "I") ∈ ALL := in_ALL 375 rfl rfl
set_option maxRecDepth 100000 in
theorem w_361 : (Jvm.Cond.laysFinal "Replen$Line" "Replen$Line" "item" "LReplen$Item;") ∈ ALL := in_ALL 377 rfl rfl
set_option maxRecDepth 100000 in
theorem w_363 : (Jvm.Cond.laysFinal "Replen$Line" "Replen$Line" "lead" "I") ∈ ALL := in_ALL 379 rfl rfl
set_option maxRecDepth 100000 in
theorem w_365 : (Jvm.Cond.laysFinal "Replen$Line" "Replen$Line" "firstDay" "I") ∈ ALL := in_ALL 381 rfl rfl
set_option maxRecDepth 100000 in
theorem w_367 : (Jvm.Cond.laysFinal "Replen$Line" "Replen$Line" "firstStock" "I") ∈ ALL := in_ALL 383 rfl rfl
set_option maxRecDepth 100000 in
theorem w_369 : (Jvm.Cond.laysFinal "Replen$Line" "Replen$Line" "firstLevel" "I") ∈ ALL := in_ALL 385 rfl rfl
set_option maxRecDepth 100000 in
theorem w_371 : (Jvm.Cond.laysFinal "Replen$Line" "Replen$Line" "learner" "LReplen$Learner;") ∈ ALL := in_ALL 387 rfl rfl
set_option maxRecDepth 100000 in
theorem w_373 : (Jvm.Cond.laysFinal "Replen$Line" "Replen$Line" "errorTimes" "[I") ∈ ALL := in_ALL 389 rfl rfl
set_option maxRecDepth 100000 in
theorem w_375 : (Jvm.Cond.laysFinal "Replen$Line" "Replen$Line" "demands" "LReplen$DayBook;") ∈ ALL := in_ALL 391 rfl rfl
set_option maxRecDepth 100000 in
theorem w_377 : (Jvm.Cond.laysFinal "Replen$Line" "Replen$Line" "sales" "LReplen$DayBook;") ∈ ALL := in_ALL 393 rfl rfl
set_option maxRecDepth 100000 in
theorem w_379 : (Jvm.Cond.laysFinal "Replen$Line" "Replen$Line" "arrivals" "LReplen$DayBook;") ∈ ALL := in_ALL 395 rfl rfl
set_option maxRecDepth 100000 in
theorem w_381 : (Jvm.Cond.lays "Replen$Line" "Replen$Line" "errorSum" "I") ∈ ALL := in_ALL 397 rfl rfl
set_option maxRecDepth 100000 in
theorem w_383 : (Jvm.Cond.lays "Replen$Line" "Replen$Line" "stock" "I") ∈ ALL := in_ALL 399 rfl rfl
set_option maxRecDepth 100000 in
theorem w_385 : (Jvm.Cond.lays "Replen$Line" "Replen$Line" "soldSum" "I") ∈ ALL := in_ALL 401 rfl rfl
set_option maxRecDepth 100000 in
theorem w_387 : (Jvm.Cond.lays "Replen$Line" "Replen$Line" "lostSum" "I") ∈ ALL := in_ALL 403 rfl rfl
set_option maxRecDepth 100000 in
theorem w_390 : (Jvm.Cond.methodLink "ReplenLaw" (137 : Nat) ({ cls := "ReplenLaw", name := "carries", desc := "(LReplen;II)I" } : Jvm.MethodName)) ∈ ALL := in_ALL 406 rfl rfl
set_option maxRecDepth 100000 in
theorem w_391 : (Jvm.Cond.static ({ cls := "ReplenLaw", name := "carries", desc := "(LReplen;II)I" } : Jvm.MethodName)) ∈ ALL := in_ALL 407 rfl rfl
set_option maxRecDepth 100000 in
theorem w_392 : (Jvm.Cond.codeWith ({ cls := "ReplenLaw", name := "carries", desc := "(LReplen;II)I" } : Jvm.MethodName) method_7_code (4 : Nat) (Option.some Jvm.ClassFile.FieldType.int) [((0 : Nat), (14 : Nat), (15 : Nat), (32 : Nat))]) ∈ ALL := in_ALL 408 rfl rfl
set_option maxRecDepth 100000 in
theorem w_393 : (Jvm.Cond.methodLink "ReplenLaw" (34 : Nat) ({ cls := "Replen", name := "carries", desc := "(II)Z" } : Jvm.MethodName)) ∈ ALL := in_ALL 409 rfl rfl
set_option maxRecDepth 100000 in
theorem w_394 : (Jvm.Cond.instanceMethod ({ cls := "Replen", name := "carries", desc := "(II)Z" } : Jvm.MethodName)) ∈ ALL := in_ALL 410 rfl rfl
set_option maxRecDepth 100000 in
theorem w_395 : (Jvm.Cond.selects "Replen" ({ cls := "Replen", name := "carries", desc := "(II)Z" } : Jvm.MethodName) ({ cls := "Replen", name := "carries", desc := "(II)Z" } : Jvm.MethodName)) ∈ ALL := in_ALL 411 rfl rfl
set_option maxRecDepth 100000 in
theorem w_396 : (Jvm.Cond.code ({ cls := "Replen", name := "carries", desc := "(II)Z" } : Jvm.MethodName) prog_1_method_5_code (3 : Nat) (Option.some Jvm.ClassFile.FieldType.boolean)) ∈ ALL := in_ALL 412 rfl rfl
set_option maxRecDepth 100000 in
theorem w_397 : (Jvm.Cond.methodLink "Replen" (118 : Nat) ({ cls := "Replen", name := "lineOrNull", desc := "(II)LReplen$Line;" } : Jvm.MethodName)) ∈ ALL := in_ALL 413 rfl rfl
set_option maxRecDepth 100000 in
theorem w_399 : (Jvm.Cond.instanceMethod ({ cls := "Replen", name := "lineOrNull", desc := "(II)LReplen$Line;" } : Jvm.MethodName)) ∈ ALL := in_ALL 415 rfl rfl
set_option maxRecDepth 100000 in
theorem w_400 : (Jvm.Cond.code ({ cls := "Replen", name := "lineOrNull", desc := "(II)LReplen$Line;" } : Jvm.MethodName) prog_1_method_41_code (4 : Nat) (Option.some (Jvm.ClassFile.FieldType.object "Replen$Line"))) ∈ ALL := in_ALL 416 rfl rfl
set_option maxRecDepth 100000 in
theorem w_401 : (Jvm.Cond.methodLink "ReplenLaw" (146 : Nat) ({ cls := "ReplenLaw", name := "supply", desc := "(LReplen;II)I" } : Jvm.MethodName)) ∈ ALL := in_ALL 417 rfl rfl
set_option maxRecDepth 100000 in
theorem w_402 : (Jvm.Cond.static ({ cls := "ReplenLaw", name := "supply", desc := "(LReplen;II)I" } : Jvm.MethodName)) ∈ ALL := in_ALL 418 rfl rfl
set_option maxRecDepth 100000 in
theorem w_403 : (Jvm.Cond.codeWith ({ cls := "ReplenLaw", name := "supply", desc := "(LReplen;II)I" } : Jvm.MethodName) method_8_code (4 : Nat) (Option.some Jvm.ClassFile.FieldType.int) [((0 : Nat), (6 : Nat), (7 : Nat), (32 : Nat)), ((0 : Nat), (6 : Nat), (11 : Nat), (20 : Nat)), ((0 : Nat), (6 : Nat), (15 : Nat), (22 : Nat))]) ∈ ALL := in_ALL 419 rfl rfl
set_option maxRecDepth 100000 in
theorem w_404 : (Jvm.Cond.methodLink "ReplenLaw" (38 : Nat) ({ cls := "Replen", name := "supply", desc := "(II)I" } : Jvm.MethodName)) ∈ ALL := in_ALL 420 rfl rfl
set_option maxRecDepth 100000 in
theorem w_405 : (Jvm.Cond.instanceMethod ({ cls := "Replen", name := "supply", desc := "(II)I" } : Jvm.MethodName)) ∈ ALL := in_ALL 421 rfl rfl
set_option maxRecDepth 100000 in
theorem w_406 : (Jvm.Cond.selects "Replen" ({ cls := "Replen", name := "supply", desc := "(II)I" } : Jvm.MethodName) ({ cls := "Replen", name := "supply", desc := "(II)I" } : Jvm.MethodName)) ∈ ALL := in_ALL 422 rfl rfl
set_option maxRecDepth 100000 in
theorem w_407 : (Jvm.Cond.code ({ cls := "Replen", name := "supply", desc := "(II)I" } : Jvm.MethodName) prog_1_method_6_code (4 : Nat) (Option.some Jvm.ClassFile.FieldType.int)) ∈ ALL := in_ALL 423 rfl rfl
set_option maxRecDepth 100000 in
theorem w_410 : (Jvm.Cond.methodLink "Replen" (129 : Nat) ({ cls := "Replen$Item", name := "takeIn", desc := "(II)V" } : Jvm.MethodName)) ∈ ALL := in_ALL 426 rfl rfl
set_option maxRecDepth 100000 in
theorem w_411 : (Jvm.Cond.instanceMethod ({ cls := "Replen$Item", name := "takeIn", desc := "(II)V" } : Jvm.MethodName)) ∈ ALL := in_ALL 427 rfl rfl
set_option maxRecDepth 100000 in
theorem w_412 : (Jvm.Cond.selects "Replen$Item" ({ cls := "Replen$Item", name := "takeIn", desc := "(II)V" } : Jvm.MethodName) ({ cls := "Replen$Item", name := "takeIn", desc := "(II)V" } : Jvm.MethodName)) ∈ ALL := in_ALL 428 rfl rfl
set_option maxRecDepth 100000 in
theorem w_413 : (Jvm.Cond.code ({ cls := "Replen$Item", name := "takeIn", desc := "(II)V" } : Jvm.MethodName) prog_3_method_3_code (3 : Nat) (Option.none : Option Jvm.ClassFile.FieldType)) ∈ ALL := in_ALL 429 rfl rfl
set_option maxRecDepth 100000 in
theorem w_414 : (Jvm.Cond.methodLink "Replen$Item" (36 : Nat) ({ cls := "Replen$DayBook", name := "add", desc := "(II)V" } : Jvm.MethodName)) ∈ ALL := in_ALL 430 rfl rfl
set_option maxRecDepth 100000 in
theorem w_415 : (Jvm.Cond.instanceMethod ({ cls := "Replen$DayBook", name := "add", desc := "(II)V" } : Jvm.MethodName)) ∈ ALL := in_ALL 431 rfl rfl
set_option maxRecDepth 100000 in
theorem w_416 : (Jvm.Cond.selects "Replen$DayBook" ({ cls := "Replen$DayBook", name := "add", desc := "(II)V" } : Jvm.MethodName) ({ cls := "Replen$DayBook", name := "add", desc := "(II)V" } : Jvm.MethodName)) ∈ ALL := in_ALL 432 rfl rfl
set_option maxRecDepth 100000 in
theorem w_417 : (Jvm.Cond.code ({ cls := "Replen$DayBook", name := "add", desc := "(II)V" } : Jvm.MethodName) prog_2_method_3_code (3 : Nat) (Option.none : Option Jvm.ClassFile.FieldType)) ∈ ALL := in_ALL 433 rfl rfl
set_option maxRecDepth 100000 in
theorem w_418 : (Jvm.Cond.methodLink "ReplenLaw" (150 : Nat) ({ cls := "ReplenLaw", name := "setService", desc := "(LReplen;I)I" } : Jvm.MethodName)) ∈ ALL := in_ALL 434 rfl rfl
set_option maxRecDepth 100000 in
theorem w_419 : (Jvm.Cond.static ({ cls := "ReplenLaw", name := "setService", desc := "(LReplen;I)I" } : Jvm.MethodName)) ∈ ALL := in_ALL 435 rfl rfl
set_option maxRecDepth 100000 in
theorem w_420 : (Jvm.Cond.codeWith ({ cls := "ReplenLaw", name := "setService", desc := "(LReplen;I)I" } : Jvm.MethodName) method_9_code (3 : Nat) (Option.some Jvm.ClassFile.FieldType.int) [((0 : Nat), (5 : Nat), (6 : Nat), (20 : Nat))]) ∈ ALL := in_ALL 436 rfl rfl
set_option maxRecDepth 100000 in
theorem w_421 : (Jvm.Cond.methodLink "ReplenLaw" (41 : Nat) ({ cls := "Replen", name := "setService", desc := "(I)I" } : Jvm.MethodName)) ∈ ALL := in_ALL 437 rfl rfl
set_option maxRecDepth 100000 in
theorem w_422 : (Jvm.Cond.instanceMethod ({ cls := "Replen", name := "setService", desc := "(I)I" } : Jvm.MethodName)) ∈ ALL := in_ALL 438 rfl rfl
set_option maxRecDepth 100000 in
theorem w_423 : (Jvm.Cond.selects "Replen" ({ cls := "Replen", name := "setService", desc := "(I)I" } : Jvm.MethodName) ({ cls := "Replen", name := "setService", desc := "(I)I" } : Jvm.MethodName)) ∈ ALL := in_ALL 439 rfl rfl
set_option maxRecDepth 100000 in
theorem w_424 : (Jvm.Cond.code ({ cls := "Replen", name := "setService", desc := "(I)I" } : Jvm.MethodName) prog_1_method_7_code (3 : Nat) (Option.some Jvm.ClassFile.FieldType.int)) ∈ ALL := in_ALL 440 rfl rfl
set_option maxRecDepth 100000 in
theorem w_426 : (Jvm.Cond.methodLink "ReplenLaw" (152 : Nat) ({ cls := "ReplenLaw", name := "setRates", desc := "(LReplen;II)I" } : Jvm.MethodName)) ∈ ALL := in_ALL 442 rfl rfl
set_option maxRecDepth 100000 in
theorem w_427 : (Jvm.Cond.static ({ cls := "ReplenLaw", name := "setRates", desc := "(LReplen;II)I" } : Jvm.MethodName)) ∈ ALL := in_ALL 443 rfl rfl
set_option maxRecDepth 100000 in
theorem w_428 : (Jvm.Cond.codeWith ({ cls := "ReplenLaw", name := "setRates", desc := "(LReplen;II)I" } : Jvm.MethodName) method_10_code (4 : Nat) (Option.some Jvm.ClassFile.FieldType.int) [((0 : Nat), (6 : Nat), (7 : Nat), (20 : Nat))]) ∈ ALL := in_ALL 444 rfl rfl
set_option maxRecDepth 100000 in
theorem w_429 : (Jvm.Cond.methodLink "ReplenLaw" (44 : Nat) ({ cls := "Replen", name := "setRates", desc := "(II)I" } : Jvm.MethodName)) ∈ ALL := in_ALL 445 rfl rfl
set_option maxRecDepth 100000 in
theorem w_430 : (Jvm.Cond.instanceMethod ({ cls := "Replen", name := "setRates", desc := "(II)I" } : Jvm.MethodName)) ∈ ALL := in_ALL 446 rfl rfl
set_option maxRecDepth 100000 in
theorem w_431 : (Jvm.Cond.selects "Replen" ({ cls := "Replen", name := "setRates", desc := "(II)I" } : Jvm.MethodName) ({ cls := "Replen", name := "setRates", desc := "(II)I" } : Jvm.MethodName)) ∈ ALL := in_ALL 447 rfl rfl
set_option maxRecDepth 100000 in
theorem w_432 : (Jvm.Cond.code ({ cls := "Replen", name := "setRates", desc := "(II)I" } : Jvm.MethodName) prog_1_method_8_code (4 : Nat) (Option.some Jvm.ClassFile.FieldType.int)) ∈ ALL := in_ALL 448 rfl rfl
set_option maxRecDepth 100000 in
theorem w_435 : (Jvm.Cond.methodLink "ReplenLaw" (157 : Nat) ({ cls := "ReplenLaw", name := "mark", desc := "(LReplen;II)I" } : Jvm.MethodName)) ∈ ALL := in_ALL 451 rfl rfl
set_option maxRecDepth 100000 in
theorem w_436 : (Jvm.Cond.static ({ cls := "ReplenLaw", name := "mark", desc := "(LReplen;II)I" } : Jvm.MethodName)) ∈ ALL := in_ALL 452 rfl rfl
set_option maxRecDepth 100000 in
theorem w_437 : (Jvm.Cond.codeWith ({ cls := "ReplenLaw", name := "mark", desc := "(LReplen;II)I" } : Jvm.MethodName) method_11_code (4 : Nat) (Option.some Jvm.ClassFile.FieldType.int) [((0 : Nat), (14 : Nat), (15 : Nat), (32 : Nat)), ((0 : Nat), (14 : Nat), (19 : Nat), (20 : Nat))]) ∈ ALL := in_ALL 453 rfl rfl
set_option maxRecDepth 100000 in
theorem w_438 : (Jvm.Cond.methodLink "ReplenLaw" (47 : Nat) ({ cls := "Replen", name := "mark", desc := "(II)Z" } : Jvm.MethodName)) ∈ ALL := in_ALL 454 rfl rfl
set_option maxRecDepth 100000 in
theorem w_439 : (Jvm.Cond.instanceMethod ({ cls := "Replen", name := "mark", desc := "(II)Z" } : Jvm.MethodName)) ∈ ALL := in_ALL 455 rfl rfl
set_option maxRecDepth 100000 in
theorem w_440 : (Jvm.Cond.selects "Replen" ({ cls := "Replen", name := "mark", desc := "(II)Z" } : Jvm.MethodName) ({ cls := "Replen", name := "mark", desc := "(II)Z" } : Jvm.MethodName)) ∈ ALL := in_ALL 456 rfl rfl
set_option maxRecDepth 100000 in
theorem w_441 : (Jvm.Cond.code ({ cls := "Replen", name := "mark", desc := "(II)Z" } : Jvm.MethodName) prog_1_method_9_code (5 : Nat) (Option.some Jvm.ClassFile.FieldType.boolean)) ∈ ALL := in_ALL 457 rfl rfl
set_option maxRecDepth 100000 in
theorem w_443 : (Jvm.Cond.methodLink "Replen" (140 : Nat) ({ cls := "Replen$Item", name := "hasPromotion", desc := "(I)Z" } : Jvm.MethodName)) ∈ ALL := in_ALL 459 rfl rfl
set_option maxRecDepth 100000 in
theorem w_444 : (Jvm.Cond.instanceMethod ({ cls := "Replen$Item", name := "hasPromotion", desc := "(I)Z" } : Jvm.MethodName)) ∈ ALL := in_ALL 460 rfl rfl
set_option maxRecDepth 100000 in
theorem w_445 : (Jvm.Cond.selects "Replen$Item" ({ cls := "Replen$Item", name := "hasPromotion", desc := "(I)Z" } : Jvm.MethodName) ({ cls := "Replen$Item", name := "hasPromotion", desc := "(I)Z" } : Jvm.MethodName)) ∈ ALL := in_ALL 461 rfl rfl
set_option maxRecDepth 100000 in
theorem w_446 : (Jvm.Cond.code ({ cls := "Replen$Item", name := "hasPromotion", desc := "(I)Z" } : Jvm.MethodName) prog_3_method_2_code (2 : Nat) (Option.some Jvm.ClassFile.FieldType.boolean)) ∈ ALL := in_ALL 462 rfl rfl
set_option maxRecDepth 100000 in
theorem w_447 : (Jvm.Cond.methodLink "Replen$Item" (32 : Nat) ({ cls := "Replen$DayBook", name := "on", desc := "(I)I" } : Jvm.MethodName)) ∈ ALL := in_ALL 463 rfl rfl
set_option maxRecDepth 100000 in
theorem w_448 : (Jvm.Cond.methodLink "Replen" (147 : Nat) ({ cls := "Replen$DayBook", name := "add", desc := "(II)V" } : Jvm.MethodName)) ∈ ALL := in_ALL 464 rfl rfl
set_option maxRecDepth 100000 in
theorem w_449 : (Jvm.Cond.methodLink "ReplenLaw" (159 : Nat) ({ cls := "ReplenLaw", name := "isMarked", desc := "(LReplen;II)I" } : Jvm.MethodName)) ∈ ALL := in_ALL 465 rfl rfl
set_option maxRecDepth 100000 in
theorem w_450 : (Jvm.Cond.static ({ cls := "ReplenLaw", name := "isMarked", desc := "(LReplen;II)I" } : Jvm.MethodName)) ∈ ALL := in_ALL 466 rfl rfl
set_option maxRecDepth 100000 in
theorem w_451 : (Jvm.Cond.codeWith ({ cls := "ReplenLaw", name := "isMarked", desc := "(LReplen;II)I" } : Jvm.MethodName) method_12_code (4 : Nat) (Option.some Jvm.ClassFile.FieldType.int) [((0 : Nat), (14 : Nat), (15 : Nat), (32 : Nat)), ((0 : Nat), (14 : Nat), (19 : Nat), (20 : Nat))]) ∈ ALL := in_ALL 467 rfl rfl
set_option maxRecDepth 100000 in
theorem w_452 : (Jvm.Cond.methodLink "ReplenLaw" (50 : Nat) ({ cls := "Replen", name := "isMarked", desc := "(II)Z" } : Jvm.MethodName)) ∈ ALL := in_ALL 468 rfl rfl
set_option maxRecDepth 100000 in
theorem w_453 : (Jvm.Cond.instanceMethod ({ cls := "Replen", name := "isMarked", desc := "(II)Z" } : Jvm.MethodName)) ∈ ALL := in_ALL 469 rfl rfl
set_option maxRecDepth 100000 in
theorem w_454 : (Jvm.Cond.selects "Replen" ({ cls := "Replen", name := "isMarked", desc := "(II)Z" } : Jvm.MethodName) ({ cls := "Replen", name := "isMarked", desc := "(II)Z" } : Jvm.MethodName)) ∈ ALL := in_ALL 470 rfl rfl
set_option maxRecDepth 100000 in
theorem w_455 : (Jvm.Cond.code ({ cls := "Replen", name := "isMarked", desc := "(II)Z" } : Jvm.MethodName) prog_1_method_10_code (4 : Nat) (Option.some Jvm.ClassFile.FieldType.boolean)) ∈ ALL := in_ALL 471 rfl rfl
set_option maxRecDepth 100000 in
theorem w_457 : (Jvm.Cond.methodLink "ReplenLaw" (165 : Nat) ({ cls := "ReplenLaw", name := "demand", desc := "(LReplen;III)I" } : Jvm.MethodName)) ∈ ALL := in_ALL 473 rfl rfl
set_option maxRecDepth 100000 in
theorem w_458 : (Jvm.Cond.static ({ cls := "ReplenLaw", name := "demand", desc := "(LReplen;III)I" } : Jvm.MethodName)) ∈ ALL := in_ALL 474 rfl rfl
set_option maxRecDepth 100000 in
theorem w_459 : (Jvm.Cond.codeWith ({ cls := "ReplenLaw", name := "demand", desc := "(LReplen;III)I" } : Jvm.MethodName) method_13_code (5 : Nat) (Option.some Jvm.ClassFile.FieldType.int) [((0 : Nat), (7 : Nat), (8 : Nat), (32 : Nat)), ((0 : Nat), (7 : Nat), (13 : Nat), (57 : Nat)), ((0 : Nat), (7 : Nat), (18 : Nat), (20 : Nat)), ((0 : Nat), (7 : Nat), (23 : Nat), (59 : Nat))]) ∈ ALL := in_ALL 475 rfl rfl
set_option maxRecDepth 100000 in
theorem w_460 : (Jvm.Cond.classLink "ReplenLaw" (57 : Nat) "java/util/NoSuchElementException") ∈ ALL := in_ALL 476 rfl rfl
set_option maxRecDepth 100000 in
theorem w_461 : (Jvm.Cond.classLink "ReplenLaw" (59 : Nat) "java/lang/UnsupportedOperationException") ∈ ALL := in_ALL 477 rfl rfl
set_option maxRecDepth 100000 in
theorem w_462 : (Jvm.Cond.methodLink "ReplenLaw" (53 : Nat) ({ cls := "Replen", name := "demand", desc := "(III)I" } : Jvm.MethodName)) ∈ ALL := in_ALL 478 rfl rfl
set_option maxRecDepth 100000 in
theorem w_463 : (Jvm.Cond.instanceMethod ({ cls := "Replen", name := "demand", desc := "(III)I" } : Jvm.MethodName)) ∈ ALL := in_ALL 479 rfl rfl
set_option maxRecDepth 100000 in
theorem w_464 : (Jvm.Cond.selects "Replen" ({ cls := "Replen", name := "demand", desc := "(III)I" } : Jvm.MethodName) ({ cls := "Replen", name := "demand", desc := "(III)I" } : Jvm.MethodName)) ∈ ALL := in_ALL 480 rfl rfl
set_option maxRecDepth 100000 in
theorem w_465 : (Jvm.Cond.code ({ cls := "Replen", name := "demand", desc := "(III)I" } : Jvm.MethodName) prog_1_method_11_code (5 : Nat) (Option.some Jvm.ClassFile.FieldType.int)) ∈ ALL := in_ALL 481 rfl rfl
set_option maxRecDepth 100000 in
theorem w_466 : (Jvm.Cond.methodLink "Replen" (152 : Nat) ({ cls := "Replen", name := "requireLine", desc := "(II)LReplen$Line;" } : Jvm.MethodName)) ∈ ALL := in_ALL 482 rfl rfl
set_option maxRecDepth 100000 in
theorem w_468 : (Jvm.Cond.instanceMethod ({ cls := "Replen", name := "requireLine", desc := "(II)LReplen$Line;" } : Jvm.MethodName)) ∈ ALL := in_ALL 484 rfl rfl
set_option maxRecDepth 100000 in
theorem w_469 : (Jvm.Cond.code ({ cls := "Replen", name := "requireLine", desc := "(II)LReplen$Line;" } : Jvm.MethodName) prog_1_method_40_code (4 : Nat) (Option.some (Jvm.ClassFile.FieldType.object "Replen$Line"))) ∈ ALL := in_ALL 485 rfl rfl
set_option maxRecDepth 100000 in
theorem w_470 : (Jvm.Cond.classLink "Replen" (233 : Nat) "java/util/NoSuchElementException") ∈ ALL := in_ALL 486 rfl rfl
set_option maxRecDepth 100000 in
theorem w_471 : (Jvm.Cond.instantiable "java/util/NoSuchElementException" (6 : Nat)) ∈ ALL := in_ALL 487 rfl rfl
set_option maxRecDepth 100000 in
theorem w_473 : (Jvm.Cond.selects "java/util/NoSuchElementException" ({ cls := "java/lang/Throwable", name := "fillInStackTrace", desc := "(I)Ljava/lang/Throwable;" } : Jvm.MethodName) ({ cls := "java/lang/Throwable", name := "fillInStackTrace", desc := "(I)Ljava/lang/Throwable;" } : Jvm.MethodName)) ∈ ALL := in_ALL 489 rfl rfl
set_option maxRecDepth 100000 in
theorem w_480 : (Jvm.Cond.methodLink "Replen" (237 : Nat) ({ cls := "java/util/NoSuchElementException", name := "<init>", desc := "(Ljava/lang/String;)V" } : Jvm.MethodName)) ∈ ALL := in_ALL 496 rfl rfl
set_option maxRecDepth 100000 in
theorem w_481 : (Jvm.Cond.instanceMethod ({ cls := "java/util/NoSuchElementException", name := "<init>", desc := "(Ljava/lang/String;)V" } : Jvm.MethodName)) ∈ ALL := in_ALL 497 rfl rfl
set_option maxRecDepth 100000 in
theorem w_482 : (Jvm.Cond.code ({ cls := "java/util/NoSuchElementException", name := "<init>", desc := "(Ljava/lang/String;)V" } : Jvm.MethodName) prog_19_method_4_code (2 : Nat) (Option.none : Option Jvm.ClassFile.FieldType)) ∈ ALL := in_ALL 498 rfl rfl
set_option maxRecDepth 100000 in
theorem w_483 : (Jvm.Cond.methodLink "java/util/NoSuchElementException" (13 : Nat) ({ cls := "java/lang/RuntimeException", name := "<init>", desc := "(Ljava/lang/String;)V" } : Jvm.MethodName)) ∈ ALL := in_ALL 499 rfl rfl
set_option maxRecDepth 100000 in
theorem w_487 : (Jvm.Cond.methodLink "Replen" (160 : Nat) ({ cls := "Replen$DayBook", name := "on", desc := "(I)I" } : Jvm.MethodName)) ∈ ALL := in_ALL 503 rfl rfl
set_option maxRecDepth 100000 in
theorem w_488 : (Jvm.Cond.classLink "Replen" (163 : Nat) "java/lang/UnsupportedOperationException") ∈ ALL := in_ALL 504 rfl rfl
set_option maxRecDepth 100000 in
theorem w_489 : (Jvm.Cond.instantiable "java/lang/UnsupportedOperationException" (6 : Nat)) ∈ ALL := in_ALL 505 rfl rfl
set_option maxRecDepth 100000 in
theorem w_491 : (Jvm.Cond.selects "java/lang/UnsupportedOperationException" ({ cls := "java/lang/Throwable", name := "fillInStackTrace", desc := "(I)Ljava/lang/Throwable;" } : Jvm.MethodName) ({ cls := "java/lang/Throwable", name := "fillInStackTrace", desc := "(I)Ljava/lang/Throwable;" } : Jvm.MethodName)) ∈ ALL := in_ALL 507 rfl rfl
set_option maxRecDepth 100000 in
theorem w_498 : (Jvm.Cond.methodLink "Replen" (167 : Nat) ({ cls := "java/lang/UnsupportedOperationException", name := "<init>", desc := "(Ljava/lang/String;)V" } : Jvm.MethodName)) ∈ ALL := in_ALL 514 rfl rfl
set_option maxRecDepth 100000 in
theorem w_499 : (Jvm.Cond.instanceMethod ({ cls := "java/lang/UnsupportedOperationException", name := "<init>", desc := "(Ljava/lang/String;)V" } : Jvm.MethodName)) ∈ ALL := in_ALL 515 rfl rfl
set_option maxRecDepth 100000 in
theorem w_500 : (Jvm.Cond.code ({ cls := "java/lang/UnsupportedOperationException", name := "<init>", desc := "(Ljava/lang/String;)V" } : Jvm.MethodName) prog_18_method_2_code (2 : Nat) (Option.none : Option Jvm.ClassFile.FieldType)) ∈ ALL := in_ALL 516 rfl rfl
set_option maxRecDepth 100000 in
theorem w_501 : (Jvm.Cond.methodLink "java/lang/UnsupportedOperationException" (7 : Nat) ({ cls := "java/lang/RuntimeException", name := "<init>", desc := "(Ljava/lang/String;)V" } : Jvm.MethodName)) ∈ ALL := in_ALL 517 rfl rfl
set_option maxRecDepth 100000 in
theorem w_504 : (Jvm.Cond.methodLink "Replen" (168 : Nat) ({ cls := "Replen$Line", name := "sell", desc := "(II)I" } : Jvm.MethodName)) ∈ ALL := in_ALL 520 rfl rfl
set_option maxRecDepth 100000 in
theorem w_505 : (Jvm.Cond.instanceMethod ({ cls := "Replen$Line", name := "sell", desc := "(II)I" } : Jvm.MethodName)) ∈ ALL := in_ALL 521 rfl rfl
set_option maxRecDepth 100000 in
theorem w_506 : (Jvm.Cond.selects "Replen$Line" ({ cls := "Replen$Line", name := "sell", desc := "(II)I" } : Jvm.MethodName) ({ cls := "Replen$Line", name := "sell", desc := "(II)I" } : Jvm.MethodName)) ∈ ALL := in_ALL 522 rfl rfl
set_option maxRecDepth 100000 in
theorem w_507 : (Jvm.Cond.code ({ cls := "Replen$Line", name := "sell", desc := "(II)I" } : Jvm.MethodName) prog_5_method_2_code (4 : Nat) (Option.some Jvm.ClassFile.FieldType.int)) ∈ ALL := in_ALL 523 rfl rfl
set_option maxRecDepth 100000 in
theorem w_508 : (Jvm.Cond.methodLink "Replen$Line" (68 : Nat) ({ cls := "java/lang/Math", name := "min", desc := "(II)I" } : Jvm.MethodName)) ∈ ALL := in_ALL 524 rfl rfl
set_option maxRecDepth 100000 in
theorem w_509 : (Jvm.Cond.static ({ cls := "java/lang/Math", name := "min", desc := "(II)I" } : Jvm.MethodName)) ∈ ALL := in_ALL 525 rfl rfl
set_option maxRecDepth 100000 in
theorem w_510 : (Jvm.Cond.code ({ cls := "java/lang/Math", name := "min", desc := "(II)I" } : Jvm.MethodName) prog_14_method_69_code (2 : Nat) (Option.some Jvm.ClassFile.FieldType.int)) ∈ ALL := in_ALL 526 rfl rfl
set_option maxRecDepth 100000 in
theorem w_511 : (Jvm.Cond.methodLink "Replen$Line" (74 : Nat) ({ cls := "Replen$DayBook", name := "add", desc := "(II)V" } : Jvm.MethodName)) ∈ ALL := in_ALL 527 rfl rfl
set_option maxRecDepth 100000 in
theorem w_512 : (Jvm.Cond.methodLink "ReplenLaw" (172 : Nat) ({ cls := "ReplenLaw", name := "night", desc := "(LReplen;)I" } : Jvm.MethodName)) ∈ ALL := in_ALL 528 rfl rfl
set_option maxRecDepth 100000 in
theorem w_513 : (Jvm.Cond.static ({ cls := "ReplenLaw", name := "night", desc := "(LReplen;)I" } : Jvm.MethodName)) ∈ ALL := in_ALL 529 rfl rfl
set_option maxRecDepth 100000 in
theorem w_514 : (Jvm.Cond.codeWith ({ cls := "ReplenLaw", name := "night", desc := "(LReplen;)I" } : Jvm.MethodName) method_14_code (2 : Nat) (Option.some Jvm.ClassFile.FieldType.int) [((0 : Nat), (4 : Nat), (5 : Nat), (22 : Nat))]) ∈ ALL := in_ALL 530 rfl rfl
set_option maxRecDepth 100000 in
theorem w_515 : (Jvm.Cond.methodLink "ReplenLaw" (61 : Nat) ({ cls := "Replen", name := "night", desc := "()I" } : Jvm.MethodName)) ∈ ALL := in_ALL 531 rfl rfl
set_option maxRecDepth 100000 in
theorem w_516 : (Jvm.Cond.instanceMethod ({ cls := "Replen", name := "night", desc := "()I" } : Jvm.MethodName)) ∈ ALL := in_ALL 532 rfl rfl
set_option maxRecDepth 100000 in
theorem w_517 : (Jvm.Cond.selects "Replen" ({ cls := "Replen", name := "night", desc := "()I" } : Jvm.MethodName) ({ cls := "Replen", name := "night", desc := "()I" } : Jvm.MethodName)) ∈ ALL := in_ALL 533 rfl rfl
set_option maxRecDepth 100000 in
theorem w_518 : (Jvm.Cond.code ({ cls := "Replen", name := "night", desc := "()I" } : Jvm.MethodName) prog_1_method_12_code (3 : Nat) (Option.some Jvm.ClassFile.FieldType.int)) ∈ ALL := in_ALL 534 rfl rfl
set_option maxRecDepth 100000 in
theorem w_520 : (Jvm.Cond.methodLink "Replen" (173 : Nat) ({ cls := "Replen", name := "learnToday", desc := "()V" } : Jvm.MethodName)) ∈ ALL := in_ALL 536 rfl rfl
set_option maxRecDepth 100000 in
theorem w_522 : (Jvm.Cond.instanceMethod ({ cls := "Replen", name := "learnToday", desc := "()V" } : Jvm.MethodName)) ∈ ALL := in_ALL 538 rfl rfl
set_option maxRecDepth 100000 in
theorem w_523 : (Jvm.Cond.code ({ cls := "Replen", name := "learnToday", desc := "()V" } : Jvm.MethodName) prog_1_method_44_code (3 : Nat) (Option.none : Option Jvm.ClassFile.FieldType)) ∈ ALL := in_ALL 539 rfl rfl
set_option maxRecDepth 100000 in
theorem w_524 : (Jvm.Cond.methodLink "Replen" (280 : Nat) ({ cls := "Replen$Line", name := "learnFrom", desc := "(III)V" } : Jvm.MethodName)) ∈ ALL := in_ALL 540 rfl rfl
set_option maxRecDepth 100000 in
theorem w_525 : (Jvm.Cond.instanceMethod ({ cls := "Replen$Line", name := "learnFrom", desc := "(III)V" } : Jvm.MethodName)) ∈ ALL := in_ALL 541 rfl rfl
set_option maxRecDepth 100000 in
theorem w_526 : (Jvm.Cond.selects "Replen$Line" ({ cls := "Replen$Line", name := "learnFrom", desc := "(III)V" } : Jvm.MethodName) ({ cls := "Replen$Line", name := "learnFrom", desc := "(III)V" } : Jvm.MethodName)) ∈ ALL := in_ALL 542 rfl rfl
set_option maxRecDepth 100000 in
theorem w_527 : (Jvm.Cond.code ({ cls := "Replen$Line", name := "learnFrom", desc := "(III)V" } : Jvm.MethodName) prog_5_method_3_code (6 : Nat) (Option.none : Option Jvm.ClassFile.FieldType)) ∈ ALL := in_ALL 543 rfl rfl
set_option maxRecDepth 100000 in
theorem w_528 : (Jvm.Cond.methodLink "Replen$Line" (82 : Nat) ({ cls := "Replen$Learner", name := "unitsFor", desc := "(I)I" } : Jvm.MethodName)) ∈ ALL := in_ALL 544 rfl rfl
set_option maxRecDepth 100000 in
theorem w_529 : (Jvm.Cond.instanceMethod ({ cls := "Replen$Learner", name := "unitsFor", desc := "(I)I" } : Jvm.MethodName)) ∈ ALL := in_ALL 545 rfl rfl
set_option maxRecDepth 100000 in
theorem w_530 : (Jvm.Cond.selects "Replen$Learner" ({ cls := "Replen$Learner", name := "unitsFor", desc := "(I)I" } : Jvm.MethodName) ({ cls := "Replen$Learner", name := "unitsFor", desc := "(I)I" } : Jvm.MethodName)) ∈ ALL := in_ALL 546 rfl rfl
set_option maxRecDepth 100000 in
theorem w_531 : (Jvm.Cond.code ({ cls := "Replen$Learner", name := "unitsFor", desc := "(I)I" } : Jvm.MethodName) prog_4_method_5_code (2 : Nat) (Option.some Jvm.ClassFile.FieldType.int)) ∈ ALL := in_ALL 547 rfl rfl
set_option maxRecDepth 100000 in
theorem w_532 : (Jvm.Cond.methodLink "Replen$Learner" (25 : Nat) ({ cls := "Replen$Learner", name := "thousandthsFor", desc := "(I)I" } : Jvm.MethodName)) ∈ ALL := in_ALL 548 rfl rfl
set_option maxRecDepth 100000 in
theorem w_533 : (Jvm.Cond.instanceMethod ({ cls := "Replen$Learner", name := "thousandthsFor", desc := "(I)I" } : Jvm.MethodName)) ∈ ALL := in_ALL 549 rfl rfl
set_option maxRecDepth 100000 in
theorem w_534 : (Jvm.Cond.selects "Replen$Learner" ({ cls := "Replen$Learner", name := "thousandthsFor", desc := "(I)I" } : Jvm.MethodName) ({ cls := "Replen$Learner", name := "thousandthsFor", desc := "(I)I" } : Jvm.MethodName)) ∈ ALL := in_ALL 550 rfl rfl
set_option maxRecDepth 100000 in
theorem w_535 : (Jvm.Cond.code ({ cls := "Replen$Learner", name := "thousandthsFor", desc := "(I)I" } : Jvm.MethodName) prog_4_method_4_code (2 : Nat) (Option.some Jvm.ClassFile.FieldType.int)) ∈ ALL := in_ALL 551 rfl rfl
set_option maxRecDepth 100000 in
theorem w_536 : (Jvm.Cond.methodLink "Replen$Learner" (19 : Nat) ({ cls := "Replen$Learner", name := "seasonOf", desc := "(I)I" } : Jvm.MethodName)) ∈ ALL := in_ALL 552 rfl rfl
set_option maxRecDepth 100000 in
theorem w_537 : (Jvm.Cond.instanceMethod ({ cls := "Replen$Learner", name := "seasonOf", desc := "(I)I" } : Jvm.MethodName)) ∈ ALL := in_ALL 553 rfl rfl
set_option maxRecDepth 100000 in
theorem w_538 : (Jvm.Cond.selects "Replen$Learner" ({ cls := "Replen$Learner", name := "seasonOf", desc := "(I)I" } : Jvm.MethodName) ({ cls := "Replen$Learner", name := "seasonOf", desc := "(I)I" } : Jvm.MethodName)) ∈ ALL := in_ALL 554 rfl rfl
set_option maxRecDepth 100000 in
theorem w_539 : (Jvm.Cond.code ({ cls := "Replen$Learner", name := "seasonOf", desc := "(I)I" } : Jvm.MethodName) prog_4_method_3_code (2 : Nat) (Option.some Jvm.ClassFile.FieldType.int)) ∈ ALL := in_ALL 555 rfl rfl
set_option maxRecDepth 100000 in
theorem w_540 : (Jvm.Cond.constantLong "Replen$Learner" (23 : Nat) (1000 : Int64)) ∈ ALL := in_ALL 556 rfl rfl
set_option maxRecDepth 100000 in
theorem w_541 : (Jvm.Cond.methodLink "Replen$Line" (85 : Nat) ({ cls := "java/lang/Math", name := "abs", desc := "(I)I" } : Jvm.MethodName)) ∈ ALL := in_ALL 557 rfl rfl
set_option maxRecDepth 100000 in
theorem w_542 : (Jvm.Cond.static ({ cls := "java/lang/Math", name := "abs", desc := "(I)I" } : Jvm.MethodName)) ∈ ALL := in_ALL 558 rfl rfl
set_option maxRecDepth 100000 in
theorem w_543 : (Jvm.Cond.code ({ cls := "java/lang/Math", name := "abs", desc := "(I)I" } : Jvm.MethodName) prog_14_method_59_code (1 : Nat) (Option.some Jvm.ClassFile.FieldType.int)) ∈ ALL := in_ALL 559 rfl rfl
set_option maxRecDepth 100000 in
theorem w_544 : (Jvm.Cond.methodLink "Replen$Line" (88 : Nat) ({ cls := "Replen$Learner", name := "learn", desc := "(IIII)V" } : Jvm.MethodName)) ∈ ALL := in_ALL 560 rfl rfl
set_option maxRecDepth 100000 in
theorem w_545 : (Jvm.Cond.instanceMethod ({ cls := "Replen$Learner", name := "learn", desc := "(IIII)V" } : Jvm.MethodName)) ∈ ALL := in_ALL 561 rfl rfl
set_option maxRecDepth 100000 in
theorem w_546 : (Jvm.Cond.selects "Replen$Learner" ({ cls := "Replen$Learner", name := "learn", desc := "(IIII)V" } : Jvm.MethodName) ({ cls := "Replen$Learner", name := "learn", desc := "(IIII)V" } : Jvm.MethodName)) ∈ ALL := in_ALL 562 rfl rfl
set_option maxRecDepth 100000 in
theorem w_547 : (Jvm.Cond.code ({ cls := "Replen$Learner", name := "learn", desc := "(IIII)V" } : Jvm.MethodName) prog_4_method_6_code (11 : Nat) (Option.none : Option Jvm.ClassFile.FieldType)) ∈ ALL := in_ALL 563 rfl rfl
set_option maxRecDepth 100000 in
theorem w_548 : (Jvm.Cond.constantLong "Replen$Learner" (28 : Nat) (1000000 : Int64)) ∈ ALL := in_ALL 564 rfl rfl
set_option maxRecDepth 100000 in
theorem w_549 : (Jvm.Cond.constantLong "Replen$Learner" (30 : Nat) (100 : Int64)) ∈ ALL := in_ALL 565 rfl rfl
set_option maxRecDepth 100000 in
theorem w_550 : (Jvm.Cond.methodLink "Replen$Learner" (32 : Nat) ({ cls := "java/lang/Math", name := "floorDiv", desc := "(JJ)J" } : Jvm.MethodName)) ∈ ALL := in_ALL 566 rfl rfl
set_option maxRecDepth 100000 in
theorem w_551 : (Jvm.Cond.static ({ cls := "java/lang/Math", name := "floorDiv", desc := "(JJ)J" } : Jvm.MethodName)) ∈ ALL := in_ALL 567 rfl rfl
set_option maxRecDepth 100000 in
theorem w_552 : (Jvm.Cond.code ({ cls := "java/lang/Math", name := "floorDiv", desc := "(JJ)J" } : Jvm.MethodName) prog_14_method_49_code (6 : Nat) (Option.some Jvm.ClassFile.FieldType.long)) ∈ ALL := in_ALL 568 rfl rfl
set_option maxRecDepth 100000 in
theorem w_553 : (Jvm.Cond.constantLong "Replen$Learner" (38 : Nat) (5000 : Int64)) ∈ ALL := in_ALL 569 rfl rfl
set_option maxRecDepth 100000 in
theorem w_554 : (Jvm.Cond.methodLink "Replen$Learner" (40 : Nat) ({ cls := "java/lang/Math", name := "min", desc := "(JJ)J" } : Jvm.MethodName)) ∈ ALL := in_ALL 570 rfl rfl
set_option maxRecDepth 100000 in
theorem w_555 : (Jvm.Cond.static ({ cls := "java/lang/Math", name := "min", desc := "(JJ)J" } : Jvm.MethodName)) ∈ ALL := in_ALL 571 rfl rfl
set_option maxRecDepth 100000 in
theorem w_556 : (Jvm.Cond.code ({ cls := "java/lang/Math", name := "min", desc := "(JJ)J" } : Jvm.MethodName) prog_14_method_70_code (4 : Nat) (Option.some Jvm.ClassFile.FieldType.long)) ∈ ALL := in_ALL 572 rfl rfl
set_option maxRecDepth 100000 in
theorem w_557 : (Jvm.Cond.methodLink "Replen$Learner" (43 : Nat) ({ cls := "java/lang/Math", name := "max", desc := "(JJ)J" } : Jvm.MethodName)) ∈ ALL := in_ALL 573 rfl rfl
set_option maxRecDepth 100000 in
theorem w_558 : (Jvm.Cond.static ({ cls := "java/lang/Math", name := "max", desc := "(JJ)J" } : Jvm.MethodName)) ∈ ALL := in_ALL 574 rfl rfl
set_option maxRecDepth 100000 in
theorem w_559 : (Jvm.Cond.code ({ cls := "java/lang/Math", name := "max", desc := "(JJ)J" } : Jvm.MethodName) prog_14_method_66_code (4 : Nat) (Option.some Jvm.ClassFile.FieldType.long)) ∈ ALL := in_ALL 575 rfl rfl
set_option maxRecDepth 100000 in
theorem w_560 : (Jvm.Cond.methodLink "Replen" (176 : Nat) ({ cls := "Replen", name := "receiveToday", desc := "()V" } : Jvm.MethodName)) ∈ ALL := in_ALL 576 rfl rfl
set_option maxRecDepth 100000 in
theorem w_562 : (Jvm.Cond.instanceMethod ({ cls := "Replen", name := "receiveToday", desc := "()V" } : Jvm.MethodName)) ∈ ALL := in_ALL 578 rfl rfl
set_option maxRecDepth 100000 in
theorem w_563 : (Jvm.Cond.code ({ cls := "Replen", name := "receiveToday", desc := "()V" } : Jvm.MethodName) prog_1_method_45_code (3 : Nat) (Option.none : Option Jvm.ClassFile.FieldType)) ∈ ALL := in_ALL 579 rfl rfl
set_option maxRecDepth 100000 in
theorem w_564 : (Jvm.Cond.methodLink "Replen" (179 : Nat) ({ cls := "Replen", name := "sendPacks", desc := "(I)I" } : Jvm.MethodName)) ∈ ALL := in_ALL 580 rfl rfl
set_option maxRecDepth 100000 in
theorem w_566 : (Jvm.Cond.instanceMethod ({ cls := "Replen", name := "sendPacks", desc := "(I)I" } : Jvm.MethodName)) ∈ ALL := in_ALL 582 rfl rfl
set_option maxRecDepth 100000 in
theorem w_567 : (Jvm.Cond.code ({ cls := "Replen", name := "sendPacks", desc := "(I)I" } : Jvm.MethodName) prog_1_method_47_code (6 : Nat) (Option.some Jvm.ClassFile.FieldType.int)) ∈ ALL := in_ALL 583 rfl rfl
set_option maxRecDepth 100000 in
theorem w_568 : (Jvm.Cond.methodLink "Replen" (244 : Nat) ({ cls := "Replen", name := "askForAll", desc := "(I)V" } : Jvm.MethodName)) ∈ ALL := in_ALL 584 rfl rfl
set_option maxRecDepth 100000 in
theorem w_570 : (Jvm.Cond.instanceMethod ({ cls := "Replen", name := "askForAll", desc := "(I)V" } : Jvm.MethodName)) ∈ ALL := in_ALL 586 rfl rfl
set_option maxRecDepth 100000 in
theorem w_571 : (Jvm.Cond.code ({ cls := "Replen", name := "askForAll", desc := "(I)V" } : Jvm.MethodName) prog_1_method_46_code (5 : Nat) (Option.none : Option Jvm.ClassFile.FieldType)) ∈ ALL := in_ALL 587 rfl rfl
set_option maxRecDepth 100000 in
theorem w_572 : (Jvm.Cond.methodLink "Replen" (287 : Nat) ({ cls := "Replen$Item", name := "wholePacks", desc := "()I" } : Jvm.MethodName)) ∈ ALL := in_ALL 588 rfl rfl
set_option maxRecDepth 100000 in
theorem w_573 : (Jvm.Cond.instanceMethod ({ cls := "Replen$Item", name := "wholePacks", desc := "()I" } : Jvm.MethodName)) ∈ ALL := in_ALL 589 rfl rfl
set_option maxRecDepth 100000 in
theorem w_574 : (Jvm.Cond.selects "Replen$Item" ({ cls := "Replen$Item", name := "wholePacks", desc := "()I" } : Jvm.MethodName) ({ cls := "Replen$Item", name := "wholePacks", desc := "()I" } : Jvm.MethodName)) ∈ ALL := in_ALL 590 rfl rfl
set_option maxRecDepth 100000 in
theorem w_575 : (Jvm.Cond.code ({ cls := "Replen$Item", name := "wholePacks", desc := "()I" } : Jvm.MethodName) prog_3_method_5_code (1 : Nat) (Option.some Jvm.ClassFile.FieldType.int)) ∈ ALL := in_ALL 591 rfl rfl
set_option maxRecDepth 100000 in
theorem w_576 : (Jvm.Cond.methodLink "Replen" (291 : Nat) ({ cls := "Replen$Sharing", name := "start", desc := "(I)V" } : Jvm.MethodName)) ∈ ALL := in_ALL 592 rfl rfl
set_option maxRecDepth 100000 in
theorem w_577 : (Jvm.Cond.instanceMethod ({ cls := "Replen$Sharing", name := "start", desc := "(I)V" } : Jvm.MethodName)) ∈ ALL := in_ALL 593 rfl rfl
set_option maxRecDepth 100000 in
theorem w_578 : (Jvm.Cond.selects "Replen$Sharing" ({ cls := "Replen$Sharing", name := "start", desc := "(I)V" } : Jvm.MethodName) ({ cls := "Replen$Sharing", name := "start", desc := "(I)V" } : Jvm.MethodName)) ∈ ALL := in_ALL 594 rfl rfl
set_option maxRecDepth 100000 in
theorem w_579 : (Jvm.Cond.code ({ cls := "Replen$Sharing", name := "start", desc := "(I)V" } : Jvm.MethodName) prog_6_method_2_code (3 : Nat) (Option.none : Option Jvm.ClassFile.FieldType)) ∈ ALL := in_ALL 595 rfl rfl
set_option maxRecDepth 100000 in
theorem w_580 : (Jvm.Cond.methodLink "Replen" (241 : Nat) ({ cls := "Replen$Line", name := "requestOn", desc := "(II)I" } : Jvm.MethodName)) ∈ ALL := in_ALL 596 rfl rfl
set_option maxRecDepth 100000 in
theorem w_581 : (Jvm.Cond.instanceMethod ({ cls := "Replen$Line", name := "requestOn", desc := "(II)I" } : Jvm.MethodName)) ∈ ALL := in_ALL 597 rfl rfl
set_option maxRecDepth 100000 in
theorem w_582 : (Jvm.Cond.selects "Replen$Line" ({ cls := "Replen$Line", name := "requestOn", desc := "(II)I" } : Jvm.MethodName) ({ cls := "Replen$Line", name := "requestOn", desc := "(II)I" } : Jvm.MethodName)) ∈ ALL := in_ALL 598 rfl rfl
set_option maxRecDepth 100000 in
theorem w_583 : (Jvm.Cond.code ({ cls := "Replen$Line", name := "requestOn", desc := "(II)I" } : Jvm.MethodName) prog_5_method_10_code (3 : Nat) (Option.some Jvm.ClassFile.FieldType.int)) ∈ ALL := in_ALL 599 rfl rfl
set_option maxRecDepth 100000 in
theorem w_584 : (Jvm.Cond.methodLink "Replen$Line" (113 : Nat) ({ cls := "Replen$Line", name := "needOn", desc := "(II)I" } : Jvm.MethodName)) ∈ ALL := in_ALL 600 rfl rfl
set_option maxRecDepth 100000 in
theorem w_585 : (Jvm.Cond.instanceMethod ({ cls := "Replen$Line", name := "needOn", desc := "(II)I" } : Jvm.MethodName)) ∈ ALL := in_ALL 601 rfl rfl
set_option maxRecDepth 100000 in
theorem w_586 : (Jvm.Cond.selects "Replen$Line" ({ cls := "Replen$Line", name := "needOn", desc := "(II)I" } : Jvm.MethodName) ({ cls := "Replen$Line", name := "needOn", desc := "(II)I" } : Jvm.MethodName)) ∈ ALL := in_ALL 602 rfl rfl
set_option maxRecDepth 100000 in
theorem w_587 : (Jvm.Cond.code ({ cls := "Replen$Line", name := "needOn", desc := "(II)I" } : Jvm.MethodName) prog_5_method_9_code (6 : Nat) (Option.some Jvm.ClassFile.FieldType.int)) ∈ ALL := in_ALL 603 rfl rfl
set_option maxRecDepth 100000 in
theorem w_588 : (Jvm.Cond.methodLink "Replen$Line" (100 : Nat) ({ cls := "Replen$Learner", name := "thousandthsFor", desc := "(I)I" } : Jvm.MethodName)) ∈ ALL := in_ALL 604 rfl rfl
set_option maxRecDepth 100000 in
theorem w_589 : (Jvm.Cond.constantLong "Replen$Line" (103 : Nat) (999 : Int64)) ∈ ALL := in_ALL 605 rfl rfl
set_option maxRecDepth 100000 in
theorem w_590 : (Jvm.Cond.constantLong "Replen$Line" (105 : Nat) (1000 : Int64)) ∈ ALL := in_ALL 606 rfl rfl
set_option maxRecDepth 100000 in
theorem w_591 : (Jvm.Cond.methodLink "Replen$Line" (107 : Nat) ({ cls := "Replen$Line", name := "safetyAt", desc := "(I)I" } : Jvm.MethodName)) ∈ ALL := in_ALL 607 rfl rfl
set_option maxRecDepth 100000 in
theorem w_592 : (Jvm.Cond.instanceMethod ({ cls := "Replen$Line", name := "safetyAt", desc := "(I)I" } : Jvm.MethodName)) ∈ ALL := in_ALL 608 rfl rfl
set_option maxRecDepth 100000 in
theorem w_593 : (Jvm.Cond.selects "Replen$Line" ({ cls := "Replen$Line", name := "safetyAt", desc := "(I)I" } : Jvm.MethodName) ({ cls := "Replen$Line", name := "safetyAt", desc := "(I)I" } : Jvm.MethodName)) ∈ ALL := in_ALL 609 rfl rfl
set_option maxRecDepth 100000 in
theorem w_594 : (Jvm.Cond.code ({ cls := "Replen$Line", name := "safetyAt", desc := "(I)I" } : Jvm.MethodName) prog_5_method_5_code (4 : Nat) (Option.some Jvm.ClassFile.FieldType.int)) ∈ ALL := in_ALL 610 rfl rfl
set_option maxRecDepth 100000 in
theorem w_595 : (Jvm.Cond.methodLink "Replen$Line" (110 : Nat) ({ cls := "Replen$Line", name := "dueAfter", desc := "(I)I" } : Jvm.MethodName)) ∈ ALL := in_ALL 611 rfl rfl
set_option maxRecDepth 100000 in
theorem w_596 : (Jvm.Cond.methodLink "Replen$Line" (116 : Nat) ({ cls := "Replen$Item", name := "packsFor", desc := "(I)I" } : Jvm.MethodName)) ∈ ALL := in_ALL 612 rfl rfl
set_option maxRecDepth 100000 in
theorem w_597 : (Jvm.Cond.instanceMethod ({ cls := "Replen$Item", name := "packsFor", desc := "(I)I" } : Jvm.MethodName)) ∈ ALL := in_ALL 613 rfl rfl
set_option maxRecDepth 100000 in
theorem w_598 : (Jvm.Cond.selects "Replen$Item" ({ cls := "Replen$Item", name := "packsFor", desc := "(I)I" } : Jvm.MethodName) ({ cls := "Replen$Item", name := "packsFor", desc := "(I)I" } : Jvm.MethodName)) ∈ ALL := in_ALL 614 rfl rfl
set_option maxRecDepth 100000 in
theorem w_599 : (Jvm.Cond.code ({ cls := "Replen$Item", name := "packsFor", desc := "(I)I" } : Jvm.MethodName) prog_3_method_6_code (2 : Nat) (Option.some Jvm.ClassFile.FieldType.int)) ∈ ALL := in_ALL 615 rfl rfl
set_option maxRecDepth 100000 in
theorem w_600 : (Jvm.Cond.methodLink "Replen" (292 : Nat) ({ cls := "Replen$Sharing", name := "ask", desc := "(II)V" } : Jvm.MethodName)) ∈ ALL := in_ALL 616 rfl rfl
set_option maxRecDepth 100000 in
theorem w_601 : (Jvm.Cond.instanceMethod ({ cls := "Replen$Sharing", name := "ask", desc := "(II)V" } : Jvm.MethodName)) ∈ ALL := in_ALL 617 rfl rfl
set_option maxRecDepth 100000 in
theorem w_602 : (Jvm.Cond.selects "Replen$Sharing" ({ cls := "Replen$Sharing", name := "ask", desc := "(II)V" } : Jvm.MethodName) ({ cls := "Replen$Sharing", name := "ask", desc := "(II)V" } : Jvm.MethodName)) ∈ ALL := in_ALL 618 rfl rfl
set_option maxRecDepth 100000 in
theorem w_603 : (Jvm.Cond.code ({ cls := "Replen$Sharing", name := "ask", desc := "(II)V" } : Jvm.MethodName) prog_6_method_3_code (3 : Nat) (Option.none : Option Jvm.ClassFile.FieldType)) ∈ ALL := in_ALL 619 rfl rfl
set_option maxRecDepth 100000 in
theorem w_604 : (Jvm.Cond.methodLink "Replen" (247 : Nat) ({ cls := "Replen$Sharing", name := "counted", desc := "(I)I" } : Jvm.MethodName)) ∈ ALL := in_ALL 620 rfl rfl
set_option maxRecDepth 100000 in
theorem w_605 : (Jvm.Cond.instanceMethod ({ cls := "Replen$Sharing", name := "counted", desc := "(I)I" } : Jvm.MethodName)) ∈ ALL := in_ALL 621 rfl rfl
set_option maxRecDepth 100000 in
theorem w_606 : (Jvm.Cond.selects "Replen$Sharing" ({ cls := "Replen$Sharing", name := "counted", desc := "(I)I" } : Jvm.MethodName) ({ cls := "Replen$Sharing", name := "counted", desc := "(I)I" } : Jvm.MethodName)) ∈ ALL := in_ALL 622 rfl rfl
set_option maxRecDepth 100000 in
theorem w_607 : (Jvm.Cond.code ({ cls := "Replen$Sharing", name := "counted", desc := "(I)I" } : Jvm.MethodName) prog_6_method_4_code (6 : Nat) (Option.some Jvm.ClassFile.FieldType.int)) ∈ ALL := in_ALL 623 rfl rfl
set_option maxRecDepth 100000 in
theorem w_608 : (Jvm.Cond.methodLink "Replen$Sharing" (22 : Nat) ({ cls := "Replen$Sharing", name := "givenAhead", desc := "(II)J" } : Jvm.MethodName)) ∈ ALL := in_ALL 624 rfl rfl
set_option maxRecDepth 100000 in
theorem w_610 : (Jvm.Cond.instanceMethod ({ cls := "Replen$Sharing", name := "givenAhead", desc := "(II)J" } : Jvm.MethodName)) ∈ ALL := in_ALL 626 rfl rfl
set_option maxRecDepth 100000 in
theorem w_611 : (Jvm.Cond.code ({ cls := "Replen$Sharing", name := "givenAhead", desc := "(II)J" } : Jvm.MethodName) prog_6_method_5_code (10 : Nat) (Option.some Jvm.ClassFile.FieldType.long)) ∈ ALL := in_ALL 627 rfl rfl
set_option maxRecDepth 100000 in
theorem w_612 : (Jvm.Cond.methodLink "Replen" (295 : Nat) ({ cls := "Replen$Line", name := "send", desc := "(II)V" } : Jvm.MethodName)) ∈ ALL := in_ALL 628 rfl rfl
set_option maxRecDepth 100000 in
theorem w_613 : (Jvm.Cond.instanceMethod ({ cls := "Replen$Line", name := "send", desc := "(II)V" } : Jvm.MethodName)) ∈ ALL := in_ALL 629 rfl rfl
set_option maxRecDepth 100000 in
theorem w_614 : (Jvm.Cond.selects "Replen$Line" ({ cls := "Replen$Line", name := "send", desc := "(II)V" } : Jvm.MethodName) ({ cls := "Replen$Line", name := "send", desc := "(II)V" } : Jvm.MethodName)) ∈ ALL := in_ALL 630 rfl rfl
set_option maxRecDepth 100000 in
theorem w_615 : (Jvm.Cond.code ({ cls := "Replen$Line", name := "send", desc := "(II)V" } : Jvm.MethodName) prog_5_method_7_code (4 : Nat) (Option.none : Option Jvm.ClassFile.FieldType)) ∈ ALL := in_ALL 631 rfl rfl
set_option maxRecDepth 100000 in
theorem w_616 : (Jvm.Cond.methodLink "Replen$Line" (97 : Nat) ({ cls := "Replen$Item", name := "giveOut", desc := "(II)V" } : Jvm.MethodName)) ∈ ALL := in_ALL 632 rfl rfl
set_option maxRecDepth 100000 in
theorem w_617 : (Jvm.Cond.instanceMethod ({ cls := "Replen$Item", name := "giveOut", desc := "(II)V" } : Jvm.MethodName)) ∈ ALL := in_ALL 633 rfl rfl
set_option maxRecDepth 100000 in
theorem w_618 : (Jvm.Cond.selects "Replen$Item" ({ cls := "Replen$Item", name := "giveOut", desc := "(II)V" } : Jvm.MethodName) ({ cls := "Replen$Item", name := "giveOut", desc := "(II)V" } : Jvm.MethodName)) ∈ ALL := in_ALL 634 rfl rfl
set_option maxRecDepth 100000 in
theorem w_619 : (Jvm.Cond.code ({ cls := "Replen$Item", name := "giveOut", desc := "(II)V" } : Jvm.MethodName) prog_3_method_4_code (3 : Nat) (Option.none : Option Jvm.ClassFile.FieldType)) ∈ ALL := in_ALL 635 rfl rfl
set_option maxRecDepth 100000 in
theorem w_620 : (Jvm.Cond.methodLink "ReplenLaw" (161 : Nat) ({ cls := "ReplenLaw", name := "demandToday", desc := "(LReplen;II)I" } : Jvm.MethodName)) ∈ ALL := in_ALL 636 rfl rfl
set_option maxRecDepth 100000 in
theorem w_621 : (Jvm.Cond.static ({ cls := "ReplenLaw", name := "demandToday", desc := "(LReplen;II)I" } : Jvm.MethodName)) ∈ ALL := in_ALL 637 rfl rfl
set_option maxRecDepth 100000 in
theorem w_622 : (Jvm.Cond.codeWith ({ cls := "ReplenLaw", name := "demandToday", desc := "(LReplen;II)I" } : Jvm.MethodName) method_15_code (4 : Nat) (Option.some Jvm.ClassFile.FieldType.int) [((0 : Nat), (6 : Nat), (7 : Nat), (32 : Nat)), ((0 : Nat), (6 : Nat), (11 : Nat), (57 : Nat))]) ∈ ALL := in_ALL 638 rfl rfl
set_option maxRecDepth 100000 in
theorem w_623 : (Jvm.Cond.methodLink "ReplenLaw" (65 : Nat) ({ cls := "Replen", name := "demandToday", desc := "(II)I" } : Jvm.MethodName)) ∈ ALL := in_ALL 639 rfl rfl
set_option maxRecDepth 100000 in
theorem w_624 : (Jvm.Cond.instanceMethod ({ cls := "Replen", name := "demandToday", desc := "(II)I" } : Jvm.MethodName)) ∈ ALL := in_ALL 640 rfl rfl
set_option maxRecDepth 100000 in
theorem w_625 : (Jvm.Cond.selects "Replen" ({ cls := "Replen", name := "demandToday", desc := "(II)I" } : Jvm.MethodName) ({ cls := "Replen", name := "demandToday", desc := "(II)I" } : Jvm.MethodName)) ∈ ALL := in_ALL 641 rfl rfl
set_option maxRecDepth 100000 in
theorem w_626 : (Jvm.Cond.code ({ cls := "Replen", name := "demandToday", desc := "(II)I" } : Jvm.MethodName) prog_1_method_14_code (3 : Nat) (Option.some Jvm.ClassFile.FieldType.int)) ∈ ALL := in_ALL 642 rfl rfl
set_option maxRecDepth 100000 in
theorem w_627 : (Jvm.Cond.methodLink "ReplenLaw" (141 : Nat) ({ cls := "ReplenLaw", name := "level", desc := "(LReplen;II)I" } : Jvm.MethodName)) ∈ ALL := in_ALL 643 rfl rfl
set_option maxRecDepth 100000 in
theorem w_628 : (Jvm.Cond.static ({ cls := "ReplenLaw", name := "level", desc := "(LReplen;II)I" } : Jvm.MethodName)) ∈ ALL := in_ALL 644 rfl rfl
set_option maxRecDepth 100000 in
theorem w_629 : (Jvm.Cond.codeWith ({ cls := "ReplenLaw", name := "level", desc := "(LReplen;II)I" } : Jvm.MethodName) method_16_code (4 : Nat) (Option.some Jvm.ClassFile.FieldType.int) [((0 : Nat), (6 : Nat), (7 : Nat), (32 : Nat)), ((0 : Nat), (6 : Nat), (11 : Nat), (57 : Nat))]) ∈ ALL := in_ALL 645 rfl rfl
set_option maxRecDepth 100000 in
theorem w_630 : (Jvm.Cond.methodLink "ReplenLaw" (68 : Nat) ({ cls := "Replen", name := "level", desc := "(II)I" } : Jvm.MethodName)) ∈ ALL := in_ALL 646 rfl rfl
set_option maxRecDepth 100000 in
theorem w_631 : (Jvm.Cond.instanceMethod ({ cls := "Replen", name := "level", desc := "(II)I" } : Jvm.MethodName)) ∈ ALL := in_ALL 647 rfl rfl
set_option maxRecDepth 100000 in
theorem w_632 : (Jvm.Cond.selects "Replen" ({ cls := "Replen", name := "level", desc := "(II)I" } : Jvm.MethodName) ({ cls := "Replen", name := "level", desc := "(II)I" } : Jvm.MethodName)) ∈ ALL := in_ALL 648 rfl rfl
set_option maxRecDepth 100000 in
theorem w_633 : (Jvm.Cond.code ({ cls := "Replen", name := "level", desc := "(II)I" } : Jvm.MethodName) prog_1_method_15_code (3 : Nat) (Option.some Jvm.ClassFile.FieldType.int)) ∈ ALL := in_ALL 649 rfl rfl
set_option maxRecDepth 100000 in
theorem w_634 : (Jvm.Cond.methodLink "ReplenLaw" (143 : Nat) ({ cls := "ReplenLaw", name := "season", desc := "(LReplen;III)I" } : Jvm.MethodName)) ∈ ALL := in_ALL 650 rfl rfl
set_option maxRecDepth 100000 in
theorem w_635 : (Jvm.Cond.static ({ cls := "ReplenLaw", name := "season", desc := "(LReplen;III)I" } : Jvm.MethodName)) ∈ ALL := in_ALL 651 rfl rfl
set_option maxRecDepth 100000 in
theorem w_636 : (Jvm.Cond.codeWith ({ cls := "ReplenLaw", name := "season", desc := "(LReplen;III)I" } : Jvm.MethodName) method_18_code (5 : Nat) (Option.some Jvm.ClassFile.FieldType.int) [((0 : Nat), (7 : Nat), (8 : Nat), (32 : Nat)), ((0 : Nat), (7 : Nat), (13 : Nat), (57 : Nat)), ((0 : Nat), (7 : Nat), (18 : Nat), (20 : Nat))]) ∈ ALL := in_ALL 652 rfl rfl
set_option maxRecDepth 100000 in
theorem w_637 : (Jvm.Cond.methodLink "ReplenLaw" (74 : Nat) ({ cls := "Replen", name := "season", desc := "(III)I" } : Jvm.MethodName)) ∈ ALL := in_ALL 653 rfl rfl
set_option maxRecDepth 100000 in
theorem w_638 : (Jvm.Cond.instanceMethod ({ cls := "Replen", name := "season", desc := "(III)I" } : Jvm.MethodName)) ∈ ALL := in_ALL 654 rfl rfl
set_option maxRecDepth 100000 in
theorem w_639 : (Jvm.Cond.selects "Replen" ({ cls := "Replen", name := "season", desc := "(III)I" } : Jvm.MethodName) ({ cls := "Replen", name := "season", desc := "(III)I" } : Jvm.MethodName)) ∈ ALL := in_ALL 655 rfl rfl
set_option maxRecDepth 100000 in
theorem w_640 : (Jvm.Cond.code ({ cls := "Replen", name := "season", desc := "(III)I" } : Jvm.MethodName) prog_1_method_17_code (5 : Nat) (Option.some Jvm.ClassFile.FieldType.int)) ∈ ALL := in_ALL 656 rfl rfl
set_option maxRecDepth 100000 in
theorem w_642 : (Jvm.Cond.methodLink "Replen" (207 : Nat) ({ cls := "Replen$Learner", name := "seasonOf", desc := "(I)I" } : Jvm.MethodName)) ∈ ALL := in_ALL 658 rfl rfl
set_option maxRecDepth 100000 in
theorem w_643 : (Jvm.Cond.methodLink "ReplenLaw" (139 : Nat) ({ cls := "ReplenLaw", name := "stock", desc := "(LReplen;II)I" } : Jvm.MethodName)) ∈ ALL := in_ALL 659 rfl rfl
set_option maxRecDepth 100000 in
theorem w_644 : (Jvm.Cond.static ({ cls := "ReplenLaw", name := "stock", desc := "(LReplen;II)I" } : Jvm.MethodName)) ∈ ALL := in_ALL 660 rfl rfl
set_option maxRecDepth 100000 in
theorem w_645 : (Jvm.Cond.codeWith ({ cls := "ReplenLaw", name := "stock", desc := "(LReplen;II)I" } : Jvm.MethodName) method_22_code (4 : Nat) (Option.some Jvm.ClassFile.FieldType.int) [((0 : Nat), (6 : Nat), (7 : Nat), (32 : Nat)), ((0 : Nat), (6 : Nat), (11 : Nat), (57 : Nat))]) ∈ ALL := in_ALL 661 rfl rfl
set_option maxRecDepth 100000 in
theorem w_646 : (Jvm.Cond.methodLink "ReplenLaw" (86 : Nat) ({ cls := "Replen", name := "stock", desc := "(II)I" } : Jvm.MethodName)) ∈ ALL := in_ALL 662 rfl rfl
set_option maxRecDepth 100000 in
theorem w_647 : (Jvm.Cond.instanceMethod ({ cls := "Replen", name := "stock", desc := "(II)I" } : Jvm.MethodName)) ∈ ALL := in_ALL 663 rfl rfl
set_option maxRecDepth 100000 in
theorem w_648 : (Jvm.Cond.selects "Replen" ({ cls := "Replen", name := "stock", desc := "(II)I" } : Jvm.MethodName) ({ cls := "Replen", name := "stock", desc := "(II)I" } : Jvm.MethodName)) ∈ ALL := in_ALL 664 rfl rfl
set_option maxRecDepth 100000 in
theorem w_649 : (Jvm.Cond.code ({ cls := "Replen", name := "stock", desc := "(II)I" } : Jvm.MethodName) prog_1_method_21_code (3 : Nat) (Option.some Jvm.ClassFile.FieldType.int)) ∈ ALL := in_ALL 665 rfl rfl
set_option maxRecDepth 100000 in
theorem w_650 : (Jvm.Cond.methodLink "ReplenLaw" (148 : Nat) ({ cls := "ReplenLaw", name := "centre", desc := "(LReplen;I)I" } : Jvm.MethodName)) ∈ ALL := in_ALL 666 rfl rfl
set_option maxRecDepth 100000 in
theorem w_651 : (Jvm.Cond.static ({ cls := "ReplenLaw", name := "centre", desc := "(LReplen;I)I" } : Jvm.MethodName)) ∈ ALL := in_ALL 667 rfl rfl
set_option maxRecDepth 100000 in
theorem w_652 : (Jvm.Cond.codeWith ({ cls := "ReplenLaw", name := "centre", desc := "(LReplen;I)I" } : Jvm.MethodName) method_30_code (3 : Nat) (Option.some Jvm.ClassFile.FieldType.int) [((0 : Nat), (5 : Nat), (6 : Nat), (32 : Nat))]) ∈ ALL := in_ALL 668 rfl rfl
set_option maxRecDepth 100000 in
theorem w_653 : (Jvm.Cond.methodLink "ReplenLaw" (110 : Nat) ({ cls := "Replen", name := "centre", desc := "(I)I" } : Jvm.MethodName)) ∈ ALL := in_ALL 669 rfl rfl
set_option maxRecDepth 100000 in
theorem w_654 : (Jvm.Cond.instanceMethod ({ cls := "Replen", name := "centre", desc := "(I)I" } : Jvm.MethodName)) ∈ ALL := in_ALL 670 rfl rfl
set_option maxRecDepth 100000 in
theorem w_655 : (Jvm.Cond.selects "Replen" ({ cls := "Replen", name := "centre", desc := "(I)I" } : Jvm.MethodName) ({ cls := "Replen", name := "centre", desc := "(I)I" } : Jvm.MethodName)) ∈ ALL := in_ALL 671 rfl rfl
set_option maxRecDepth 100000 in
theorem w_656 : (Jvm.Cond.code ({ cls := "Replen", name := "centre", desc := "(I)I" } : Jvm.MethodName) prog_1_method_29_code (2 : Nat) (Option.some Jvm.ClassFile.FieldType.int)) ∈ ALL := in_ALL 672 rfl rfl
set_option maxRecDepth 100000 in
theorem w_657 : (Jvm.Cond.methodLink "ReplenLaw" (163 : Nat) ({ cls := "ReplenLaw", name := "lost", desc := "(LReplen;II)I" } : Jvm.MethodName)) ∈ ALL := in_ALL 673 rfl rfl
set_option maxRecDepth 100000 in
theorem w_658 : (Jvm.Cond.static ({ cls := "ReplenLaw", name := "lost", desc := "(LReplen;II)I" } : Jvm.MethodName)) ∈ ALL := in_ALL 674 rfl rfl
set_option maxRecDepth 100000 in
theorem w_659 : (Jvm.Cond.codeWith ({ cls := "ReplenLaw", name := "lost", desc := "(LReplen;II)I" } : Jvm.MethodName) method_32_code (4 : Nat) (Option.some Jvm.ClassFile.FieldType.int) [((0 : Nat), (6 : Nat), (7 : Nat), (32 : Nat)), ((0 : Nat), (6 : Nat), (11 : Nat), (57 : Nat))]) ∈ ALL := in_ALL 675 rfl rfl
set_option maxRecDepth 100000 in
theorem w_660 : (Jvm.Cond.methodLink "ReplenLaw" (116 : Nat) ({ cls := "Replen", name := "lost", desc := "(II)I" } : Jvm.MethodName)) ∈ ALL := in_ALL 676 rfl rfl
set_option maxRecDepth 100000 in
theorem w_661 : (Jvm.Cond.instanceMethod ({ cls := "Replen", name := "lost", desc := "(II)I" } : Jvm.MethodName)) ∈ ALL := in_ALL 677 rfl rfl
set_option maxRecDepth 100000 in
theorem w_662 : (Jvm.Cond.selects "Replen" ({ cls := "Replen", name := "lost", desc := "(II)I" } : Jvm.MethodName) ({ cls := "Replen", name := "lost", desc := "(II)I" } : Jvm.MethodName)) ∈ ALL := in_ALL 678 rfl rfl
set_option maxRecDepth 100000 in
theorem w_663 : (Jvm.Cond.code ({ cls := "Replen", name := "lost", desc := "(II)I" } : Jvm.MethodName) prog_1_method_32_code (3 : Nat) (Option.some Jvm.ClassFile.FieldType.int)) ∈ ALL := in_ALL 679 rfl rfl
set_option maxRecDepth 100000 in
theorem w_664 : (Jvm.Cond.methodLink "ReplenLaw" (130 : Nat) ({ cls := "ReplenLaw", name := "sum", desc := "(LReplen;)J" } : Jvm.MethodName)) ∈ ALL := in_ALL 680 rfl rfl
set_option maxRecDepth 100000 in
theorem w_665 : (Jvm.Cond.static ({ cls := "ReplenLaw", name := "sum", desc := "(LReplen;)J" } : Jvm.MethodName)) ∈ ALL := in_ALL 681 rfl rfl
set_option maxRecDepth 100000 in
theorem w_666 : (Jvm.Cond.code ({ cls := "ReplenLaw", name := "sum", desc := "(LReplen;)J" } : Jvm.MethodName) method_34_code (6 : Nat) (Option.some Jvm.ClassFile.FieldType.long)) ∈ ALL := in_ALL 682 rfl rfl
set_option maxRecDepth 100000 in
theorem w_667 : (Jvm.Cond.constantLong "ReplenLaw" (187 : Nat) (31 : Int64)) ∈ ALL := in_ALL 683 rfl rfl
set_option maxRecDepth 100000 in
theorem w_668 : (Jvm.Cond.constantLong "ReplenLaw" (189 : Nat) (7 : Int64)) ∈ ALL := in_ALL 684 rfl rfl
set_option maxRecDepth 100000 in
theorem w_669 : (Jvm.Cond.constantLong "ReplenLaw" (191 : Nat) (11 : Int64)) ∈ ALL := in_ALL 685 rfl rfl
set_option maxRecDepth 100000 in
theorem w_670 : (Jvm.Cond.methodLink "ReplenLaw" (193 : Nat) ({ cls := "ReplenLaw", name := "share", desc := "(LReplen;II)I" } : Jvm.MethodName)) ∈ ALL := in_ALL 686 rfl rfl
set_option maxRecDepth 100000 in
theorem w_671 : (Jvm.Cond.static ({ cls := "ReplenLaw", name := "share", desc := "(LReplen;II)I" } : Jvm.MethodName)) ∈ ALL := in_ALL 687 rfl rfl
set_option maxRecDepth 100000 in
theorem w_672 : (Jvm.Cond.codeWith ({ cls := "ReplenLaw", name := "share", desc := "(LReplen;II)I" } : Jvm.MethodName) method_28_code (4 : Nat) (Option.some Jvm.ClassFile.FieldType.int) [((0 : Nat), (6 : Nat), (7 : Nat), (32 : Nat)), ((0 : Nat), (6 : Nat), (11 : Nat), (57 : Nat))]) ∈ ALL := in_ALL 688 rfl rfl
set_option maxRecDepth 100000 in
theorem w_673 : (Jvm.Cond.methodLink "ReplenLaw" (104 : Nat) ({ cls := "Replen", name := "share", desc := "(II)I" } : Jvm.MethodName)) ∈ ALL := in_ALL 689 rfl rfl
set_option maxRecDepth 100000 in
theorem w_674 : (Jvm.Cond.instanceMethod ({ cls := "Replen", name := "share", desc := "(II)I" } : Jvm.MethodName)) ∈ ALL := in_ALL 690 rfl rfl
set_option maxRecDepth 100000 in
theorem w_675 : (Jvm.Cond.selects "Replen" ({ cls := "Replen", name := "share", desc := "(II)I" } : Jvm.MethodName) ({ cls := "Replen", name := "share", desc := "(II)I" } : Jvm.MethodName)) ∈ ALL := in_ALL 691 rfl rfl
set_option maxRecDepth 100000 in
theorem w_676 : (Jvm.Cond.code ({ cls := "Replen", name := "share", desc := "(II)I" } : Jvm.MethodName) prog_1_method_27_code (3 : Nat) (Option.some Jvm.ClassFile.FieldType.int)) ∈ ALL := in_ALL 692 rfl rfl
set_option maxRecDepth 100000 in
theorem w_677 : (Jvm.Cond.constantLong "ReplenLaw" (195 : Nat) (13 : Int64)) ∈ ALL := in_ALL 693 rfl rfl
set_option maxRecDepth 100000 in
theorem w_678 : (Jvm.Cond.methodLink "ReplenLaw" (197 : Nat) ({ cls := "ReplenLaw", name := "need", desc := "(LReplen;II)I" } : Jvm.MethodName)) ∈ ALL := in_ALL 694 rfl rfl
set_option maxRecDepth 100000 in
theorem w_679 : (Jvm.Cond.static ({ cls := "ReplenLaw", name := "need", desc := "(LReplen;II)I" } : Jvm.MethodName)) ∈ ALL := in_ALL 695 rfl rfl
set_option maxRecDepth 100000 in
theorem w_680 : (Jvm.Cond.codeWith ({ cls := "ReplenLaw", name := "need", desc := "(LReplen;II)I" } : Jvm.MethodName) method_26_code (4 : Nat) (Option.some Jvm.ClassFile.FieldType.int) [((0 : Nat), (6 : Nat), (7 : Nat), (32 : Nat)), ((0 : Nat), (6 : Nat), (11 : Nat), (57 : Nat))]) ∈ ALL := in_ALL 696 rfl rfl
set_option maxRecDepth 100000 in
theorem w_681 : (Jvm.Cond.methodLink "ReplenLaw" (98 : Nat) ({ cls := "Replen", name := "need", desc := "(II)I" } : Jvm.MethodName)) ∈ ALL := in_ALL 697 rfl rfl
set_option maxRecDepth 100000 in
theorem w_682 : (Jvm.Cond.instanceMethod ({ cls := "Replen", name := "need", desc := "(II)I" } : Jvm.MethodName)) ∈ ALL := in_ALL 698 rfl rfl
set_option maxRecDepth 100000 in
theorem w_683 : (Jvm.Cond.selects "Replen" ({ cls := "Replen", name := "need", desc := "(II)I" } : Jvm.MethodName) ({ cls := "Replen", name := "need", desc := "(II)I" } : Jvm.MethodName)) ∈ ALL := in_ALL 699 rfl rfl
set_option maxRecDepth 100000 in
theorem w_684 : (Jvm.Cond.code ({ cls := "Replen", name := "need", desc := "(II)I" } : Jvm.MethodName) prog_1_method_25_code (3 : Nat) (Option.some Jvm.ClassFile.FieldType.int)) ∈ ALL := in_ALL 700 rfl rfl
set_option maxRecDepth 100000 in
theorem w_685 : (Jvm.Cond.methodLink "Replen" (238 : Nat) ({ cls := "Replen$Line", name := "needOn", desc := "(II)I" } : Jvm.MethodName)) ∈ ALL := in_ALL 701 rfl rfl
set_option maxRecDepth 100000 in
theorem w_686 : (Jvm.Cond.constantLong "ReplenLaw" (199 : Nat) (17 : Int64)) ∈ ALL := in_ALL 702 rfl rfl
set_option maxRecDepth 100000 in
theorem w_687 : (Jvm.Cond.methodLink "ReplenLaw" (201 : Nat) ({ cls := "ReplenLaw", name := "onWay", desc := "(LReplen;II)I" } : Jvm.MethodName)) ∈ ALL := in_ALL 703 rfl rfl
set_option maxRecDepth 100000 in
theorem w_688 : (Jvm.Cond.static ({ cls := "ReplenLaw", name := "onWay", desc := "(LReplen;II)I" } : Jvm.MethodName)) ∈ ALL := in_ALL 704 rfl rfl
set_option maxRecDepth 100000 in
theorem w_689 : (Jvm.Cond.codeWith ({ cls := "ReplenLaw", name := "onWay", desc := "(LReplen;II)I" } : Jvm.MethodName) method_24_code (4 : Nat) (Option.some Jvm.ClassFile.FieldType.int) [((0 : Nat), (6 : Nat), (7 : Nat), (32 : Nat)), ((0 : Nat), (6 : Nat), (11 : Nat), (57 : Nat))]) ∈ ALL := in_ALL 705 rfl rfl
set_option maxRecDepth 100000 in
theorem w_690 : (Jvm.Cond.methodLink "ReplenLaw" (92 : Nat) ({ cls := "Replen", name := "onWay", desc := "(II)I" } : Jvm.MethodName)) ∈ ALL := in_ALL 706 rfl rfl
set_option maxRecDepth 100000 in
theorem w_691 : (Jvm.Cond.instanceMethod ({ cls := "Replen", name := "onWay", desc := "(II)I" } : Jvm.MethodName)) ∈ ALL := in_ALL 707 rfl rfl
set_option maxRecDepth 100000 in
theorem w_692 : (Jvm.Cond.selects "Replen" ({ cls := "Replen", name := "onWay", desc := "(II)I" } : Jvm.MethodName) ({ cls := "Replen", name := "onWay", desc := "(II)I" } : Jvm.MethodName)) ∈ ALL := in_ALL 708 rfl rfl
set_option maxRecDepth 100000 in
theorem w_693 : (Jvm.Cond.code ({ cls := "Replen", name := "onWay", desc := "(II)I" } : Jvm.MethodName) prog_1_method_23_code (3 : Nat) (Option.some Jvm.ClassFile.FieldType.int)) ∈ ALL := in_ALL 709 rfl rfl
set_option maxRecDepth 100000 in
theorem w_694 : (Jvm.Cond.methodLink "ReplenLaw" (175 : Nat) ({ cls := "ReplenLaw", name := "areEven", desc := "(LReplen;[II)Z" } : Jvm.MethodName)) ∈ ALL := in_ALL 710 rfl rfl
set_option maxRecDepth 100000 in
theorem w_695 : (Jvm.Cond.static ({ cls := "ReplenLaw", name := "areEven", desc := "(LReplen;[II)Z" } : Jvm.MethodName)) ∈ ALL := in_ALL 711 rfl rfl
set_option maxRecDepth 100000 in
theorem w_696 : (Jvm.Cond.code ({ cls := "ReplenLaw", name := "areEven", desc := "(LReplen;[II)Z" } : Jvm.MethodName) method_35_code (7 : Nat) (Option.some Jvm.ClassFile.FieldType.boolean)) ∈ ALL := in_ALL 712 rfl rfl
set_option maxRecDepth 100000 in
theorem w_697 : (Jvm.Cond.methodLink "ReplenLaw" (203 : Nat) ({ cls := "ReplenLaw", name := "nextArrival", desc := "(LReplen;II)I" } : Jvm.MethodName)) ∈ ALL := in_ALL 713 rfl rfl
set_option maxRecDepth 100000 in
theorem w_698 : (Jvm.Cond.static ({ cls := "ReplenLaw", name := "nextArrival", desc := "(LReplen;II)I" } : Jvm.MethodName)) ∈ ALL := in_ALL 714 rfl rfl
set_option maxRecDepth 100000 in
theorem w_699 : (Jvm.Cond.codeWith ({ cls := "ReplenLaw", name := "nextArrival", desc := "(LReplen;II)I" } : Jvm.MethodName) method_25_code (4 : Nat) (Option.some Jvm.ClassFile.FieldType.int) [((0 : Nat), (6 : Nat), (7 : Nat), (32 : Nat)), ((0 : Nat), (6 : Nat), (11 : Nat), (57 : Nat))]) ∈ ALL := in_ALL 715 rfl rfl
set_option maxRecDepth 100000 in
theorem w_700 : (Jvm.Cond.methodLink "ReplenLaw" (95 : Nat) ({ cls := "Replen", name := "nextArrival", desc := "(II)I" } : Jvm.MethodName)) ∈ ALL := in_ALL 716 rfl rfl
set_option maxRecDepth 100000 in
theorem w_701 : (Jvm.Cond.instanceMethod ({ cls := "Replen", name := "nextArrival", desc := "(II)I" } : Jvm.MethodName)) ∈ ALL := in_ALL 717 rfl rfl
set_option maxRecDepth 100000 in
theorem w_702 : (Jvm.Cond.selects "Replen" ({ cls := "Replen", name := "nextArrival", desc := "(II)I" } : Jvm.MethodName) ({ cls := "Replen", name := "nextArrival", desc := "(II)I" } : Jvm.MethodName)) ∈ ALL := in_ALL 718 rfl rfl
set_option maxRecDepth 100000 in
theorem w_703 : (Jvm.Cond.code ({ cls := "Replen", name := "nextArrival", desc := "(II)I" } : Jvm.MethodName) prog_1_method_24_code (4 : Nat) (Option.some Jvm.ClassFile.FieldType.int)) ∈ ALL := in_ALL 719 rfl rfl
set_option maxRecDepth 100000 in
theorem w_704 : (Jvm.Cond.methodLink "Replen" (230 : Nat) ({ cls := "Replen$Line", name := "firstDueAfter", desc := "(I)I" } : Jvm.MethodName)) ∈ ALL := in_ALL 720 rfl rfl
set_option maxRecDepth 100000 in
theorem w_705 : (Jvm.Cond.instanceMethod ({ cls := "Replen$Line", name := "firstDueAfter", desc := "(I)I" } : Jvm.MethodName)) ∈ ALL := in_ALL 721 rfl rfl
set_option maxRecDepth 100000 in
theorem w_706 : (Jvm.Cond.selects "Replen$Line" ({ cls := "Replen$Line", name := "firstDueAfter", desc := "(I)I" } : Jvm.MethodName) ({ cls := "Replen$Line", name := "firstDueAfter", desc := "(I)I" } : Jvm.MethodName)) ∈ ALL := in_ALL 722 rfl rfl
set_option maxRecDepth 100000 in
theorem w_707 : (Jvm.Cond.code ({ cls := "Replen$Line", name := "firstDueAfter", desc := "(I)I" } : Jvm.MethodName) prog_5_method_8_code (3 : Nat) (Option.some Jvm.ClassFile.FieldType.int)) ∈ ALL := in_ALL 723 rfl rfl
set_option maxRecDepth 100000 in
theorem w_709 : (Jvm.Cond.methodLink "ReplenLaw" (183 : Nat) ({ cls := "ReplenLaw", name := "areLines", desc := "(LReplen;[I[I[I)Z" } : Jvm.MethodName)) ∈ ALL := in_ALL 725 rfl rfl
set_option maxRecDepth 100000 in
theorem w_710 : (Jvm.Cond.static ({ cls := "ReplenLaw", name := "areLines", desc := "(LReplen;[I[I[I)Z" } : Jvm.MethodName)) ∈ ALL := in_ALL 726 rfl rfl
set_option maxRecDepth 100000 in
theorem w_711 : (Jvm.Cond.code ({ cls := "ReplenLaw", name := "areLines", desc := "(LReplen;[I[I[I)Z" } : Jvm.MethodName) method_36_code (13 : Nat) (Option.some Jvm.ClassFile.FieldType.boolean)) ∈ ALL := in_ALL 727 rfl rfl
set_option maxRecDepth 100000 in
theorem w_712 : (Jvm.Cond.methodLink "ReplenLaw" (205 : Nat) ({ cls := "ReplenLaw", name := "request", desc := "(LReplen;II)I" } : Jvm.MethodName)) ∈ ALL := in_ALL 728 rfl rfl
set_option maxRecDepth 100000 in
theorem w_713 : (Jvm.Cond.static ({ cls := "ReplenLaw", name := "request", desc := "(LReplen;II)I" } : Jvm.MethodName)) ∈ ALL := in_ALL 729 rfl rfl
set_option maxRecDepth 100000 in
theorem w_714 : (Jvm.Cond.codeWith ({ cls := "ReplenLaw", name := "request", desc := "(LReplen;II)I" } : Jvm.MethodName) method_27_code (4 : Nat) (Option.some Jvm.ClassFile.FieldType.int) [((0 : Nat), (6 : Nat), (7 : Nat), (32 : Nat)), ((0 : Nat), (6 : Nat), (11 : Nat), (57 : Nat))]) ∈ ALL := in_ALL 730 rfl rfl
set_option maxRecDepth 100000 in
theorem w_715 : (Jvm.Cond.methodLink "ReplenLaw" (101 : Nat) ({ cls := "Replen", name := "request", desc := "(II)I" } : Jvm.MethodName)) ∈ ALL := in_ALL 731 rfl rfl
set_option maxRecDepth 100000 in
theorem w_716 : (Jvm.Cond.instanceMethod ({ cls := "Replen", name := "request", desc := "(II)I" } : Jvm.MethodName)) ∈ ALL := in_ALL 732 rfl rfl
set_option maxRecDepth 100000 in
theorem w_717 : (Jvm.Cond.selects "Replen" ({ cls := "Replen", name := "request", desc := "(II)I" } : Jvm.MethodName) ({ cls := "Replen", name := "request", desc := "(II)I" } : Jvm.MethodName)) ∈ ALL := in_ALL 733 rfl rfl
set_option maxRecDepth 100000 in
theorem w_718 : (Jvm.Cond.code ({ cls := "Replen", name := "request", desc := "(II)I" } : Jvm.MethodName) prog_1_method_26_code (3 : Nat) (Option.some Jvm.ClassFile.FieldType.int)) ∈ ALL := in_ALL 734 rfl rfl
set_option maxRecDepth 100000 in
theorem w_719 : (Jvm.Cond.methodLink "ReplenLaw" (207 : Nat) ({ cls := "ReplenLaw", name := "shareByPacks", desc := "(LReplen;II)I" } : Jvm.MethodName)) ∈ ALL := in_ALL 735 rfl rfl
set_option maxRecDepth 100000 in
theorem w_720 : (Jvm.Cond.static ({ cls := "ReplenLaw", name := "shareByPacks", desc := "(LReplen;II)I" } : Jvm.MethodName)) ∈ ALL := in_ALL 736 rfl rfl
set_option maxRecDepth 100000 in
theorem w_721 : (Jvm.Cond.codeWith ({ cls := "ReplenLaw", name := "shareByPacks", desc := "(LReplen;II)I" } : Jvm.MethodName) method_29_code (4 : Nat) (Option.some Jvm.ClassFile.FieldType.int) [((0 : Nat), (6 : Nat), (7 : Nat), (32 : Nat)), ((0 : Nat), (6 : Nat), (11 : Nat), (57 : Nat))]) ∈ ALL := in_ALL 737 rfl rfl
set_option maxRecDepth 100000 in
theorem w_722 : (Jvm.Cond.methodLink "ReplenLaw" (107 : Nat) ({ cls := "Replen", name := "shareByPacks", desc := "(II)I" } : Jvm.MethodName)) ∈ ALL := in_ALL 738 rfl rfl
set_option maxRecDepth 100000 in
theorem w_723 : (Jvm.Cond.instanceMethod ({ cls := "Replen", name := "shareByPacks", desc := "(II)I" } : Jvm.MethodName)) ∈ ALL := in_ALL 739 rfl rfl
set_option maxRecDepth 100000 in
theorem w_724 : (Jvm.Cond.selects "Replen" ({ cls := "Replen", name := "shareByPacks", desc := "(II)I" } : Jvm.MethodName) ({ cls := "Replen", name := "shareByPacks", desc := "(II)I" } : Jvm.MethodName)) ∈ ALL := in_ALL 740 rfl rfl
set_option maxRecDepth 100000 in
theorem w_725 : (Jvm.Cond.code ({ cls := "Replen", name := "shareByPacks", desc := "(II)I" } : Jvm.MethodName) prog_1_method_28_code (3 : Nat) (Option.some Jvm.ClassFile.FieldType.int)) ∈ ALL := in_ALL 741 rfl rfl
set_option maxRecDepth 100000 in
theorem w_726 : (Jvm.Cond.methodLink "Replen" (250 : Nat) ({ cls := "Replen$Sharing", name := "handedOut", desc := "(I)I" } : Jvm.MethodName)) ∈ ALL := in_ALL 742 rfl rfl
set_option maxRecDepth 100000 in
theorem w_727 : (Jvm.Cond.instanceMethod ({ cls := "Replen$Sharing", name := "handedOut", desc := "(I)I" } : Jvm.MethodName)) ∈ ALL := in_ALL 743 rfl rfl
set_option maxRecDepth 100000 in
theorem w_728 : (Jvm.Cond.selects "Replen$Sharing" ({ cls := "Replen$Sharing", name := "handedOut", desc := "(I)I" } : Jvm.MethodName) ({ cls := "Replen$Sharing", name := "handedOut", desc := "(I)I" } : Jvm.MethodName)) ∈ ALL := in_ALL 744 rfl rfl
set_option maxRecDepth 100000 in
theorem w_729 : (Jvm.Cond.code ({ cls := "Replen$Sharing", name := "handedOut", desc := "(I)I" } : Jvm.MethodName) prog_6_method_6_code (4 : Nat) (Option.some Jvm.ClassFile.FieldType.int)) ∈ ALL := in_ALL 745 rfl rfl
set_option maxRecDepth 100000 in
theorem w_730 : (Jvm.Cond.methodLink "Replen$Sharing" (26 : Nat) ({ cls := "Replen$Sharing", name := "nextToGet", desc := "()I" } : Jvm.MethodName)) ∈ ALL := in_ALL 746 rfl rfl
set_option maxRecDepth 100000 in
theorem w_732 : (Jvm.Cond.instanceMethod ({ cls := "Replen$Sharing", name := "nextToGet", desc := "()I" } : Jvm.MethodName)) ∈ ALL := in_ALL 748 rfl rfl
set_option maxRecDepth 100000 in
theorem w_733 : (Jvm.Cond.code ({ cls := "Replen$Sharing", name := "nextToGet", desc := "()I" } : Jvm.MethodName) prog_6_method_7_code (8 : Nat) (Option.some Jvm.ClassFile.FieldType.int)) ∈ ALL := in_ALL 749 rfl rfl
set_option maxRecDepth 100000 in
theorem w_734 : (Jvm.Cond.methodLink "ReplenLaw" (209 : Nat) ({ cls := "ReplenLaw", name := "isLine", desc := "(LReplen;IIIII)Z" } : Jvm.MethodName)) ∈ ALL := in_ALL 750 rfl rfl
set_option maxRecDepth 100000 in
theorem w_735 : (Jvm.Cond.static ({ cls := "ReplenLaw", name := "isLine", desc := "(LReplen;IIIII)Z" } : Jvm.MethodName)) ∈ ALL := in_ALL 751 rfl rfl
set_option maxRecDepth 100000 in
theorem w_736 : (Jvm.Cond.code ({ cls := "ReplenLaw", name := "isLine", desc := "(LReplen;IIIII)Z" } : Jvm.MethodName) method_37_code (17 : Nat) (Option.some Jvm.ClassFile.FieldType.boolean)) ∈ ALL := in_ALL 752 rfl rfl
set_option maxRecDepth 100000 in
theorem w_737 : (Jvm.Cond.methodLink "ReplenLaw" (215 : Nat) ({ cls := "ReplenLaw", name := "safety", desc := "(LReplen;II)I" } : Jvm.MethodName)) ∈ ALL := in_ALL 753 rfl rfl
set_option maxRecDepth 100000 in
theorem w_738 : (Jvm.Cond.static ({ cls := "ReplenLaw", name := "safety", desc := "(LReplen;II)I" } : Jvm.MethodName)) ∈ ALL := in_ALL 754 rfl rfl
set_option maxRecDepth 100000 in
theorem w_739 : (Jvm.Cond.codeWith ({ cls := "ReplenLaw", name := "safety", desc := "(LReplen;II)I" } : Jvm.MethodName) method_21_code (4 : Nat) (Option.some Jvm.ClassFile.FieldType.int) [((0 : Nat), (6 : Nat), (7 : Nat), (32 : Nat)), ((0 : Nat), (6 : Nat), (11 : Nat), (57 : Nat))]) ∈ ALL := in_ALL 755 rfl rfl
set_option maxRecDepth 100000 in
theorem w_740 : (Jvm.Cond.methodLink "ReplenLaw" (83 : Nat) ({ cls := "Replen", name := "safety", desc := "(II)I" } : Jvm.MethodName)) ∈ ALL := in_ALL 756 rfl rfl
set_option maxRecDepth 100000 in
theorem w_741 : (Jvm.Cond.instanceMethod ({ cls := "Replen", name := "safety", desc := "(II)I" } : Jvm.MethodName)) ∈ ALL := in_ALL 757 rfl rfl
set_option maxRecDepth 100000 in
theorem w_742 : (Jvm.Cond.selects "Replen" ({ cls := "Replen", name := "safety", desc := "(II)I" } : Jvm.MethodName) ({ cls := "Replen", name := "safety", desc := "(II)I" } : Jvm.MethodName)) ∈ ALL := in_ALL 758 rfl rfl
set_option maxRecDepth 100000 in
theorem w_743 : (Jvm.Cond.code ({ cls := "Replen", name := "safety", desc := "(II)I" } : Jvm.MethodName) prog_1_method_20_code (3 : Nat) (Option.some Jvm.ClassFile.FieldType.int)) ∈ ALL := in_ALL 759 rfl rfl
set_option maxRecDepth 100000 in
theorem w_744 : (Jvm.Cond.methodLink "Replen" (220 : Nat) ({ cls := "Replen$Line", name := "safetyAt", desc := "(I)I" } : Jvm.MethodName)) ∈ ALL := in_ALL 760 rfl rfl
set_option maxRecDepth 100000 in
theorem w_745 : (Jvm.Cond.methodLink "ReplenLaw" (217 : Nat) ({ cls := "ReplenLaw", name := "stockByJournal", desc := "(LReplen;II)I" } : Jvm.MethodName)) ∈ ALL := in_ALL 761 rfl rfl
set_option maxRecDepth 100000 in
theorem w_746 : (Jvm.Cond.static ({ cls := "ReplenLaw", name := "stockByJournal", desc := "(LReplen;II)I" } : Jvm.MethodName)) ∈ ALL := in_ALL 762 rfl rfl
set_option maxRecDepth 100000 in
theorem w_747 : (Jvm.Cond.codeWith ({ cls := "ReplenLaw", name := "stockByJournal", desc := "(LReplen;II)I" } : Jvm.MethodName) method_23_code (4 : Nat) (Option.some Jvm.ClassFile.FieldType.int) [((0 : Nat), (6 : Nat), (7 : Nat), (32 : Nat)), ((0 : Nat), (6 : Nat), (11 : Nat), (57 : Nat))]) ∈ ALL := in_ALL 763 rfl rfl
set_option maxRecDepth 100000 in
theorem w_748 : (Jvm.Cond.methodLink "ReplenLaw" (89 : Nat) ({ cls := "Replen", name := "stockByJournal", desc := "(II)I" } : Jvm.MethodName)) ∈ ALL := in_ALL 764 rfl rfl
set_option maxRecDepth 100000 in
theorem w_749 : (Jvm.Cond.instanceMethod ({ cls := "Replen", name := "stockByJournal", desc := "(II)I" } : Jvm.MethodName)) ∈ ALL := in_ALL 765 rfl rfl
set_option maxRecDepth 100000 in
theorem w_750 : (Jvm.Cond.selects "Replen" ({ cls := "Replen", name := "stockByJournal", desc := "(II)I" } : Jvm.MethodName) ({ cls := "Replen", name := "stockByJournal", desc := "(II)I" } : Jvm.MethodName)) ∈ ALL := in_ALL 766 rfl rfl
set_option maxRecDepth 100000 in
theorem w_751 : (Jvm.Cond.code ({ cls := "Replen", name := "stockByJournal", desc := "(II)I" } : Jvm.MethodName) prog_1_method_22_code (3 : Nat) (Option.some Jvm.ClassFile.FieldType.int)) ∈ ALL := in_ALL 767 rfl rfl
set_option maxRecDepth 100000 in
theorem w_752 : (Jvm.Cond.methodLink "Replen" (224 : Nat) ({ cls := "Replen$Line", name := "journalStock", desc := "(I)I" } : Jvm.MethodName)) ∈ ALL := in_ALL 768 rfl rfl
set_option maxRecDepth 100000 in
theorem w_753 : (Jvm.Cond.instanceMethod ({ cls := "Replen$Line", name := "journalStock", desc := "(I)I" } : Jvm.MethodName)) ∈ ALL := in_ALL 769 rfl rfl
set_option maxRecDepth 100000 in
theorem w_754 : (Jvm.Cond.selects "Replen$Line" ({ cls := "Replen$Line", name := "journalStock", desc := "(I)I" } : Jvm.MethodName) ({ cls := "Replen$Line", name := "journalStock", desc := "(I)I" } : Jvm.MethodName)) ∈ ALL := in_ALL 770 rfl rfl
set_option maxRecDepth 100000 in
theorem w_755 : (Jvm.Cond.code ({ cls := "Replen$Line", name := "journalStock", desc := "(I)I" } : Jvm.MethodName) prog_5_method_11_code (2 : Nat) (Option.some Jvm.ClassFile.FieldType.int)) ∈ ALL := in_ALL 771 rfl rfl
set_option maxRecDepth 100000 in
theorem w_756 : (Jvm.Cond.methodLink "Replen$Line" (119 : Nat) ({ cls := "Replen$DayBook", name := "sumUpTo", desc := "(I)I" } : Jvm.MethodName)) ∈ ALL := in_ALL 772 rfl rfl
set_option maxRecDepth 100000 in
theorem w_757 : (Jvm.Cond.instanceMethod ({ cls := "Replen$DayBook", name := "sumUpTo", desc := "(I)I" } : Jvm.MethodName)) ∈ ALL := in_ALL 773 rfl rfl
set_option maxRecDepth 100000 in
theorem w_758 : (Jvm.Cond.selects "Replen$DayBook" ({ cls := "Replen$DayBook", name := "sumUpTo", desc := "(I)I" } : Jvm.MethodName) ({ cls := "Replen$DayBook", name := "sumUpTo", desc := "(I)I" } : Jvm.MethodName)) ∈ ALL := in_ALL 774 rfl rfl
set_option maxRecDepth 100000 in
theorem w_759 : (Jvm.Cond.code ({ cls := "Replen$DayBook", name := "sumUpTo", desc := "(I)I" } : Jvm.MethodName) prog_2_method_4_code (4 : Nat) (Option.some Jvm.ClassFile.FieldType.int)) ∈ ALL := in_ALL 775 rfl rfl
set_option maxRecDepth 100000 in
theorem w_760 : (Jvm.Cond.methodLink "ReplenLaw" (219 : Nat) ({ cls := "ReplenLaw", name := "levelByDays", desc := "(LReplen;II)I" } : Jvm.MethodName)) ∈ ALL := in_ALL 776 rfl rfl
set_option maxRecDepth 100000 in
theorem w_761 : (Jvm.Cond.static ({ cls := "ReplenLaw", name := "levelByDays", desc := "(LReplen;II)I" } : Jvm.MethodName)) ∈ ALL := in_ALL 777 rfl rfl
set_option maxRecDepth 100000 in
theorem w_762 : (Jvm.Cond.codeWith ({ cls := "ReplenLaw", name := "levelByDays", desc := "(LReplen;II)I" } : Jvm.MethodName) method_17_code (4 : Nat) (Option.some Jvm.ClassFile.FieldType.int) [((0 : Nat), (6 : Nat), (7 : Nat), (32 : Nat)), ((0 : Nat), (6 : Nat), (11 : Nat), (57 : Nat))]) ∈ ALL := in_ALL 778 rfl rfl
set_option maxRecDepth 100000 in
theorem w_763 : (Jvm.Cond.methodLink "ReplenLaw" (71 : Nat) ({ cls := "Replen", name := "levelByDays", desc := "(II)I" } : Jvm.MethodName)) ∈ ALL := in_ALL 779 rfl rfl
set_option maxRecDepth 100000 in
theorem w_764 : (Jvm.Cond.instanceMethod ({ cls := "Replen", name := "levelByDays", desc := "(II)I" } : Jvm.MethodName)) ∈ ALL := in_ALL 780 rfl rfl
set_option maxRecDepth 100000 in
theorem w_765 : (Jvm.Cond.selects "Replen" ({ cls := "Replen", name := "levelByDays", desc := "(II)I" } : Jvm.MethodName) ({ cls := "Replen", name := "levelByDays", desc := "(II)I" } : Jvm.MethodName)) ∈ ALL := in_ALL 781 rfl rfl
set_option maxRecDepth 100000 in
theorem w_766 : (Jvm.Cond.code ({ cls := "Replen", name := "levelByDays", desc := "(II)I" } : Jvm.MethodName) prog_1_method_16_code (5 : Nat) (Option.some Jvm.ClassFile.FieldType.int)) ∈ ALL := in_ALL 782 rfl rfl
set_option maxRecDepth 100000 in
theorem w_767 : (Jvm.Cond.methodLink "Replen" (191 : Nat) ({ cls := "Replen$Learner", name := "start", desc := "(I)V" } : Jvm.MethodName)) ∈ ALL := in_ALL 783 rfl rfl
set_option maxRecDepth 100000 in
theorem w_768 : (Jvm.Cond.methodLink "Replen" (201 : Nat) ({ cls := "Replen$Learner", name := "learn", desc := "(IIII)V" } : Jvm.MethodName)) ∈ ALL := in_ALL 784 rfl rfl
set_option maxRecDepth 100000 in
theorem w_769 : (Jvm.Cond.methodLink "ReplenLaw" (221 : Nat) ({ cls := "ReplenLaw", name := "errors", desc := "(LReplen;III)I" } : Jvm.MethodName)) ∈ ALL := in_ALL 785 rfl rfl
set_option maxRecDepth 100000 in
theorem w_770 : (Jvm.Cond.static ({ cls := "ReplenLaw", name := "errors", desc := "(LReplen;III)I" } : Jvm.MethodName)) ∈ ALL := in_ALL 786 rfl rfl
set_option maxRecDepth 100000 in
theorem w_771 : (Jvm.Cond.codeWith ({ cls := "ReplenLaw", name := "errors", desc := "(LReplen;III)I" } : Jvm.MethodName) method_20_code (5 : Nat) (Option.some Jvm.ClassFile.FieldType.int) [((0 : Nat), (7 : Nat), (8 : Nat), (32 : Nat)), ((0 : Nat), (7 : Nat), (13 : Nat), (57 : Nat)), ((0 : Nat), (7 : Nat), (18 : Nat), (20 : Nat))]) ∈ ALL := in_ALL 787 rfl rfl
set_option maxRecDepth 100000 in
theorem w_772 : (Jvm.Cond.methodLink "ReplenLaw" (80 : Nat) ({ cls := "Replen", name := "errors", desc := "(III)I" } : Jvm.MethodName)) ∈ ALL := in_ALL 788 rfl rfl
set_option maxRecDepth 100000 in
theorem w_773 : (Jvm.Cond.instanceMethod ({ cls := "Replen", name := "errors", desc := "(III)I" } : Jvm.MethodName)) ∈ ALL := in_ALL 789 rfl rfl
set_option maxRecDepth 100000 in
theorem w_774 : (Jvm.Cond.selects "Replen" ({ cls := "Replen", name := "errors", desc := "(III)I" } : Jvm.MethodName) ({ cls := "Replen", name := "errors", desc := "(III)I" } : Jvm.MethodName)) ∈ ALL := in_ALL 790 rfl rfl
set_option maxRecDepth 100000 in
theorem w_775 : (Jvm.Cond.code ({ cls := "Replen", name := "errors", desc := "(III)I" } : Jvm.MethodName) prog_1_method_19_code (5 : Nat) (Option.some Jvm.ClassFile.FieldType.int)) ∈ ALL := in_ALL 791 rfl rfl
set_option maxRecDepth 100000 in
theorem w_777 : (Jvm.Cond.methodLink "Replen" (217 : Nat) ({ cls := "Replen$Line", name := "timesOf", desc := "(I)I" } : Jvm.MethodName)) ∈ ALL := in_ALL 793 rfl rfl
set_option maxRecDepth 100000 in
theorem w_778 : (Jvm.Cond.instanceMethod ({ cls := "Replen$Line", name := "timesOf", desc := "(I)I" } : Jvm.MethodName)) ∈ ALL := in_ALL 794 rfl rfl
set_option maxRecDepth 100000 in
theorem w_779 : (Jvm.Cond.selects "Replen$Line" ({ cls := "Replen$Line", name := "timesOf", desc := "(I)I" } : Jvm.MethodName) ({ cls := "Replen$Line", name := "timesOf", desc := "(I)I" } : Jvm.MethodName)) ∈ ALL := in_ALL 795 rfl rfl
set_option maxRecDepth 100000 in
theorem w_780 : (Jvm.Cond.code ({ cls := "Replen$Line", name := "timesOf", desc := "(I)I" } : Jvm.MethodName) prog_5_method_4_code (2 : Nat) (Option.some Jvm.ClassFile.FieldType.int)) ∈ ALL := in_ALL 796 rfl rfl
set_option maxRecDepth 100000 in
theorem w_781 : (Jvm.Cond.methodLink "ReplenLaw" (223 : Nat) ({ cls := "ReplenLaw", name := "forecast", desc := "(LReplen;III)I" } : Jvm.MethodName)) ∈ ALL := in_ALL 797 rfl rfl
set_option maxRecDepth 100000 in
theorem w_782 : (Jvm.Cond.static ({ cls := "ReplenLaw", name := "forecast", desc := "(LReplen;III)I" } : Jvm.MethodName)) ∈ ALL := in_ALL 798 rfl rfl
set_option maxRecDepth 100000 in
theorem w_783 : (Jvm.Cond.codeWith ({ cls := "ReplenLaw", name := "forecast", desc := "(LReplen;III)I" } : Jvm.MethodName) method_19_code (5 : Nat) (Option.some Jvm.ClassFile.FieldType.int) [((0 : Nat), (7 : Nat), (8 : Nat), (32 : Nat)), ((0 : Nat), (7 : Nat), (13 : Nat), (57 : Nat)), ((0 : Nat), (7 : Nat), (18 : Nat), (20 : Nat))]) ∈ ALL := in_ALL 799 rfl rfl
set_option maxRecDepth 100000 in
theorem w_784 : (Jvm.Cond.methodLink "ReplenLaw" (77 : Nat) ({ cls := "Replen", name := "forecast", desc := "(III)I" } : Jvm.MethodName)) ∈ ALL := in_ALL 800 rfl rfl
set_option maxRecDepth 100000 in
theorem w_785 : (Jvm.Cond.instanceMethod ({ cls := "Replen", name := "forecast", desc := "(III)I" } : Jvm.MethodName)) ∈ ALL := in_ALL 801 rfl rfl
set_option maxRecDepth 100000 in
theorem w_786 : (Jvm.Cond.selects "Replen" ({ cls := "Replen", name := "forecast", desc := "(III)I" } : Jvm.MethodName) ({ cls := "Replen", name := "forecast", desc := "(III)I" } : Jvm.MethodName)) ∈ ALL := in_ALL 802 rfl rfl
set_option maxRecDepth 100000 in
theorem w_787 : (Jvm.Cond.code ({ cls := "Replen", name := "forecast", desc := "(III)I" } : Jvm.MethodName) prog_1_method_18_code (5 : Nat) (Option.some Jvm.ClassFile.FieldType.int)) ∈ ALL := in_ALL 803 rfl rfl
set_option maxRecDepth 100000 in
theorem w_789 : (Jvm.Cond.methodLink "Replen" (212 : Nat) ({ cls := "Replen$Learner", name := "thousandthsFor", desc := "(I)I" } : Jvm.MethodName)) ∈ ALL := in_ALL 805 rfl rfl
set_option maxRecDepth 100000 in
theorem w_790 : (Jvm.Cond.constantLong "ReplenLaw" (225 : Nat) (1000 : Int64)) ∈ ALL := in_ALL 806 rfl rfl
set_option maxRecDepth 100000 in
theorem w_791 : (Jvm.Cond.constantLong "ReplenLaw" (227 : Nat) (999 : Int64)) ∈ ALL := in_ALL 807 rfl rfl
set_option maxRecDepth 100000 in
theorem w_792 : (Jvm.Cond.methodLink "ReplenLaw" (213 : Nat) ({ cls := "ReplenLaw", name := "centreByJournal", desc := "(LReplen;I)I" } : Jvm.MethodName)) ∈ ALL := in_ALL 808 rfl rfl
set_option maxRecDepth 100000 in
theorem w_793 : (Jvm.Cond.static ({ cls := "ReplenLaw", name := "centreByJournal", desc := "(LReplen;I)I" } : Jvm.MethodName)) ∈ ALL := in_ALL 809 rfl rfl
set_option maxRecDepth 100000 in
theorem w_794 : (Jvm.Cond.codeWith ({ cls := "ReplenLaw", name := "centreByJournal", desc := "(LReplen;I)I" } : Jvm.MethodName) method_31_code (3 : Nat) (Option.some Jvm.ClassFile.FieldType.int) [((0 : Nat), (5 : Nat), (6 : Nat), (32 : Nat))]) ∈ ALL := in_ALL 810 rfl rfl
set_option maxRecDepth 100000 in
theorem w_795 : (Jvm.Cond.methodLink "ReplenLaw" (113 : Nat) ({ cls := "Replen", name := "centreByJournal", desc := "(I)I" } : Jvm.MethodName)) ∈ ALL := in_ALL 811 rfl rfl
set_option maxRecDepth 100000 in
theorem w_796 : (Jvm.Cond.instanceMethod ({ cls := "Replen", name := "centreByJournal", desc := "(I)I" } : Jvm.MethodName)) ∈ ALL := in_ALL 812 rfl rfl
set_option maxRecDepth 100000 in
theorem w_797 : (Jvm.Cond.selects "Replen" ({ cls := "Replen", name := "centreByJournal", desc := "(I)I" } : Jvm.MethodName) ({ cls := "Replen", name := "centreByJournal", desc := "(I)I" } : Jvm.MethodName)) ∈ ALL := in_ALL 813 rfl rfl
set_option maxRecDepth 100000 in
theorem w_798 : (Jvm.Cond.code ({ cls := "Replen", name := "centreByJournal", desc := "(I)I" } : Jvm.MethodName) prog_1_method_30_code (2 : Nat) (Option.some Jvm.ClassFile.FieldType.int)) ∈ ALL := in_ALL 814 rfl rfl
set_option maxRecDepth 100000 in
theorem w_799 : (Jvm.Cond.methodLink "Replen" (253 : Nat) ({ cls := "Replen$Item", name := "journalStock", desc := "(I)I" } : Jvm.MethodName)) ∈ ALL := in_ALL 815 rfl rfl
set_option maxRecDepth 100000 in
theorem w_800 : (Jvm.Cond.instanceMethod ({ cls := "Replen$Item", name := "journalStock", desc := "(I)I" } : Jvm.MethodName)) ∈ ALL := in_ALL 816 rfl rfl
set_option maxRecDepth 100000 in
theorem w_801 : (Jvm.Cond.selects "Replen$Item" ({ cls := "Replen$Item", name := "journalStock", desc := "(I)I" } : Jvm.MethodName) ({ cls := "Replen$Item", name := "journalStock", desc := "(I)I" } : Jvm.MethodName)) ∈ ALL := in_ALL 817 rfl rfl
set_option maxRecDepth 100000 in
theorem w_802 : (Jvm.Cond.code ({ cls := "Replen$Item", name := "journalStock", desc := "(I)I" } : Jvm.MethodName) prog_3_method_7_code (2 : Nat) (Option.some Jvm.ClassFile.FieldType.int)) ∈ ALL := in_ALL 818 rfl rfl
set_option maxRecDepth 100000 in
theorem w_803 : (Jvm.Cond.methodLink "Replen$Item" (40 : Nat) ({ cls := "Replen$DayBook", name := "sumUpTo", desc := "(I)I" } : Jvm.MethodName)) ∈ ALL := in_ALL 819 rfl rfl
set_option maxRecDepth 100000 in
theorem w_804 : (Jvm.Cond.methodLink "ReplenLaw" (167 : Nat) ({ cls := "java/lang/Math", name := "min", desc := "(II)I" } : Jvm.MethodName)) ∈ ALL := in_ALL 820 rfl rfl
set_option maxRecDepth 100000 in
theorem w_p0 : Cond.selects "java/lang/Throwable" ⟨"java/lang/Throwable", "fillInStackTrace", "(I)Ljava/lang/Throwable;"⟩ ⟨"java/lang/Throwable", "fillInStackTrace", "(I)Ljava/lang/Throwable;"⟩ ∈ ALL := in_ALL 0 rfl rfl
set_option maxRecDepth 100000 in
theorem w_p1 : Cond.selects "Replen" ⟨"Replen", "requireShop", "(I)V"⟩ ⟨"Replen", "requireShop", "(I)V"⟩ ∈ ALL := in_ALL 1 rfl rfl
set_option maxRecDepth 100000 in
theorem w_p2 : Cond.selects "Replen" ⟨"Replen", "isShop", "(I)Z"⟩ ⟨"Replen", "isShop", "(I)Z"⟩ ∈ ALL := in_ALL 2 rfl rfl
set_option maxRecDepth 100000 in
theorem w_p3 : Cond.selects "Replen" ⟨"Replen", "requireItem", "(I)LReplen$Item;"⟩ ⟨"Replen", "requireItem", "(I)LReplen$Item;"⟩ ∈ ALL := in_ALL 3 rfl rfl
set_option maxRecDepth 100000 in
theorem w_p4 : Cond.selects "Replen" ⟨"Replen", "itemOrNull", "(I)LReplen$Item;"⟩ ⟨"Replen", "itemOrNull", "(I)LReplen$Item;"⟩ ∈ ALL := in_ALL 4 rfl rfl
set_option maxRecDepth 100000 in
theorem w_p5 : Cond.selects "Replen" ⟨"Replen", "isItem", "(I)Z"⟩ ⟨"Replen", "isItem", "(I)Z"⟩ ∈ ALL := in_ALL 5 rfl rfl
set_option maxRecDepth 100000 in
theorem w_p6 : Cond.selects "Replen" ⟨"Replen", "placeOf", "(II)I"⟩ ⟨"Replen", "placeOf", "(II)I"⟩ ∈ ALL := in_ALL 6 rfl rfl
set_option maxRecDepth 100000 in
theorem w_p7 : Cond.selects "Replen" ⟨"Replen", "leadOf", "(I)I"⟩ ⟨"Replen", "leadOf", "(I)I"⟩ ∈ ALL := in_ALL 7 rfl rfl
set_option maxRecDepth 100000 in
theorem w_p8 : Cond.selects "Replen" ⟨"Replen", "lineOrNull", "(II)LReplen$Line;"⟩ ⟨"Replen", "lineOrNull", "(II)LReplen$Line;"⟩ ∈ ALL := in_ALL 8 rfl rfl
set_option maxRecDepth 100000 in
theorem w_p9 : Cond.selects "Replen" ⟨"Replen", "requireLine", "(II)LReplen$Line;"⟩ ⟨"Replen", "requireLine", "(II)LReplen$Line;"⟩ ∈ ALL := in_ALL 9 rfl rfl
set_option maxRecDepth 100000 in
theorem w_p10 : Cond.selects "Replen" ⟨"Replen", "learnToday", "()V"⟩ ⟨"Replen", "learnToday", "()V"⟩ ∈ ALL := in_ALL 10 rfl rfl
set_option maxRecDepth 100000 in
theorem w_p11 : Cond.selects "Replen" ⟨"Replen", "receiveToday", "()V"⟩ ⟨"Replen", "receiveToday", "()V"⟩ ∈ ALL := in_ALL 11 rfl rfl
set_option maxRecDepth 100000 in
theorem w_p12 : Cond.selects "Replen" ⟨"Replen", "sendPacks", "(I)I"⟩ ⟨"Replen", "sendPacks", "(I)I"⟩ ∈ ALL := in_ALL 12 rfl rfl
set_option maxRecDepth 100000 in
theorem w_p13 : Cond.selects "Replen" ⟨"Replen", "askForAll", "(I)V"⟩ ⟨"Replen", "askForAll", "(I)V"⟩ ∈ ALL := in_ALL 13 rfl rfl
set_option maxRecDepth 100000 in
theorem w_p14 : Cond.selects "Replen$Sharing" ⟨"Replen$Sharing", "givenAhead", "(II)J"⟩ ⟨"Replen$Sharing", "givenAhead", "(II)J"⟩ ∈ ALL := in_ALL 14 rfl rfl
set_option maxRecDepth 100000 in
theorem w_p15 : Cond.selects "Replen$Sharing" ⟨"Replen$Sharing", "nextToGet", "()I"⟩ ⟨"Replen$Sharing", "nextToGet", "()I"⟩ ∈ ALL := in_ALL 15 rfl rfl
set_option maxRecDepth 100000 in
theorem inAX0 : ∀ w ∈ wsX00, w ∈ ALL := by
  intro w hw
  obtain ⟨k, hk, rfl⟩ := List.mem_map.mp hw
  have hk2 := List.mem_range.mp hk
  clear hk
  exact match k, hk2 with
  | 0, _ => w_35
  | k + 1, h => absurd h (by omega)
set_option maxRecDepth 100000 in
theorem inAX1 : ∀ w ∈ wsX10, w ∈ ALL := by
  intro w hw
  obtain ⟨k, hk, rfl⟩ := List.mem_map.mp hw
  have hk2 := List.mem_range.mp hk
  clear hk
  exact match k, hk2 with
  | 0, _ => w_256
  | 1, _ => w_258
  | 2, _ => w_260
  | 3, _ => w_262
  | 4, _ => w_264
  | 5, _ => w_266
  | k + 6, h => absurd h (by omega)
set_option maxRecDepth 100000 in
theorem inAX2 : ∀ w ∈ wsX20, w ∈ ALL := by
  intro w hw
  obtain ⟨k, hk, rfl⟩ := List.mem_map.mp hw
  have hk2 := List.mem_range.mp hk
  clear hk
  exact match k, hk2 with
  | 0, _ => w_48
  | 1, _ => w_50
  | k + 2, h => absurd h (by omega)
set_option maxRecDepth 100000 in
theorem inAX3 : ∀ w ∈ wsX30, w ∈ ALL := by
  intro w hw
  obtain ⟨k, hk, rfl⟩ := List.mem_map.mp hw
  have hk2 := List.mem_range.mp hk
  clear hk
  exact match k, hk2 with
  | 0, _ => w_361
  | 1, _ => w_363
  | 2, _ => w_365
  | 3, _ => w_367
  | 4, _ => w_369
  | 5, _ => w_371
  | 6, _ => w_373
  | 7, _ => w_375
  | 8, _ => w_377
  | 9, _ => w_379
  | 10, _ => w_381
  | 11, _ => w_383
  | 12, _ => w_385
  | 13, _ => w_387
  | k + 14, h => absurd h (by omega)
set_option maxRecDepth 100000 in
theorem inAX4 : ∀ w ∈ wsX40, w ∈ ALL := by
  intro w hw
  obtain ⟨k, hk, rfl⟩ := List.mem_map.mp hw
  have hk2 := List.mem_range.mp hk
  clear hk
  exact match k, hk2 with
  | 0, _ => w_62
  | 1, _ => w_64
  | 2, _ => w_66
  | k + 3, h => absurd h (by omega)
set_option maxRecDepth 100000 in
theorem inAX5 : ∀ w ∈ wsX50, w ∈ ALL := by
  intro w hw
  obtain ⟨k, hk, rfl⟩ := List.mem_map.mp hw
  have hk2 := List.mem_range.mp hk
  clear hk
  exact match k, hk2 with
  | 0, _ => w_83
  | 1, _ => w_85
  | 2, _ => w_87
  | 3, _ => w_89
  | 4, _ => w_91
  | 5, _ => w_93
  | 6, _ => w_95
  | 7, _ => w_97
  | 8, _ => w_99
  | 9, _ => w_101
  | 10, _ => w_103
  | 11, _ => w_105
  | 12, _ => w_107
  | 13, _ => w_109
  | k + 14, h => absurd h (by omega)
end
section
def nestF : List (String × Nat × String × String × String) := [("Replen", 124, "Replen$Item", "stock", "I"), ("Replen", 144, "Replen$Item", "promotions", "LReplen$DayBook;"), ("Replen", 157, "Replen$Line", "demands", "LReplen$DayBook;"), ("Replen", 182, "Replen$Line", "learner", "LReplen$Learner;"), ("Replen", 185, "Replen$Learner", "level", "I"), ("Replen", 188, "Replen$Line", "firstLevel", "I"), ("Replen", 194, "Replen$Line", "firstDay", "I"), ("Replen", 197, "Replen$Line", "item", "LReplen$Item;"), ("Replen", 223, "Replen$Line", "stock", "I"), ("Replen", 257, "Replen$Line", "lostSum", "I"), ("Replen", 284, "Replen$Line", "arrivals", "LReplen$DayBook;"), ("Replen$Line", 92, "Replen$Item", "pack", "I")]
def nestM : List (String × Nat × MethodName) := [("Replen", 27, ⟨"Replen$DayBook", "<init>", "()V"⟩), ("Replen", 37, ⟨"Replen$Learner", "<init>", "()V"⟩), ("Replen", 44, ⟨"Replen$Sharing", "<init>", "()V"⟩), ("Replen$Item", 9, ⟨"Replen$DayBook", "<init>", "()V"⟩), ("Replen$Line", 11, ⟨"Replen$Learner", "<init>", "()V"⟩), ("Replen$Line", 24, ⟨"Replen$DayBook", "<init>", "()V"⟩)]
/-- the links between nest mates, of a state -/
def NN (U : State) : Prop := (∀ q ∈ nestF, va_Nw (.fieldLinkNest q.1 q.2.1 q.2.2.1 q.2.2.2.1 q.2.2.2.2 "Replen") U) ∧ (∀ q ∈ nestM, va_Nw (.methodLinkNest q.1 q.2.1 q.2.2 "Replen") U)
theorem NN.same {u U : State} (h : u.vm = U.vm) (hN : NN u) : NN U := ⟨fun q hq => va_Nw.same rfl h (hN.1 q hq), fun q hq => va_Nw.same rfl h (hN.2 q hq)⟩
theorem NN.warm {s U : State} (hW : s.WarmedH U.vm) (hN : NN s) : NN U := ⟨fun q hq => va_Nw.warmF hW (hN.1 q hq), fun q hq => va_Nw.warmM hW (hN.2 q hq)⟩
/-- a method's start: it holds the cells W (and the tables) -/
def PC (D : va_G) (cs : Nat → ClassId) (W : va_W) : State → Prop := fun U => va_P D vwCl W U.heap ∧ KK D cs U ∧ va_D (inW W) W ∧ NN U
theorem PC_blind {D : va_G} {cs : Nat → ClassId} {W : va_W} {av : List Value} : FrameBlind (va_Pc av (PC D cs W)) := fun a U g mk q => by
  obtain ⟨q0, qP, qK, qD, qN⟩ := q
  exact ⟨q0, qP, va_K.moved (u := U) (U := U.calling g mk a) (Vm.Alike.refl U.vm) qK, qD, NN.same (u := U) (U := U.calling g mk a) rfl qN⟩
theorem PC_V {D : va_G} {cs : Nat → ClassId} {W ws : va_W} {s : State} {H : Heap} {b : Nat} {As : List Value} {C : String} {T : u_T} {N ci : Nat} {fs : List Value} {A0 : Nat → Prop} (hK : KK D cs s) (hN : NN s) (hP : va_P D vwCl ws H) (hD : va_D A0 ws) (is : List Nat) (hn : va_nd is = true) (hp : picks ws is W) (hw : W[0]? = some (b, .inr (ci, fs))) (hc : vwCl[ci]? = some (C, T, N)) : PreV s H C b (va_Pc (.ref b :: As) (PC D cs W)) As :=
  ⟨PC_blind, va_recv hK (P_pick hP is hp) hc hw, fun U hU hW => ⟨rfl, by rw [hU]; exact P_pick hP is hp, va_K.moved hW.alike hK, inW_D (D_pick hD is hn hp), hN.warm hW⟩⟩
theorem PC_S {D : va_G} {cs : Nat → ClassId} {W ws : va_W} {s : State} {H : Heap} {As : List Value} {A0 : Nat → Prop} (hK : KK D cs s) (hN : NN s) (hP : va_P D vwCl ws H) (hD : va_D A0 ws) (is : List Nat) (hn : va_nd is = true) (hp : picks ws is W) : PreS s H (va_Pc As (PC D cs W)) As :=
  ⟨PC_blind, fun U hU hW => ⟨rfl, by rw [hU]; exact P_pick hP is hp, va_K.moved hW.alike hK, inW_D (D_pick hD is hn hp), hN.warm hW⟩⟩
theorem narrow_iI (z : Int) : narrow .int (.int (iI z)) = .int (iI z) := rfl
theorem narrow_0 : narrow .boolean (.int (iI 0)) = .int (iI 0) := by decide
theorem narrow_1' : narrow .boolean (.int (iI 1)) = .int (iI 1) := by decide
section MYR
variable {p : Program} {l : Launch} {e : Env} {R : Room} {s : State} {m : MethodId} {args : Array Value} {below : List Frame} {meth : Method} {c : Code} {H : Heap} {locs : List Loc} {cells slots : Nat} {Q : State → Prop} {cc : ByteArray} {pc : Nat} {ls : Array Slot} {rest : List Value} {D : va_G} {cs : Nat → ClassId} {ws : va_W} {A : Nat → Prop} {H0 : Heap}
theorem my_iadd (hx : p.tables.exec = Jvm.exec) (hb : c.code = cc) {a b z : Int} (hdg : decode cc pc = .ok (.iadd, 1)) (hz : a + b = z) (k : W p l e R s m args below meth c H locs cells slots Q (F0 m (pc + 1) ls (.int (iI z) :: rest))) : W p l e R s m args below meth c H locs cells slots Q (F0 m pc ls (.int (iI b) :: .int (iI a) :: rest)) := by
  subst hz
  refine lv_iadd hx hb hdg ?_
  rw [iI_add]
  exact k
theorem my_isub (hx : p.tables.exec = Jvm.exec) (hb : c.code = cc) {a b z : Int} (hdg : decode cc pc = .ok (.isub, 1)) (hz : a - b = z) (k : W p l e R s m args below meth c H locs cells slots Q (F0 m (pc + 1) ls (.int (iI z) :: rest))) : W p l e R s m args below meth c H locs cells slots Q (F0 m pc ls (.int (iI b) :: .int (iI a) :: rest)) := by
  subst hz
  refine lv_isub hx hb hdg ?_
  rw [iI_sub]
  exact k
theorem my_imul (hx : p.tables.exec = Jvm.exec) (hb : c.code = cc) {a b z : Int} (hdg : decode cc pc = .ok (.imul, 1)) (hz : a * b = z) (k : W p l e R s m args below meth c H locs cells slots Q (F0 m (pc + 1) ls (.int (iI z) :: rest))) : W p l e R s m args below meth c H locs cells slots Q (F0 m pc ls (.int (iI b) :: .int (iI a) :: rest)) := by
  subst hz
  refine lv_imul hx hb hdg ?_
  rw [iI_mul]
  exact k
theorem my_idiv (hx : p.tables.exec = Jvm.exec) (hb : c.code = cc) {a b z : Int} (hdg : decode cc pc = .ok (.idiv, 1)) (h : 0 ≤ a ∧ a < 2147483648 ∧ 0 < b ∧ b < 2147483648) (hz : a / b = z) (k : W p l e R s m args below meth c H locs cells slots Q (F0 m (pc + 1) ls (.int (iI z) :: rest))) : W p l e R s m args below meth c H locs cells slots Q (F0 m pc ls (.int (iI b) :: .int (iI a) :: rest)) := by
  subst hz
  refine lv_idiv hx hb hdg (iI_ne (by omega)) ?_
  rw [iI_div h]
  exact k
theorem my_irem (hx : p.tables.exec = Jvm.exec) (hb : c.code = cc) {a b z : Int} (hdg : decode cc pc = .ok (.irem, 1)) (h : 0 ≤ a ∧ a < 2147483648 ∧ 0 < b ∧ b < 2147483648) (hz : a % b = z) (k : W p l e R s m args below meth c H locs cells slots Q (F0 m (pc + 1) ls (.int (iI z) :: rest))) : W p l e R s m args below meth c H locs cells slots Q (F0 m pc ls (.int (iI b) :: .int (iI a) :: rest)) := by
  subst hz
  refine lv_irem hx hb hdg (iI_ne (by omega)) ?_
  rw [iI_div h, iI_mul, iI_sub, show a - a / b * b = a % b from by rw [Int.emod_def, Int.mul_comm b]]
  exact k
theorem my_ineg (hx : p.tables.exec = Jvm.exec) (hb : c.code = cc) {a z : Int} (hdg : decode cc pc = .ok (.ineg, 1)) (hz : -a = z) (k : W p l e R s m args below meth c H locs cells slots Q (F0 m (pc + 1) ls (.int (iI z) :: rest))) : W p l e R s m args below meth c H locs cells slots Q (F0 m pc ls (.int (iI a) :: rest)) := by
  subst hz
  refine lv_ineg hx hb hdg ?_
  rw [iI_neg]
  exact k
theorem my_ladd (hx : p.tables.exec = Jvm.exec) (hb : c.code = cc) {a b z : Int} (hdg : decode cc pc = .ok (.ladd, 1)) (hz : a + b = z) (k : W p l e R s m args below meth c H locs cells slots Q (F0 m (pc + 1) ls (.long (lI z) :: rest))) : W p l e R s m args below meth c H locs cells slots Q (F0 m pc ls (.long (lI b) :: .long (lI a) :: rest)) := by
  subst hz
  refine lv_ladd hx hb hdg ?_
  rw [lI_add]
  exact k
theorem my_lsub (hx : p.tables.exec = Jvm.exec) (hb : c.code = cc) {a b z : Int} (hdg : decode cc pc = .ok (.lsub, 1)) (hz : a - b = z) (k : W p l e R s m args below meth c H locs cells slots Q (F0 m (pc + 1) ls (.long (lI z) :: rest))) : W p l e R s m args below meth c H locs cells slots Q (F0 m pc ls (.long (lI b) :: .long (lI a) :: rest)) := by
  subst hz
  refine lv_lsub hx hb hdg ?_
  rw [lI_sub]
  exact k
theorem my_lmul (hx : p.tables.exec = Jvm.exec) (hb : c.code = cc) {a b z : Int} (hdg : decode cc pc = .ok (.lmul, 1)) (hz : a * b = z) (k : W p l e R s m args below meth c H locs cells slots Q (F0 m (pc + 1) ls (.long (lI z) :: rest))) : W p l e R s m args below meth c H locs cells slots Q (F0 m pc ls (.long (lI b) :: .long (lI a) :: rest)) := by
  subst hz
  refine lv_lmul hx hb hdg ?_
  rw [lI_mul]
  exact k
theorem my_ldiv (hx : p.tables.exec = Jvm.exec) (hb : c.code = cc) {a b z : Int} (hdg : decode cc pc = .ok (.ldiv, 1)) (h : 0 ≤ a ∧ a < 9223372036854775808 ∧ 0 < b ∧ b < 9223372036854775808) (hz : a / b = z) (k : W p l e R s m args below meth c H locs cells slots Q (F0 m (pc + 1) ls (.long (lI z) :: rest))) : W p l e R s m args below meth c H locs cells slots Q (F0 m pc ls (.long (lI b) :: .long (lI a) :: rest)) := by
  subst hz
  refine lv_ldiv hx hb hdg (lI_ne (by omega)) ?_
  rw [lI_div h]
  exact k
theorem my_lneg (hx : p.tables.exec = Jvm.exec) (hb : c.code = cc) {a z : Int} (hdg : decode cc pc = .ok (.lneg, 1)) (hz : -a = z) (k : W p l e R s m args below meth c H locs cells slots Q (F0 m (pc + 1) ls (.long (lI z) :: rest))) : W p l e R s m args below meth c H locs cells slots Q (F0 m pc ls (.long (lI a) :: rest)) := by
  subst hz
  refine lv_lneg hx hb hdg ?_
  rw [lI_neg]
  exact k
theorem my_i2l (hx : p.tables.exec = Jvm.exec) (hb : c.code = cc) {a : Int} (hdg : decode cc pc = .ok (.i2l, 1)) (h : -2147483648 ≤ a ∧ a < 2147483648) (k : W p l e R s m args below meth c H locs cells slots Q (F0 m (pc + 1) ls (.long (lI a) :: rest))) : W p l e R s m args below meth c H locs cells slots Q (F0 m pc ls (.int (iI a) :: rest)) := lv_i2l hx hb hdg (iI_l h) k
theorem my_l2i (hx : p.tables.exec = Jvm.exec) (hb : c.code = cc) {a : Int} (hdg : decode cc pc = .ok (.l2i, 1)) (k : W p l e R s m args below meth c H locs cells slots Q (F0 m (pc + 1) ls (.int (iI a) :: rest))) : W p l e R s m args below meth c H locs cells slots Q (F0 m pc ls (.long (lI a) :: rest)) := lv_l2i hx hb hdg (lI_i a) k
theorem iI_lt {a b : Int} (h : -2147483648 ≤ a ∧ a < 2147483648 ∧ -2147483648 ≤ b ∧ b < 2147483648) : (iI a < iI b) ↔ a < b := by rw [Int32.lt_iff_toInt_lt, iI_toInt (by omega), iI_toInt (by omega)]
theorem iI_le {a b : Int} (h : -2147483648 ≤ a ∧ a < 2147483648 ∧ -2147483648 ≤ b ∧ b < 2147483648) : (iI a ≤ iI b) ↔ a ≤ b := by rw [Int32.le_iff_toInt_le, iI_toInt (by omega), iI_toInt (by omega)]
theorem iI_eq {a b : Int} (h : -2147483648 ≤ a ∧ a < 2147483648 ∧ -2147483648 ≤ b ∧ b < 2147483648) : (iI a = iI b) ↔ a = b := by rw [← Int32.toInt_inj, iI_toInt (by omega), iI_toInt (by omega)]
theorem lI_lt {a b : Int} (h : -9223372036854775808 ≤ a ∧ a < 9223372036854775808 ∧ -9223372036854775808 ≤ b ∧ b < 9223372036854775808) : (lI a < lI b) ↔ a < b := by rw [Int64.lt_iff_toInt_lt, lI_toInt (by omega), lI_toInt (by omega)]
theorem lI_eq {a b : Int} (h : -9223372036854775808 ≤ a ∧ a < 9223372036854775808 ∧ -9223372036854775808 ≤ b ∧ b < 9223372036854775808) : (lI a = lI b) ↔ a = b := by rw [← Int64.toInt_inj, lI_toInt (by omega), lI_toInt (by omega)]
theorem lg_cmp_iI {a b : Int} (h : -9223372036854775808 ≤ a ∧ a < 9223372036854775808 ∧ -9223372036854775808 ≤ b ∧ b < 9223372036854775808) : lg_cmp (lI a) (lI b) = iI (if b < a then 1 else if a = b then 0 else -1) := by
  unfold lg_cmp
  by_cases h1 : b < a
  · rw [if_pos (show lI a > lI b from (lI_lt (by omega)).mpr h1), if_pos h1]; rfl
  · rw [if_neg (fun q => h1 ((lI_lt (by omega)).mp q)), if_neg h1]
    by_cases h2 : a = b
    · rw [if_pos (by rw [h2]), if_pos h2]; rfl
    · rw [if_neg (fun q => h2 ((lI_eq (by omega)).mp q)), if_neg h2]; rfl
theorem my_z_lt {a : Int} : ((-2147483648 ≤ a ∧ a < 2147483648) → (iI a < 0) → a < 0) ∧ ((-2147483648 ≤ a ∧ a < 2147483648) → ¬ (iI a < 0) → 0 ≤ a) := by
  have e0 : (0 : Int32) = iI 0 := rfl
  constructor
  all_goals (intro h q; simp only [e0, iI_lt (a := a) (b := 0) ⟨h.1, h.2, by decide, by decide⟩, iI_lt (a := 0) (b := a) ⟨by decide, by decide, h.1, h.2⟩, iI_le (a := a) (b := 0) ⟨h.1, h.2, by decide, by decide⟩, iI_le (a := 0) (b := a) ⟨by decide, by decide, h.1, h.2⟩, iI_eq (a := a) (b := 0) ⟨h.1, h.2, by decide, by decide⟩] at q; omega)
theorem my_z_ge {a : Int} : ((-2147483648 ≤ a ∧ a < 2147483648) → (0 ≤ iI a) → 0 ≤ a) ∧ ((-2147483648 ≤ a ∧ a < 2147483648) → ¬ (0 ≤ iI a) → a < 0) := by
  have e0 : (0 : Int32) = iI 0 := rfl
  constructor
  all_goals (intro h q; simp only [e0, iI_lt (a := a) (b := 0) ⟨h.1, h.2, by decide, by decide⟩, iI_lt (a := 0) (b := a) ⟨by decide, by decide, h.1, h.2⟩, iI_le (a := a) (b := 0) ⟨h.1, h.2, by decide, by decide⟩, iI_le (a := 0) (b := a) ⟨by decide, by decide, h.1, h.2⟩, iI_eq (a := a) (b := 0) ⟨h.1, h.2, by decide, by decide⟩] at q; omega)
theorem my_z_gt {a : Int} : ((-2147483648 ≤ a ∧ a < 2147483648) → (0 < iI a) → 0 < a) ∧ ((-2147483648 ≤ a ∧ a < 2147483648) → ¬ (0 < iI a) → a ≤ 0) := by
  have e0 : (0 : Int32) = iI 0 := rfl
  constructor
  all_goals (intro h q; simp only [e0, iI_lt (a := a) (b := 0) ⟨h.1, h.2, by decide, by decide⟩, iI_lt (a := 0) (b := a) ⟨by decide, by decide, h.1, h.2⟩, iI_le (a := a) (b := 0) ⟨h.1, h.2, by decide, by decide⟩, iI_le (a := 0) (b := a) ⟨by decide, by decide, h.1, h.2⟩, iI_eq (a := a) (b := 0) ⟨h.1, h.2, by decide, by decide⟩] at q; omega)
theorem my_z_le {a : Int} : ((-2147483648 ≤ a ∧ a < 2147483648) → (iI a ≤ 0) → a ≤ 0) ∧ ((-2147483648 ≤ a ∧ a < 2147483648) → ¬ (iI a ≤ 0) → 0 < a) := by
  have e0 : (0 : Int32) = iI 0 := rfl
  constructor
  all_goals (intro h q; simp only [e0, iI_lt (a := a) (b := 0) ⟨h.1, h.2, by decide, by decide⟩, iI_lt (a := 0) (b := a) ⟨by decide, by decide, h.1, h.2⟩, iI_le (a := a) (b := 0) ⟨h.1, h.2, by decide, by decide⟩, iI_le (a := 0) (b := a) ⟨by decide, by decide, h.1, h.2⟩, iI_eq (a := a) (b := 0) ⟨h.1, h.2, by decide, by decide⟩] at q; omega)
theorem my_z_eq {a : Int} : ((-2147483648 ≤ a ∧ a < 2147483648) → (iI a = 0) → a = 0) ∧ ((-2147483648 ≤ a ∧ a < 2147483648) → ¬ (iI a = 0) → a ≠ 0) := by
  have e0 : (0 : Int32) = iI 0 := rfl
  constructor
  all_goals (intro h q; simp only [e0, iI_lt (a := a) (b := 0) ⟨h.1, h.2, by decide, by decide⟩, iI_lt (a := 0) (b := a) ⟨by decide, by decide, h.1, h.2⟩, iI_le (a := a) (b := 0) ⟨h.1, h.2, by decide, by decide⟩, iI_le (a := 0) (b := a) ⟨by decide, by decide, h.1, h.2⟩, iI_eq (a := a) (b := 0) ⟨h.1, h.2, by decide, by decide⟩] at q; omega)
theorem my_z_ne {a : Int} : ((-2147483648 ≤ a ∧ a < 2147483648) → (¬ (iI a = 0)) → a ≠ 0) ∧ ((-2147483648 ≤ a ∧ a < 2147483648) → ¬ (¬ (iI a = 0)) → a = 0) := by
  have e0 : (0 : Int32) = iI 0 := rfl
  constructor
  all_goals (intro h q; simp only [e0, iI_lt (a := a) (b := 0) ⟨h.1, h.2, by decide, by decide⟩, iI_lt (a := 0) (b := a) ⟨by decide, by decide, h.1, h.2⟩, iI_le (a := a) (b := 0) ⟨h.1, h.2, by decide, by decide⟩, iI_le (a := 0) (b := a) ⟨by decide, by decide, h.1, h.2⟩, iI_eq (a := a) (b := 0) ⟨h.1, h.2, by decide, by decide⟩] at q; omega)
theorem my_icmp_lt (hx : p.tables.exec = Jvm.exec) (hb : c.code = cc) {a b : Int} (h : -2147483648 ≤ a ∧ a < 2147483648 ∧ -2147483648 ≤ b ∧ b < 2147483648) {off : Int} {tgt : Nat} (hdg : decode cc pc = .ok (.if_icmp .lt off, 3)) (ht : (pc : Int) + off = (tgt : Int)) (kt : a < b → W p l e R s m args below meth c H locs cells slots Q (F0 m tgt ls rest)) (kf : b ≤ a → W p l e R s m args below meth c H locs cells slots Q (F0 m (pc + 3) ls rest)) : W p l e R s m args below meth c H locs cells slots Q (F0 m pc ls (.int (iI b) :: .int (iI a) :: rest)) := by
  refine lv_icmp_lt hx hb hdg ht (fun q => kt ?_) (fun q => kf ?_)
  · exact (iI_lt (by omega)).mp q
  · exact Int.not_lt.mp fun z => q ((iI_lt (by omega)).mpr z)
theorem my_if_lt (hx : p.tables.exec = Jvm.exec) (hb : c.code = cc) {a : Int} (h : -2147483648 ≤ a ∧ a < 2147483648) {off : Int} {tgt : Nat} (hdg : decode cc pc = .ok (.ifCond .lt off, 3)) (ht : (pc : Int) + off = (tgt : Int)) (kt : a < 0 → W p l e R s m args below meth c H locs cells slots Q (F0 m tgt ls rest)) (kf : 0 ≤ a → W p l e R s m args below meth c H locs cells slots Q (F0 m (pc + 3) ls rest)) : W p l e R s m args below meth c H locs cells slots Q (F0 m pc ls (.int (iI a) :: rest)) := by
  refine lv_if_lt hx hb hdg ht (fun q => kt ?_) (fun q => kf ?_)
  · exact my_z_lt.1 h q
  · exact my_z_lt.2 h q
theorem my_icmp_ge (hx : p.tables.exec = Jvm.exec) (hb : c.code = cc) {a b : Int} (h : -2147483648 ≤ a ∧ a < 2147483648 ∧ -2147483648 ≤ b ∧ b < 2147483648) {off : Int} {tgt : Nat} (hdg : decode cc pc = .ok (.if_icmp .ge off, 3)) (ht : (pc : Int) + off = (tgt : Int)) (kt : b ≤ a → W p l e R s m args below meth c H locs cells slots Q (F0 m tgt ls rest)) (kf : a < b → W p l e R s m args below meth c H locs cells slots Q (F0 m (pc + 3) ls rest)) : W p l e R s m args below meth c H locs cells slots Q (F0 m pc ls (.int (iI b) :: .int (iI a) :: rest)) := by
  refine lv_icmp_ge hx hb hdg ht (fun q => kt ?_) (fun q => kf ?_)
  · exact (iI_le (by omega)).mp q
  · exact Int.not_le.mp fun z => q ((iI_le (by omega)).mpr z)
theorem my_if_ge (hx : p.tables.exec = Jvm.exec) (hb : c.code = cc) {a : Int} (h : -2147483648 ≤ a ∧ a < 2147483648) {off : Int} {tgt : Nat} (hdg : decode cc pc = .ok (.ifCond .ge off, 3)) (ht : (pc : Int) + off = (tgt : Int)) (kt : 0 ≤ a → W p l e R s m args below meth c H locs cells slots Q (F0 m tgt ls rest)) (kf : a < 0 → W p l e R s m args below meth c H locs cells slots Q (F0 m (pc + 3) ls rest)) : W p l e R s m args below meth c H locs cells slots Q (F0 m pc ls (.int (iI a) :: rest)) := by
  refine lv_if_ge hx hb hdg ht (fun q => kt ?_) (fun q => kf ?_)
  · exact my_z_ge.1 h q
  · exact my_z_ge.2 h q
theorem my_icmp_gt (hx : p.tables.exec = Jvm.exec) (hb : c.code = cc) {a b : Int} (h : -2147483648 ≤ a ∧ a < 2147483648 ∧ -2147483648 ≤ b ∧ b < 2147483648) {off : Int} {tgt : Nat} (hdg : decode cc pc = .ok (.if_icmp .gt off, 3)) (ht : (pc : Int) + off = (tgt : Int)) (kt : b < a → W p l e R s m args below meth c H locs cells slots Q (F0 m tgt ls rest)) (kf : a ≤ b → W p l e R s m args below meth c H locs cells slots Q (F0 m (pc + 3) ls rest)) : W p l e R s m args below meth c H locs cells slots Q (F0 m pc ls (.int (iI b) :: .int (iI a) :: rest)) := by
  refine lv_icmp_gt hx hb hdg ht (fun q => kt ?_) (fun q => kf ?_)
  · exact (iI_lt (by omega)).mp q
  · exact Int.not_lt.mp fun z => q ((iI_lt (by omega)).mpr z)
theorem my_if_gt (hx : p.tables.exec = Jvm.exec) (hb : c.code = cc) {a : Int} (h : -2147483648 ≤ a ∧ a < 2147483648) {off : Int} {tgt : Nat} (hdg : decode cc pc = .ok (.ifCond .gt off, 3)) (ht : (pc : Int) + off = (tgt : Int)) (kt : 0 < a → W p l e R s m args below meth c H locs cells slots Q (F0 m tgt ls rest)) (kf : a ≤ 0 → W p l e R s m args below meth c H locs cells slots Q (F0 m (pc + 3) ls rest)) : W p l e R s m args below meth c H locs cells slots Q (F0 m pc ls (.int (iI a) :: rest)) := by
  refine lv_if_gt hx hb hdg ht (fun q => kt ?_) (fun q => kf ?_)
  · exact my_z_gt.1 h q
  · exact my_z_gt.2 h q
theorem my_icmp_le (hx : p.tables.exec = Jvm.exec) (hb : c.code = cc) {a b : Int} (h : -2147483648 ≤ a ∧ a < 2147483648 ∧ -2147483648 ≤ b ∧ b < 2147483648) {off : Int} {tgt : Nat} (hdg : decode cc pc = .ok (.if_icmp .le off, 3)) (ht : (pc : Int) + off = (tgt : Int)) (kt : a ≤ b → W p l e R s m args below meth c H locs cells slots Q (F0 m tgt ls rest)) (kf : b < a → W p l e R s m args below meth c H locs cells slots Q (F0 m (pc + 3) ls rest)) : W p l e R s m args below meth c H locs cells slots Q (F0 m pc ls (.int (iI b) :: .int (iI a) :: rest)) := by
  refine lv_icmp_le hx hb hdg ht (fun q => kt ?_) (fun q => kf ?_)
  · exact (iI_le (by omega)).mp q
  · exact Int.not_le.mp fun z => q ((iI_le (by omega)).mpr z)
theorem my_if_le (hx : p.tables.exec = Jvm.exec) (hb : c.code = cc) {a : Int} (h : -2147483648 ≤ a ∧ a < 2147483648) {off : Int} {tgt : Nat} (hdg : decode cc pc = .ok (.ifCond .le off, 3)) (ht : (pc : Int) + off = (tgt : Int)) (kt : a ≤ 0 → W p l e R s m args below meth c H locs cells slots Q (F0 m tgt ls rest)) (kf : 0 < a → W p l e R s m args below meth c H locs cells slots Q (F0 m (pc + 3) ls rest)) : W p l e R s m args below meth c H locs cells slots Q (F0 m pc ls (.int (iI a) :: rest)) := by
  refine lv_if_le hx hb hdg ht (fun q => kt ?_) (fun q => kf ?_)
  · exact my_z_le.1 h q
  · exact my_z_le.2 h q
theorem my_icmp_eq (hx : p.tables.exec = Jvm.exec) (hb : c.code = cc) {a b : Int} (h : -2147483648 ≤ a ∧ a < 2147483648 ∧ -2147483648 ≤ b ∧ b < 2147483648) {off : Int} {tgt : Nat} (hdg : decode cc pc = .ok (.if_icmp .eq off, 3)) (ht : (pc : Int) + off = (tgt : Int)) (kt : a = b → W p l e R s m args below meth c H locs cells slots Q (F0 m tgt ls rest)) (kf : a ≠ b → W p l e R s m args below meth c H locs cells slots Q (F0 m (pc + 3) ls rest)) : W p l e R s m args below meth c H locs cells slots Q (F0 m pc ls (.int (iI b) :: .int (iI a) :: rest)) := by
  refine lv_icmp_eq hx hb hdg ht (fun q => kt ?_) (fun q => kf ?_)
  · exact (iI_eq (by omega)).mp q
  · exact fun z => q ((iI_eq (by omega)).mpr z)
theorem my_if_eq (hx : p.tables.exec = Jvm.exec) (hb : c.code = cc) {a : Int} (h : -2147483648 ≤ a ∧ a < 2147483648) {off : Int} {tgt : Nat} (hdg : decode cc pc = .ok (.ifCond .eq off, 3)) (ht : (pc : Int) + off = (tgt : Int)) (kt : a = 0 → W p l e R s m args below meth c H locs cells slots Q (F0 m tgt ls rest)) (kf : a ≠ 0 → W p l e R s m args below meth c H locs cells slots Q (F0 m (pc + 3) ls rest)) : W p l e R s m args below meth c H locs cells slots Q (F0 m pc ls (.int (iI a) :: rest)) := by
  refine lv_if_eq hx hb hdg ht (fun q => kt ?_) (fun q => kf ?_)
  · exact my_z_eq.1 h q
  · exact my_z_eq.2 h q
theorem my_icmp_ne (hx : p.tables.exec = Jvm.exec) (hb : c.code = cc) {a b : Int} (h : -2147483648 ≤ a ∧ a < 2147483648 ∧ -2147483648 ≤ b ∧ b < 2147483648) {off : Int} {tgt : Nat} (hdg : decode cc pc = .ok (.if_icmp .ne off, 3)) (ht : (pc : Int) + off = (tgt : Int)) (kt : a ≠ b → W p l e R s m args below meth c H locs cells slots Q (F0 m tgt ls rest)) (kf : a = b → W p l e R s m args below meth c H locs cells slots Q (F0 m (pc + 3) ls rest)) : W p l e R s m args below meth c H locs cells slots Q (F0 m pc ls (.int (iI b) :: .int (iI a) :: rest)) := by
  refine lv_icmp_ne hx hb hdg ht (fun q => kt ?_) (fun q => kf ?_)
  · exact fun z => q ((iI_eq (by omega)).mpr z)
  · exact (iI_eq (by omega)).mp q
theorem my_if_ne (hx : p.tables.exec = Jvm.exec) (hb : c.code = cc) {a : Int} (h : -2147483648 ≤ a ∧ a < 2147483648) {off : Int} {tgt : Nat} (hdg : decode cc pc = .ok (.ifCond .ne off, 3)) (ht : (pc : Int) + off = (tgt : Int)) (kt : a ≠ 0 → W p l e R s m args below meth c H locs cells slots Q (F0 m tgt ls rest)) (kf : a = 0 → W p l e R s m args below meth c H locs cells slots Q (F0 m (pc + 3) ls rest)) : W p l e R s m args below meth c H locs cells slots Q (F0 m pc ls (.int (iI a) :: rest)) := by
  refine lv_if_ne hx hb hdg ht (fun q => kt ?_) (fun q => kf ?_)
  · exact my_z_ne.1 h q
  · exact my_z_eq.1 h q
theorem my_lcmp_lt (hx : p.tables.exec = Jvm.exec) (hb : c.code = cc) {a b : Int} (h : -9223372036854775808 ≤ a ∧ a < 9223372036854775808 ∧ -9223372036854775808 ≤ b ∧ b < 9223372036854775808) {off : Int} {tgt : Nat} (hd1 : decode cc pc = .ok (.lcmp, 1)) (hdg : decode cc (pc + 1) = .ok (.ifCond .lt off, 3)) (ht : ((pc + 1 : Nat) : Int) + off = (tgt : Int)) (kt : a < b → W p l e R s m args below meth c H locs cells slots Q (F0 m tgt ls rest)) (kf : b ≤ a → W p l e R s m args below meth c H locs cells slots Q (F0 m (pc + 4) ls rest)) : W p l e R s m args below meth c H locs cells slots Q (F0 m pc ls (.long (lI b) :: .long (lI a) :: rest)) := by
  refine W.lcmp hx hb hd1 ?_
  rw [lg_cmp_iI h]
  refine my_if_lt hx hb (by split <;> (try split) <;> omega) hdg ht (fun q => kt ?_) (fun q => kf ?_)
  · revert q; split <;> (try split) <;> intro q <;> omega
  · revert q; split <;> (try split) <;> intro q <;> omega
theorem my_lcmp_ge (hx : p.tables.exec = Jvm.exec) (hb : c.code = cc) {a b : Int} (h : -9223372036854775808 ≤ a ∧ a < 9223372036854775808 ∧ -9223372036854775808 ≤ b ∧ b < 9223372036854775808) {off : Int} {tgt : Nat} (hd1 : decode cc pc = .ok (.lcmp, 1)) (hdg : decode cc (pc + 1) = .ok (.ifCond .ge off, 3)) (ht : ((pc + 1 : Nat) : Int) + off = (tgt : Int)) (kt : b ≤ a → W p l e R s m args below meth c H locs cells slots Q (F0 m tgt ls rest)) (kf : a < b → W p l e R s m args below meth c H locs cells slots Q (F0 m (pc + 4) ls rest)) : W p l e R s m args below meth c H locs cells slots Q (F0 m pc ls (.long (lI b) :: .long (lI a) :: rest)) := by
  refine W.lcmp hx hb hd1 ?_
  rw [lg_cmp_iI h]
  refine my_if_ge hx hb (by split <;> (try split) <;> omega) hdg ht (fun q => kt ?_) (fun q => kf ?_)
  · revert q; split <;> (try split) <;> intro q <;> omega
  · revert q; split <;> (try split) <;> intro q <;> omega
theorem my_lcmp_gt (hx : p.tables.exec = Jvm.exec) (hb : c.code = cc) {a b : Int} (h : -9223372036854775808 ≤ a ∧ a < 9223372036854775808 ∧ -9223372036854775808 ≤ b ∧ b < 9223372036854775808) {off : Int} {tgt : Nat} (hd1 : decode cc pc = .ok (.lcmp, 1)) (hdg : decode cc (pc + 1) = .ok (.ifCond .gt off, 3)) (ht : ((pc + 1 : Nat) : Int) + off = (tgt : Int)) (kt : b < a → W p l e R s m args below meth c H locs cells slots Q (F0 m tgt ls rest)) (kf : a ≤ b → W p l e R s m args below meth c H locs cells slots Q (F0 m (pc + 4) ls rest)) : W p l e R s m args below meth c H locs cells slots Q (F0 m pc ls (.long (lI b) :: .long (lI a) :: rest)) := by
  refine W.lcmp hx hb hd1 ?_
  rw [lg_cmp_iI h]
  refine my_if_gt hx hb (by split <;> (try split) <;> omega) hdg ht (fun q => kt ?_) (fun q => kf ?_)
  · revert q; split <;> (try split) <;> intro q <;> omega
  · revert q; split <;> (try split) <;> intro q <;> omega
theorem my_lcmp_le (hx : p.tables.exec = Jvm.exec) (hb : c.code = cc) {a b : Int} (h : -9223372036854775808 ≤ a ∧ a < 9223372036854775808 ∧ -9223372036854775808 ≤ b ∧ b < 9223372036854775808) {off : Int} {tgt : Nat} (hd1 : decode cc pc = .ok (.lcmp, 1)) (hdg : decode cc (pc + 1) = .ok (.ifCond .le off, 3)) (ht : ((pc + 1 : Nat) : Int) + off = (tgt : Int)) (kt : a ≤ b → W p l e R s m args below meth c H locs cells slots Q (F0 m tgt ls rest)) (kf : b < a → W p l e R s m args below meth c H locs cells slots Q (F0 m (pc + 4) ls rest)) : W p l e R s m args below meth c H locs cells slots Q (F0 m pc ls (.long (lI b) :: .long (lI a) :: rest)) := by
  refine W.lcmp hx hb hd1 ?_
  rw [lg_cmp_iI h]
  refine my_if_le hx hb (by split <;> (try split) <;> omega) hdg ht (fun q => kt ?_) (fun q => kf ?_)
  · revert q; split <;> (try split) <;> intro q <;> omega
  · revert q; split <;> (try split) <;> intro q <;> omega
theorem my_lcmp_eq (hx : p.tables.exec = Jvm.exec) (hb : c.code = cc) {a b : Int} (h : -9223372036854775808 ≤ a ∧ a < 9223372036854775808 ∧ -9223372036854775808 ≤ b ∧ b < 9223372036854775808) {off : Int} {tgt : Nat} (hd1 : decode cc pc = .ok (.lcmp, 1)) (hdg : decode cc (pc + 1) = .ok (.ifCond .eq off, 3)) (ht : ((pc + 1 : Nat) : Int) + off = (tgt : Int)) (kt : a = b → W p l e R s m args below meth c H locs cells slots Q (F0 m tgt ls rest)) (kf : a ≠ b → W p l e R s m args below meth c H locs cells slots Q (F0 m (pc + 4) ls rest)) : W p l e R s m args below meth c H locs cells slots Q (F0 m pc ls (.long (lI b) :: .long (lI a) :: rest)) := by
  refine W.lcmp hx hb hd1 ?_
  rw [lg_cmp_iI h]
  refine my_if_eq hx hb (by split <;> (try split) <;> omega) hdg ht (fun q => kt ?_) (fun q => kf ?_)
  · revert q; split <;> (try split) <;> intro q <;> omega
  · revert q; split <;> (try split) <;> intro q <;> omega
theorem my_lcmp_ne (hx : p.tables.exec = Jvm.exec) (hb : c.code = cc) {a b : Int} (h : -9223372036854775808 ≤ a ∧ a < 9223372036854775808 ∧ -9223372036854775808 ≤ b ∧ b < 9223372036854775808) {off : Int} {tgt : Nat} (hd1 : decode cc pc = .ok (.lcmp, 1)) (hdg : decode cc (pc + 1) = .ok (.ifCond .ne off, 3)) (ht : ((pc + 1 : Nat) : Int) + off = (tgt : Int)) (kt : a ≠ b → W p l e R s m args below meth c H locs cells slots Q (F0 m tgt ls rest)) (kf : a = b → W p l e R s m args below meth c H locs cells slots Q (F0 m (pc + 4) ls rest)) : W p l e R s m args below meth c H locs cells slots Q (F0 m pc ls (.long (lI b) :: .long (lI a) :: rest)) := by
  refine W.lcmp hx hb hd1 ?_
  rw [lg_cmp_iI h]
  refine my_if_ne hx hb (by split <;> (try split) <;> omega) hdg ht (fun q => kt ?_) (fun q => kf ?_)
  · revert q; split <;> (try split) <;> intro q <;> omega
  · revert q; split <;> (try split) <;> intro q <;> omega
theorem my_get (hx : p.tables.exec = Jvm.exec) (hb : c.code = cc) (hts : ∀ w ∈ ALL, w.before args s = true) {own C : String} {T : u_T} {N ci index : Nat} {a : Nat} (hin : ∀ w ∈ u_ws C T N, w ∈ ALL) (hown : s.vm.findClass own = some m.cls) (hK : KK D cs s) (hP : va_P D vwCl ws H) (q0 : Nat) {fs : List Value} (he : ws[q0]? = some (a, .inr (ci, fs))) (hc : vwCl[ci]? = some (C, T, N)) (k : Nat) (hk : k < N) (hlink : Cond.fieldLink own index C (T k).2.1 (T k).2.2.1 ∈ ALL) (hd : (T k).1 = C) {v : Value} (hv : fs[k]? = some v) (hdg : decode cc pc = .ok (.getfield index, 3))
    (kk : W p l e R s m args below meth c H locs cells slots Q (F0 m (pc + 3) ls (v :: rest))) : W p l e R s m args below meth c H locs cells slots Q (F0 m pc ls (.ref a :: rest)) := va_get hx hb hts hin hown hK hP q0 he hc k hk (hts _ hlink) (fun x h => by rw [hd] at h; exact h) hv hdg kk
theorem my_getN (hx : p.tables.exec = Jvm.exec) (hb : c.code = cc) (hts : ∀ w ∈ ALL, w.before args s = true) {own C : String} {T : u_T} {N ci index : Nat} {a : Nat} (hin : ∀ w ∈ u_ws C T N, w ∈ ALL) (hown : s.vm.findClass own = some m.cls) (hK : KK D cs s) (hN : NN s) (hP : va_P D vwCl ws H) (q0 : Nat) {fs : List Value} (he : ws[q0]? = some (a, .inr (ci, fs))) (hc : vwCl[ci]? = some (C, T, N)) (k : Nat) (hk : k < N) (j : Nat) (hj : nestF[j]? = some (own, index, C, (T k).2.1, (T k).2.2.1)) (hd : (T k).1 = C) {v : Value} (hv : fs[k]? = some v) (hdg : decode cc pc = .ok (.getfield index, 3))
    (kk : W p l e R s m args below meth c H locs cells slots Q (F0 m (pc + 3) ls (v :: rest))) : W p l e R s m args below meth c H locs cells slots Q (F0 m pc ls (.ref a :: rest)) := va_getN hx hb hts hin hown hK hP q0 he hc k hk (va_Nw.use rfl (hN.1 _ (List.mem_of_getElem? hj))) (fun x h => by rw [hd] at h; exact h) hv hdg kk
theorem my_put (hx : p.tables.exec = Jvm.exec) (hb : c.code = cc) (hts : ∀ w ∈ ALL, w.before args s = true) {own C : String} {T : u_T} {N ci index : Nat} {a : Nat} (hin : ∀ w ∈ u_ws C T N, w ∈ ALL) {ty0 : Nat → FieldType} (hty : ∀ k, k < N → parseFieldDescriptor (T k).2.2.1 = some (ty0 k)) (hnm : ∀ a, a < N → ∀ b, b < N → a ≠ b → (T a).2.1 ≠ (T b).2.1) (hown : s.vm.findClass own = some m.cls) (hK : KK D cs s) (hP : va_P D vwCl ws H) (hD : va_D A ws) (hS : va_S A H0 H locs) (q0 : Nat) {fs : List Value} (he : ws[q0]? = some (a, .inr (ci, fs))) (hc : vwCl[ci]? = some (C, T, N)) (k : Nat) (hk : k < N) (hlink : Cond.fieldLink own index C (T k).2.1 (T k).2.2.1 ∈ ALL) (hd : (T k).1 = C) (hfin : (T k).2.2.2 = false) (hi : ty0 k = .int) {z : Int} (hl : k < fs.length) (hdg : decode cc pc = .ok (.putfield index, 3))
    (kk : ∀ (H1 : Heap) (locs1 : List Loc), va_P D vwCl (ws.set q0 (a, .inr (ci, fs.set k (.int (iI z))))) H1 → va_D A (ws.set q0 (a, .inr (ci, fs.set k (.int (iI z))))) → va_S A H0 H1 locs1 → W p l e R s m args below meth c H1 locs1 cells slots Q (F0 m (pc + 3) ls rest)) : W p l e R s m args below meth c H locs cells slots Q (F0 m pc ls (.int (iI z) :: .ref a :: rest)) := va_put hx hb hts hin ty0 hty hnm hown hK hP hD hS q0 he hc k hk (hts _ hlink) (fun x h => by rw [hd] at h; exact h) hfin (ty := .int) (by rw [hty k hk, hi]) rfl rfl hl hdg kk
theorem my_putN (hx : p.tables.exec = Jvm.exec) (hb : c.code = cc) (hts : ∀ w ∈ ALL, w.before args s = true) {own C : String} {T : u_T} {N ci index : Nat} {a : Nat} (hin : ∀ w ∈ u_ws C T N, w ∈ ALL) {ty0 : Nat → FieldType} (hty : ∀ k, k < N → parseFieldDescriptor (T k).2.2.1 = some (ty0 k)) (hnm : ∀ a, a < N → ∀ b, b < N → a ≠ b → (T a).2.1 ≠ (T b).2.1) (hown : s.vm.findClass own = some m.cls) (hK : KK D cs s) (hN : NN s) (hP : va_P D vwCl ws H) (hD : va_D A ws) (hS : va_S A H0 H locs) (q0 : Nat) {fs : List Value} (he : ws[q0]? = some (a, .inr (ci, fs))) (hc : vwCl[ci]? = some (C, T, N)) (k : Nat) (hk : k < N) (j : Nat) (hj : nestF[j]? = some (own, index, C, (T k).2.1, (T k).2.2.1)) (hd : (T k).1 = C) (hfin : (T k).2.2.2 = false) (hi : ty0 k = .int) {z : Int} (hl : k < fs.length) (hdg : decode cc pc = .ok (.putfield index, 3))
    (kk : ∀ (H1 : Heap) (locs1 : List Loc), va_P D vwCl (ws.set q0 (a, .inr (ci, fs.set k (.int (iI z))))) H1 → va_D A (ws.set q0 (a, .inr (ci, fs.set k (.int (iI z))))) → va_S A H0 H1 locs1 → W p l e R s m args below meth c H1 locs1 cells slots Q (F0 m (pc + 3) ls rest)) : W p l e R s m args below meth c H locs cells slots Q (F0 m pc ls (.int (iI z) :: .ref a :: rest)) := va_putN hx hb hts hin ty0 hty hnm hown hK hP hD hS q0 he hc k hk (va_Nw.use rfl (hN.1 _ (List.mem_of_getElem? hj))) (fun x h => by rw [hd] at h; exact h) hfin (ty := .int) (by rw [hty k hk, hi]) rfl rfl hl hdg kk
theorem my_iald (hx : p.tables.exec = Jvm.exec) (hb : c.code = cc) (hK : KK D cs s) (hP : va_P D vwCl ws H) (q0 : Nat) {a n : Nat} {f : Nat → Int} (ha : ws[q0]? = some (a, arI cs n f)) {z : Int} (h : 0 ≤ z ∧ z < n ∧ n < 2147483648) {k : Nat} (hk : z.toNat = k) (hdg : decode cc pc = .ok (.iaload, 1))
    (kk : W p l e R s m args below meth c H locs cells slots Q (F0 m (pc + 1) ls (.int (iI (f k)) :: rest))) : W p l e R s m args below meth c H locs cells slots Q (F0 m pc ls (.int (iI z) :: .ref a :: rest)) := by
  refine va_iald hx hb hK hP q0 0 ha rfl (iI_in h) hdg ?_
  rw [iI_cl (by omega), hk]; exact kk
theorem my_iast (hx : p.tables.exec = Jvm.exec) (hb : c.code = cc) (hK : KK D cs s) (hP : va_P D vwCl ws H) (hD : va_D A ws) (hS : va_S A H0 H locs) (q0 : Nat) {a n : Nat} {f : Nat → Int} (ha : ws[q0]? = some (a, arI cs n f)) {z v : Int} (h : 0 ≤ z ∧ z < n ∧ n < 2147483648) {k : Nat} (hk : z.toNat = k) (hdg : decode cc pc = .ok (.iastore, 1))
    (kk : ∀ (H1 : Heap) (locs1 : List Loc), va_P D vwCl (ws.set q0 (a, arI cs n (upI f k v))) H1 → va_D A (ws.set q0 (a, arI cs n (upI f k v))) → va_S A H0 H1 locs1 → W p l e R s m args below meth c H1 locs1 cells slots Q (F0 m (pc + 1) ls rest)) : W p l e R s m args below meth c H locs cells slots Q (F0 m pc ls (.int (iI v) :: .int (iI z) :: .ref a :: rest)) := by
  refine va_iast hx hb hK hP hD hS q0 0 ha rfl (iI_in h) hdg ?_
  rw [iI_cl (by omega), hk, upd_iI]; exact kk
theorem my_aald (hx : p.tables.exec = Jvm.exec) (hb : c.code = cc) (hK : KK D cs s) (hP : va_P D vwCl ws H) (q0 t0 : Nat) {C : String} (ht : (TY cs)[t0]? = some (cs t0, .object C)) {a n : Nat} {f : Nat → Option Nat} (ha : ws[q0]? = some (a, arQ cs t0 n f)) {z : Int} (h : 0 ≤ z ∧ z < n ∧ n < 2147483648) {k : Nat} (hk : z.toNat = k) (hdg : decode cc pc = .ok (.aaload, 1))
    (kk : W p l e R s m args below meth c H locs cells slots Q (F0 m (pc + 1) ls (va_rf (f k) :: rest))) : W p l e R s m args below meth c H locs cells slots Q (F0 m pc ls (.int (iI z) :: .ref a :: rest)) := by
  refine va_aldq hx hb hK hP q0 t0 ha ht (iI_in h) hdg ?_
  rw [iI_cl (by omega), hk]; exact kk
theorem my_alenI (hx : p.tables.exec = Jvm.exec) (hb : c.code = cc) (hK : KK D cs s) (hP : va_P D vwCl ws H) (q0 : Nat) {a n : Nat} {f : Nat → Int} (ha : ws[q0]? = some (a, arI cs n f)) (hdg : decode cc pc = .ok (.arraylength, 1))
    (kk : W p l e R s m args below meth c H locs cells slots Q (F0 m (pc + 1) ls (.int (iI (n : Int)) :: rest))) : W p l e R s m args below meth c H locs cells slots Q (F0 m pc ls (.ref a :: rest)) := va_alen hx hb hK hP q0 0 ha (ty := .int) (show (TY cs)[0]? = some (cs 0, .int) from rfl) (iI_ofNat n) hdg kk
theorem my_alenQ (hx : p.tables.exec = Jvm.exec) (hb : c.code = cc) (hK : KK D cs s) (hP : va_P D vwCl ws H) (q0 t0 : Nat) {C : String} (ht : (TY cs)[t0]? = some (cs t0, .object C)) {a n : Nat} {f : Nat → Option Nat} (ha : ws[q0]? = some (a, arQ cs t0 n f)) (hdg : decode cc pc = .ok (.arraylength, 1))
    (kk : W p l e R s m args below meth c H locs cells slots Q (F0 m (pc + 1) ls (.int (iI (n : Int)) :: rest))) : W p l e R s m args below meth c H locs cells slots Q (F0 m pc ls (.ref a :: rest)) := va_alen hx hb hK hP q0 t0 ha ht (iI_ofNat n) hdg kk
end MYR
end
section
/-! what the methods answer, as numbers -/
def smI (f : Nat → Int) : Nat → Int
  | 0 => 0
  | n + 1 => smI f n + f n
def mnI (a b : Int) : Int := if b < a then b else a
def mxI (a b : Int) : Int := if b < a then a else b
def abI (a : Int) : Int := if 0 ≤ a then a else 0 - a
/-- the forecast for a day, in thousandths -/
def thI (lev : Int) (se : Nat → Int) (d : Nat) : Int := lev * se (d % 7) / 1000
/-- the level behind a day -/
def lvI (lev se1 dem lr : Int) : Int := lev + lr * (dem * 1000000 / se1 - lev) / 100
/-- the season behind a day, at the new level -/
def seI (lev1 se1 dem sr : Int) : Int := mxI 100 (mnI 5000 (se1 + sr * (dem * 1000000 / lev1 - se1) / 100))
def snI (lev1 : Int) (se : Nat → Int) (w : Nat) (dem sr : Int) : Nat → Int := if 0 < lev1 then upI se w (seI lev1 (se w) dem sr) else se
def unI (lev : Int) (se : Nat → Int) (d : Nat) : Int := (thI lev se d + 500) / 1000
def tdI (a : Int) : Int := if 0 ≤ a then a / 100 else -((-a) / 100)
/-- the error of a day -/
def erI (dem un : Int) : Int := mnI 20 (abI (dem - un))
def sfI (er : Nat → Int) (es pct : Int) : Nat → Nat → Int
  | _, 0 => 20
  | k, n + 1 => if pct * es ≤ smI er (k + 1) * 100 then (k : Int) else sfI er es pct (k + 1) n
def duI (ar : Nat → Int) (d : Nat) : Int := smI (fun j => ar (d + (j + 1))) 5
def fdI (ar : Nat → Int) (d : Nat) : Nat → Nat → Int
  | _, 0 => -1
  | k, n + 1 => if 0 < ar (d + k) then (d : Int) + (k : Int) else fdI ar d (k + 1) n
def fcI (lev : Int) (se : Nat → Int) (d : Nat) : Nat → Int := smI (fun j => thI lev se (d + j))
def ndI (lev : Int) (se : Nat → Int) (er : Nat → Int) (es pct st : Int) (ar : Nat → Int) (d ld : Nat) : Int := (fcI lev se d (ld + 1) + 999) / 1000 + sfI er es pct 0 21 - st - duI ar d
def rqI (nd pk : Int) : Int := if 0 < nd then (nd + pk - 1) / pk else 0
theorem my_min {a b : Int} (h : -2147483648 ≤ a ∧ a < 2147483648 ∧ -2147483648 ≤ b ∧ b < 2147483648) : (if iI b < iI a then iI b else iI a) = iI (mnI a b) := by
  unfold mnI
  by_cases q : b < a
  · rw [if_pos ((iI_lt (by omega)).mpr q), if_pos q]
  · rw [if_neg (fun z => q ((iI_lt (by omega)).mp z)), if_neg q]
theorem my_abs {a : Int} (h : -2147483647 ≤ a ∧ a < 2147483648) : (if 0 ≤ iI a then iI a else 0 - iI a) = iI (abI a) := by
  unfold abI
  have e0 : (0 : Int32) = iI 0 := rfl
  by_cases q : 0 ≤ a
  · rw [if_pos (by rw [e0]; exact (iI_le (by omega)).mpr q), if_pos q]
  · rw [if_neg (by rw [e0]; exact fun z => q ((iI_le (by omega)).mp z)), if_neg q, e0, iI_sub]
theorem my_minL {a b : Int} (h : -9223372036854775808 ≤ a ∧ a < 9223372036854775808 ∧ -9223372036854775808 ≤ b ∧ b < 9223372036854775808) : (if lI b < lI a then lI b else lI a) = lI (mnI a b) := by
  unfold mnI
  by_cases q : b < a
  · rw [if_pos ((lI_lt (by omega)).mpr q), if_pos q]
  · rw [if_neg (fun z => q ((lI_lt (by omega)).mp z)), if_neg q]
theorem my_maxL {a b : Int} (h : -9223372036854775808 ≤ a ∧ a < 9223372036854775808 ∧ -9223372036854775808 ≤ b ∧ b < 9223372036854775808) : (if lI b < lI a then lI a else lI b) = lI (mxI a b) := by
  unfold mxI
  by_cases q : b < a
  · rw [if_pos ((lI_lt (by omega)).mpr q), if_pos q]
  · rw [if_neg (fun z => q ((lI_lt (by omega)).mp z)), if_neg q]
section MYC
variable {p : Program} {l : Launch} {e : Env} {R : Room} {s : State} {m : MethodId} {args : Array Value} {below : List Frame} {meth : Method} {c : Code} {H : Heap} {locs : List Loc} {cells slots : Nat} {Q : State → Prop} {pc : Nat} {ls : Array Slot} {rest : List Value}
theorem my_cv0 {a z : Int} (h : a = z) (k : W p l e R s m args below meth c H locs cells slots Q (F0 m pc ls (.int (iI z) :: rest))) : W p l e R s m args below meth c H locs cells slots Q (F0 m pc ls (.int (iI a) :: rest)) := by rw [h]; exact k
theorem my_cv1 {a z : Int} {v : Value} (h : a = z) (k : W p l e R s m args below meth c H locs cells slots Q (F0 m pc ls (v :: .int (iI z) :: rest))) : W p l e R s m args below meth c H locs cells slots Q (F0 m pc ls (v :: .int (iI a) :: rest)) := by rw [h]; exact k
theorem my_cvl {a z : Int} (h : a = z) (k : W p l e R s m args below meth c H locs cells slots Q (F0 m pc ls (.long (lI z) :: rest))) : W p l e R s m args below meth c H locs cells slots Q (F0 m pc ls (.long (lI a) :: rest)) := by rw [h]; exact k
theorem my_ldiv100 {cc : ByteArray} (hx : p.tables.exec = Jvm.exec) (hb : c.code = cc) {a : Int} (hdg : decode cc pc = .ok (.ldiv, 1)) (h : -4611686018427387904 ≤ a ∧ a ≤ 4611686018427387904) (k : W p l e R s m args below meth c H locs cells slots Q (F0 m (pc + 1) ls (.long (lI (tdI a)) :: rest))) : W p l e R s m args below meth c H locs cells slots Q (F0 m pc ls (.long (lI 100) :: .long (lI a) :: rest)) := by
  refine lv_ldiv hx hb hdg (lI_ne (by omega)) ?_
  rw [lI_tdiv (by omega), show a.tdiv 100 = tdI a from ?_]
  · exact k
  · unfold tdI
    split
    · rename_i q; exact Int.tdiv_eq_ediv_of_nonneg q
    · rename_i q
      have h1 : (-a).tdiv 100 = (-a) / 100 := Int.tdiv_eq_ediv_of_nonneg (by omega)
      rw [← h1, Int.neg_tdiv, Int.neg_neg]
theorem lxor_neg {a : Int} (h : -4611686018427387904 ≤ a ∧ a ≤ 4611686018427387904) : ((lI a ^^^ lI 100).toInt < 0 ↔ a < 0) := by
  have e1 : (lI a).toInt = a := lI_toInt (by omega)
  have h1 : ∀ x : Int64, x.toInt < 0 ↔ x.toBitVec.msb = true := fun x => by
    rw [BitVec.msb_eq_toInt]; simp [Int64.toInt_toBitVec]
  rw [h1, Int64.toBitVec_xor, BitVec.msb_xor]
  have h2 := h1 (lI a)
  rw [e1] at h2
  have h3 : (lI 100).toBitVec.msb = false := by decide
  rw [h3, h2]
  simp
theorem my_lxor100 {cc : ByteArray} (hx : p.tables.exec = Jvm.exec) (hb : c.code = cc) {a : Int} (hdg : decode cc pc = .ok (.lxor, 1)) (h : -4611686018427387904 ≤ a ∧ a ≤ 4611686018427387904) (k : ∀ z : Int, (z < 0 ↔ a < 0) → (-9223372036854775808 ≤ z ∧ z < 9223372036854775808) → W p l e R s m args below meth c H locs cells slots Q (F0 m (pc + 1) ls (.long (lI z) :: rest))) : W p l e R s m args below meth c H locs cells slots Q (F0 m pc ls (.long (lI 100) :: .long (lI a) :: rest)) := by
  refine lv_lxor hx hb hdg ?_
  have e : (lI a ^^^ lI 100) = lI ((lI a ^^^ lI 100).toInt) := (Int64.ofInt_toInt _).symm
  rw [e]
  exact k _ (lxor_neg h) ⟨Int64.le_toInt _, Int64.toInt_lt _⟩
end MYC
theorem mulS {a y B : Int} (h : 0 ≤ a ∧ a ≤ 100) (hy : -B ≤ y ∧ y ≤ B) : -(100 * B) ≤ a * y ∧ a * y ≤ 100 * B := by
  have h1 : 0 ≤ a * (B - y) := Int.mul_nonneg h.1 (by omega)
  have h2 : 0 ≤ a * (B + y) := Int.mul_nonneg h.1 (by omega)
  have h3 : 0 ≤ (100 - a) * B := Int.mul_nonneg (by omega) (by omega)
  rw [Int.mul_sub] at h1
  rw [Int.mul_add] at h2
  rw [Int.sub_mul] at h3
  omega
theorem tdI_fl {a : Int} (h : -4611686018427387904 ≤ a ∧ a ≤ 4611686018427387904) : -46116860184273880 ≤ tdI a ∧ tdI a ≤ 46116860184273880 ∧ (0 ≤ a → tdI a = a / 100) ∧ (a < 0 → tdI a * 100 = a → tdI a = a / 100) ∧ (a < 0 → tdI a * 100 ≠ a → tdI a - 1 = a / 100) := by
  unfold tdI; split <;> omega
/-! bounds -/
theorem mnI_le {a b : Int} : mnI a b ≤ a ∧ mnI a b ≤ b ∧ (mnI a b = a ∨ mnI a b = b) := by unfold mnI; split <;> omega
theorem mxI_ge {a b : Int} : a ≤ mxI a b ∧ b ≤ mxI a b ∧ (mxI a b = a ∨ mxI a b = b) := by unfold mxI; split <;> omega
theorem abI_ge (a : Int) : 0 ≤ abI a ∧ (abI a = a ∨ abI a = -a) := by unfold abI; split <;> omega
theorem erI_rng (a b : Int) : 0 ≤ erI a b ∧ erI a b ≤ 20 := by
  have h1 := @mnI_le 20 (abI (a - b)); have h2 := abI_ge (a - b)
  unfold erI; omega
theorem seI_rng (a b x y : Int) : 100 ≤ seI a b x y ∧ seI a b x y ≤ 5000 := by
  unfold seI
  have h1 := @mnI_le 5000 (b + y * (x * 1000000 / a - b) / 100)
  have h2 := @mxI_ge 100 (mnI 5000 (b + y * (x * 1000000 / a - b) / 100))
  omega
theorem div_rng {a b : Int} (ha : 0 ≤ a) (hb : 0 < b) : 0 ≤ a / b ∧ a / b ≤ a := by
  refine ⟨Int.ediv_nonneg ha (by omega), ?_⟩
  exact Int.ediv_le_self _ ha
theorem mul_rng {a b A B : Int} (ha : 0 ≤ a) (ha2 : a ≤ A) (hb : 0 ≤ b) (hb2 : b ≤ B) : 0 ≤ a * b ∧ a * b ≤ A * B := ⟨Int.mul_nonneg ha hb, Int.le_trans (Int.mul_le_mul_of_nonneg_left hb2 ha) (Int.mul_le_mul_of_nonneg_right ha2 (by omega))⟩
theorem thI_rng {lev : Int} {se : Nat → Int} {d : Nat} (h : 0 ≤ lev ∧ lev ≤ 9990000) (hs : ∀ w, 100 ≤ se w ∧ se w ≤ 5000) : 0 ≤ thI lev se d ∧ thI lev se d ≤ 49950000 ∧ 0 ≤ lev * se (d % 7) ∧ lev * se (d % 7) ≤ 49950000000 := by
  unfold thI
  have h1 := hs (d % 7)
  have h2 := mul_rng (a := lev) (b := se (d % 7)) (A := 9990000) (B := 5000) h.1 h.2 (by omega) h1.2
  omega
theorem lvI_rng {lev se1 dem lr : Int} (h : 0 ≤ lev ∧ lev ≤ 9990000) (hs : 100 ≤ se1 ∧ se1 ≤ 5000) (hd : 0 ≤ dem ∧ dem ≤ 999) (hr : 0 ≤ lr ∧ lr ≤ 100) : 0 ≤ lvI lev se1 dem lr ∧ lvI lev se1 dem lr ≤ 9990000 := by
  unfold lvI
  have hx0 : 0 ≤ dem * 1000000 / se1 := Int.ediv_nonneg (by omega) (by omega)
  have hx1 : dem * 1000000 / se1 ≤ 9990000 := by
    refine Int.ediv_le_of_le_mul (by omega) ?_
    omega
  obtain ⟨x, hx⟩ : ∃ x, x = dem * 1000000 / se1 := ⟨_, rfl⟩
  rw [← hx] at hx0 hx1 ⊢
  have e1 : lr * (x - lev) = lr * x - lr * lev := Int.mul_sub _ _ _
  have a1 := mul_rng (a := lr) (b := x) (A := 100) (B := x) hr.1 hr.2 hx0 (Int.le_refl _)
  have a2 := mul_rng (a := lr) (b := lev) (A := 100) (B := lev) hr.1 hr.2 h.1 (Int.le_refl _)
  have a3 : (100 - lr) * (9990000 - lev) ≥ 0 := Int.mul_nonneg (by omega) (by omega)
  have a4 : lr * (9990000 - x) ≥ 0 := Int.mul_nonneg hr.1 (by omega)
  have e3 : (100 - lr) * (9990000 - lev) = 100 * 9990000 - 100 * lev - lr * 9990000 + lr * lev := by
    rw [Int.sub_mul, Int.mul_sub, Int.mul_sub]; omega
  have e4 : lr * (9990000 - x) = lr * 9990000 - lr * x := Int.mul_sub _ _ _
  omega
theorem sfI_rng {er : Nat → Int} {es pct : Int} : ∀ (n k : Nat), k + n = 21 → 0 ≤ sfI er es pct k n ∧ sfI er es pct k n ≤ 20
  | 0, k, h => by unfold sfI; omega
  | n + 1, k, h => by
    unfold sfI
    split
    · omega
    · exact sfI_rng n (k + 1) (by omega)
theorem smI_le {f : Nat → Int} {B : Int} (h : ∀ j, 0 ≤ f j ∧ f j ≤ B) : ∀ n : Nat, 0 ≤ smI f n ∧ smI f n ≤ B * n
  | 0 => by simp [smI]
  | n + 1 => by
    have h1 := smI_le h n
    have h2 := h n
    simp only [smI]
    have : B * ((n + 1 : Nat) : Int) = B * n + B := by rw [Int.natCast_add, Int.mul_add]; simp
    omega
theorem smI_congr {f g : Nat → Int} : ∀ {n : Nat}, (∀ j, j < n → f j = g j) → smI f n = smI g n
  | 0, _ => rfl
  | n + 1, h => by simp only [smI]; rw [smI_congr (n := n) (fun j hj => h j (by omega)), h n (by omega)]

/-- beyond its length an array's picture says nothing -/
theorem P_arI {D : va_G} {cl : List vw_C} {cs : Nat → ClassId} {ws : va_W} {H : Heap} {k a n : Nat} {f g : Nat → Int} (hP : va_P D cl ws H) (hk : ws[k]? = some (a, arI cs n f)) (h : ∀ j, j < n → f j = g j) : va_P D cl (ws.set k (a, arI cs n g)) H := by
  intro j q hq
  by_cases hj : j = k
  · subst hj
    have hl := (List.getElem?_eq_some_iff.mp hk).1
    rw [List.getElem?_set_self hl] at hq
    cases hq
    have h1 := hP j _ hk
    show H[a]? = some (vp_cell (cs 0) (n, .inl (fun j => iI (g j))))
    have h2 : H[a]? = some (vp_cell (cs 0) (n, .inl (fun j => iI (f j)))) := h1
    rw [h2]
    show some (arrV (cs 0) n (fun j => .int (iI (f j)))) = some (arrV (cs 0) n (fun j => .int (iI (g j))))
    unfold arrV
    congr 3
    funext j
    exact congrArg (fun z => Value.int (iI z)) (h j.val j.isLt)
  · rw [List.getElem?_set_ne (Ne.symm hj)] at hq
    exact hP j q hq
theorem D_arI {A : Nat → Prop} {cs : Nat → ClassId} {ws : va_W} {k a n : Nat} {f g : Nat → Int} (hD : va_D A ws) (hk : ws[k]? = some (a, arI cs n f)) : va_D A (ws.set k (a, arI cs n g)) := hD.set hk
def flI (f : Nat → Int) (v : Int) (i : Nat) : Nat → Int := fun j => if j < i then v else f j
theorem flI_0 (f : Nat → Int) (v : Int) : flI f v 0 = f := by funext j; simp [flI]
theorem flI_s (f : Nat → Int) (v : Int) (i : Nat) : upI (flI f v i) i v = flI f v (i + 1) := by
  funext j
  simp only [upI, flI]
  by_cases h : j = i
  · subst h; simp
  · rw [if_neg h]
    by_cases h2 : j < i
    · rw [if_pos h2, if_pos (by omega)]
    · rw [if_neg h2, if_neg (by omega)]
/-! shares -/
def nrI (rq : Nat → Int) (b : Int) : Int := if b < 0 then 1 else rq b.toNat
def ngI (gv : Nat → Int) (b : Int) : Int := if b < 0 then 0 else gv b.toNat
/-- the shop that gets the next pack, of the first n; less than 0 if none waits -/
def ntI (rq gv : Nat → Int) : Nat → Int
  | 0 => -1
  | n + 1 => if gv n < rq n ∧ (ntI rq gv n < 0 ∨ gv n * nrI rq (ntI rq gv n) < ngI gv (ntI rq gv n) * rq n) then (n : Int) else ntI rq gv n
/-- what is given, pack by pack -/
def grI (rq : Nat → Int) : Nat → Nat → Int
  | 0 => fun _ => 0
  | k + 1 => if ntI rq (grI rq k) 4 < 0 then grI rq k else upI (grI rq k) (ntI rq (grI rq k) 4).toNat (grI rq k (ntI rq (grI rq k) 4).toNat + 1)
/-- how many packs another shop gets ahead -/
def caI (rq : Nat → Int) (s : Nat) (h : Int) (o : Nat) : Int := if 0 < rq o ∧ o < s then h * rq o / rq s + 1 else if 0 < rq o ∧ s < o then (h * rq o + rq s - 1) / rq s else 0
def gaI (rq : Nat → Int) (s : Nat) (h : Int) : Int := if rq s ≤ 0 then 0 else h + smI (caI rq s h) 4
def ctI (rq : Nat → Int) (pk : Int) (s : Nat) : Nat → Int → Int → Int
  | 0, lo, _ => lo
  | n + 1, lo, hi => if hi ≤ lo then lo else if gaI rq s (lo + (hi - lo) / 2) < pk then ctI rq pk s n (lo + (hi - lo) / 2 + 1) hi else ctI rq pk s n lo (lo + (hi - lo) / 2)
theorem ntI_rng (rq gv : Nat → Int) : ∀ n : Nat, -1 ≤ ntI rq gv n ∧ ntI rq gv n < n ∧ (0 ≤ ntI rq gv n → gv (ntI rq gv n).toNat < rq (ntI rq gv n).toNat)
  | 0 => by simp [ntI]
  | n + 1 => by
    have h := ntI_rng rq gv n
    simp only [ntI]
    split
    · rename_i q
      refine ⟨by omega, by omega, fun _ => ?_⟩
      rw [Int.toNat_natCast]; exact q.1
    · exact ⟨h.1, by omega, h.2.2⟩
theorem grI_rng {rq : Nat → Int} (h : ∀ j, 0 ≤ rq j) : ∀ (k j : Nat), 0 ≤ grI rq k j ∧ grI rq k j ≤ rq j
  | 0, j => ⟨Int.le_refl _, h j⟩
  | k + 1, j => by
    have h1 := grI_rng h k j
    have h2 := ntI_rng rq (grI rq k) 4
    simp only [grI]
    split
    · exact h1
    · by_cases e : j = (ntI rq (grI rq k) 4).toNat
      · subst e
        rw [upI_same]
        have h3 := h2.2.2 (by omega)
        omega
      · rw [upI_ne e]; exact h1
theorem grI_stop {rq : Nat → Int} {k : Nat} (h : ntI rq (grI rq k) 4 < 0) : ∀ n : Nat, grI rq (k + n) = grI rq k
  | 0 => rfl
  | n + 1 => by
    have h1 := grI_stop h n
    rw [show k + (n + 1) = (k + n) + 1 from rfl, grI, h1, if_pos h]
theorem caI_rng {rq : Nat → Int} {s : Nat} {h : Int} (hr : ∀ j, 0 ≤ rq j ∧ rq j ≤ 1000000) (h0 : 0 ≤ h ∧ h ≤ 1000000) (hs : 0 < rq s) (o : Nat) : 0 ≤ caI rq s h o ∧ caI rq s h o ≤ 1000001000000 := by
  unfold caI
  have h1 := mul_rng (a := h) (b := rq o) (A := 1000000) (B := 1000000) h0.1 h0.2 (hr o).1 (hr o).2
  have h4 := (hr s).2
  split
  · have h2 := div_rng (a := h * rq o) (b := rq s) (by omega) hs
    omega
  · split
    · have h2 := div_rng (a := h * rq o + rq s - 1) (b := rq s) (by omega) hs
      omega
    · omega
theorem gaI_rng {rq : Nat → Int} {s : Nat} {h : Int} (hr : ∀ j, 0 ≤ rq j ∧ rq j ≤ 1000000) (h0 : 0 ≤ h ∧ h ≤ 1000000) : 0 ≤ gaI rq s h ∧ gaI rq s h ≤ 5000000000000 := by
  unfold gaI
  split
  · omega
  · have h1 := smI_le (f := caI rq s h) (B := 1000001000000) (fun j => caI_rng hr h0 (by omega) j) 4
    omega
/-! finding shops, items and lines -/
def okI (n : Nat) (z : Int) : Int := if 0 ≤ z ∧ z < (n : Int) then 1 else 0
theorem okI_s (n : Nat) (z : Int) : (okI n z = 1 ∧ 0 ≤ z ∧ z < (n : Int)) ∨ (okI n z = 0 ∧ ¬ (0 ≤ z ∧ z < (n : Int))) := by unfold okI; split <;> omega
def cdS (n : Nat) (z : Int) : Nat := if 0 ≤ z ∧ z < (n : Int) then 0 else 1
theorem cdS_s (n : Nat) (z : Int) : (cdS n z = 0 ∧ 0 ≤ z ∧ z < (n : Int)) ∨ (cdS n z = 1 ∧ ¬ (0 ≤ z ∧ z < (n : Int))) := by unfold cdS; split <;> omega
def plI (sh it : Nat) (zs zi : Int) : Int := if (0 ≤ zs ∧ zs < (sh : Int)) ∧ (0 ≤ zi ∧ zi < (it : Int)) then zs * 5 + zi else -1
theorem plI_s (sh it : Nat) (zs zi : Int) : (plI sh it zs zi = zs * 5 + zi ∧ 0 ≤ zs ∧ zs < (sh : Int) ∧ 0 ≤ zi ∧ zi < (it : Int)) ∨ (plI sh it zs zi = -1 ∧ ¬ ((0 ≤ zs ∧ zs < (sh : Int)) ∧ (0 ≤ zi ∧ zi < (it : Int)))) := by unfold plI; split <;> omega
def lnO (sh it : Nat) (lnf : Nat → Option Nat) (zs zi : Int) : Option Nat := if (0 ≤ zs ∧ zs < (sh : Int)) ∧ (0 ≤ zi ∧ zi < (it : Int)) then lnf (zs * 5 + zi).toNat else none
def itO (it : Nat) (itf : Nat → Option Nat) (zi : Int) : Option Nat := if 0 ≤ zi ∧ zi < (it : Int) then itf zi.toNat else none
def cdL (sh it : Nat) (lnf : Nat → Option Nat) (zs zi : Int) : Nat := if (0 ≤ zs ∧ zs < (sh : Int)) ∧ (0 ≤ zi ∧ zi < (it : Int)) then (if lnf (zs * 5 + zi).toNat = none then 2 else 0) else 1
theorem cdL_ok {sh it : Nat} {lnf : Nat → Option Nat} {zs zi : Int} (h : cdL sh it lnf zs zi = 0) : 0 ≤ zs ∧ zs < (sh : Int) ∧ 0 ≤ zi ∧ zi < (it : Int) ∧ ∃ q, lnf (zs * 5 + zi).toNat = some q := by
  unfold cdL at h
  split at h
  · rename_i h1
    split at h
    · omega
    · rename_i h2
      refine ⟨h1.1.1, h1.1.2, h1.2.1, h1.2.2, ?_⟩
      cases h3 : lnf (zs * 5 + zi).toNat with
      | none => exact absurd h3 h2
      | some q => exact ⟨q, rfl⟩
  · omega
end
section
abbrev ws_X0_on : List Cond := Cond.code yX0_on cX0_on 2 (some .int) :: ALL
set_option maxHeartbeats 4000000 in
set_option maxRecDepth 100000 in
/-- units booked at a day -/
theorem m_X0_on (l : Launch) (D : va_G) (cs : Nat → ClassId) (kb ub : Nat) (fb : Nat → Int) (dz : Nat) (hd : dz < 1005) : Met l yX0_on ws_X0_on ({ frames := 0, cells := 0, slots := 0, locals := 0 }) (va_Pc [.ref kb, .int (iI (((dz : Nat) : Int)))] (PC D cs [(kb, .inr (0, [.ref ub])), (ub, arI cs 1005 fb)])) (va_Qi (fun r (_ : Unit) => r = iI (fb dz)) (fun _ _ => True) noA) 0 0 noA := by
  refine Met.ofW (cc := cX0_on) (maxL := 2) (ret := (some .int)) (by decide +kernel) rfl ?_
  intro p e s m args below meth c s₁ B hml hv
  obtain ⟨rfl, hP, hK, hD, hN⟩ := hv
  have hx := B.exec
  have hb := B.bytes
  have hr := B.returns
  have hts : ∀ w ∈ ALL, w.before _ s = true := fun w h => atoms_spec (ws := ws_X0_on) B.pre w (List.mem_cons_of_mem _ h)
  have hown : s.vm.findClass RX0 = some m.cls := findClass_of_methodNamed B.named
  have hlocks := B.notSynchronized
  have hS : va_S noA s.heap s.heap [] := va_S.rf
  generalize inW [(kb, .inr (0, [.ref ub])), (ub, arI cs 1005 fb)] = A at hD
  have hl := lv_entry ([.ref kb, .int (iI (((dz : Nat) : Int)))]) (n := 2) (Nat.le_of_ble_eq_true rfl)
  rw [lg_entry_eq]
  generalize (lg_sl ([.ref kb, .int (iI (((dz : Nat) : Int)))]) ++ List.replicate (2 - (lg_sl ([.ref kb, .int (iI (((dz : Nat) : Int)))])).length) Slot.unset).toArray = ls at hl ⊢
  have hl : lv_has ls 2 [(0, .ref kb), (1, .int (iI (((dz : Nat) : Int))))] := hl
  have hH := rfl (a := s.heap)
  refine lv_iload_n hx hb dX0_on_0 rfl (lv_at hl 1 rfl) ?_
  refine my_if_lt (tgt := 22) hx hb (by omega) dX0_on_1 (by decide) (fun bh1 => (by omega : False).elim) (fun bh1 => ?_)
  refine lv_iload_n hx hb dX0_on_4 rfl (lv_at hl 1 rfl) ?_
  refine lv_aload_n hx hb dX0_on_5 rfl (lv_at hl 0 rfl) ?_
  refine my_get hx hb hts inAX0 hown hK hP 0 rfl rfl 0 (by decide) w_34 rfl rfl dX0_on_6 ?_
  refine my_alenI hx hb hK hP 1 rfl dX0_on_9 ?_
  refine my_icmp_ge (tgt := 22) hx hb (by omega) dX0_on_10 (by decide) (fun bh2 => (by omega : False).elim) (fun bh2 => ?_)
  refine lv_aload_n hx hb dX0_on_13 rfl (lv_at hl 0 rfl) ?_
  refine my_get hx hb hts inAX0 hown hK hP 0 rfl rfl 0 (by decide) w_34 rfl rfl dX0_on_14 ?_
  refine lv_iload_n hx hb dX0_on_17 rfl (lv_at hl 1 rfl) ?_
  refine my_iald hx hb hK hP 1 rfl (by omega) (k := dz) (Int.toNat_natCast _) dX0_on_18 ?_
  refine lv_goto (tgt := 23) hx hb dX0_on_19 (by decide) ?_
  have hres : iI (fb dz) = iI (fb dz) := congrArg iI (by
      first | rfl | omega)
  exact W.iret hx hb hr (fun t ht hW => ⟨⟨_, (), rfl, hres, trivial⟩, hS.F ht⟩) hS.2.2 dX0_on_23

abbrev ws_X0_add : List Cond := Cond.code yX0_add cX0_add 3 (none : Option FieldType) :: ALL
set_option maxHeartbeats 4000000 in
set_option maxRecDepth 100000 in
/-- books more units at a day -/
theorem m_X0_add (l : Launch) (D : va_G) (cs : Nat → ClassId) (kb ub : Nat) (fb : Nat → Int) (dz : Nat) (vz : Int) (hd : dz < 1005) : Met l yX0_add ws_X0_add ({ frames := 0, cells := 0, slots := 0, locals := 0 }) (va_Pc [.ref kb, .int (iI (((dz : Nat) : Int))), .int (iI (vz))] (PC D cs [(kb, .inr (0, [.ref ub])), (ub, arI cs 1005 fb)])) (va_Qv (fun (_ : Unit) => True) (fun _ t => va_P D vwCl [(kb, .inr (0, [.ref ub])), (ub, arI cs 1005 (upI fb dz (fb dz + vz)))] t.heap) (inW [(kb, .inr (0, [.ref ub])), (ub, arI cs 1005 fb)])) 0 0 (inW [(kb, .inr (0, [.ref ub])), (ub, arI cs 1005 fb)]) := by
  refine Met.ofW (cc := cX0_add) (maxL := 3) (ret := ((none : Option FieldType))) (by decide +kernel) rfl ?_
  intro p e s m args below meth c s₁ B hml hv
  obtain ⟨rfl, hP, hK, hD, hN⟩ := hv
  have hx := B.exec
  have hb := B.bytes
  have hr := B.returns
  have hts : ∀ w ∈ ALL, w.before _ s = true := fun w h => atoms_spec (ws := ws_X0_add) B.pre w (List.mem_cons_of_mem _ h)
  have hown : s.vm.findClass RX0 = some m.cls := findClass_of_methodNamed B.named
  have hlocks := B.notSynchronized
  generalize hAe : inW [(kb, .inr (0, [.ref ub])), (ub, arI cs 1005 fb)] = A at hD ⊢
  have hS : va_S A s.heap s.heap [] := va_S.rf
  have hl := lv_entry ([.ref kb, .int (iI (((dz : Nat) : Int))), .int (iI (vz))]) (n := 3) (Nat.le_of_ble_eq_true rfl)
  rw [lg_entry_eq]
  generalize (lg_sl ([.ref kb, .int (iI (((dz : Nat) : Int))), .int (iI (vz))]) ++ List.replicate (3 - (lg_sl ([.ref kb, .int (iI (((dz : Nat) : Int))), .int (iI (vz))])).length) Slot.unset).toArray = ls at hl ⊢
  have hl : lv_has ls 3 [(0, .ref kb), (1, .int (iI (((dz : Nat) : Int)))), (2, .int (iI (vz)))] := hl
  have hH := rfl (a := s.heap)
  refine lv_iload_n hx hb dX0_add_0 rfl (lv_at hl 1 rfl) ?_
  refine my_if_lt (tgt := 23) hx hb (by omega) dX0_add_1 (by decide) (fun bh1 => (by omega : False).elim) (fun bh1 => ?_)
  refine lv_iload_n hx hb dX0_add_4 rfl (lv_at hl 1 rfl) ?_
  refine lv_aload_n hx hb dX0_add_5 rfl (lv_at hl 0 rfl) ?_
  refine my_get hx hb hts inAX0 hown hK hP 0 rfl rfl 0 (by decide) w_34 rfl rfl dX0_add_6 ?_
  refine my_alenI hx hb hK hP 1 rfl dX0_add_9 ?_
  refine my_icmp_ge (tgt := 23) hx hb (by omega) dX0_add_10 (by decide) (fun bh2 => (by omega : False).elim) (fun bh2 => ?_)
  refine lv_aload_n hx hb dX0_add_13 rfl (lv_at hl 0 rfl) ?_
  refine my_get hx hb hts inAX0 hown hK hP 0 rfl rfl 0 (by decide) w_34 rfl rfl dX0_add_14 ?_
  refine lv_iload_n hx hb dX0_add_17 rfl (lv_at hl 1 rfl) ?_
  refine lv_dup2_11 hx hb dX0_add_18 rfl rfl ?_
  refine my_iald hx hb hK hP 1 rfl (by omega) (k := dz) (Int.toNat_natCast _) dX0_add_19 ?_
  refine lv_iload_n hx hb dX0_add_20 rfl (lv_at hl 2 rfl) ?_
  refine my_iadd (z := (fb dz) + vz) hx hb dX0_add_21 (rfl) ?_
  refine my_iast hx hb hK hP hD hS 1 rfl (by omega) (k := dz) (Int.toNat_natCast _) dX0_add_22 (fun H locs hP hD hS => ?_)
  have hP : va_P D vwCl [(kb, .inr (0, [.ref ub])), (ub, arI cs 1005 (upI fb dz ((fb dz) + vz)))] H := hP
  have hD : va_D A [(kb, .inr (0, [.ref ub])), (ub, arI cs 1005 (upI fb dz ((fb dz) + vz)))] := hD
  have hWe : ([(kb, .inr (0, [.ref ub])), (ub, arI cs 1005 (upI fb dz ((fb dz) + vz)))] : va_W) = [(kb, .inr (0, [.ref ub])), (ub, arI cs 1005 (upI fb dz (fb dz + vz)))] := by
    first | rfl | (congr 1; omega)
  rw [hWe] at hP
  subst hAe
  exact W.vret hx hb hr (fun t ht hW => ⟨⟨(), rfl, trivial, by show va_P D vwCl _ t.heap; rw [ht]; exact hP⟩, hS.F ht⟩) hS.2.2 dX0_add_23

abbrev ws_X0_sumUpTo : List Cond := Cond.code yX0_sumUpTo cX0_sumUpTo 4 (some .int) :: ALL
set_option maxHeartbeats 4000000 in
set_option maxRecDepth 100000 in
/-- the sum of the units up to a day -/
theorem m_X0_sumUpTo (l : Launch) (D : va_G) (cs : Nat → ClassId) (kb ub : Nat) (fb : Nat → Int) (dz : Nat) (hd : dz < 1005) : Met l yX0_sumUpTo ws_X0_sumUpTo ({ frames := 0, cells := 0, slots := 0, locals := 0 }) (va_Pc [.ref kb, .int (iI (((dz : Nat) : Int)))] (PC D cs [(kb, .inr (0, [.ref ub])), (ub, arI cs 1005 fb)])) (va_Qi (fun r (_ : Unit) => r = iI (smI fb (dz + 1))) (fun _ _ => True) noA) 0 0 noA := by
  refine Met.ofW (cc := cX0_sumUpTo) (maxL := 4) (ret := (some .int)) (by decide +kernel) rfl ?_
  intro p e s m args below meth c s₁ B hml hv
  obtain ⟨rfl, hP, hK, hD, hN⟩ := hv
  have hx := B.exec
  have hb := B.bytes
  have hr := B.returns
  have hts : ∀ w ∈ ALL, w.before _ s = true := fun w h => atoms_spec (ws := ws_X0_sumUpTo) B.pre w (List.mem_cons_of_mem _ h)
  have hown : s.vm.findClass RX0 = some m.cls := findClass_of_methodNamed B.named
  have hlocks := B.notSynchronized
  have hS : va_S noA s.heap s.heap [] := va_S.rf
  generalize inW [(kb, .inr (0, [.ref ub])), (ub, arI cs 1005 fb)] = A at hD
  have hl := lv_entry ([.ref kb, .int (iI (((dz : Nat) : Int)))]) (n := 4) (Nat.le_of_ble_eq_true rfl)
  rw [lg_entry_eq]
  generalize (lg_sl ([.ref kb, .int (iI (((dz : Nat) : Int)))]) ++ List.replicate (4 - (lg_sl ([.ref kb, .int (iI (((dz : Nat) : Int)))])).length) Slot.unset).toArray = ls at hl ⊢
  have hl : lv_has ls 4 [(0, .ref kb), (1, .int (iI (((dz : Nat) : Int))))] := hl
  have hH := rfl (a := s.heap)
  refine lv_iconst (v := iI (0)) hx hb dX0_sumUpTo_0 rfl ?_
  refine lv_istore_n (lv' := [(2, .int (iI (0))), (0, .ref kb), (1, .int (iI (((dz : Nat) : Int))))]) hx hb dX0_sumUpTo_1 rfl hl (by decide) rfl (fun ls hl => ?_)
  refine lv_iconst (v := iI (0)) hx hb dX0_sumUpTo_2 rfl ?_
  refine lv_istore_n (lv' := [(3, .int (iI (0))), (2, .int (iI (0))), (0, .ref kb), (1, .int (iI (((dz : Nat) : Int))))]) hx hb dX0_sumUpTo_3 rfl hl (by decide) rfl (fun ls hl => ?_)
  suffices KL : ∀ (n : Nat) (i : Nat), i ≤ dz + 1 → dz + 1 - i < n → ∀ (H : Heap) (locs : List Loc) (ls : Array Slot), va_P D vwCl [(kb, .inr (0, [.ref ub])), (ub, arI cs 1005 fb)] H → va_S noA s.heap H locs → lv_has ls 4 [(3, .int (iI (((i : Nat) : Int)))), (2, .int (iI (smI fb i))), (0, .ref kb), (1, .int (iI (((dz : Nat) : Int))))] → W p l e _ s m _ below meth c H locs 0 0 _ (F0 m 4 ls []) from
    KL _ 0 (Nat.zero_le _) (Nat.lt_succ_self _) _ _ _ hP hS (lv_sub hl [0, 1, 2, 3] rfl)
  intro n
  induction n with
  | zero => intro i hi h0; exact absurd h0 (Nat.not_lt_zero _)
  | succ n ih =>
    intro i hi hmu H locs ls hP hS hl
    refine lv_iload_n hx hb dX0_sumUpTo_4 rfl (lv_at hl 0 rfl) ?_
    refine lv_iload_n hx hb dX0_sumUpTo_5 rfl (lv_at hl 3 rfl) ?_
    refine my_icmp_gt (tgt := 33) hx hb (by omega) dX0_sumUpTo_6 (by decide) (fun bh1 => ?_) (fun bh1 => ?_)
    · refine lv_iload_n hx hb dX0_sumUpTo_33 rfl (lv_at hl 1 rfl) ?_
      have hres : iI (smI fb i) = iI (smI fb (dz + 1)) := congrArg iI (by
          have e : i = dz + 1 := by omega
          rw [e])
      exact W.iret hx hb hr (fun t ht hW => ⟨⟨_, (), rfl, hres, trivial⟩, hS.F ht⟩) hS.2.2 dX0_sumUpTo_34
    · refine lv_iload_n hx hb dX0_sumUpTo_9 rfl (lv_at hl 0 rfl) ?_
      refine lv_aload_n hx hb dX0_sumUpTo_10 rfl (lv_at hl 2 rfl) ?_
      refine my_get hx hb hts inAX0 hown hK hP 0 rfl rfl 0 (by decide) w_34 rfl rfl dX0_sumUpTo_11 ?_
      refine my_alenI hx hb hK hP 1 rfl dX0_sumUpTo_14 ?_
      refine my_icmp_ge (tgt := 33) hx hb (by omega) dX0_sumUpTo_15 (by decide) (fun bh2 => (by omega : False).elim) (fun bh2 => ?_)
      refine lv_iload_n hx hb dX0_sumUpTo_18 rfl (lv_at hl 1 rfl) ?_
      refine lv_aload_n hx hb dX0_sumUpTo_19 rfl (lv_at hl 2 rfl) ?_
      refine my_get hx hb hts inAX0 hown hK hP 0 rfl rfl 0 (by decide) w_34 rfl rfl dX0_sumUpTo_20 ?_
      refine lv_iload_n hx hb dX0_sumUpTo_23 rfl (lv_at hl 0 rfl) ?_
      refine my_iald hx hb hK hP 1 rfl (by omega) (k := i) (Int.toNat_natCast _) dX0_sumUpTo_24 ?_
      refine my_iadd (z := (smI fb i) + (fb i)) hx hb dX0_sumUpTo_25 (rfl) ?_
      refine lv_istore_n (lv' := [(2, .int (iI ((smI fb i) + (fb i)))), (3, .int (iI (((i : Nat) : Int)))), (0, .ref kb), (1, .int (iI (((dz : Nat) : Int))))]) hx hb dX0_sumUpTo_26 rfl hl (by decide) rfl (fun ls hl => ?_)
      refine lv_iinc (v := iI (((i : Nat) : Int) + 1)) (lv' := [(3, .int (iI (((i : Nat) : Int) + 1))), (2, .int (iI ((smI fb i) + (fb i)))), (0, .ref kb), (1, .int (iI (((dz : Nat) : Int))))]) hx hb dX0_sumUpTo_27 hl (k := 1) rfl (by rw [show (((i : Nat) : Int) + 1 : Int) = ((i : Nat) : Int) + 1 from rfl]; exact iI_add _ _) (by decide) rfl (fun ls hl => ?_)
      refine lv_goto (tgt := 4) hx hb dX0_sumUpTo_30 (by decide) ?_
      have e1 : ((i : Nat) : Int) + 1 = ((i + 1 : Nat) : Int) := by omega
      have e2 : smI fb i + fb i = smI fb (i + 1) := rfl
      rw [e1, e2] at hl
      exact ih (i + 1) (by omega) (by omega) _ _ _ hP hS (lv_sub hl [0, 1, 2, 3] rfl)

abbrev ws_X1_hasPromotion : List Cond := Cond.code yX1_hasPromotion cX1_hasPromotion 2 (some .boolean) :: ALL
set_option maxHeartbeats 4000000 in
set_option maxRecDepth 100000 in
theorem m_X1_hasPromotion (l : Launch) (D : va_G) (cs : Nat → ClassId) (hi ti go pr : Nat) (pk fs st : Int) (ub : Nat) (fb : Nat → Int) (dz : Nat) (hd : dz < 1005) (hf : 0 ≤ fb dz ∧ fb dz ≤ 1) : Met l yX1_hasPromotion ws_X1_hasPromotion ({ frames := 1, cells := 0, slots := 0, locals := 21 }) (va_Pc [.ref hi, .int (iI (((dz : Nat) : Int)))] (PC D cs [(hi, .inr (1, [.int (iI (pk)), .int (iI (fs)), .ref ti, .ref go, .ref pr, .int (iI (st))])), (pr, .inr (0, [.ref ub])), (ub, arI cs 1005 fb)])) (va_Qi (fun r (_ : Unit) => r = iI (fb dz)) (fun _ _ => True) noA) 0 0 noA := by
  refine Met.ofW (cc := cX1_hasPromotion) (maxL := 2) (ret := (some .boolean)) (by decide +kernel) rfl ?_
  intro p e s m args below meth c s₁ B hml hv
  obtain ⟨rfl, hP, hK, hD, hN⟩ := hv
  have hx := B.exec
  have hb := B.bytes
  have hr := B.returns
  have hts : ∀ w ∈ ALL, w.before _ s = true := fun w h => atoms_spec (ws := ws_X1_hasPromotion) B.pre w (List.mem_cons_of_mem _ h)
  have hown : s.vm.findClass RX1 = some m.cls := findClass_of_methodNamed B.named
  have hlocks := B.notSynchronized
  have hS : va_S noA s.heap s.heap [] := va_S.rf
  generalize inW [(hi, .inr (1, [.int (iI (pk)), .int (iI (fs)), .ref ti, .ref go, .ref pr, .int (iI (st))])), (pr, .inr (0, [.ref ub])), (ub, arI cs 1005 fb)] = A at hD
  have hl := lv_entry ([.ref hi, .int (iI (((dz : Nat) : Int)))]) (n := 2) (Nat.le_of_ble_eq_true rfl)
  rw [lg_entry_eq]
  generalize (lg_sl ([.ref hi, .int (iI (((dz : Nat) : Int)))]) ++ List.replicate (2 - (lg_sl ([.ref hi, .int (iI (((dz : Nat) : Int)))])).length) Slot.unset).toArray = ls at hl ⊢
  have hl : lv_has ls 2 [(0, .ref hi), (1, .int (iI (((dz : Nat) : Int))))] := hl
  have hH := rfl (a := s.heap)
  refine lv_aload_n hx hb dX1_hasPromotion_0 rfl (lv_at hl 0 rfl) ?_
  refine my_get hx hb hts inAX1 hown hK hP 0 rfl rfl 4 (by decide) w_252 rfl rfl dX1_hasPromotion_1 ?_
  refine lv_iload_n hx hb dX1_hasPromotion_4 rfl (lv_at hl 1 rfl) ?_
  have pk1 : picks [(hi, .inr (1, [.int (iI (pk)), .int (iI (fs)), .ref ti, .ref go, .ref pr, .int (iI (st))])), (pr, .inr (0, [.ref ub])), (ub, arI cs 1005 fb)] [1, 2] [(pr, .inr (0, [.ref ub])), (ub, arI cs 1005 fb)] := ⟨rfl, rfl, trivial⟩
  refine va_calli (va_runV (As := [.int (iI (((dz : Nat) : Int)))]) (rest := []) ⟨hx, hb, hml, hown, hts⟩ (m_X0_on l D cs pr ub fb dz (by omega)) (cwV 1 hts (gV w_447 w_125 w_126 w_2 w_127) rfl rfl rfl (by decide +kernel) ⟨Nat.le_of_ble_eq_true rfl, Nat.le_of_ble_eq_true rfl⟩) (PC_V hK hN hP hD [1, 2] rfl pk1 rfl rfl) rfl rfl hl.1 rfl (lv_room (Nat.le_of_ble_eq_true rfl)) dX1_hasPromotion_5 ⟨Nat.le_of_ble_eq_true rfl, Nat.le_of_ble_eq_true rfl⟩) hS (fun _ _ h => False.elim h) (fun _ h => False.elim h) (fun r u t H locs ht hvm hw hB hz1 hk1 hS => ?_)
  subst hw
  have hP := P_kept hP hk1
  refine my_if_le (tgt := 15) hx hb (by omega) dX1_hasPromotion_8 (by decide) (fun bh2 => ?_) (fun bh2 => ?_)
  · refine lv_iconst (v := iI (0)) hx hb dX1_hasPromotion_15 rfl ?_
    have hres : iI (0) = iI (fb dz) := congrArg iI (by
        omega)
    exact W.zret hx hb hr (by decide) (fun t ht hW => ⟨⟨_, (), rfl, hres, trivial⟩, hS.F ht⟩) hS.2.2 dX1_hasPromotion_16
  · refine lv_iconst (v := iI (1)) hx hb dX1_hasPromotion_11 rfl ?_
    refine lv_goto (tgt := 16) hx hb dX1_hasPromotion_12 (by decide) ?_
    have hres : iI (1) = iI (fb dz) := congrArg iI (by
        omega)
    exact W.zret hx hb hr (by decide) (fun t ht hW => ⟨⟨_, (), rfl, hres, trivial⟩, hS.F ht⟩) hS.2.2 dX1_hasPromotion_16

abbrev ws_X1_takeIn : List Cond := Cond.code yX1_takeIn cX1_takeIn 3 (none : Option FieldType) :: ALL
set_option maxHeartbeats 4000000 in
set_option maxRecDepth 100000 in
theorem m_X1_takeIn (l : Launch) (D : va_G) (cs : Nat → ClassId) (hi ti go pr : Nat) (pk fs st : Int) (ub : Nat) (fb : Nat → Int) (dz : Nat) (vz : Int) (hd : dz < 1005) : Met l yX1_takeIn ws_X1_takeIn ({ frames := 1, cells := 0, slots := 0, locals := 22 }) (va_Pc [.ref hi, .int (iI (((dz : Nat) : Int))), .int (iI (vz))] (PC D cs [(hi, .inr (1, [.int (iI (pk)), .int (iI (fs)), .ref ti, .ref go, .ref pr, .int (iI (st))])), (ti, .inr (0, [.ref ub])), (ub, arI cs 1005 fb)])) (va_Qv (fun (_ : Unit) => True) (fun _ t => va_P D vwCl [(hi, .inr (1, [.int (iI (pk)), .int (iI (fs)), .ref ti, .ref go, .ref pr, .int (iI (st + vz))])), (ti, .inr (0, [.ref ub])), (ub, arI cs 1005 (upI fb dz (fb dz + vz)))] t.heap) (inW [(hi, .inr (1, [.int (iI (pk)), .int (iI (fs)), .ref ti, .ref go, .ref pr, .int (iI (st))])), (ti, .inr (0, [.ref ub])), (ub, arI cs 1005 fb)])) 0 0 (inW [(hi, .inr (1, [.int (iI (pk)), .int (iI (fs)), .ref ti, .ref go, .ref pr, .int (iI (st))])), (ti, .inr (0, [.ref ub])), (ub, arI cs 1005 fb)]) := by
  refine Met.ofW (cc := cX1_takeIn) (maxL := 3) (ret := ((none : Option FieldType))) (by decide +kernel) rfl ?_
  intro p e s m args below meth c s₁ B hml hv
  obtain ⟨rfl, hP, hK, hD, hN⟩ := hv
  have hx := B.exec
  have hb := B.bytes
  have hr := B.returns
  have hts : ∀ w ∈ ALL, w.before _ s = true := fun w h => atoms_spec (ws := ws_X1_takeIn) B.pre w (List.mem_cons_of_mem _ h)
  have hown : s.vm.findClass RX1 = some m.cls := findClass_of_methodNamed B.named
  have hlocks := B.notSynchronized
  generalize hAe : inW [(hi, .inr (1, [.int (iI (pk)), .int (iI (fs)), .ref ti, .ref go, .ref pr, .int (iI (st))])), (ti, .inr (0, [.ref ub])), (ub, arI cs 1005 fb)] = A at hD ⊢
  have hS : va_S A s.heap s.heap [] := va_S.rf
  have hl := lv_entry ([.ref hi, .int (iI (((dz : Nat) : Int))), .int (iI (vz))]) (n := 3) (Nat.le_of_ble_eq_true rfl)
  rw [lg_entry_eq]
  generalize (lg_sl ([.ref hi, .int (iI (((dz : Nat) : Int))), .int (iI (vz))]) ++ List.replicate (3 - (lg_sl ([.ref hi, .int (iI (((dz : Nat) : Int))), .int (iI (vz))])).length) Slot.unset).toArray = ls at hl ⊢
  have hl : lv_has ls 3 [(0, .ref hi), (1, .int (iI (((dz : Nat) : Int)))), (2, .int (iI (vz)))] := hl
  have hH := rfl (a := s.heap)
  refine lv_aload_n hx hb dX1_takeIn_0 rfl (lv_at hl 0 rfl) ?_
  refine my_get hx hb hts inAX1 hown hK hP 0 rfl rfl 2 (by decide) w_250 rfl rfl dX1_takeIn_1 ?_
  refine lv_iload_n hx hb dX1_takeIn_4 rfl (lv_at hl 1 rfl) ?_
  refine lv_iload_n hx hb dX1_takeIn_5 rfl (lv_at hl 2 rfl) ?_
  have pk1 : picks [(hi, .inr (1, [.int (iI (pk)), .int (iI (fs)), .ref ti, .ref go, .ref pr, .int (iI (st))])), (ti, .inr (0, [.ref ub])), (ub, arI cs 1005 fb)] [1, 2] [(ti, .inr (0, [.ref ub])), (ub, arI cs 1005 fb)] := ⟨rfl, rfl, trivial⟩
  refine va_callv (va_runV (As := [.int (iI (((dz : Nat) : Int))), .int (iI (vz))]) (rest := []) ⟨hx, hb, hml, hown, hts⟩ (m_X0_add l D cs ti ub fb dz vz (by omega)) (cwV 2 hts (gV w_414 w_415 w_416 w_2 w_417) rfl rfl rfl (by decide +kernel) ⟨Nat.le_of_ble_eq_true rfl, Nat.le_of_ble_eq_true rfl⟩) (PC_V hK hN hP hD [1, 2] rfl pk1 rfl rfl) rfl rfl hl.1 rfl (lv_room (Nat.le_of_ble_eq_true rfl)) dX1_takeIn_6 ⟨Nat.le_of_ble_eq_true rfl, Nat.le_of_ble_eq_true rfl⟩) hS (fun q _ h => inW_sub hD [1, 2] pk1 q h) (fun q h => inW_sub hD [1, 2] pk1 q h) (fun u t H locs ht hvm hw hB hz1 hk1 hS => ?_)
  rw [ht] at hB
  obtain ⟨hP, hD⟩ := my_join (W1 := [(ti, .inr (0, [.ref ub])), (ub, arI cs 1005 (upI fb dz (fb dz + vz)))]) hP hD [1, 2] rfl pk1 rfl hk1 hB
  have hP : va_P D vwCl [(hi, .inr (1, [.int (iI (pk)), .int (iI (fs)), .ref ti, .ref go, .ref pr, .int (iI (st))])), (ti, .inr (0, [.ref ub])), (ub, arI cs 1005 (upI fb dz (fb dz + vz)))] H := hP
  have hD : va_D A [(hi, .inr (1, [.int (iI (pk)), .int (iI (fs)), .ref ti, .ref go, .ref pr, .int (iI (st))])), (ti, .inr (0, [.ref ub])), (ub, arI cs 1005 (upI fb dz (fb dz + vz)))] := hD
  refine lv_aload_n hx hb dX1_takeIn_9 rfl (lv_at hl 0 rfl) ?_
  refine lv_dup hx hb dX1_takeIn_10 rfl ?_
  refine my_get hx hb hts inAX1 hown hK hP 0 rfl rfl 5 (by decide) w_254 rfl rfl dX1_takeIn_11 ?_
  refine lv_iload_n hx hb dX1_takeIn_14 rfl (lv_at hl 2 rfl) ?_
  refine my_iadd (z := st + vz) hx hb dX1_takeIn_15 (rfl) ?_
  refine my_put hx hb hts inAX1 tyX1_ok nmX1 hown hK hP hD hS 0 rfl rfl 5 (by decide) w_254 rfl rfl rfl (Nat.le_of_ble_eq_true rfl) dX1_takeIn_16 (fun H locs hP hD hS => ?_)
  have hP : va_P D vwCl [(hi, .inr (1, [.int (iI (pk)), .int (iI (fs)), .ref ti, .ref go, .ref pr, .int (iI (st + vz))])), (ti, .inr (0, [.ref ub])), (ub, arI cs 1005 (upI fb dz (fb dz + vz)))] H := hP
  have hD : va_D A [(hi, .inr (1, [.int (iI (pk)), .int (iI (fs)), .ref ti, .ref go, .ref pr, .int (iI (st + vz))])), (ti, .inr (0, [.ref ub])), (ub, arI cs 1005 (upI fb dz (fb dz + vz)))] := hD
  subst hAe
  exact W.vret hx hb hr (fun t ht hW => ⟨⟨(), rfl, trivial, by show va_P D vwCl _ t.heap; rw [ht]; exact hP⟩, hS.F ht⟩) hS.2.2 dX1_takeIn_19

abbrev ws_X1_giveOut : List Cond := Cond.code yX1_giveOut cX1_giveOut 3 (none : Option FieldType) :: ALL
set_option maxHeartbeats 4000000 in
set_option maxRecDepth 100000 in
theorem m_X1_giveOut (l : Launch) (D : va_G) (cs : Nat → ClassId) (hi ti go pr : Nat) (pk fs st : Int) (ub : Nat) (fb : Nat → Int) (dz : Nat) (vz : Int) (hd : dz < 1005) : Met l yX1_giveOut ws_X1_giveOut ({ frames := 1, cells := 0, slots := 0, locals := 22 }) (va_Pc [.ref hi, .int (iI (((dz : Nat) : Int))), .int (iI (vz))] (PC D cs [(hi, .inr (1, [.int (iI (pk)), .int (iI (fs)), .ref ti, .ref go, .ref pr, .int (iI (st))])), (go, .inr (0, [.ref ub])), (ub, arI cs 1005 fb)])) (va_Qv (fun (_ : Unit) => True) (fun _ t => va_P D vwCl [(hi, .inr (1, [.int (iI (pk)), .int (iI (fs)), .ref ti, .ref go, .ref pr, .int (iI (st - vz))])), (go, .inr (0, [.ref ub])), (ub, arI cs 1005 (upI fb dz (fb dz + vz)))] t.heap) (inW [(hi, .inr (1, [.int (iI (pk)), .int (iI (fs)), .ref ti, .ref go, .ref pr, .int (iI (st))])), (go, .inr (0, [.ref ub])), (ub, arI cs 1005 fb)])) 0 0 (inW [(hi, .inr (1, [.int (iI (pk)), .int (iI (fs)), .ref ti, .ref go, .ref pr, .int (iI (st))])), (go, .inr (0, [.ref ub])), (ub, arI cs 1005 fb)]) := by
  refine Met.ofW (cc := cX1_giveOut) (maxL := 3) (ret := ((none : Option FieldType))) (by decide +kernel) rfl ?_
  intro p e s m args below meth c s₁ B hml hv
  obtain ⟨rfl, hP, hK, hD, hN⟩ := hv
  have hx := B.exec
  have hb := B.bytes
  have hr := B.returns
  have hts : ∀ w ∈ ALL, w.before _ s = true := fun w h => atoms_spec (ws := ws_X1_giveOut) B.pre w (List.mem_cons_of_mem _ h)
  have hown : s.vm.findClass RX1 = some m.cls := findClass_of_methodNamed B.named
  have hlocks := B.notSynchronized
  generalize hAe : inW [(hi, .inr (1, [.int (iI (pk)), .int (iI (fs)), .ref ti, .ref go, .ref pr, .int (iI (st))])), (go, .inr (0, [.ref ub])), (ub, arI cs 1005 fb)] = A at hD ⊢
  have hS : va_S A s.heap s.heap [] := va_S.rf
  have hl := lv_entry ([.ref hi, .int (iI (((dz : Nat) : Int))), .int (iI (vz))]) (n := 3) (Nat.le_of_ble_eq_true rfl)
  rw [lg_entry_eq]
  generalize (lg_sl ([.ref hi, .int (iI (((dz : Nat) : Int))), .int (iI (vz))]) ++ List.replicate (3 - (lg_sl ([.ref hi, .int (iI (((dz : Nat) : Int))), .int (iI (vz))])).length) Slot.unset).toArray = ls at hl ⊢
  have hl : lv_has ls 3 [(0, .ref hi), (1, .int (iI (((dz : Nat) : Int)))), (2, .int (iI (vz)))] := hl
  have hH := rfl (a := s.heap)
  refine lv_aload_n hx hb dX1_giveOut_0 rfl (lv_at hl 0 rfl) ?_
  refine my_get hx hb hts inAX1 hown hK hP 0 rfl rfl 3 (by decide) w_251 rfl rfl dX1_giveOut_1 ?_
  refine lv_iload_n hx hb dX1_giveOut_4 rfl (lv_at hl 1 rfl) ?_
  refine lv_iload_n hx hb dX1_giveOut_5 rfl (lv_at hl 2 rfl) ?_
  have pk1 : picks [(hi, .inr (1, [.int (iI (pk)), .int (iI (fs)), .ref ti, .ref go, .ref pr, .int (iI (st))])), (go, .inr (0, [.ref ub])), (ub, arI cs 1005 fb)] [1, 2] [(go, .inr (0, [.ref ub])), (ub, arI cs 1005 fb)] := ⟨rfl, rfl, trivial⟩
  refine va_callv (va_runV (As := [.int (iI (((dz : Nat) : Int))), .int (iI (vz))]) (rest := []) ⟨hx, hb, hml, hown, hts⟩ (m_X0_add l D cs go ub fb dz vz (by omega)) (cwV 2 hts (gV w_414 w_415 w_416 w_2 w_417) rfl rfl rfl (by decide +kernel) ⟨Nat.le_of_ble_eq_true rfl, Nat.le_of_ble_eq_true rfl⟩) (PC_V hK hN hP hD [1, 2] rfl pk1 rfl rfl) rfl rfl hl.1 rfl (lv_room (Nat.le_of_ble_eq_true rfl)) dX1_giveOut_6 ⟨Nat.le_of_ble_eq_true rfl, Nat.le_of_ble_eq_true rfl⟩) hS (fun q _ h => inW_sub hD [1, 2] pk1 q h) (fun q h => inW_sub hD [1, 2] pk1 q h) (fun u t H locs ht hvm hw hB hz1 hk1 hS => ?_)
  rw [ht] at hB
  obtain ⟨hP, hD⟩ := my_join (W1 := [(go, .inr (0, [.ref ub])), (ub, arI cs 1005 (upI fb dz (fb dz + vz)))]) hP hD [1, 2] rfl pk1 rfl hk1 hB
  have hP : va_P D vwCl [(hi, .inr (1, [.int (iI (pk)), .int (iI (fs)), .ref ti, .ref go, .ref pr, .int (iI (st))])), (go, .inr (0, [.ref ub])), (ub, arI cs 1005 (upI fb dz (fb dz + vz)))] H := hP
  have hD : va_D A [(hi, .inr (1, [.int (iI (pk)), .int (iI (fs)), .ref ti, .ref go, .ref pr, .int (iI (st))])), (go, .inr (0, [.ref ub])), (ub, arI cs 1005 (upI fb dz (fb dz + vz)))] := hD
  refine lv_aload_n hx hb dX1_giveOut_9 rfl (lv_at hl 0 rfl) ?_
  refine lv_dup hx hb dX1_giveOut_10 rfl ?_
  refine my_get hx hb hts inAX1 hown hK hP 0 rfl rfl 5 (by decide) w_254 rfl rfl dX1_giveOut_11 ?_
  refine lv_iload_n hx hb dX1_giveOut_14 rfl (lv_at hl 2 rfl) ?_
  refine my_isub (z := st - vz) hx hb dX1_giveOut_15 (rfl) ?_
  refine my_put hx hb hts inAX1 tyX1_ok nmX1 hown hK hP hD hS 0 rfl rfl 5 (by decide) w_254 rfl rfl rfl (Nat.le_of_ble_eq_true rfl) dX1_giveOut_16 (fun H locs hP hD hS => ?_)
  have hP : va_P D vwCl [(hi, .inr (1, [.int (iI (pk)), .int (iI (fs)), .ref ti, .ref go, .ref pr, .int (iI (st - vz))])), (go, .inr (0, [.ref ub])), (ub, arI cs 1005 (upI fb dz (fb dz + vz)))] H := hP
  have hD : va_D A [(hi, .inr (1, [.int (iI (pk)), .int (iI (fs)), .ref ti, .ref go, .ref pr, .int (iI (st - vz))])), (go, .inr (0, [.ref ub])), (ub, arI cs 1005 (upI fb dz (fb dz + vz)))] := hD
  subst hAe
  exact W.vret hx hb hr (fun t ht hW => ⟨⟨(), rfl, trivial, by show va_P D vwCl _ t.heap; rw [ht]; exact hP⟩, hS.F ht⟩) hS.2.2 dX1_giveOut_19

abbrev ws_X1_wholePacks : List Cond := Cond.code yX1_wholePacks cX1_wholePacks 1 (some .int) :: ALL
set_option maxHeartbeats 4000000 in
set_option maxRecDepth 100000 in
theorem m_X1_wholePacks (l : Launch) (D : va_G) (cs : Nat → ClassId) (hi ti go pr : Nat) (pk fs st : Int) (hp : 0 < pk ∧ pk ≤ 50) (hs : 0 ≤ st ∧ st < 2147483648) : Met l yX1_wholePacks ws_X1_wholePacks ({ frames := 0, cells := 0, slots := 0, locals := 0 }) (va_Pc [.ref hi] (PC D cs [(hi, .inr (1, [.int (iI (pk)), .int (iI (fs)), .ref ti, .ref go, .ref pr, .int (iI (st))]))])) (va_Qi (fun r (_ : Unit) => r = iI (st / pk)) (fun _ _ => True) noA) 0 0 noA := by
  refine Met.ofW (cc := cX1_wholePacks) (maxL := 1) (ret := (some .int)) (by decide +kernel) rfl ?_
  intro p e s m args below meth c s₁ B hml hv
  obtain ⟨rfl, hP, hK, hD, hN⟩ := hv
  have hx := B.exec
  have hb := B.bytes
  have hr := B.returns
  have hts : ∀ w ∈ ALL, w.before _ s = true := fun w h => atoms_spec (ws := ws_X1_wholePacks) B.pre w (List.mem_cons_of_mem _ h)
  have hown : s.vm.findClass RX1 = some m.cls := findClass_of_methodNamed B.named
  have hlocks := B.notSynchronized
  have hS : va_S noA s.heap s.heap [] := va_S.rf
  generalize inW [(hi, .inr (1, [.int (iI (pk)), .int (iI (fs)), .ref ti, .ref go, .ref pr, .int (iI (st))]))] = A at hD
  have hl := lv_entry ([.ref hi]) (n := 1) (Nat.le_of_ble_eq_true rfl)
  rw [lg_entry_eq]
  generalize (lg_sl ([.ref hi]) ++ List.replicate (1 - (lg_sl ([.ref hi])).length) Slot.unset).toArray = ls at hl ⊢
  have hl : lv_has ls 1 [(0, .ref hi)] := hl
  have hH := rfl (a := s.heap)
  refine lv_aload_n hx hb dX1_wholePacks_0 rfl (lv_at hl 0 rfl) ?_
  refine my_get hx hb hts inAX1 hown hK hP 0 rfl rfl 0 (by decide) w_247 rfl rfl dX1_wholePacks_1 ?_
  refine my_if_le (tgt := 19) hx hb (by omega) dX1_wholePacks_4 (by decide) (fun bh1 => (by omega : False).elim) (fun bh1 => ?_)
  refine lv_aload_n hx hb dX1_wholePacks_7 rfl (lv_at hl 0 rfl) ?_
  refine my_get hx hb hts inAX1 hown hK hP 0 rfl rfl 5 (by decide) w_254 rfl rfl dX1_wholePacks_8 ?_
  refine lv_aload_n hx hb dX1_wholePacks_11 rfl (lv_at hl 0 rfl) ?_
  refine my_get hx hb hts inAX1 hown hK hP 0 rfl rfl 0 (by decide) w_247 rfl rfl dX1_wholePacks_12 ?_
  refine my_idiv hx hb dX1_wholePacks_15 (by omega) rfl ?_
  refine lv_goto (tgt := 20) hx hb dX1_wholePacks_16 (by decide) ?_
  have hres : iI (st / pk) = iI (st / pk) := congrArg iI (by
      first | rfl | omega)
  exact W.iret hx hb hr (fun t ht hW => ⟨⟨_, (), rfl, hres, trivial⟩, hS.F ht⟩) hS.2.2 dX1_wholePacks_20

abbrev ws_X1_packsFor : List Cond := Cond.code yX1_packsFor cX1_packsFor 2 (some .int) :: ALL
set_option maxHeartbeats 4000000 in
set_option maxRecDepth 100000 in
theorem m_X1_packsFor (l : Launch) (D : va_G) (cs : Nat → ClassId) (hi ti go pr : Nat) (pk fs st : Int) (uz : Int) (hp : 0 < pk ∧ pk ≤ 50) (hu : -1000000000 ≤ uz ∧ uz ≤ 1000000000) : Met l yX1_packsFor ws_X1_packsFor ({ frames := 0, cells := 0, slots := 0, locals := 0 }) (va_Pc [.ref hi, .int (iI (uz))] (PC D cs [(hi, .inr (1, [.int (iI (pk)), .int (iI (fs)), .ref ti, .ref go, .ref pr, .int (iI (st))]))])) (va_Qi (fun r (_ : Unit) => r = iI (rqI uz pk)) (fun _ _ => True) noA) 0 0 noA := by
  refine Met.ofW (cc := cX1_packsFor) (maxL := 2) (ret := (some .int)) (by decide +kernel) rfl ?_
  intro p e s m args below meth c s₁ B hml hv
  obtain ⟨rfl, hP, hK, hD, hN⟩ := hv
  have hx := B.exec
  have hb := B.bytes
  have hr := B.returns
  have hts : ∀ w ∈ ALL, w.before _ s = true := fun w h => atoms_spec (ws := ws_X1_packsFor) B.pre w (List.mem_cons_of_mem _ h)
  have hown : s.vm.findClass RX1 = some m.cls := findClass_of_methodNamed B.named
  have hlocks := B.notSynchronized
  have hS : va_S noA s.heap s.heap [] := va_S.rf
  generalize inW [(hi, .inr (1, [.int (iI (pk)), .int (iI (fs)), .ref ti, .ref go, .ref pr, .int (iI (st))]))] = A at hD
  have hl := lv_entry ([.ref hi, .int (iI (uz))]) (n := 2) (Nat.le_of_ble_eq_true rfl)
  rw [lg_entry_eq]
  generalize (lg_sl ([.ref hi, .int (iI (uz))]) ++ List.replicate (2 - (lg_sl ([.ref hi, .int (iI (uz))])).length) Slot.unset).toArray = ls at hl ⊢
  have hl : lv_has ls 2 [(0, .ref hi), (1, .int (iI (uz)))] := hl
  have hH := rfl (a := s.heap)
  refine lv_iload_n hx hb dX1_packsFor_0 rfl (lv_at hl 1 rfl) ?_
  refine my_if_le (tgt := 27) hx hb (by omega) dX1_packsFor_1 (by decide) (fun bh1 => ?_) (fun bh1 => ?_)
  · refine lv_iconst (v := iI (0)) hx hb dX1_packsFor_27 rfl ?_
    have hres : iI (0) = iI (rqI uz pk) := congrArg iI (by
        unfold rqI; split <;> omega)
    exact W.iret hx hb hr (fun t ht hW => ⟨⟨_, (), rfl, hres, trivial⟩, hS.F ht⟩) hS.2.2 dX1_packsFor_28
  · refine lv_aload_n hx hb dX1_packsFor_4 rfl (lv_at hl 0 rfl) ?_
    refine my_get hx hb hts inAX1 hown hK hP 0 rfl rfl 0 (by decide) w_247 rfl rfl dX1_packsFor_5 ?_
    refine my_if_le (tgt := 27) hx hb (by omega) dX1_packsFor_8 (by decide) (fun bh2 => (by omega : False).elim) (fun bh2 => ?_)
    refine lv_iload_n hx hb dX1_packsFor_11 rfl (lv_at hl 1 rfl) ?_
    refine lv_aload_n hx hb dX1_packsFor_12 rfl (lv_at hl 0 rfl) ?_
    refine my_get hx hb hts inAX1 hown hK hP 0 rfl rfl 0 (by decide) w_247 rfl rfl dX1_packsFor_13 ?_
    refine my_iadd (z := uz + pk) hx hb dX1_packsFor_16 (rfl) ?_
    refine lv_iconst (v := iI (1)) hx hb dX1_packsFor_17 rfl ?_
    refine my_isub (z := (uz + pk) - 1) hx hb dX1_packsFor_18 (rfl) ?_
    refine lv_aload_n hx hb dX1_packsFor_19 rfl (lv_at hl 0 rfl) ?_
    refine my_get hx hb hts inAX1 hown hK hP 0 rfl rfl 0 (by decide) w_247 rfl rfl dX1_packsFor_20 ?_
    refine my_idiv hx hb dX1_packsFor_23 (by omega) rfl ?_
    refine lv_goto (tgt := 28) hx hb dX1_packsFor_24 (by decide) ?_
    have hres : iI (((uz + pk) - 1) / pk) = iI (rqI uz pk) := congrArg iI (by
        unfold rqI; split <;> omega)
    exact W.iret hx hb hr (fun t ht hW => ⟨⟨_, (), rfl, hres, trivial⟩, hS.F ht⟩) hS.2.2 dX1_packsFor_28

abbrev ws_X1_journalStock : List Cond := Cond.code yX1_journalStock cX1_journalStock 2 (some .int) :: ALL
set_option maxHeartbeats 4000000 in
set_option maxRecDepth 100000 in
theorem m_X1_journalStock (l : Launch) (D : va_G) (cs : Nat → ClassId) (hi ti go pr : Nat) (pk fs st : Int) (ub vb : Nat) (fb gb : Nat → Int) (dz : Nat) (hd : dz < 1005) : Met l yX1_journalStock ws_X1_journalStock ({ frames := 1, cells := 0, slots := 0, locals := 23 }) (va_Pc [.ref hi, .int (iI (((dz : Nat) : Int)))] (PC D cs [(hi, .inr (1, [.int (iI (pk)), .int (iI (fs)), .ref ti, .ref go, .ref pr, .int (iI (st))])), (ti, .inr (0, [.ref ub])), (ub, arI cs 1005 fb), (go, .inr (0, [.ref vb])), (vb, arI cs 1005 gb)])) (va_Qi (fun r (_ : Unit) => r = iI (fs + smI fb (dz + 1) - smI gb (dz + 1))) (fun _ _ => True) noA) 0 0 noA := by
  refine Met.ofW (cc := cX1_journalStock) (maxL := 2) (ret := (some .int)) (by decide +kernel) rfl ?_
  intro p e s m args below meth c s₁ B hml hv
  obtain ⟨rfl, hP, hK, hD, hN⟩ := hv
  have hx := B.exec
  have hb := B.bytes
  have hr := B.returns
  have hts : ∀ w ∈ ALL, w.before _ s = true := fun w h => atoms_spec (ws := ws_X1_journalStock) B.pre w (List.mem_cons_of_mem _ h)
  have hown : s.vm.findClass RX1 = some m.cls := findClass_of_methodNamed B.named
  have hlocks := B.notSynchronized
  have hS : va_S noA s.heap s.heap [] := va_S.rf
  generalize inW [(hi, .inr (1, [.int (iI (pk)), .int (iI (fs)), .ref ti, .ref go, .ref pr, .int (iI (st))])), (ti, .inr (0, [.ref ub])), (ub, arI cs 1005 fb), (go, .inr (0, [.ref vb])), (vb, arI cs 1005 gb)] = A at hD
  have hl := lv_entry ([.ref hi, .int (iI (((dz : Nat) : Int)))]) (n := 2) (Nat.le_of_ble_eq_true rfl)
  rw [lg_entry_eq]
  generalize (lg_sl ([.ref hi, .int (iI (((dz : Nat) : Int)))]) ++ List.replicate (2 - (lg_sl ([.ref hi, .int (iI (((dz : Nat) : Int)))])).length) Slot.unset).toArray = ls at hl ⊢
  have hl : lv_has ls 2 [(0, .ref hi), (1, .int (iI (((dz : Nat) : Int))))] := hl
  have hH := rfl (a := s.heap)
  refine lv_aload_n hx hb dX1_journalStock_0 rfl (lv_at hl 0 rfl) ?_
  refine my_get hx hb hts inAX1 hown hK hP 0 rfl rfl 1 (by decide) w_249 rfl rfl dX1_journalStock_1 ?_
  refine lv_aload_n hx hb dX1_journalStock_4 rfl (lv_at hl 0 rfl) ?_
  refine my_get hx hb hts inAX1 hown hK hP 0 rfl rfl 2 (by decide) w_250 rfl rfl dX1_journalStock_5 ?_
  refine lv_iload_n hx hb dX1_journalStock_8 rfl (lv_at hl 1 rfl) ?_
  have pk1 : picks [(hi, .inr (1, [.int (iI (pk)), .int (iI (fs)), .ref ti, .ref go, .ref pr, .int (iI (st))])), (ti, .inr (0, [.ref ub])), (ub, arI cs 1005 fb), (go, .inr (0, [.ref vb])), (vb, arI cs 1005 gb)] [1, 2] [(ti, .inr (0, [.ref ub])), (ub, arI cs 1005 fb)] := ⟨rfl, rfl, trivial⟩
  refine va_calli (va_runV (As := [.int (iI (((dz : Nat) : Int)))]) (rest := [.int (iI (fs))]) ⟨hx, hb, hml, hown, hts⟩ (m_X0_sumUpTo l D cs ti ub fb dz (by omega)) (cwV 1 hts (gV w_803 w_757 w_758 w_2 w_759) rfl rfl rfl (by decide +kernel) ⟨Nat.le_of_ble_eq_true rfl, Nat.le_of_ble_eq_true rfl⟩) (PC_V hK hN hP hD [1, 2] rfl pk1 rfl rfl) rfl rfl hl.1 rfl (lv_room (Nat.le_of_ble_eq_true rfl)) dX1_journalStock_9 ⟨Nat.le_of_ble_eq_true rfl, Nat.le_of_ble_eq_true rfl⟩) hS (fun _ _ h => False.elim h) (fun _ h => False.elim h) (fun r u t H locs ht hvm hw hB hz1 hk1 hS => ?_)
  subst hw
  have hP := P_kept hP hk1
  refine my_iadd (z := fs + (smI fb (dz + 1))) hx hb dX1_journalStock_12 (rfl) ?_
  refine lv_aload_n hx hb dX1_journalStock_13 rfl (lv_at hl 0 rfl) ?_
  refine my_get hx hb hts inAX1 hown hK hP 0 rfl rfl 3 (by decide) w_251 rfl rfl dX1_journalStock_14 ?_
  refine lv_iload_n hx hb dX1_journalStock_17 rfl (lv_at hl 1 rfl) ?_
  have pk2 : picks [(hi, .inr (1, [.int (iI (pk)), .int (iI (fs)), .ref ti, .ref go, .ref pr, .int (iI (st))])), (ti, .inr (0, [.ref ub])), (ub, arI cs 1005 fb), (go, .inr (0, [.ref vb])), (vb, arI cs 1005 gb)] [3, 4] [(go, .inr (0, [.ref vb])), (vb, arI cs 1005 gb)] := ⟨rfl, rfl, trivial⟩
  refine va_calli (va_runV (As := [.int (iI (((dz : Nat) : Int)))]) (rest := [.int (iI (fs + (smI fb (dz + 1))))]) ⟨hx, hb, hml, hown, hts⟩ (m_X0_sumUpTo l D cs go vb gb dz (by omega)) (cwV 1 hts (gV w_803 w_757 w_758 w_2 w_759) rfl rfl rfl (by decide +kernel) ⟨Nat.le_of_ble_eq_true rfl, Nat.le_of_ble_eq_true rfl⟩) (PC_V hK hN hP hD [3, 4] rfl pk2 rfl rfl) rfl rfl hl.1 rfl (lv_room (Nat.le_of_ble_eq_true rfl)) dX1_journalStock_18 ⟨Nat.le_of_ble_eq_true rfl, Nat.le_of_ble_eq_true rfl⟩) hS (fun _ _ h => False.elim h) (fun _ h => False.elim h) (fun r u t H locs ht hvm hw hB hz1 hk1 hS => ?_)
  subst hw
  have hP := P_kept hP hk1
  refine my_isub (z := (fs + (smI fb (dz + 1))) - (smI gb (dz + 1))) hx hb dX1_journalStock_21 (rfl) ?_
  have hres : iI ((fs + (smI fb (dz + 1))) - (smI gb (dz + 1))) = iI (fs + smI fb (dz + 1) - smI gb (dz + 1)) := congrArg iI (by
      first | rfl | omega)
  exact W.iret hx hb hr (fun t ht hW => ⟨⟨_, (), rfl, hres, trivial⟩, hS.F ht⟩) hS.2.2 dX1_journalStock_22
end
section
abbrev ws_J9_floorDiv_f86c9 : List Cond := Cond.code yJ9_floorDiv_f86c9 cJ9_floorDiv_f86c9 6 (some .long) :: ALL
set_option maxHeartbeats 4000000 in
set_option maxRecDepth 100000 in
theorem m_J9_floorDiv_f86c9 (l : Launch) (D : va_G) (cs : Nat → ClassId) (az : Int) (ha : -4611686018427387904 ≤ az ∧ az ≤ 4611686018427387904) : Met l yJ9_floorDiv_f86c9 ws_J9_floorDiv_f86c9 ({ frames := 0, cells := 0, slots := 0, locals := 0 }) (va_Pc [.long (lI (az)), .long (lI (100))] (PC D cs [])) (va_Ql (fun r (_ : Unit) => r = lI (az / 100)) (fun _ _ => True) noA) 0 0 noA := by
  refine va_MetF (cc := cJ9_floorDiv_f86c9) (maxL := 6) (ret := (some .long)) (by decide +kernel) rfl ?_
  intro p e s m args below meth c s₁ B hml hv
  obtain ⟨rfl, hP, hK, hD, hN⟩ := hv
  have hx := B.exec
  have hb := B.bytes
  have hr := B.returns
  have hts : ∀ w ∈ ALL, w.before _ s = true := fun w h => atoms_spec (ws := ws_J9_floorDiv_f86c9) B.pre w (List.mem_cons_of_mem _ h)
  have hown : s.vm.findClass RJ9 = some m.cls := findClass_of_methodNamed B.named
  have hlocks := B.notSynchronized
  have hS : va_S noA s.heap s.heap [] := va_S.rf
  generalize inW [] = A at hD
  have hl := lv_entry ([.long (lI (az)), .long (lI (100))]) (n := 6) (Nat.le_of_ble_eq_true rfl)
  rw [lg_entry_eq]
  generalize (lg_sl ([.long (lI (az)), .long (lI (100))]) ++ List.replicate (6 - (lg_sl ([.long (lI (az)), .long (lI (100))])).length) Slot.unset).toArray = ls at hl ⊢
  have hl : lv_has ls 6 [(0, .long (lI (az))), (2, .long (lI (100)))] := hl
  have hH := rfl (a := s.heap)
  have hq := tdI_fl ha
  refine lv_lload_n hx hb dJ9_floorDiv_f86c9_0 rfl (lv_at hl 0 rfl) ?_
  refine lv_lload_n hx hb dJ9_floorDiv_f86c9_1 rfl (lv_at hl 1 rfl) ?_
  refine my_ldiv100 hx hb dJ9_floorDiv_f86c9_2 (by omega) ?_
  refine lv_lstore (lv' := [(4, .long (lI (tdI az))), (0, .long (lI (az))), (2, .long (lI (100)))]) hx hb dJ9_floorDiv_f86c9_3 hl (by decide) rfl (fun ls hl => ?_)
  refine lv_lload_n hx hb dJ9_floorDiv_f86c9_5 rfl (lv_at hl 1 rfl) ?_
  refine lv_lload_n hx hb dJ9_floorDiv_f86c9_6 rfl (lv_at hl 2 rfl) ?_
  refine my_lxor100 hx hb dJ9_floorDiv_f86c9_7 (by omega) (fun zx hz1 hz2 => ?_)
  refine lv_lconst (v := lI 0) hx hb dJ9_floorDiv_f86c9_8 (by decide) ?_
  refine my_lcmp_ge (tgt := 27) hx hb (by omega) dJ9_floorDiv_f86c9_9 dJ9_floorDiv_f86c9_10 (by decide) (fun bh1 => ?_) (fun bh1 => ?_)
  · refine lv_lload hx hb dJ9_floorDiv_f86c9_27 (lv_at hl 0 rfl) ?_
    have hres : lI (tdI az) = lI (az / 100) := congrArg lI (by
        omega)
    exact W.lret hx hb hr (fun t ht hW => ⟨⟨_, (), rfl, hres, trivial⟩, hS.F ht⟩) hS.2.2 dJ9_floorDiv_f86c9_29
  · refine lv_lload hx hb dJ9_floorDiv_f86c9_13 (lv_at hl 0 rfl) ?_
    refine lv_lload_n hx hb dJ9_floorDiv_f86c9_15 rfl (lv_at hl 2 rfl) ?_
    refine my_lmul (z := (tdI az) * 100) hx hb dJ9_floorDiv_f86c9_16 (rfl) ?_
    refine lv_lload_n hx hb dJ9_floorDiv_f86c9_17 rfl (lv_at hl 1 rfl) ?_
    refine my_lcmp_eq (tgt := 27) hx hb (by omega) dJ9_floorDiv_f86c9_18 dJ9_floorDiv_f86c9_19 (by decide) (fun bh2 => ?_) (fun bh2 => ?_)
    · refine lv_lload hx hb dJ9_floorDiv_f86c9_27 (lv_at hl 0 rfl) ?_
      have hres : lI (tdI az) = lI (az / 100) := congrArg lI (by
          omega)
      exact W.lret hx hb hr (fun t ht hW => ⟨⟨_, (), rfl, hres, trivial⟩, hS.F ht⟩) hS.2.2 dJ9_floorDiv_f86c9_29
    · refine lv_lload hx hb dJ9_floorDiv_f86c9_22 (lv_at hl 0 rfl) ?_
      refine lv_lconst (v := lI 1) hx hb dJ9_floorDiv_f86c9_24 (by decide) ?_
      refine my_lsub (z := (tdI az) - 1) hx hb dJ9_floorDiv_f86c9_25 (rfl) ?_
      have hres : lI ((tdI az) - 1) = lI (az / 100) := congrArg lI (by
          omega)
      exact W.lret hx hb hr (fun t ht hW => ⟨⟨_, (), rfl, hres, trivial⟩, hS.F ht⟩) hS.2.2 dJ9_floorDiv_f86c9_26

abbrev ws_X2_start : List Cond := Cond.code yX2_start cX2_start 3 (none : Option FieldType) :: ALL
set_option maxHeartbeats 4000000 in
set_option maxRecDepth 100000 in
theorem m_X2_start (l : Launch) (D : va_G) (cs : Nat → ClassId) (kl us : Nat) (lev : Int) (se : Nat → Int) (fl : Int) : Met l yX2_start ws_X2_start ({ frames := 0, cells := 0, slots := 0, locals := 0 }) (va_Pc [.ref kl, .int (iI (fl))] (PC D cs [(kl, .inr (2, [.ref us, .int (iI (lev))])), (us, arI cs 7 se)])) (va_Qv (fun (_ : Unit) => True) (fun _ t => va_P D vwCl [(kl, .inr (2, [.ref us, .int (iI (fl))])), (us, arI cs 7 (fun _ => 1000))] t.heap) (inW [(kl, .inr (2, [.ref us, .int (iI (lev))])), (us, arI cs 7 se)])) 0 0 (inW [(kl, .inr (2, [.ref us, .int (iI (lev))])), (us, arI cs 7 se)]) := by
  refine Met.ofW (cc := cX2_start) (maxL := 3) (ret := ((none : Option FieldType))) (by decide +kernel) rfl ?_
  intro p e s m args below meth c s₁ B hml hv
  obtain ⟨rfl, hP, hK, hD, hN⟩ := hv
  have hx := B.exec
  have hb := B.bytes
  have hr := B.returns
  have hts : ∀ w ∈ ALL, w.before _ s = true := fun w h => atoms_spec (ws := ws_X2_start) B.pre w (List.mem_cons_of_mem _ h)
  have hown : s.vm.findClass RX2 = some m.cls := findClass_of_methodNamed B.named
  have hlocks := B.notSynchronized
  generalize hAe : inW [(kl, .inr (2, [.ref us, .int (iI (lev))])), (us, arI cs 7 se)] = A at hD ⊢
  have hS : va_S A s.heap s.heap [] := va_S.rf
  have hl := lv_entry ([.ref kl, .int (iI (fl))]) (n := 3) (Nat.le_of_ble_eq_true rfl)
  rw [lg_entry_eq]
  generalize (lg_sl ([.ref kl, .int (iI (fl))]) ++ List.replicate (3 - (lg_sl ([.ref kl, .int (iI (fl))])).length) Slot.unset).toArray = ls at hl ⊢
  have hl : lv_has ls 3 [(0, .ref kl), (1, .int (iI (fl)))] := hl
  have hH := rfl (a := s.heap)
  refine lv_aload_n hx hb dX2_start_0 rfl (lv_at hl 0 rfl) ?_
  refine lv_iload_n hx hb dX2_start_1 rfl (lv_at hl 1 rfl) ?_
  refine my_put hx hb hts inAX2 tyX2_ok nmX2 hown hK hP hD hS 0 rfl rfl 1 (by decide) w_46 rfl rfl rfl (Nat.le_of_ble_eq_true rfl) dX2_start_2 (fun H locs hP hD hS => ?_)
  have hP : va_P D vwCl [(kl, .inr (2, [.ref us, .int (iI (fl))])), (us, arI cs 7 se)] H := hP
  have hD : va_D A [(kl, .inr (2, [.ref us, .int (iI (fl))])), (us, arI cs 7 se)] := hD
  refine lv_iconst (v := iI (0)) hx hb dX2_start_5 rfl ?_
  refine lv_istore_n (lv' := [(2, .int (iI (0))), (0, .ref kl), (1, .int (iI (fl)))]) hx hb dX2_start_6 rfl hl (by decide) rfl (fun ls hl => ?_)
  suffices KL : ∀ (n : Nat) (i : Nat), i ≤ 7 → 7 - i < n → ∀ (H : Heap) (locs : List Loc) (ls : Array Slot), va_P D vwCl [(kl, .inr (2, [.ref us, .int (iI (fl))])), (us, arI cs 7 (flI se 1000 i))] H → va_D A [(kl, .inr (2, [.ref us, .int (iI (fl))])), (us, arI cs 7 (flI se 1000 i))] → va_S A s.heap H locs → lv_has ls 3 [(2, .int (iI (((i : Nat) : Int)))), (0, .ref kl), (1, .int (iI (fl)))] → W p l e _ s m _ below meth c H locs 0 0 _ (F0 m 7 ls []) from
    KL _ 0 (Nat.zero_le _) (Nat.lt_succ_self _) _ _ _ (by rw [flI_0]; exact hP) (by rw [flI_0]; exact hD) hS (lv_sub hl [0, 1, 2] rfl)
  intro n
  induction n with
  | zero => intro i hi h0; exact absurd h0 (Nat.not_lt_zero _)
  | succ n ih =>
    intro i hi hmu H locs ls hP hD hS hl
    refine lv_iload_n hx hb dX2_start_7 rfl (lv_at hl 0 rfl) ?_
    refine lv_aload_n hx hb dX2_start_8 rfl (lv_at hl 1 rfl) ?_
    refine my_get hx hb hts inAX2 hown hK hP 0 rfl rfl 0 (by decide) w_45 rfl rfl dX2_start_9 ?_
    refine my_alenI hx hb hK hP 1 rfl dX2_start_12 ?_
    refine my_icmp_ge (tgt := 31) hx hb (by omega) dX2_start_13 (by decide) (fun bh1 => ?_) (fun bh1 => ?_)
    · have hD := D_arI hD (k := 1) (g := fun _ => 1000) rfl
      have hP := P_arI hP (k := 1) (g := fun _ => 1000) rfl (fun j hj => by simp only [flI]; rw [if_pos (by omega)])
      have hP : va_P D vwCl [(kl, .inr (2, [.ref us, .int (iI (fl))])), (us, arI cs 7 (fun _ => 1000))] H := hP
      have hD : va_D A [(kl, .inr (2, [.ref us, .int (iI (fl))])), (us, arI cs 7 (fun _ => 1000))] := hD
      subst hAe
      exact W.vret hx hb hr (fun t ht hW => ⟨⟨(), rfl, trivial, by show va_P D vwCl _ t.heap; rw [ht]; exact hP⟩, hS.F ht⟩) hS.2.2 dX2_start_31
    · refine lv_aload_n hx hb dX2_start_16 rfl (lv_at hl 1 rfl) ?_
      refine my_get hx hb hts inAX2 hown hK hP 0 rfl rfl 0 (by decide) w_45 rfl rfl dX2_start_17 ?_
      refine lv_iload_n hx hb dX2_start_20 rfl (lv_at hl 0 rfl) ?_
      refine lv_sipush (v := iI (1000)) hx hb dX2_start_21 (by decide) ?_
      refine my_iast hx hb hK hP hD hS 1 rfl (by omega) (k := i) (Int.toNat_natCast _) dX2_start_24 (fun H locs hP hD hS => ?_)
      have hP : va_P D vwCl [(kl, .inr (2, [.ref us, .int (iI (fl))])), (us, arI cs 7 (upI (flI se 1000 i) i 1000))] H := hP
      have hD : va_D A [(kl, .inr (2, [.ref us, .int (iI (fl))])), (us, arI cs 7 (upI (flI se 1000 i) i 1000))] := hD
      refine lv_iinc (v := iI (((i : Nat) : Int) + 1)) (lv' := [(2, .int (iI (((i : Nat) : Int) + 1))), (0, .ref kl), (1, .int (iI (fl)))]) hx hb dX2_start_25 hl (k := 0) rfl (by rw [show (((i : Nat) : Int) + 1 : Int) = ((i : Nat) : Int) + 1 from rfl]; exact iI_add _ _) (by decide) rfl (fun ls hl => ?_)
      refine lv_goto (tgt := 7) hx hb dX2_start_28 (by decide) ?_
      have e1 : ((i : Nat) : Int) + 1 = ((i + 1 : Nat) : Int) := by omega
      rw [e1] at hl
      rw [flI_s] at hP hD
      exact ih (i + 1) (by omega) (by omega) _ _ _ hP hD hS (lv_sub hl [0, 1, 2] rfl)

abbrev ws_X2_seasonOf : List Cond := Cond.code yX2_seasonOf cX2_seasonOf 2 (some .int) :: ALL
set_option maxHeartbeats 4000000 in
set_option maxRecDepth 100000 in
theorem m_X2_seasonOf (l : Launch) (D : va_G) (cs : Nat → ClassId) (kl us : Nat) (lev : Int) (se : Nat → Int) (wz : Nat) (hw7 : wz < 7) : Met l yX2_seasonOf ws_X2_seasonOf ({ frames := 0, cells := 0, slots := 0, locals := 0 }) (va_Pc [.ref kl, .int (iI (((wz : Nat) : Int)))] (PC D cs [(kl, .inr (2, [.ref us, .int (iI (lev))])), (us, arI cs 7 se)])) (va_Qi (fun r (_ : Unit) => r = iI (se wz)) (fun _ _ => True) noA) 0 0 noA := by
  refine Met.ofW (cc := cX2_seasonOf) (maxL := 2) (ret := (some .int)) (by decide +kernel) rfl ?_
  intro p e s m args below meth c s₁ B hml hv
  obtain ⟨rfl, hP, hK, hD, hN⟩ := hv
  have hx := B.exec
  have hb := B.bytes
  have hr := B.returns
  have hts : ∀ w ∈ ALL, w.before _ s = true := fun w h => atoms_spec (ws := ws_X2_seasonOf) B.pre w (List.mem_cons_of_mem _ h)
  have hown : s.vm.findClass RX2 = some m.cls := findClass_of_methodNamed B.named
  have hlocks := B.notSynchronized
  have hS : va_S noA s.heap s.heap [] := va_S.rf
  generalize inW [(kl, .inr (2, [.ref us, .int (iI (lev))])), (us, arI cs 7 se)] = A at hD
  have hl := lv_entry ([.ref kl, .int (iI (((wz : Nat) : Int)))]) (n := 2) (Nat.le_of_ble_eq_true rfl)
  rw [lg_entry_eq]
  generalize (lg_sl ([.ref kl, .int (iI (((wz : Nat) : Int)))]) ++ List.replicate (2 - (lg_sl ([.ref kl, .int (iI (((wz : Nat) : Int)))])).length) Slot.unset).toArray = ls at hl ⊢
  have hl : lv_has ls 2 [(0, .ref kl), (1, .int (iI (((wz : Nat) : Int))))] := hl
  have hH := rfl (a := s.heap)
  refine lv_iload_n hx hb dX2_seasonOf_0 rfl (lv_at hl 1 rfl) ?_
  refine my_if_lt (tgt := 22) hx hb (by omega) dX2_seasonOf_1 (by decide) (fun bh1 => (by omega : False).elim) (fun bh1 => ?_)
  refine lv_iload_n hx hb dX2_seasonOf_4 rfl (lv_at hl 1 rfl) ?_
  refine lv_aload_n hx hb dX2_seasonOf_5 rfl (lv_at hl 0 rfl) ?_
  refine my_get hx hb hts inAX2 hown hK hP 0 rfl rfl 0 (by decide) w_45 rfl rfl dX2_seasonOf_6 ?_
  refine my_alenI hx hb hK hP 1 rfl dX2_seasonOf_9 ?_
  refine my_icmp_ge (tgt := 22) hx hb (by omega) dX2_seasonOf_10 (by decide) (fun bh2 => (by omega : False).elim) (fun bh2 => ?_)
  refine lv_aload_n hx hb dX2_seasonOf_13 rfl (lv_at hl 0 rfl) ?_
  refine my_get hx hb hts inAX2 hown hK hP 0 rfl rfl 0 (by decide) w_45 rfl rfl dX2_seasonOf_14 ?_
  refine lv_iload_n hx hb dX2_seasonOf_17 rfl (lv_at hl 1 rfl) ?_
  refine my_iald hx hb hK hP 1 rfl (by omega) (k := wz) (Int.toNat_natCast _) dX2_seasonOf_18 ?_
  refine lv_goto (tgt := 25) hx hb dX2_seasonOf_19 (by decide) ?_
  have hres : iI (se wz) = iI (se wz) := congrArg iI (by
      first | rfl | omega)
  exact W.iret hx hb hr (fun t ht hW => ⟨⟨_, (), rfl, hres, trivial⟩, hS.F ht⟩) hS.2.2 dX2_seasonOf_25

abbrev ws_X2_thousandthsFor : List Cond := Cond.code yX2_thousandthsFor cX2_thousandthsFor 2 (some .int) :: ALL
set_option maxHeartbeats 4000000 in
set_option maxRecDepth 100000 in
theorem m_X2_thousandthsFor (l : Launch) (D : va_G) (cs : Nat → ClassId) (kl us : Nat) (lev : Int) (se : Nat → Int) (dz : Nat) (hlev : 0 ≤ lev ∧ lev ≤ 9990000) (hse : ∀ w, 100 ≤ se w ∧ se w ≤ 5000) (hd : dz < 2147483648) : Met l yX2_thousandthsFor ws_X2_thousandthsFor ({ frames := 1, cells := 0, slots := 0, locals := 21 }) (va_Pc [.ref kl, .int (iI (((dz : Nat) : Int)))] (PC D cs [(kl, .inr (2, [.ref us, .int (iI (lev))])), (us, arI cs 7 se)])) (va_Qi (fun r (_ : Unit) => r = iI (thI lev se dz)) (fun _ _ => True) noA) 0 0 noA := by
  refine Met.ofW (cc := cX2_thousandthsFor) (maxL := 2) (ret := (some .int)) (by decide +kernel) rfl ?_
  intro p e s m args below meth c s₁ B hml hv
  obtain ⟨rfl, hP, hK, hD, hN⟩ := hv
  have hx := B.exec
  have hb := B.bytes
  have hr := B.returns
  have hts : ∀ w ∈ ALL, w.before _ s = true := fun w h => atoms_spec (ws := ws_X2_thousandthsFor) B.pre w (List.mem_cons_of_mem _ h)
  have hown : s.vm.findClass RX2 = some m.cls := findClass_of_methodNamed B.named
  have hlocks := B.notSynchronized
  have hS : va_S noA s.heap s.heap [] := va_S.rf
  generalize inW [(kl, .inr (2, [.ref us, .int (iI (lev))])), (us, arI cs 7 se)] = A at hD
  have hl := lv_entry ([.ref kl, .int (iI (((dz : Nat) : Int)))]) (n := 2) (Nat.le_of_ble_eq_true rfl)
  rw [lg_entry_eq]
  generalize (lg_sl ([.ref kl, .int (iI (((dz : Nat) : Int)))]) ++ List.replicate (2 - (lg_sl ([.ref kl, .int (iI (((dz : Nat) : Int)))])).length) Slot.unset).toArray = ls at hl ⊢
  have hl : lv_has ls 2 [(0, .ref kl), (1, .int (iI (((dz : Nat) : Int))))] := hl
  have hH := rfl (a := s.heap)
  have hth := thI_rng (d := dz) hlev hse
  have hs7 := hse (dz % 7)
  refine lv_aload_n hx hb dX2_thousandthsFor_0 rfl (lv_at hl 0 rfl) ?_
  refine my_get hx hb hts inAX2 hown hK hP 0 rfl rfl 1 (by decide) w_46 rfl rfl dX2_thousandthsFor_1 ?_
  refine my_i2l hx hb dX2_thousandthsFor_4 (by omega) ?_
  refine lv_aload_n hx hb dX2_thousandthsFor_5 rfl (lv_at hl 0 rfl) ?_
  refine lv_iload_n hx hb dX2_thousandthsFor_6 rfl (lv_at hl 1 rfl) ?_
  refine lv_bipush (v := iI (7)) hx hb dX2_thousandthsFor_7 (by decide) ?_
  refine my_irem hx hb dX2_thousandthsFor_9 (by omega) rfl ?_
  refine my_cv0 (z := (((dz % 7) : Nat) : Int)) (by omega) ?_
  have pk1 : picks [(kl, .inr (2, [.ref us, .int (iI (lev))])), (us, arI cs 7 se)] [0, 1] [(kl, .inr (2, [.ref us, .int (iI (lev))])), (us, arI cs 7 se)] := ⟨rfl, rfl, trivial⟩
  refine va_calli (va_runV (As := [.int (iI ((((dz % 7) : Nat) : Int)))]) (rest := [.long (lI (lev))]) ⟨hx, hb, hml, hown, hts⟩ (m_X2_seasonOf l D cs kl us lev se (dz % 7) (by omega)) (cwV 1 hts (gV w_536 w_537 w_538 w_3 w_539) rfl rfl rfl (by decide +kernel) ⟨Nat.le_of_ble_eq_true rfl, Nat.le_of_ble_eq_true rfl⟩) (PC_V hK hN hP hD [0, 1] rfl pk1 rfl rfl) rfl rfl hl.1 rfl (lv_room (Nat.le_of_ble_eq_true rfl)) dX2_thousandthsFor_10 ⟨Nat.le_of_ble_eq_true rfl, Nat.le_of_ble_eq_true rfl⟩) hS (fun _ _ h => False.elim h) (fun _ h => False.elim h) (fun r u t H locs ht hvm hw hB hz1 hk1 hS => ?_)
  subst hw
  have hP := P_kept hP hk1
  refine my_i2l hx hb dX2_thousandthsFor_13 (by omega) ?_
  refine my_lmul (z := lev * (se (dz % 7))) hx hb dX2_thousandthsFor_14 (rfl) ?_
  refine lv_ldc2 (v := lI 1000) hx hb hown (hts _ w_540) dX2_thousandthsFor_15 ?_
  refine my_ldiv hx hb dX2_thousandthsFor_18 (by omega) rfl ?_
  refine my_l2i hx hb dX2_thousandthsFor_19 ?_
  have hres : iI ((lev * (se (dz % 7))) / 1000) = iI (thI lev se dz) := congrArg iI (by
      rfl)
  exact W.iret hx hb hr (fun t ht hW => ⟨⟨_, (), rfl, hres, trivial⟩, hS.F ht⟩) hS.2.2 dX2_thousandthsFor_20

abbrev ws_X2_unitsFor : List Cond := Cond.code yX2_unitsFor cX2_unitsFor 2 (some .int) :: ALL
set_option maxHeartbeats 4000000 in
set_option maxRecDepth 100000 in
theorem m_X2_unitsFor (l : Launch) (D : va_G) (cs : Nat → ClassId) (kl us : Nat) (lev : Int) (se : Nat → Int) (dz : Nat) (hlev : 0 ≤ lev ∧ lev ≤ 9990000) (hse : ∀ w, 100 ≤ se w ∧ se w ≤ 5000) (hd : dz < 2147483648) : Met l yX2_unitsFor ws_X2_unitsFor ({ frames := 2, cells := 0, slots := 0, locals := 42 }) (va_Pc [.ref kl, .int (iI (((dz : Nat) : Int)))] (PC D cs [(kl, .inr (2, [.ref us, .int (iI (lev))])), (us, arI cs 7 se)])) (va_Qi (fun r (_ : Unit) => r = iI (unI lev se dz)) (fun _ _ => True) noA) 0 0 noA := by
  refine Met.ofW (cc := cX2_unitsFor) (maxL := 2) (ret := (some .int)) (by decide +kernel) rfl ?_
  intro p e s m args below meth c s₁ B hml hv
  obtain ⟨rfl, hP, hK, hD, hN⟩ := hv
  have hx := B.exec
  have hb := B.bytes
  have hr := B.returns
  have hts : ∀ w ∈ ALL, w.before _ s = true := fun w h => atoms_spec (ws := ws_X2_unitsFor) B.pre w (List.mem_cons_of_mem _ h)
  have hown : s.vm.findClass RX2 = some m.cls := findClass_of_methodNamed B.named
  have hlocks := B.notSynchronized
  have hS : va_S noA s.heap s.heap [] := va_S.rf
  generalize inW [(kl, .inr (2, [.ref us, .int (iI (lev))])), (us, arI cs 7 se)] = A at hD
  have hl := lv_entry ([.ref kl, .int (iI (((dz : Nat) : Int)))]) (n := 2) (Nat.le_of_ble_eq_true rfl)
  rw [lg_entry_eq]
  generalize (lg_sl ([.ref kl, .int (iI (((dz : Nat) : Int)))]) ++ List.replicate (2 - (lg_sl ([.ref kl, .int (iI (((dz : Nat) : Int)))])).length) Slot.unset).toArray = ls at hl ⊢
  have hl : lv_has ls 2 [(0, .ref kl), (1, .int (iI (((dz : Nat) : Int))))] := hl
  have hH := rfl (a := s.heap)
  have hth := thI_rng (d := dz) hlev hse
  refine lv_aload_n hx hb dX2_unitsFor_0 rfl (lv_at hl 0 rfl) ?_
  refine lv_iload_n hx hb dX2_unitsFor_1 rfl (lv_at hl 1 rfl) ?_
  have pk1 : picks [(kl, .inr (2, [.ref us, .int (iI (lev))])), (us, arI cs 7 se)] [0, 1] [(kl, .inr (2, [.ref us, .int (iI (lev))])), (us, arI cs 7 se)] := ⟨rfl, rfl, trivial⟩
  refine va_calli (va_runV (As := [.int (iI (((dz : Nat) : Int)))]) (rest := []) ⟨hx, hb, hml, hown, hts⟩ (m_X2_thousandthsFor l D cs kl us lev se dz (hlev) (hse) (by omega)) (cwV 1 hts (gV w_532 w_533 w_534 w_3 w_535) rfl rfl rfl (by decide +kernel) ⟨Nat.le_of_ble_eq_true rfl, Nat.le_of_ble_eq_true rfl⟩) (PC_V hK hN hP hD [0, 1] rfl pk1 rfl rfl) rfl rfl hl.1 rfl (lv_room (Nat.le_of_ble_eq_true rfl)) dX2_unitsFor_2 ⟨Nat.le_of_ble_eq_true rfl, Nat.le_of_ble_eq_true rfl⟩) hS (fun _ _ h => False.elim h) (fun _ h => False.elim h) (fun r u t H locs ht hvm hw hB hz1 hk1 hS => ?_)
  subst hw
  have hP := P_kept hP hk1
  refine lv_sipush (v := iI (500)) hx hb dX2_unitsFor_5 (by decide) ?_
  refine my_iadd (z := (thI lev se dz) + 500) hx hb dX2_unitsFor_8 (rfl) ?_
  refine lv_sipush (v := iI (1000)) hx hb dX2_unitsFor_9 (by decide) ?_
  refine my_idiv hx hb dX2_unitsFor_12 (by omega) rfl ?_
  have hres : iI (((thI lev se dz) + 500) / 1000) = iI (unI lev se dz) := congrArg iI (by
      rfl)
  exact W.iret hx hb hr (fun t ht hW => ⟨⟨_, (), rfl, hres, trivial⟩, hS.F ht⟩) hS.2.2 dX2_unitsFor_13

abbrev ws_X2_learn : List Cond := Cond.code yX2_learn cX2_learn 11 (none : Option FieldType) :: ALL
set_option maxHeartbeats 4000000 in
set_option maxRecDepth 100000 in
theorem m_X2_learn (l : Launch) (D : va_G) (cs : Nat → ClassId) (kl us : Nat) (lev : Int) (se : Nat → Int) (dz : Nat) (dm lr sr : Int) (hlev : 0 ≤ lev ∧ lev ≤ 9990000) (hse : ∀ w, 100 ≤ se w ∧ se w ≤ 5000) (hd : dz < 2147483648) (hdm : 0 ≤ dm ∧ dm ≤ 999) (hlr : 0 ≤ lr ∧ lr ≤ 100) (hsr : 0 ≤ sr ∧ sr ≤ 100) : Met l yX2_learn ws_X2_learn ({ frames := 1, cells := 0, slots := 0, locals := 25 }) (va_Pc [.ref kl, .int (iI (((dz : Nat) : Int))), .int (iI (dm)), .int (iI (lr)), .int (iI (sr))] (PC D cs [(kl, .inr (2, [.ref us, .int (iI (lev))])), (us, arI cs 7 se)])) (va_Qv (fun (_ : Unit) => True) (fun _ t => va_P D vwCl [(kl, .inr (2, [.ref us, .int (iI (lvI lev (se (dz % 7)) dm lr))])), (us, arI cs 7 (snI (lvI lev (se (dz % 7)) dm lr) se (dz % 7) dm sr))] t.heap) (inW [(kl, .inr (2, [.ref us, .int (iI (lev))])), (us, arI cs 7 se)])) 0 0 (inW [(kl, .inr (2, [.ref us, .int (iI (lev))])), (us, arI cs 7 se)]) := by
  refine Met.ofW (cc := cX2_learn) (maxL := 11) (ret := ((none : Option FieldType))) (by decide +kernel) rfl ?_
  intro p e s m args below meth c s₁ B hml hv
  obtain ⟨rfl, hP, hK, hD, hN⟩ := hv
  have hx := B.exec
  have hb := B.bytes
  have hr := B.returns
  have hts : ∀ w ∈ ALL, w.before _ s = true := fun w h => atoms_spec (ws := ws_X2_learn) B.pre w (List.mem_cons_of_mem _ h)
  have hown : s.vm.findClass RX2 = some m.cls := findClass_of_methodNamed B.named
  have hlocks := B.notSynchronized
  generalize hAe : inW [(kl, .inr (2, [.ref us, .int (iI (lev))])), (us, arI cs 7 se)] = A at hD ⊢
  have hS : va_S A s.heap s.heap [] := va_S.rf
  have hl := lv_entry ([.ref kl, .int (iI (((dz : Nat) : Int))), .int (iI (dm)), .int (iI (lr)), .int (iI (sr))]) (n := 11) (Nat.le_of_ble_eq_true rfl)
  rw [lg_entry_eq]
  generalize (lg_sl ([.ref kl, .int (iI (((dz : Nat) : Int))), .int (iI (dm)), .int (iI (lr)), .int (iI (sr))]) ++ List.replicate (11 - (lg_sl ([.ref kl, .int (iI (((dz : Nat) : Int))), .int (iI (dm)), .int (iI (lr)), .int (iI (sr))])).length) Slot.unset).toArray = ls at hl ⊢
  have hl : lv_has ls 11 [(0, .ref kl), (1, .int (iI (((dz : Nat) : Int)))), (2, .int (iI (dm))), (3, .int (iI (lr))), (4, .int (iI (sr)))] := hl
  have hH := rfl (a := s.heap)
  have hs7 := hse (dz % 7)
  have hlv := lvI_rng (dem := dm) (lr := lr) hlev hs7 hdm hlr
  have hq1 : 0 ≤ dm * 1000000 / se (dz % 7) ∧ dm * 1000000 / se (dz % 7) ≤ 999000000 := ⟨Int.ediv_nonneg (by omega) (by omega), by have := (div_rng (a := dm * 1000000) (b := se (dz % 7)) (by omega) (by omega)).2; omega⟩
  have hm1 := mulS (y := dm * 1000000 / se (dz % 7) - lev) (B := 1000000000) hlr (by omega)
  refine lv_iload_n hx hb dX2_learn_0 rfl (lv_at hl 1 rfl) ?_
  refine lv_bipush (v := iI (7)) hx hb dX2_learn_1 (by decide) ?_
  refine my_irem hx hb dX2_learn_3 (by omega) rfl ?_
  refine my_cv0 (z := (((dz % 7) : Nat) : Int)) (by omega) ?_
  refine lv_istore (lv' := [(5, .int (iI ((((dz % 7) : Nat) : Int)))), (0, .ref kl), (1, .int (iI (((dz : Nat) : Int)))), (2, .int (iI (dm))), (3, .int (iI (lr))), (4, .int (iI (sr)))]) hx hb dX2_learn_4 hl (by decide) rfl (fun ls hl => ?_)
  refine lv_aload_n hx hb dX2_learn_6 rfl (lv_at hl 1 rfl) ?_
  refine lv_iload hx hb dX2_learn_7 (lv_at hl 0 rfl) ?_
  have pk1 : picks [(kl, .inr (2, [.ref us, .int (iI (lev))])), (us, arI cs 7 se)] [0, 1] [(kl, .inr (2, [.ref us, .int (iI (lev))])), (us, arI cs 7 se)] := ⟨rfl, rfl, trivial⟩
  refine va_calli (va_runV (As := [.int (iI ((((dz % 7) : Nat) : Int)))]) (rest := []) ⟨hx, hb, hml, hown, hts⟩ (m_X2_seasonOf l D cs kl us lev se (dz % 7) (by omega)) (cwV 1 hts (gV w_536 w_537 w_538 w_3 w_539) rfl rfl rfl (by decide +kernel) ⟨Nat.le_of_ble_eq_true rfl, Nat.le_of_ble_eq_true rfl⟩) (PC_V hK hN hP hD [0, 1] rfl pk1 rfl rfl) rfl rfl hl.1 rfl (lv_room (Nat.le_of_ble_eq_true rfl)) dX2_learn_9 ⟨Nat.le_of_ble_eq_true rfl, Nat.le_of_ble_eq_true rfl⟩) hS (fun _ _ h => False.elim h) (fun _ h => False.elim h) (fun r u t H locs ht hvm hw hB hz1 hk1 hS => ?_)
  subst hw
  have hP := P_kept hP hk1
  refine lv_istore (lv' := [(6, .int (iI (se (dz % 7)))), (5, .int (iI ((((dz % 7) : Nat) : Int)))), (0, .ref kl), (1, .int (iI (((dz : Nat) : Int)))), (2, .int (iI (dm))), (3, .int (iI (lr))), (4, .int (iI (sr)))]) hx hb dX2_learn_12 hl (by decide) rfl (fun ls hl => ?_)
  refine lv_iload hx hb dX2_learn_14 (lv_at hl 1 rfl) ?_
  refine my_if_lt (tgt := 34) hx hb (by omega) dX2_learn_16 (by decide) (fun bh2 => (by omega : False).elim) (fun bh2 => ?_)
  refine lv_iload hx hb dX2_learn_19 (lv_at hl 1 rfl) ?_
  refine lv_aload_n hx hb dX2_learn_21 rfl (lv_at hl 2 rfl) ?_
  refine my_get hx hb hts inAX2 hown hK hP 0 rfl rfl 0 (by decide) w_45 rfl rfl dX2_learn_22 ?_
  refine my_alenI hx hb hK hP 1 rfl dX2_learn_25 ?_
  refine my_icmp_ge (tgt := 34) hx hb (by omega) dX2_learn_26 (by decide) (fun bh3 => (by omega : False).elim) (fun bh3 => ?_)
  refine lv_iload hx hb dX2_learn_29 (lv_at hl 0 rfl) ?_
  refine my_if_gt (tgt := 35) hx hb (by omega) dX2_learn_31 (by decide) (fun bh4 => ?_) (fun bh4 => (by omega : False).elim)
  refine lv_iload_n hx hb dX2_learn_35 rfl (lv_at hl 4 rfl) ?_
  refine my_i2l hx hb dX2_learn_36 (by omega) ?_
  refine lv_ldc2 (v := lI 1000000) hx hb hown (hts _ w_548) dX2_learn_37 ?_
  refine my_lmul (z := dm * 1000000) hx hb dX2_learn_40 (rfl) ?_
  refine lv_lstore (lv' := [(7, .long (lI (dm * 1000000))), (6, .int (iI (se (dz % 7)))), (5, .int (iI ((((dz % 7) : Nat) : Int)))), (0, .ref kl), (1, .int (iI (((dz : Nat) : Int)))), (2, .int (iI (dm))), (3, .int (iI (lr))), (4, .int (iI (sr)))]) hx hb dX2_learn_41 hl (by decide) rfl (fun ls hl => ?_)
  refine lv_aload_n hx hb dX2_learn_43 rfl (lv_at hl 3 rfl) ?_
  refine lv_dup hx hb dX2_learn_44 rfl ?_
  refine my_get hx hb hts inAX2 hown hK hP 0 rfl rfl 1 (by decide) w_46 rfl rfl dX2_learn_45 ?_
  refine lv_iload_n hx hb dX2_learn_48 rfl (lv_at hl 6 rfl) ?_
  refine my_i2l hx hb dX2_learn_49 (by omega) ?_
  refine lv_lload hx hb dX2_learn_50 (lv_at hl 0 rfl) ?_
  refine lv_iload hx hb dX2_learn_52 (lv_at hl 1 rfl) ?_
  refine my_i2l hx hb dX2_learn_54 (by omega) ?_
  refine my_ldiv hx hb dX2_learn_55 (by omega) rfl ?_
  refine lv_aload_n hx hb dX2_learn_56 rfl (lv_at hl 3 rfl) ?_
  refine my_get hx hb hts inAX2 hown hK hP 0 rfl rfl 1 (by decide) w_46 rfl rfl dX2_learn_57 ?_
  refine my_i2l hx hb dX2_learn_60 (by omega) ?_
  refine my_lsub (z := ((dm * 1000000) / (se (dz % 7))) - lev) hx hb dX2_learn_61 (rfl) ?_
  refine my_lmul (z := lr * (((dm * 1000000) / (se (dz % 7))) - lev)) hx hb dX2_learn_62 (rfl) ?_
  refine lv_ldc2 (v := lI 100) hx hb hown (hts _ w_549) dX2_learn_63 ?_
  have pk5 : picks [(kl, .inr (2, [.ref us, .int (iI (lev))])), (us, arI cs 7 se)] [] [] := trivial
  refine va_calll (va_runS (As := [.long (lI (lr * (((dm * 1000000) / (se (dz % 7))) - lev))), .long (lI (100))]) (rest := [.int (iI (lev)), .ref kl]) ⟨hx, hb, hml, hown, hts⟩ (m_J9_floorDiv_f86c9 l D cs (lr * (((dm * 1000000) / (se (dz % 7))) - lev)) (by omega)) (va_cwS 2 hts (gS w_550 w_551 w_15 w_552) rfl rfl rfl (by decide +kernel) ⟨Nat.le_of_ble_eq_true rfl, Nat.le_of_ble_eq_true rfl⟩) (PC_S hK hN hP hD [] rfl pk5) rfl rfl hl.1 rfl (lv_room (Nat.le_of_ble_eq_true rfl)) dX2_learn_66 ⟨Nat.le_of_ble_eq_true rfl, Nat.le_of_ble_eq_true rfl⟩) hS (fun _ _ h => False.elim h) (fun _ h => False.elim h) (fun r u t H locs ht hvm hw hB hz1 hk1 hS => ?_)
  subst hw
  have hP := P_kept hP hk1
  refine my_l2i hx hb dX2_learn_69 ?_
  refine my_iadd (z := lev + ((lr * (((dm * 1000000) / (se (dz % 7))) - lev)) / 100)) hx hb dX2_learn_70 (rfl) ?_
  refine my_cv0 (z := lvI lev (se (dz % 7)) dm lr) (rfl) ?_
  refine my_put hx hb hts inAX2 tyX2_ok nmX2 hown hK hP hD hS 0 rfl rfl 1 (by decide) w_46 rfl rfl rfl (Nat.le_of_ble_eq_true rfl) dX2_learn_71 (fun H locs hP hD hS => ?_)
  have hP : va_P D vwCl [(kl, .inr (2, [.ref us, .int (iI (lvI lev (se (dz % 7)) dm lr))])), (us, arI cs 7 se)] H := hP
  have hD : va_D A [(kl, .inr (2, [.ref us, .int (iI (lvI lev (se (dz % 7)) dm lr))])), (us, arI cs 7 se)] := hD
  refine lv_aload_n hx hb dX2_learn_74 rfl (lv_at hl 3 rfl) ?_
  refine my_get hx hb hts inAX2 hown hK hP 0 rfl rfl 1 (by decide) w_46 rfl rfl dX2_learn_75 ?_
  refine my_if_le (tgt := 131) hx hb (by omega) dX2_learn_78 (by decide) (fun bh6 => ?_) (fun bh6 => ?_)
  · have hWe : ([(kl, .inr (2, [.ref us, .int (iI (lvI lev (se (dz % 7)) dm lr))])), (us, arI cs 7 se)] : va_W) = [(kl, .inr (2, [.ref us, .int (iI (lvI lev (se (dz % 7)) dm lr))])), (us, arI cs 7 (snI (lvI lev (se (dz % 7)) dm lr) se (dz % 7) dm sr))] := by
      unfold snI
      first | rw [if_pos (by omega)] | rw [if_neg (by omega)]
    rw [hWe] at hP
    subst hAe
    exact W.vret hx hb hr (fun t ht hW => ⟨⟨(), rfl, trivial, by show va_P D vwCl _ t.heap; rw [ht]; exact hP⟩, hS.F ht⟩) hS.2.2 dX2_learn_131
  · have hq2 : 0 ≤ dm * 1000000 / (lvI lev (se (dz % 7)) dm lr) ∧ dm * 1000000 / (lvI lev (se (dz % 7)) dm lr) ≤ 999000000 := ⟨Int.ediv_nonneg (by omega) (by omega), by have := (div_rng (a := dm * 1000000) (b := lvI lev (se (dz % 7)) dm lr) (by omega) (by omega)).2; omega⟩
    have hm2 := mulS (y := dm * 1000000 / (lvI lev (se (dz % 7)) dm lr) - se (dz % 7)) (B := 1000000000) hsr (by omega)
    refine lv_iload hx hb dX2_learn_81 (lv_at hl 1 rfl) ?_
    refine my_i2l hx hb dX2_learn_83 (by omega) ?_
    refine lv_iload hx hb dX2_learn_84 (lv_at hl 7 rfl) ?_
    refine my_i2l hx hb dX2_learn_86 (by omega) ?_
    refine lv_lload hx hb dX2_learn_87 (lv_at hl 0 rfl) ?_
    refine lv_aload_n hx hb dX2_learn_89 rfl (lv_at hl 3 rfl) ?_
    refine my_get hx hb hts inAX2 hown hK hP 0 rfl rfl 1 (by decide) w_46 rfl rfl dX2_learn_90 ?_
    refine my_i2l hx hb dX2_learn_93 (by omega) ?_
    refine my_ldiv hx hb dX2_learn_94 (by omega) rfl ?_
    refine lv_iload hx hb dX2_learn_95 (lv_at hl 1 rfl) ?_
    refine my_i2l hx hb dX2_learn_97 (by omega) ?_
    refine my_lsub (z := ((dm * 1000000) / (lvI lev (se (dz % 7)) dm lr)) - (se (dz % 7))) hx hb dX2_learn_98 (rfl) ?_
    refine my_lmul (z := sr * (((dm * 1000000) / (lvI lev (se (dz % 7)) dm lr)) - (se (dz % 7)))) hx hb dX2_learn_99 (rfl) ?_
    refine lv_ldc2 (v := lI 100) hx hb hown (hts _ w_549) dX2_learn_100 ?_
    have pk7 : picks [(kl, .inr (2, [.ref us, .int (iI (lvI lev (se (dz % 7)) dm lr))])), (us, arI cs 7 se)] [] [] := trivial
    refine va_calll (va_runS (As := [.long (lI (sr * (((dm * 1000000) / (lvI lev (se (dz % 7)) dm lr)) - (se (dz % 7))))), .long (lI (100))]) (rest := [.long (lI (se (dz % 7)))]) ⟨hx, hb, hml, hown, hts⟩ (m_J9_floorDiv_f86c9 l D cs (sr * (((dm * 1000000) / (lvI lev (se (dz % 7)) dm lr)) - (se (dz % 7)))) (by omega)) (va_cwS 2 hts (gS w_550 w_551 w_15 w_552) rfl rfl rfl (by decide +kernel) ⟨Nat.le_of_ble_eq_true rfl, Nat.le_of_ble_eq_true rfl⟩) (PC_S hK hN hP hD [] rfl pk7) rfl rfl hl.1 rfl (lv_room (Nat.le_of_ble_eq_true rfl)) dX2_learn_103 ⟨Nat.le_of_ble_eq_true rfl, Nat.le_of_ble_eq_true rfl⟩) hS (fun _ _ h => False.elim h) (fun _ h => False.elim h) (fun r u t H locs ht hvm hw hB hz1 hk1 hS => ?_)
    subst hw
    have hP := P_kept hP hk1
    refine my_ladd (z := (se (dz % 7)) + ((sr * (((dm * 1000000) / (lvI lev (se (dz % 7)) dm lr)) - (se (dz % 7)))) / 100)) hx hb dX2_learn_106 (rfl) ?_
    refine lv_lstore (lv' := [(9, .long (lI ((se (dz % 7)) + ((sr * (((dm * 1000000) / (lvI lev (se (dz % 7)) dm lr)) - (se (dz % 7)))) / 100)))), (7, .long (lI (dm * 1000000))), (6, .int (iI (se (dz % 7)))), (5, .int (iI ((((dz % 7) : Nat) : Int)))), (0, .ref kl), (1, .int (iI (((dz : Nat) : Int)))), (2, .int (iI (dm))), (3, .int (iI (lr))), (4, .int (iI (sr)))]) hx hb dX2_learn_107 hl (by decide) rfl (fun ls hl => ?_)
    refine lv_aload_n hx hb dX2_learn_109 rfl (lv_at hl 4 rfl) ?_
    refine my_get hx hb hts inAX2 hown hK hP 0 rfl rfl 0 (by decide) w_45 rfl rfl dX2_learn_110 ?_
    refine lv_iload hx hb dX2_learn_113 (lv_at hl 3 rfl) ?_
    refine lv_ldc2 (v := lI 100) hx hb hown (hts _ w_549) dX2_learn_115 ?_
    refine lv_ldc2 (v := lI 5000) hx hb hown (hts _ w_553) dX2_learn_118 ?_
    refine lv_lload hx hb dX2_learn_121 (lv_at hl 0 rfl) ?_
    refine va_mmin_long hx hb (hml.trans hl.1.symm) hown (hts _ w_554) (hts _ w_555) (hts _ w_15) (hts _ w_556) (Nat.le_of_ble_eq_true rfl) (Nat.le_of_ble_eq_true rfl) (Nat.le_of_ble_eq_true rfl) (Nat.le_of_ble_eq_true rfl) dX2_learn_123 ?_
    rw [my_minL (by omega)]
    have hmn := mnI_le (a := 5000) (b := ((se (dz % 7)) + ((sr * (((dm * 1000000) / (lvI lev (se (dz % 7)) dm lr)) - (se (dz % 7)))) / 100)))
    refine va_mmax_long hx hb (hml.trans hl.1.symm) hown (hts _ w_557) (hts _ w_558) (hts _ w_15) (hts _ w_559) (Nat.le_of_ble_eq_true rfl) (Nat.le_of_ble_eq_true rfl) (Nat.le_of_ble_eq_true rfl) (Nat.le_of_ble_eq_true rfl) dX2_learn_126 ?_
    rw [my_maxL (by omega)]
    refine my_l2i hx hb dX2_learn_129 ?_
    refine my_cv0 (z := seI (lvI lev (se (dz % 7)) dm lr) (se (dz % 7)) dm sr) (rfl) ?_
    refine my_iast hx hb hK hP hD hS 1 rfl (by omega) (k := dz % 7) (Int.toNat_natCast _) dX2_learn_130 (fun H locs hP hD hS => ?_)
    have hP : va_P D vwCl [(kl, .inr (2, [.ref us, .int (iI (lvI lev (se (dz % 7)) dm lr))])), (us, arI cs 7 (upI se (dz % 7) (seI (lvI lev (se (dz % 7)) dm lr) (se (dz % 7)) dm sr)))] H := hP
    have hD : va_D A [(kl, .inr (2, [.ref us, .int (iI (lvI lev (se (dz % 7)) dm lr))])), (us, arI cs 7 (upI se (dz % 7) (seI (lvI lev (se (dz % 7)) dm lr) (se (dz % 7)) dm sr)))] := hD
    have hWe : ([(kl, .inr (2, [.ref us, .int (iI (lvI lev (se (dz % 7)) dm lr))])), (us, arI cs 7 (upI se (dz % 7) (seI (lvI lev (se (dz % 7)) dm lr) (se (dz % 7)) dm sr)))] : va_W) = [(kl, .inr (2, [.ref us, .int (iI (lvI lev (se (dz % 7)) dm lr))])), (us, arI cs 7 (snI (lvI lev (se (dz % 7)) dm lr) se (dz % 7) dm sr))] := by
      unfold snI
      first | rw [if_pos (by omega)] | rw [if_neg (by omega)]
    rw [hWe] at hP
    subst hAe
    exact W.vret hx hb hr (fun t ht hW => ⟨⟨(), rfl, trivial, by show va_P D vwCl _ t.heap; rw [ht]; exact hP⟩, hS.F ht⟩) hS.2.2 dX2_learn_131
end
section
abbrev ws_X3_sell : List Cond := Cond.code yX3_sell cX3_sell 4 (some .int) :: ALL
set_option maxHeartbeats 4000000 in
set_option maxRecDepth 100000 in
theorem m_X3_sell (l : Launch) (D : va_G) (cs : Nat → ClassId) (kn hi kl ke kd ks ka : Nat) (ld fd fk fv es sk so lo : Int) (ud us : Nat) (dm sl : Nat → Int) (dz : Nat) (un : Int) (hd : dz < 1005) (hun : 0 ≤ un ∧ un < 2147483648) (hsk : 0 ≤ sk ∧ sk < 2147483648) : Met l yX3_sell ws_X3_sell ({ frames := 1, cells := 0, slots := 0, locals := 22 }) (va_Pc [.ref kn, .int (iI (((dz : Nat) : Int))), .int (iI (un))] (PC D cs [(kn, .inr (3, [.ref hi, .int (iI (ld)), .int (iI (fd)), .int (iI (fk)), .int (iI (fv)), .ref kl, .ref ke, .ref kd, .ref ks, .ref ka, .int (iI (es)), .int (iI (sk)), .int (iI (so)), .int (iI (lo))])), (kd, .inr (0, [.ref ud])), (ud, arI cs 1005 dm), (ks, .inr (0, [.ref us])), (us, arI cs 1005 sl)])) (va_Qi (fun r (_ : Unit) => r = iI (mnI un sk)) (fun _ t => va_P D vwCl [(kn, .inr (3, [.ref hi, .int (iI (ld)), .int (iI (fd)), .int (iI (fk)), .int (iI (fv)), .ref kl, .ref ke, .ref kd, .ref ks, .ref ka, .int (iI (es)), .int (iI (sk - mnI un sk)), .int (iI (so + mnI un sk)), .int (iI (lo + (un - mnI un sk)))])), (kd, .inr (0, [.ref ud])), (ud, arI cs 1005 (upI dm dz (dm dz + un))), (ks, .inr (0, [.ref us])), (us, arI cs 1005 (upI sl dz (sl dz + mnI un sk)))] t.heap) (inW [(kn, .inr (3, [.ref hi, .int (iI (ld)), .int (iI (fd)), .int (iI (fk)), .int (iI (fv)), .ref kl, .ref ke, .ref kd, .ref ks, .ref ka, .int (iI (es)), .int (iI (sk)), .int (iI (so)), .int (iI (lo))])), (kd, .inr (0, [.ref ud])), (ud, arI cs 1005 dm), (ks, .inr (0, [.ref us])), (us, arI cs 1005 sl)])) 0 0 (inW [(kn, .inr (3, [.ref hi, .int (iI (ld)), .int (iI (fd)), .int (iI (fk)), .int (iI (fv)), .ref kl, .ref ke, .ref kd, .ref ks, .ref ka, .int (iI (es)), .int (iI (sk)), .int (iI (so)), .int (iI (lo))])), (kd, .inr (0, [.ref ud])), (ud, arI cs 1005 dm), (ks, .inr (0, [.ref us])), (us, arI cs 1005 sl)]) := by
  refine Met.ofW (cc := cX3_sell) (maxL := 4) (ret := (some .int)) (by decide +kernel) rfl ?_
  intro p e s m args below meth c s₁ B hml hv
  obtain ⟨rfl, hP, hK, hD, hN⟩ := hv
  have hx := B.exec
  have hb := B.bytes
  have hr := B.returns
  have hts : ∀ w ∈ ALL, w.before _ s = true := fun w h => atoms_spec (ws := ws_X3_sell) B.pre w (List.mem_cons_of_mem _ h)
  have hown : s.vm.findClass RX3 = some m.cls := findClass_of_methodNamed B.named
  have hlocks := B.notSynchronized
  generalize hAe : inW [(kn, .inr (3, [.ref hi, .int (iI (ld)), .int (iI (fd)), .int (iI (fk)), .int (iI (fv)), .ref kl, .ref ke, .ref kd, .ref ks, .ref ka, .int (iI (es)), .int (iI (sk)), .int (iI (so)), .int (iI (lo))])), (kd, .inr (0, [.ref ud])), (ud, arI cs 1005 dm), (ks, .inr (0, [.ref us])), (us, arI cs 1005 sl)] = A at hD ⊢
  have hS : va_S A s.heap s.heap [] := va_S.rf
  have hl := lv_entry ([.ref kn, .int (iI (((dz : Nat) : Int))), .int (iI (un))]) (n := 4) (Nat.le_of_ble_eq_true rfl)
  rw [lg_entry_eq]
  generalize (lg_sl ([.ref kn, .int (iI (((dz : Nat) : Int))), .int (iI (un))]) ++ List.replicate (4 - (lg_sl ([.ref kn, .int (iI (((dz : Nat) : Int))), .int (iI (un))])).length) Slot.unset).toArray = ls at hl ⊢
  have hl : lv_has ls 4 [(0, .ref kn), (1, .int (iI (((dz : Nat) : Int)))), (2, .int (iI (un)))] := hl
  have hH := rfl (a := s.heap)
  refine lv_iload_n hx hb dX3_sell_0 rfl (lv_at hl 2 rfl) ?_
  refine lv_aload_n hx hb dX3_sell_1 rfl (lv_at hl 0 rfl) ?_
  refine my_get hx hb hts inAX3 hown hK hP 0 rfl rfl 11 (by decide) w_356 rfl rfl dX3_sell_2 ?_
  refine va_mmin hx hb (hml.trans hl.1.symm) hown (hts _ w_508) (hts _ w_509) (hts _ w_15) (hts _ w_510) (Nat.le_of_ble_eq_true rfl) (Nat.le_of_ble_eq_true rfl) (Nat.le_of_ble_eq_true rfl) (Nat.le_of_ble_eq_true rfl) dX3_sell_5 ?_
  rw [my_min (by omega)]
  refine lv_istore_n (lv' := [(3, .int (iI (mnI un sk))), (0, .ref kn), (1, .int (iI (((dz : Nat) : Int)))), (2, .int (iI (un)))]) hx hb dX3_sell_8 rfl hl (by decide) rfl (fun ls hl => ?_)
  refine lv_aload_n hx hb dX3_sell_9 rfl (lv_at hl 1 rfl) ?_
  refine my_get hx hb hts inAX3 hown hK hP 0 rfl rfl 7 (by decide) w_350 rfl rfl dX3_sell_10 ?_
  refine lv_iload_n hx hb dX3_sell_13 rfl (lv_at hl 2 rfl) ?_
  refine lv_iload_n hx hb dX3_sell_14 rfl (lv_at hl 3 rfl) ?_
  have pk1 : picks [(kn, .inr (3, [.ref hi, .int (iI (ld)), .int (iI (fd)), .int (iI (fk)), .int (iI (fv)), .ref kl, .ref ke, .ref kd, .ref ks, .ref ka, .int (iI (es)), .int (iI (sk)), .int (iI (so)), .int (iI (lo))])), (kd, .inr (0, [.ref ud])), (ud, arI cs 1005 dm), (ks, .inr (0, [.ref us])), (us, arI cs 1005 sl)] [1, 2] [(kd, .inr (0, [.ref ud])), (ud, arI cs 1005 dm)] := ⟨rfl, rfl, trivial⟩
  refine va_callv (va_runV (As := [.int (iI (((dz : Nat) : Int))), .int (iI (un))]) (rest := []) ⟨hx, hb, hml, hown, hts⟩ (m_X0_add l D cs kd ud dm dz un (by omega)) (cwV 2 hts (gV w_511 w_415 w_416 w_2 w_417) rfl rfl rfl (by decide +kernel) ⟨Nat.le_of_ble_eq_true rfl, Nat.le_of_ble_eq_true rfl⟩) (PC_V hK hN hP hD [1, 2] rfl pk1 rfl rfl) rfl rfl hl.1 rfl (lv_room (Nat.le_of_ble_eq_true rfl)) dX3_sell_15 ⟨Nat.le_of_ble_eq_true rfl, Nat.le_of_ble_eq_true rfl⟩) hS (fun q _ h => inW_sub hD [1, 2] pk1 q h) (fun q h => inW_sub hD [1, 2] pk1 q h) (fun u t H locs ht hvm hw hB hz1 hk1 hS => ?_)
  rw [ht] at hB
  obtain ⟨hP, hD⟩ := my_join (W1 := [(kd, .inr (0, [.ref ud])), (ud, arI cs 1005 (upI dm dz (dm dz + un)))]) hP hD [1, 2] rfl pk1 rfl hk1 hB
  have hP : va_P D vwCl [(kn, .inr (3, [.ref hi, .int (iI (ld)), .int (iI (fd)), .int (iI (fk)), .int (iI (fv)), .ref kl, .ref ke, .ref kd, .ref ks, .ref ka, .int (iI (es)), .int (iI (sk)), .int (iI (so)), .int (iI (lo))])), (kd, .inr (0, [.ref ud])), (ud, arI cs 1005 (upI dm dz (dm dz + un))), (ks, .inr (0, [.ref us])), (us, arI cs 1005 sl)] H := hP
  have hD : va_D A [(kn, .inr (3, [.ref hi, .int (iI (ld)), .int (iI (fd)), .int (iI (fk)), .int (iI (fv)), .ref kl, .ref ke, .ref kd, .ref ks, .ref ka, .int (iI (es)), .int (iI (sk)), .int (iI (so)), .int (iI (lo))])), (kd, .inr (0, [.ref ud])), (ud, arI cs 1005 (upI dm dz (dm dz + un))), (ks, .inr (0, [.ref us])), (us, arI cs 1005 sl)] := hD
  refine lv_aload_n hx hb dX3_sell_18 rfl (lv_at hl 1 rfl) ?_
  refine my_get hx hb hts inAX3 hown hK hP 0 rfl rfl 8 (by decide) w_352 rfl rfl dX3_sell_19 ?_
  refine lv_iload_n hx hb dX3_sell_22 rfl (lv_at hl 2 rfl) ?_
  refine lv_iload_n hx hb dX3_sell_23 rfl (lv_at hl 0 rfl) ?_
  have pk2 : picks [(kn, .inr (3, [.ref hi, .int (iI (ld)), .int (iI (fd)), .int (iI (fk)), .int (iI (fv)), .ref kl, .ref ke, .ref kd, .ref ks, .ref ka, .int (iI (es)), .int (iI (sk)), .int (iI (so)), .int (iI (lo))])), (kd, .inr (0, [.ref ud])), (ud, arI cs 1005 (upI dm dz (dm dz + un))), (ks, .inr (0, [.ref us])), (us, arI cs 1005 sl)] [3, 4] [(ks, .inr (0, [.ref us])), (us, arI cs 1005 sl)] := ⟨rfl, rfl, trivial⟩
  refine va_callv (va_runV (As := [.int (iI (((dz : Nat) : Int))), .int (iI (mnI un sk))]) (rest := []) ⟨hx, hb, hml, hown, hts⟩ (m_X0_add l D cs ks us sl dz (mnI un sk) (by omega)) (cwV 2 hts (gV w_511 w_415 w_416 w_2 w_417) rfl rfl rfl (by decide +kernel) ⟨Nat.le_of_ble_eq_true rfl, Nat.le_of_ble_eq_true rfl⟩) (PC_V hK hN hP hD [3, 4] rfl pk2 rfl rfl) rfl rfl hl.1 rfl (lv_room (Nat.le_of_ble_eq_true rfl)) dX3_sell_24 ⟨Nat.le_of_ble_eq_true rfl, Nat.le_of_ble_eq_true rfl⟩) hS (fun q _ h => inW_sub hD [3, 4] pk2 q h) (fun q h => inW_sub hD [3, 4] pk2 q h) (fun u t H locs ht hvm hw hB hz1 hk1 hS => ?_)
  rw [ht] at hB
  obtain ⟨hP, hD⟩ := my_join (W1 := [(ks, .inr (0, [.ref us])), (us, arI cs 1005 (upI sl dz (sl dz + (mnI un sk))))]) hP hD [3, 4] rfl pk2 rfl hk1 hB
  have hP : va_P D vwCl [(kn, .inr (3, [.ref hi, .int (iI (ld)), .int (iI (fd)), .int (iI (fk)), .int (iI (fv)), .ref kl, .ref ke, .ref kd, .ref ks, .ref ka, .int (iI (es)), .int (iI (sk)), .int (iI (so)), .int (iI (lo))])), (kd, .inr (0, [.ref ud])), (ud, arI cs 1005 (upI dm dz (dm dz + un))), (ks, .inr (0, [.ref us])), (us, arI cs 1005 (upI sl dz (sl dz + (mnI un sk))))] H := hP
  have hD : va_D A [(kn, .inr (3, [.ref hi, .int (iI (ld)), .int (iI (fd)), .int (iI (fk)), .int (iI (fv)), .ref kl, .ref ke, .ref kd, .ref ks, .ref ka, .int (iI (es)), .int (iI (sk)), .int (iI (so)), .int (iI (lo))])), (kd, .inr (0, [.ref ud])), (ud, arI cs 1005 (upI dm dz (dm dz + un))), (ks, .inr (0, [.ref us])), (us, arI cs 1005 (upI sl dz (sl dz + (mnI un sk))))] := hD
  refine lv_aload_n hx hb dX3_sell_27 rfl (lv_at hl 1 rfl) ?_
  refine lv_dup hx hb dX3_sell_28 rfl ?_
  refine my_get hx hb hts inAX3 hown hK hP 0 rfl rfl 11 (by decide) w_356 rfl rfl dX3_sell_29 ?_
  refine lv_iload_n hx hb dX3_sell_32 rfl (lv_at hl 0 rfl) ?_
  refine my_isub (z := sk - (mnI un sk)) hx hb dX3_sell_33 (rfl) ?_
  refine my_put hx hb hts inAX3 tyX3_ok nmX3 hown hK hP hD hS 0 rfl rfl 11 (by decide) w_356 rfl rfl rfl (Nat.le_of_ble_eq_true rfl) dX3_sell_34 (fun H locs hP hD hS => ?_)
  have hP : va_P D vwCl [(kn, .inr (3, [.ref hi, .int (iI (ld)), .int (iI (fd)), .int (iI (fk)), .int (iI (fv)), .ref kl, .ref ke, .ref kd, .ref ks, .ref ka, .int (iI (es)), .int (iI (sk - (mnI un sk))), .int (iI (so)), .int (iI (lo))])), (kd, .inr (0, [.ref ud])), (ud, arI cs 1005 (upI dm dz (dm dz + un))), (ks, .inr (0, [.ref us])), (us, arI cs 1005 (upI sl dz (sl dz + (mnI un sk))))] H := hP
  have hD : va_D A [(kn, .inr (3, [.ref hi, .int (iI (ld)), .int (iI (fd)), .int (iI (fk)), .int (iI (fv)), .ref kl, .ref ke, .ref kd, .ref ks, .ref ka, .int (iI (es)), .int (iI (sk - (mnI un sk))), .int (iI (so)), .int (iI (lo))])), (kd, .inr (0, [.ref ud])), (ud, arI cs 1005 (upI dm dz (dm dz + un))), (ks, .inr (0, [.ref us])), (us, arI cs 1005 (upI sl dz (sl dz + (mnI un sk))))] := hD
  refine lv_aload_n hx hb dX3_sell_37 rfl (lv_at hl 1 rfl) ?_
  refine lv_dup hx hb dX3_sell_38 rfl ?_
  refine my_get hx hb hts inAX3 hown hK hP 0 rfl rfl 12 (by decide) w_358 rfl rfl dX3_sell_39 ?_
  refine lv_iload_n hx hb dX3_sell_42 rfl (lv_at hl 0 rfl) ?_
  refine my_iadd (z := so + (mnI un sk)) hx hb dX3_sell_43 (rfl) ?_
  refine my_put hx hb hts inAX3 tyX3_ok nmX3 hown hK hP hD hS 0 rfl rfl 12 (by decide) w_358 rfl rfl rfl (Nat.le_of_ble_eq_true rfl) dX3_sell_44 (fun H locs hP hD hS => ?_)
  have hP : va_P D vwCl [(kn, .inr (3, [.ref hi, .int (iI (ld)), .int (iI (fd)), .int (iI (fk)), .int (iI (fv)), .ref kl, .ref ke, .ref kd, .ref ks, .ref ka, .int (iI (es)), .int (iI (sk - (mnI un sk))), .int (iI (so + (mnI un sk))), .int (iI (lo))])), (kd, .inr (0, [.ref ud])), (ud, arI cs 1005 (upI dm dz (dm dz + un))), (ks, .inr (0, [.ref us])), (us, arI cs 1005 (upI sl dz (sl dz + (mnI un sk))))] H := hP
  have hD : va_D A [(kn, .inr (3, [.ref hi, .int (iI (ld)), .int (iI (fd)), .int (iI (fk)), .int (iI (fv)), .ref kl, .ref ke, .ref kd, .ref ks, .ref ka, .int (iI (es)), .int (iI (sk - (mnI un sk))), .int (iI (so + (mnI un sk))), .int (iI (lo))])), (kd, .inr (0, [.ref ud])), (ud, arI cs 1005 (upI dm dz (dm dz + un))), (ks, .inr (0, [.ref us])), (us, arI cs 1005 (upI sl dz (sl dz + (mnI un sk))))] := hD
  refine lv_aload_n hx hb dX3_sell_47 rfl (lv_at hl 1 rfl) ?_
  refine lv_dup hx hb dX3_sell_48 rfl ?_
  refine my_get hx hb hts inAX3 hown hK hP 0 rfl rfl 13 (by decide) w_359 rfl rfl dX3_sell_49 ?_
  refine lv_iload_n hx hb dX3_sell_52 rfl (lv_at hl 3 rfl) ?_
  refine lv_iload_n hx hb dX3_sell_53 rfl (lv_at hl 0 rfl) ?_
  refine my_isub (z := un - (mnI un sk)) hx hb dX3_sell_54 (rfl) ?_
  refine my_iadd (z := lo + (un - (mnI un sk))) hx hb dX3_sell_55 (rfl) ?_
  refine my_put hx hb hts inAX3 tyX3_ok nmX3 hown hK hP hD hS 0 rfl rfl 13 (by decide) w_359 rfl rfl rfl (Nat.le_of_ble_eq_true rfl) dX3_sell_56 (fun H locs hP hD hS => ?_)
  have hP : va_P D vwCl [(kn, .inr (3, [.ref hi, .int (iI (ld)), .int (iI (fd)), .int (iI (fk)), .int (iI (fv)), .ref kl, .ref ke, .ref kd, .ref ks, .ref ka, .int (iI (es)), .int (iI (sk - (mnI un sk))), .int (iI (so + (mnI un sk))), .int (iI (lo + (un - (mnI un sk))))])), (kd, .inr (0, [.ref ud])), (ud, arI cs 1005 (upI dm dz (dm dz + un))), (ks, .inr (0, [.ref us])), (us, arI cs 1005 (upI sl dz (sl dz + (mnI un sk))))] H := hP
  have hD : va_D A [(kn, .inr (3, [.ref hi, .int (iI (ld)), .int (iI (fd)), .int (iI (fk)), .int (iI (fv)), .ref kl, .ref ke, .ref kd, .ref ks, .ref ka, .int (iI (es)), .int (iI (sk - (mnI un sk))), .int (iI (so + (mnI un sk))), .int (iI (lo + (un - (mnI un sk))))])), (kd, .inr (0, [.ref ud])), (ud, arI cs 1005 (upI dm dz (dm dz + un))), (ks, .inr (0, [.ref us])), (us, arI cs 1005 (upI sl dz (sl dz + (mnI un sk))))] := hD
  refine lv_iload_n hx hb dX3_sell_59 rfl (lv_at hl 0 rfl) ?_
  have hWe : ([(kn, .inr (3, [.ref hi, .int (iI (ld)), .int (iI (fd)), .int (iI (fk)), .int (iI (fv)), .ref kl, .ref ke, .ref kd, .ref ks, .ref ka, .int (iI (es)), .int (iI (sk - (mnI un sk))), .int (iI (so + (mnI un sk))), .int (iI (lo + (un - (mnI un sk))))])), (kd, .inr (0, [.ref ud])), (ud, arI cs 1005 (upI dm dz (dm dz + un))), (ks, .inr (0, [.ref us])), (us, arI cs 1005 (upI sl dz (sl dz + (mnI un sk))))] : va_W) = [(kn, .inr (3, [.ref hi, .int (iI (ld)), .int (iI (fd)), .int (iI (fk)), .int (iI (fv)), .ref kl, .ref ke, .ref kd, .ref ks, .ref ka, .int (iI (es)), .int (iI (sk - mnI un sk)), .int (iI (so + mnI un sk)), .int (iI (lo + (un - mnI un sk)))])), (kd, .inr (0, [.ref ud])), (ud, arI cs 1005 (upI dm dz (dm dz + un))), (ks, .inr (0, [.ref us])), (us, arI cs 1005 (upI sl dz (sl dz + mnI un sk)))] := by
    first | rfl | (congr 1; omega)
  rw [hWe] at hP
  subst hAe
  have hres : iI (mnI un sk) = iI (mnI un sk) := congrArg iI (by
      first | rfl | omega)
  exact W.iret hx hb hr (fun t ht hW => ⟨⟨_, (), rfl, hres, by show va_P D vwCl _ t.heap; rw [ht]; exact hP⟩, hS.F ht⟩) hS.2.2 dX3_sell_60

abbrev ws_X3_learnFrom : List Cond := Cond.code yX3_learnFrom cX3_learnFrom 6 (none : Option FieldType) :: ALL
set_option maxHeartbeats 4000000 in
set_option maxRecDepth 100000 in
theorem m_X3_learnFrom (l : Launch) (D : va_G) (cs : Nat → ClassId) (kn hi kl ke kd ks ka : Nat) (ld fd fk fv es sk so lo : Int) (us ud : Nat) (lev : Int) (se ef dm : Nat → Int) (dz : Nat) (lr sr : Int) (hlev : 0 ≤ lev ∧ lev ≤ 9990000) (hse : ∀ w, 100 ≤ se w ∧ se w ≤ 5000) (hd : dz < 1005) (hdm : 0 ≤ dm dz ∧ dm dz ≤ 999) (hlr : 0 ≤ lr ∧ lr ≤ 100) (hsr : 0 ≤ sr ∧ sr ≤ 100) : Met l yX3_learnFrom ws_X3_learnFrom ({ frames := 3, cells := 0, slots := 0, locals := 63 }) (va_Pc [.ref kn, .int (iI (((dz : Nat) : Int))), .int (iI (lr)), .int (iI (sr))] (PC D cs [(kn, .inr (3, [.ref hi, .int (iI (ld)), .int (iI (fd)), .int (iI (fk)), .int (iI (fv)), .ref kl, .ref ke, .ref kd, .ref ks, .ref ka, .int (iI (es)), .int (iI (sk)), .int (iI (so)), .int (iI (lo))])), (kl, .inr (2, [.ref us, .int (iI (lev))])), (us, arI cs 7 se), (ke, arI cs 21 ef), (kd, .inr (0, [.ref ud])), (ud, arI cs 1005 dm)])) (va_Qv (fun (_ : Unit) => True) (fun _ t => va_P D vwCl [(kn, .inr (3, [.ref hi, .int (iI (ld)), .int (iI (fd)), .int (iI (fk)), .int (iI (fv)), .ref kl, .ref ke, .ref kd, .ref ks, .ref ka, .int (iI (es + 1)), .int (iI (sk)), .int (iI (so)), .int (iI (lo))])), (kl, .inr (2, [.ref us, .int (iI (lvI lev (se (dz % 7)) (dm dz) lr))])), (us, arI cs 7 (snI (lvI lev (se (dz % 7)) (dm dz) lr) se (dz % 7) (dm dz) sr)), (ke, arI cs 21 (upI ef (erI (dm dz) (unI lev se dz)).toNat (ef (erI (dm dz) (unI lev se dz)).toNat + 1))), (kd, .inr (0, [.ref ud])), (ud, arI cs 1005 dm)] t.heap) (inW [(kn, .inr (3, [.ref hi, .int (iI (ld)), .int (iI (fd)), .int (iI (fk)), .int (iI (fv)), .ref kl, .ref ke, .ref kd, .ref ks, .ref ka, .int (iI (es)), .int (iI (sk)), .int (iI (so)), .int (iI (lo))])), (kl, .inr (2, [.ref us, .int (iI (lev))])), (us, arI cs 7 se), (ke, arI cs 21 ef), (kd, .inr (0, [.ref ud])), (ud, arI cs 1005 dm)])) 0 0 (inW [(kn, .inr (3, [.ref hi, .int (iI (ld)), .int (iI (fd)), .int (iI (fk)), .int (iI (fv)), .ref kl, .ref ke, .ref kd, .ref ks, .ref ka, .int (iI (es)), .int (iI (sk)), .int (iI (so)), .int (iI (lo))])), (kl, .inr (2, [.ref us, .int (iI (lev))])), (us, arI cs 7 se), (ke, arI cs 21 ef), (kd, .inr (0, [.ref ud])), (ud, arI cs 1005 dm)]) := by
  refine Met.ofW (cc := cX3_learnFrom) (maxL := 6) (ret := ((none : Option FieldType))) (by decide +kernel) rfl ?_
  intro p e s m args below meth c s₁ B hml hv
  obtain ⟨rfl, hP, hK, hD, hN⟩ := hv
  have hx := B.exec
  have hb := B.bytes
  have hr := B.returns
  have hts : ∀ w ∈ ALL, w.before _ s = true := fun w h => atoms_spec (ws := ws_X3_learnFrom) B.pre w (List.mem_cons_of_mem _ h)
  have hown : s.vm.findClass RX3 = some m.cls := findClass_of_methodNamed B.named
  have hlocks := B.notSynchronized
  generalize hAe : inW [(kn, .inr (3, [.ref hi, .int (iI (ld)), .int (iI (fd)), .int (iI (fk)), .int (iI (fv)), .ref kl, .ref ke, .ref kd, .ref ks, .ref ka, .int (iI (es)), .int (iI (sk)), .int (iI (so)), .int (iI (lo))])), (kl, .inr (2, [.ref us, .int (iI (lev))])), (us, arI cs 7 se), (ke, arI cs 21 ef), (kd, .inr (0, [.ref ud])), (ud, arI cs 1005 dm)] = A at hD ⊢
  have hS : va_S A s.heap s.heap [] := va_S.rf
  have hl := lv_entry ([.ref kn, .int (iI (((dz : Nat) : Int))), .int (iI (lr)), .int (iI (sr))]) (n := 6) (Nat.le_of_ble_eq_true rfl)
  rw [lg_entry_eq]
  generalize (lg_sl ([.ref kn, .int (iI (((dz : Nat) : Int))), .int (iI (lr)), .int (iI (sr))]) ++ List.replicate (6 - (lg_sl ([.ref kn, .int (iI (((dz : Nat) : Int))), .int (iI (lr)), .int (iI (sr))])).length) Slot.unset).toArray = ls at hl ⊢
  have hl : lv_has ls 6 [(0, .ref kn), (1, .int (iI (((dz : Nat) : Int)))), (2, .int (iI (lr))), (3, .int (iI (sr)))] := hl
  have hH := rfl (a := s.heap)
  have hth := thI_rng (d := dz) hlev hse
  have hun : 0 ≤ unI lev se dz ∧ unI lev se dz ≤ 49951 := by unfold unI; omega
  have her := erI_rng (dm dz) (unI lev se dz)
  have hab := abI_ge (dm dz - unI lev se dz)
  refine lv_aload_n hx hb dX3_learnFrom_0 rfl (lv_at hl 0 rfl) ?_
  refine my_get hx hb hts inAX3 hown hK hP 0 rfl rfl 7 (by decide) w_350 rfl rfl dX3_learnFrom_1 ?_
  refine lv_iload_n hx hb dX3_learnFrom_4 rfl (lv_at hl 1 rfl) ?_
  have pk1 : picks [(kn, .inr (3, [.ref hi, .int (iI (ld)), .int (iI (fd)), .int (iI (fk)), .int (iI (fv)), .ref kl, .ref ke, .ref kd, .ref ks, .ref ka, .int (iI (es)), .int (iI (sk)), .int (iI (so)), .int (iI (lo))])), (kl, .inr (2, [.ref us, .int (iI (lev))])), (us, arI cs 7 se), (ke, arI cs 21 ef), (kd, .inr (0, [.ref ud])), (ud, arI cs 1005 dm)] [4, 5] [(kd, .inr (0, [.ref ud])), (ud, arI cs 1005 dm)] := ⟨rfl, rfl, trivial⟩
  refine va_calli (va_runV (As := [.int (iI (((dz : Nat) : Int)))]) (rest := []) ⟨hx, hb, hml, hown, hts⟩ (m_X0_on l D cs kd ud dm dz (by omega)) (cwV 1 hts (gV w_124 w_125 w_126 w_2 w_127) rfl rfl rfl (by decide +kernel) ⟨Nat.le_of_ble_eq_true rfl, Nat.le_of_ble_eq_true rfl⟩) (PC_V hK hN hP hD [4, 5] rfl pk1 rfl rfl) rfl rfl hl.1 rfl (lv_room (Nat.le_of_ble_eq_true rfl)) dX3_learnFrom_5 ⟨Nat.le_of_ble_eq_true rfl, Nat.le_of_ble_eq_true rfl⟩) hS (fun _ _ h => False.elim h) (fun _ h => False.elim h) (fun r u t H locs ht hvm hw hB hz1 hk1 hS => ?_)
  subst hw
  have hP := P_kept hP hk1
  refine lv_istore (lv' := [(4, .int (iI (dm dz))), (0, .ref kn), (1, .int (iI (((dz : Nat) : Int)))), (2, .int (iI (lr))), (3, .int (iI (sr)))]) hx hb dX3_learnFrom_8 hl (by decide) rfl (fun ls hl => ?_)
  refine lv_bipush (v := iI (20)) hx hb dX3_learnFrom_10 (by decide) ?_
  refine lv_iload hx hb dX3_learnFrom_12 (lv_at hl 0 rfl) ?_
  refine lv_aload_n hx hb dX3_learnFrom_14 rfl (lv_at hl 1 rfl) ?_
  refine my_get hx hb hts inAX3 hown hK hP 0 rfl rfl 5 (by decide) w_347 rfl rfl dX3_learnFrom_15 ?_
  refine lv_iload_n hx hb dX3_learnFrom_18 rfl (lv_at hl 2 rfl) ?_
  have pk2 : picks [(kn, .inr (3, [.ref hi, .int (iI (ld)), .int (iI (fd)), .int (iI (fk)), .int (iI (fv)), .ref kl, .ref ke, .ref kd, .ref ks, .ref ka, .int (iI (es)), .int (iI (sk)), .int (iI (so)), .int (iI (lo))])), (kl, .inr (2, [.ref us, .int (iI (lev))])), (us, arI cs 7 se), (ke, arI cs 21 ef), (kd, .inr (0, [.ref ud])), (ud, arI cs 1005 dm)] [1, 2] [(kl, .inr (2, [.ref us, .int (iI (lev))])), (us, arI cs 7 se)] := ⟨rfl, rfl, trivial⟩
  refine va_calli (va_runV (As := [.int (iI (((dz : Nat) : Int)))]) (rest := [.int (iI (dm dz)), .int (iI (20))]) ⟨hx, hb, hml, hown, hts⟩ (m_X2_unitsFor l D cs kl us lev se dz (hlev) (hse) (by omega)) (cwV 1 hts (gV w_528 w_529 w_530 w_3 w_531) rfl rfl rfl (by decide +kernel) ⟨Nat.le_of_ble_eq_true rfl, Nat.le_of_ble_eq_true rfl⟩) (PC_V hK hN hP hD [1, 2] rfl pk2 rfl rfl) rfl rfl hl.1 rfl (lv_room (Nat.le_of_ble_eq_true rfl)) dX3_learnFrom_19 ⟨Nat.le_of_ble_eq_true rfl, Nat.le_of_ble_eq_true rfl⟩) hS (fun _ _ h => False.elim h) (fun _ h => False.elim h) (fun r u t H locs ht hvm hw hB hz1 hk1 hS => ?_)
  subst hw
  have hP := P_kept hP hk1
  refine my_isub (z := (dm dz) - (unI lev se dz)) hx hb dX3_learnFrom_22 (rfl) ?_
  refine va_mabs hx hb (hml.trans hl.1.symm) hown (hts _ w_541) (hts _ w_542) (hts _ w_15) (hts _ w_543) (Nat.le_of_ble_eq_true rfl) (Nat.le_of_ble_eq_true rfl) (Nat.le_of_ble_eq_true rfl) (Nat.le_of_ble_eq_true rfl) dX3_learnFrom_23 ?_
  rw [my_abs (by omega)]
  refine va_mmin hx hb (hml.trans hl.1.symm) hown (hts _ w_508) (hts _ w_509) (hts _ w_15) (hts _ w_510) (Nat.le_of_ble_eq_true rfl) (Nat.le_of_ble_eq_true rfl) (Nat.le_of_ble_eq_true rfl) (Nat.le_of_ble_eq_true rfl) dX3_learnFrom_26 ?_
  rw [my_min (by omega)]
  refine my_cv0 (z := erI (dm dz) (unI lev se dz)) (rfl) ?_
  refine lv_istore (lv' := [(5, .int (iI (erI (dm dz) (unI lev se dz)))), (4, .int (iI (dm dz))), (0, .ref kn), (1, .int (iI (((dz : Nat) : Int)))), (2, .int (iI (lr))), (3, .int (iI (sr)))]) hx hb dX3_learnFrom_29 hl (by decide) rfl (fun ls hl => ?_)
  refine lv_iload hx hb dX3_learnFrom_31 (lv_at hl 0 rfl) ?_
  refine my_if_lt (tgt := 67) hx hb (by omega) dX3_learnFrom_33 (by decide) (fun bh3 => (by omega : False).elim) (fun bh3 => ?_)
  refine lv_iload hx hb dX3_learnFrom_36 (lv_at hl 0 rfl) ?_
  refine lv_aload_n hx hb dX3_learnFrom_38 rfl (lv_at hl 2 rfl) ?_
  refine my_get hx hb hts inAX3 hown hK hP 0 rfl rfl 6 (by decide) w_349 rfl rfl dX3_learnFrom_39 ?_
  refine my_alenI hx hb hK hP 3 rfl dX3_learnFrom_42 ?_
  refine my_icmp_ge (tgt := 67) hx hb (by omega) dX3_learnFrom_43 (by decide) (fun bh4 => (by omega : False).elim) (fun bh4 => ?_)
  refine lv_aload_n hx hb dX3_learnFrom_46 rfl (lv_at hl 2 rfl) ?_
  refine my_get hx hb hts inAX3 hown hK hP 0 rfl rfl 6 (by decide) w_349 rfl rfl dX3_learnFrom_47 ?_
  refine lv_iload hx hb dX3_learnFrom_50 (lv_at hl 0 rfl) ?_
  refine lv_dup2_11 hx hb dX3_learnFrom_52 rfl rfl ?_
  refine my_iald hx hb hK hP 3 rfl (by omega) (k := (erI (dm dz) (unI lev se dz)).toNat) (rfl) dX3_learnFrom_53 ?_
  refine lv_iconst (v := iI (1)) hx hb dX3_learnFrom_54 rfl ?_
  refine my_iadd (z := (ef ((erI (dm dz) (unI lev se dz)).toNat)) + 1) hx hb dX3_learnFrom_55 (rfl) ?_
  refine my_iast hx hb hK hP hD hS 3 rfl (by omega) (k := (erI (dm dz) (unI lev se dz)).toNat) (rfl) dX3_learnFrom_56 (fun H locs hP hD hS => ?_)
  have hP : va_P D vwCl [(kn, .inr (3, [.ref hi, .int (iI (ld)), .int (iI (fd)), .int (iI (fk)), .int (iI (fv)), .ref kl, .ref ke, .ref kd, .ref ks, .ref ka, .int (iI (es)), .int (iI (sk)), .int (iI (so)), .int (iI (lo))])), (kl, .inr (2, [.ref us, .int (iI (lev))])), (us, arI cs 7 se), (ke, arI cs 21 (upI ef ((erI (dm dz) (unI lev se dz)).toNat) ((ef ((erI (dm dz) (unI lev se dz)).toNat)) + 1))), (kd, .inr (0, [.ref ud])), (ud, arI cs 1005 dm)] H := hP
  have hD : va_D A [(kn, .inr (3, [.ref hi, .int (iI (ld)), .int (iI (fd)), .int (iI (fk)), .int (iI (fv)), .ref kl, .ref ke, .ref kd, .ref ks, .ref ka, .int (iI (es)), .int (iI (sk)), .int (iI (so)), .int (iI (lo))])), (kl, .inr (2, [.ref us, .int (iI (lev))])), (us, arI cs 7 se), (ke, arI cs 21 (upI ef ((erI (dm dz) (unI lev se dz)).toNat) ((ef ((erI (dm dz) (unI lev se dz)).toNat)) + 1))), (kd, .inr (0, [.ref ud])), (ud, arI cs 1005 dm)] := hD
  refine lv_aload_n hx hb dX3_learnFrom_57 rfl (lv_at hl 2 rfl) ?_
  refine lv_dup hx hb dX3_learnFrom_58 rfl ?_
  refine my_get hx hb hts inAX3 hown hK hP 0 rfl rfl 10 (by decide) w_355 rfl rfl dX3_learnFrom_59 ?_
  refine lv_iconst (v := iI (1)) hx hb dX3_learnFrom_62 rfl ?_
  refine my_iadd (z := es + 1) hx hb dX3_learnFrom_63 (rfl) ?_
  refine my_put hx hb hts inAX3 tyX3_ok nmX3 hown hK hP hD hS 0 rfl rfl 10 (by decide) w_355 rfl rfl rfl (Nat.le_of_ble_eq_true rfl) dX3_learnFrom_64 (fun H locs hP hD hS => ?_)
  have hP : va_P D vwCl [(kn, .inr (3, [.ref hi, .int (iI (ld)), .int (iI (fd)), .int (iI (fk)), .int (iI (fv)), .ref kl, .ref ke, .ref kd, .ref ks, .ref ka, .int (iI (es + 1)), .int (iI (sk)), .int (iI (so)), .int (iI (lo))])), (kl, .inr (2, [.ref us, .int (iI (lev))])), (us, arI cs 7 se), (ke, arI cs 21 (upI ef ((erI (dm dz) (unI lev se dz)).toNat) ((ef ((erI (dm dz) (unI lev se dz)).toNat)) + 1))), (kd, .inr (0, [.ref ud])), (ud, arI cs 1005 dm)] H := hP
  have hD : va_D A [(kn, .inr (3, [.ref hi, .int (iI (ld)), .int (iI (fd)), .int (iI (fk)), .int (iI (fv)), .ref kl, .ref ke, .ref kd, .ref ks, .ref ka, .int (iI (es + 1)), .int (iI (sk)), .int (iI (so)), .int (iI (lo))])), (kl, .inr (2, [.ref us, .int (iI (lev))])), (us, arI cs 7 se), (ke, arI cs 21 (upI ef ((erI (dm dz) (unI lev se dz)).toNat) ((ef ((erI (dm dz) (unI lev se dz)).toNat)) + 1))), (kd, .inr (0, [.ref ud])), (ud, arI cs 1005 dm)] := hD
  refine lv_aload_n hx hb dX3_learnFrom_67 rfl (lv_at hl 2 rfl) ?_
  refine my_get hx hb hts inAX3 hown hK hP 0 rfl rfl 5 (by decide) w_347 rfl rfl dX3_learnFrom_68 ?_
  refine lv_iload_n hx hb dX3_learnFrom_71 rfl (lv_at hl 3 rfl) ?_
  refine lv_iload hx hb dX3_learnFrom_72 (lv_at hl 1 rfl) ?_
  refine lv_iload_n hx hb dX3_learnFrom_74 rfl (lv_at hl 4 rfl) ?_
  refine lv_iload_n hx hb dX3_learnFrom_75 rfl (lv_at hl 5 rfl) ?_
  have pk5 : picks [(kn, .inr (3, [.ref hi, .int (iI (ld)), .int (iI (fd)), .int (iI (fk)), .int (iI (fv)), .ref kl, .ref ke, .ref kd, .ref ks, .ref ka, .int (iI (es + 1)), .int (iI (sk)), .int (iI (so)), .int (iI (lo))])), (kl, .inr (2, [.ref us, .int (iI (lev))])), (us, arI cs 7 se), (ke, arI cs 21 (upI ef ((erI (dm dz) (unI lev se dz)).toNat) ((ef ((erI (dm dz) (unI lev se dz)).toNat)) + 1))), (kd, .inr (0, [.ref ud])), (ud, arI cs 1005 dm)] [1, 2] [(kl, .inr (2, [.ref us, .int (iI (lev))])), (us, arI cs 7 se)] := ⟨rfl, rfl, trivial⟩
  refine va_callv (va_runV (As := [.int (iI (((dz : Nat) : Int))), .int (iI (dm dz)), .int (iI (lr)), .int (iI (sr))]) (rest := []) ⟨hx, hb, hml, hown, hts⟩ (m_X2_learn l D cs kl us lev se dz (dm dz) lr sr (hlev) (hse) (by omega) (hdm) (hlr) (hsr)) (cwV 4 hts (gV w_544 w_545 w_546 w_3 w_547) rfl rfl rfl (by decide +kernel) ⟨Nat.le_of_ble_eq_true rfl, Nat.le_of_ble_eq_true rfl⟩) (PC_V hK hN hP hD [1, 2] rfl pk5 rfl rfl) rfl rfl hl.1 rfl (lv_room (Nat.le_of_ble_eq_true rfl)) dX3_learnFrom_76 ⟨Nat.le_of_ble_eq_true rfl, Nat.le_of_ble_eq_true rfl⟩) hS (fun q _ h => inW_sub hD [1, 2] pk5 q h) (fun q h => inW_sub hD [1, 2] pk5 q h) (fun u t H locs ht hvm hw hB hz1 hk1 hS => ?_)
  rw [ht] at hB
  obtain ⟨hP, hD⟩ := my_join (W1 := [(kl, .inr (2, [.ref us, .int (iI (lvI lev (se (dz % 7)) (dm dz) lr))])), (us, arI cs 7 (snI (lvI lev (se (dz % 7)) (dm dz) lr) se (dz % 7) (dm dz) sr))]) hP hD [1, 2] rfl pk5 rfl hk1 hB
  have hP : va_P D vwCl [(kn, .inr (3, [.ref hi, .int (iI (ld)), .int (iI (fd)), .int (iI (fk)), .int (iI (fv)), .ref kl, .ref ke, .ref kd, .ref ks, .ref ka, .int (iI (es + 1)), .int (iI (sk)), .int (iI (so)), .int (iI (lo))])), (kl, .inr (2, [.ref us, .int (iI (lvI lev (se (dz % 7)) (dm dz) lr))])), (us, arI cs 7 (snI (lvI lev (se (dz % 7)) (dm dz) lr) se (dz % 7) (dm dz) sr)), (ke, arI cs 21 (upI ef ((erI (dm dz) (unI lev se dz)).toNat) ((ef ((erI (dm dz) (unI lev se dz)).toNat)) + 1))), (kd, .inr (0, [.ref ud])), (ud, arI cs 1005 dm)] H := hP
  have hD : va_D A [(kn, .inr (3, [.ref hi, .int (iI (ld)), .int (iI (fd)), .int (iI (fk)), .int (iI (fv)), .ref kl, .ref ke, .ref kd, .ref ks, .ref ka, .int (iI (es + 1)), .int (iI (sk)), .int (iI (so)), .int (iI (lo))])), (kl, .inr (2, [.ref us, .int (iI (lvI lev (se (dz % 7)) (dm dz) lr))])), (us, arI cs 7 (snI (lvI lev (se (dz % 7)) (dm dz) lr) se (dz % 7) (dm dz) sr)), (ke, arI cs 21 (upI ef ((erI (dm dz) (unI lev se dz)).toNat) ((ef ((erI (dm dz) (unI lev se dz)).toNat)) + 1))), (kd, .inr (0, [.ref ud])), (ud, arI cs 1005 dm)] := hD
  have hWe : ([(kn, .inr (3, [.ref hi, .int (iI (ld)), .int (iI (fd)), .int (iI (fk)), .int (iI (fv)), .ref kl, .ref ke, .ref kd, .ref ks, .ref ka, .int (iI (es + 1)), .int (iI (sk)), .int (iI (so)), .int (iI (lo))])), (kl, .inr (2, [.ref us, .int (iI (lvI lev (se (dz % 7)) (dm dz) lr))])), (us, arI cs 7 (snI (lvI lev (se (dz % 7)) (dm dz) lr) se (dz % 7) (dm dz) sr)), (ke, arI cs 21 (upI ef ((erI (dm dz) (unI lev se dz)).toNat) ((ef ((erI (dm dz) (unI lev se dz)).toNat)) + 1))), (kd, .inr (0, [.ref ud])), (ud, arI cs 1005 dm)] : va_W) = [(kn, .inr (3, [.ref hi, .int (iI (ld)), .int (iI (fd)), .int (iI (fk)), .int (iI (fv)), .ref kl, .ref ke, .ref kd, .ref ks, .ref ka, .int (iI (es + 1)), .int (iI (sk)), .int (iI (so)), .int (iI (lo))])), (kl, .inr (2, [.ref us, .int (iI (lvI lev (se (dz % 7)) (dm dz) lr))])), (us, arI cs 7 (snI (lvI lev (se (dz % 7)) (dm dz) lr) se (dz % 7) (dm dz) sr)), (ke, arI cs 21 (upI ef (erI (dm dz) (unI lev se dz)).toNat (ef (erI (dm dz) (unI lev se dz)).toNat + 1))), (kd, .inr (0, [.ref ud])), (ud, arI cs 1005 dm)] := by
    first | rfl | (congr 1; omega)
  rw [hWe] at hP
  subst hAe
  exact W.vret hx hb hr (fun t ht hW => ⟨⟨(), rfl, trivial, by show va_P D vwCl _ t.heap; rw [ht]; exact hP⟩, hS.F ht⟩) hS.2.2 dX3_learnFrom_79

abbrev ws_X3_timesOf : List Cond := Cond.code yX3_timesOf cX3_timesOf 2 (some .int) :: ALL
set_option maxHeartbeats 4000000 in
set_option maxRecDepth 100000 in
theorem m_X3_timesOf (l : Launch) (D : va_G) (cs : Nat → ClassId) (kn hi kl ke kd ks ka : Nat) (ld fd fk fv es sk so lo : Int) (ef : Nat → Int) (kz : Nat) (hk : kz < 21) : Met l yX3_timesOf ws_X3_timesOf ({ frames := 0, cells := 0, slots := 0, locals := 0 }) (va_Pc [.ref kn, .int (iI (((kz : Nat) : Int)))] (PC D cs [(kn, .inr (3, [.ref hi, .int (iI (ld)), .int (iI (fd)), .int (iI (fk)), .int (iI (fv)), .ref kl, .ref ke, .ref kd, .ref ks, .ref ka, .int (iI (es)), .int (iI (sk)), .int (iI (so)), .int (iI (lo))])), (ke, arI cs 21 ef)])) (va_Qi (fun r (_ : Unit) => r = iI (ef kz)) (fun _ _ => True) noA) 0 0 noA := by
  refine Met.ofW (cc := cX3_timesOf) (maxL := 2) (ret := (some .int)) (by decide +kernel) rfl ?_
  intro p e s m args below meth c s₁ B hml hv
  obtain ⟨rfl, hP, hK, hD, hN⟩ := hv
  have hx := B.exec
  have hb := B.bytes
  have hr := B.returns
  have hts : ∀ w ∈ ALL, w.before _ s = true := fun w h => atoms_spec (ws := ws_X3_timesOf) B.pre w (List.mem_cons_of_mem _ h)
  have hown : s.vm.findClass RX3 = some m.cls := findClass_of_methodNamed B.named
  have hlocks := B.notSynchronized
  have hS : va_S noA s.heap s.heap [] := va_S.rf
  generalize inW [(kn, .inr (3, [.ref hi, .int (iI (ld)), .int (iI (fd)), .int (iI (fk)), .int (iI (fv)), .ref kl, .ref ke, .ref kd, .ref ks, .ref ka, .int (iI (es)), .int (iI (sk)), .int (iI (so)), .int (iI (lo))])), (ke, arI cs 21 ef)] = A at hD
  have hl := lv_entry ([.ref kn, .int (iI (((kz : Nat) : Int)))]) (n := 2) (Nat.le_of_ble_eq_true rfl)
  rw [lg_entry_eq]
  generalize (lg_sl ([.ref kn, .int (iI (((kz : Nat) : Int)))]) ++ List.replicate (2 - (lg_sl ([.ref kn, .int (iI (((kz : Nat) : Int)))])).length) Slot.unset).toArray = ls at hl ⊢
  have hl : lv_has ls 2 [(0, .ref kn), (1, .int (iI (((kz : Nat) : Int))))] := hl
  have hH := rfl (a := s.heap)
  refine lv_iload_n hx hb dX3_timesOf_0 rfl (lv_at hl 1 rfl) ?_
  refine my_if_lt (tgt := 22) hx hb (by omega) dX3_timesOf_1 (by decide) (fun bh1 => (by omega : False).elim) (fun bh1 => ?_)
  refine lv_iload_n hx hb dX3_timesOf_4 rfl (lv_at hl 1 rfl) ?_
  refine lv_aload_n hx hb dX3_timesOf_5 rfl (lv_at hl 0 rfl) ?_
  refine my_get hx hb hts inAX3 hown hK hP 0 rfl rfl 6 (by decide) w_349 rfl rfl dX3_timesOf_6 ?_
  refine my_alenI hx hb hK hP 1 rfl dX3_timesOf_9 ?_
  refine my_icmp_ge (tgt := 22) hx hb (by omega) dX3_timesOf_10 (by decide) (fun bh2 => (by omega : False).elim) (fun bh2 => ?_)
  refine lv_aload_n hx hb dX3_timesOf_13 rfl (lv_at hl 0 rfl) ?_
  refine my_get hx hb hts inAX3 hown hK hP 0 rfl rfl 6 (by decide) w_349 rfl rfl dX3_timesOf_14 ?_
  refine lv_iload_n hx hb dX3_timesOf_17 rfl (lv_at hl 1 rfl) ?_
  refine my_iald hx hb hK hP 1 rfl (by omega) (k := kz) (Int.toNat_natCast _) dX3_timesOf_18 ?_
  refine lv_goto (tgt := 23) hx hb dX3_timesOf_19 (by decide) ?_
  have hres : iI (ef kz) = iI (ef kz) := congrArg iI (by
      first | rfl | omega)
  exact W.iret hx hb hr (fun t ht hW => ⟨⟨_, (), rfl, hres, trivial⟩, hS.F ht⟩) hS.2.2 dX3_timesOf_23

abbrev ws_X3_safetyAt : List Cond := Cond.code yX3_safetyAt cX3_safetyAt 4 (some .int) :: ALL
set_option maxHeartbeats 4000000 in
set_option maxRecDepth 100000 in
theorem m_X3_safetyAt (l : Launch) (D : va_G) (cs : Nat → ClassId) (kn hi kl ke kd ks ka : Nat) (ld fd fk fv es sk so lo : Int) (ef : Nat → Int) (pct : Int) (hef : ∀ j, 0 ≤ ef j ∧ ef j ≤ 1000) (hes : 0 ≤ es ∧ es ≤ 1000) (hpc : 1 ≤ pct ∧ pct ≤ 100) : Met l yX3_safetyAt ws_X3_safetyAt ({ frames := 0, cells := 0, slots := 0, locals := 0 }) (va_Pc [.ref kn, .int (iI (pct))] (PC D cs [(kn, .inr (3, [.ref hi, .int (iI (ld)), .int (iI (fd)), .int (iI (fk)), .int (iI (fv)), .ref kl, .ref ke, .ref kd, .ref ks, .ref ka, .int (iI (es)), .int (iI (sk)), .int (iI (so)), .int (iI (lo))])), (ke, arI cs 21 ef)])) (va_Qi (fun r (_ : Unit) => r = iI (sfI ef es pct 0 21)) (fun _ _ => True) noA) 0 0 noA := by
  refine Met.ofW (cc := cX3_safetyAt) (maxL := 4) (ret := (some .int)) (by decide +kernel) rfl ?_
  intro p e s m args below meth c s₁ B hml hv
  obtain ⟨rfl, hP, hK, hD, hN⟩ := hv
  have hx := B.exec
  have hb := B.bytes
  have hr := B.returns
  have hts : ∀ w ∈ ALL, w.before _ s = true := fun w h => atoms_spec (ws := ws_X3_safetyAt) B.pre w (List.mem_cons_of_mem _ h)
  have hown : s.vm.findClass RX3 = some m.cls := findClass_of_methodNamed B.named
  have hlocks := B.notSynchronized
  have hS : va_S noA s.heap s.heap [] := va_S.rf
  generalize inW [(kn, .inr (3, [.ref hi, .int (iI (ld)), .int (iI (fd)), .int (iI (fk)), .int (iI (fv)), .ref kl, .ref ke, .ref kd, .ref ks, .ref ka, .int (iI (es)), .int (iI (sk)), .int (iI (so)), .int (iI (lo))])), (ke, arI cs 21 ef)] = A at hD
  have hl := lv_entry ([.ref kn, .int (iI (pct))]) (n := 4) (Nat.le_of_ble_eq_true rfl)
  rw [lg_entry_eq]
  generalize (lg_sl ([.ref kn, .int (iI (pct))]) ++ List.replicate (4 - (lg_sl ([.ref kn, .int (iI (pct))])).length) Slot.unset).toArray = ls at hl ⊢
  have hl : lv_has ls 4 [(0, .ref kn), (1, .int (iI (pct)))] := hl
  have hH := rfl (a := s.heap)
  have hps := mul_rng (a := pct) (b := es) (A := 100) (B := 1000) (by omega) hpc.2 hes.1 hes.2
  refine lv_iconst (v := iI (0)) hx hb dX3_safetyAt_0 rfl ?_
  refine lv_istore_n (lv' := [(2, .int (iI (0))), (0, .ref kn), (1, .int (iI (pct)))]) hx hb dX3_safetyAt_1 rfl hl (by decide) rfl (fun ls hl => ?_)
  refine lv_iconst (v := iI (0)) hx hb dX3_safetyAt_2 rfl ?_
  refine lv_istore_n (lv' := [(3, .int (iI (0))), (2, .int (iI (0))), (0, .ref kn), (1, .int (iI (pct)))]) hx hb dX3_safetyAt_3 rfl hl (by decide) rfl (fun ls hl => ?_)
  suffices KL : ∀ (n : Nat) (i : Nat), i ≤ 21 → sfI ef es pct 0 21 = sfI ef es pct i (21 - i) → 21 - i < n → ∀ (H : Heap) (locs : List Loc) (ls : Array Slot), va_P D vwCl [(kn, .inr (3, [.ref hi, .int (iI (ld)), .int (iI (fd)), .int (iI (fk)), .int (iI (fv)), .ref kl, .ref ke, .ref kd, .ref ks, .ref ka, .int (iI (es)), .int (iI (sk)), .int (iI (so)), .int (iI (lo))])), (ke, arI cs 21 ef)] H → va_S noA s.heap H locs → lv_has ls 4 [(3, .int (iI (((i : Nat) : Int)))), (2, .int (iI (smI ef i))), (0, .ref kn), (1, .int (iI (pct)))] → W p l e _ s m _ below meth c H locs 0 0 _ (F0 m 4 ls []) from
    KL _ 0 (Nat.zero_le _) (rfl) (Nat.lt_succ_self _) _ _ _ hP hS (lv_sub hl [0, 1, 2, 3] rfl)
  intro n
  induction n with
  | zero => intro i hil hs h0; exact absurd h0 (Nat.not_lt_zero _)
  | succ n ih =>
    intro i hil hs hmu H locs ls hP hS hl
    have hs1 := smI_le hef (i + 1)
    have hs0 : smI ef (i + 1) = smI ef i + ef i := rfl
    refine lv_iload_n hx hb dX3_safetyAt_4 rfl (lv_at hl 0 rfl) ?_
    refine lv_aload_n hx hb dX3_safetyAt_5 rfl (lv_at hl 2 rfl) ?_
    refine my_get hx hb hts inAX3 hown hK hP 0 rfl rfl 6 (by decide) w_349 rfl rfl dX3_safetyAt_6 ?_
    refine my_alenI hx hb hK hP 1 rfl dX3_safetyAt_9 ?_
    refine my_icmp_ge (tgt := 43) hx hb (by omega) dX3_safetyAt_10 (by decide) (fun bh1 => ?_) (fun bh1 => ?_)
    · refine lv_bipush (v := iI (20)) hx hb dX3_safetyAt_43 (by decide) ?_
      have hres : iI (20) = iI (sfI ef es pct 0 21) := congrArg iI (by
          rw [hs, show 21 - i = 0 from by omega, sfI])
      exact W.iret hx hb hr (fun t ht hW => ⟨⟨_, (), rfl, hres, trivial⟩, hS.F ht⟩) hS.2.2 dX3_safetyAt_45
    · refine lv_iload_n hx hb dX3_safetyAt_13 rfl (lv_at hl 1 rfl) ?_
      refine lv_aload_n hx hb dX3_safetyAt_14 rfl (lv_at hl 2 rfl) ?_
      refine my_get hx hb hts inAX3 hown hK hP 0 rfl rfl 6 (by decide) w_349 rfl rfl dX3_safetyAt_15 ?_
      refine lv_iload_n hx hb dX3_safetyAt_18 rfl (lv_at hl 0 rfl) ?_
      refine my_iald hx hb hK hP 1 rfl (by omega) (k := i) (Int.toNat_natCast _) dX3_safetyAt_19 ?_
      refine my_iadd (z := (smI ef i) + (ef i)) hx hb dX3_safetyAt_20 (rfl) ?_
      refine my_cv0 (z := smI ef (i + 1)) (rfl) ?_
      refine lv_istore_n (lv' := [(2, .int (iI (smI ef (i + 1)))), (3, .int (iI (((i : Nat) : Int)))), (0, .ref kn), (1, .int (iI (pct)))]) hx hb dX3_safetyAt_21 rfl hl (by decide) rfl (fun ls hl => ?_)
      refine lv_iload_n hx hb dX3_safetyAt_22 rfl (lv_at hl 0 rfl) ?_
      refine lv_bipush (v := iI (100)) hx hb dX3_safetyAt_23 (by decide) ?_
      refine my_imul (z := (smI ef (i + 1)) * 100) hx hb dX3_safetyAt_25 (rfl) ?_
      refine lv_iload_n hx hb dX3_safetyAt_26 rfl (lv_at hl 3 rfl) ?_
      refine lv_aload_n hx hb dX3_safetyAt_27 rfl (lv_at hl 2 rfl) ?_
      refine my_get hx hb hts inAX3 hown hK hP 0 rfl rfl 10 (by decide) w_355 rfl rfl dX3_safetyAt_28 ?_
      refine my_imul (z := pct * es) hx hb dX3_safetyAt_31 (rfl) ?_
      refine my_icmp_lt (tgt := 37) hx hb (by omega) dX3_safetyAt_32 (by decide) (fun bh2 => ?_) (fun bh2 => ?_)
      · refine lv_iinc (v := iI (((i : Nat) : Int) + 1)) (lv' := [(3, .int (iI (((i : Nat) : Int) + 1))), (2, .int (iI (smI ef (i + 1)))), (0, .ref kn), (1, .int (iI (pct)))]) hx hb dX3_safetyAt_37 hl (k := 1) rfl (by rw [show (((i : Nat) : Int) + 1 : Int) = ((i : Nat) : Int) + 1 from rfl]; exact iI_add _ _) (by decide) rfl (fun ls hl => ?_)
        refine lv_goto (tgt := 4) hx hb dX3_safetyAt_40 (by decide) ?_
        have e1 : ((i : Nat) : Int) + 1 = ((i + 1 : Nat) : Int) := by omega
        rw [e1] at hl
        exact ih (i + 1) (by omega) (by rw [hs, show 21 - i = (21 - (i + 1)) + 1 from by omega, sfI, if_neg (by omega)]) (by omega) _ _ _ hP hS (lv_sub hl [0, 1, 2, 3] rfl)
      · refine lv_iload_n hx hb dX3_safetyAt_35 rfl (lv_at hl 1 rfl) ?_
        have hres : iI (((i : Nat) : Int)) = iI (sfI ef es pct 0 21) := congrArg iI (by
            rw [hs, show 21 - i = (21 - (i + 1)) + 1 from by omega, sfI, if_pos (by omega)])
        exact W.iret hx hb hr (fun t ht hW => ⟨⟨_, (), rfl, hres, trivial⟩, hS.F ht⟩) hS.2.2 dX3_safetyAt_36

abbrev ws_X3_dueAfter : List Cond := Cond.code yX3_dueAfter cX3_dueAfter 4 (some .int) :: ALL
set_option maxHeartbeats 4000000 in
set_option maxRecDepth 100000 in
theorem m_X3_dueAfter (l : Launch) (D : va_G) (cs : Nat → ClassId) (kn hi kl ke kd ks ka : Nat) (ld fd fk fv es sk so lo : Int) (ua : Nat) (ar : Nat → Int) (dz : Nat) (hd : dz < 1000) : Met l yX3_dueAfter ws_X3_dueAfter ({ frames := 1, cells := 0, slots := 0, locals := 21 }) (va_Pc [.ref kn, .int (iI (((dz : Nat) : Int)))] (PC D cs [(kn, .inr (3, [.ref hi, .int (iI (ld)), .int (iI (fd)), .int (iI (fk)), .int (iI (fv)), .ref kl, .ref ke, .ref kd, .ref ks, .ref ka, .int (iI (es)), .int (iI (sk)), .int (iI (so)), .int (iI (lo))])), (ka, .inr (0, [.ref ua])), (ua, arI cs 1005 ar)])) (va_Qi (fun r (_ : Unit) => r = iI (duI ar dz)) (fun _ _ => True) noA) 0 0 noA := by
  refine Met.ofW (cc := cX3_dueAfter) (maxL := 4) (ret := (some .int)) (by decide +kernel) rfl ?_
  intro p e s m args below meth c s₁ B hml hv
  obtain ⟨rfl, hP, hK, hD, hN⟩ := hv
  have hx := B.exec
  have hb := B.bytes
  have hr := B.returns
  have hts : ∀ w ∈ ALL, w.before _ s = true := fun w h => atoms_spec (ws := ws_X3_dueAfter) B.pre w (List.mem_cons_of_mem _ h)
  have hown : s.vm.findClass RX3 = some m.cls := findClass_of_methodNamed B.named
  have hlocks := B.notSynchronized
  have hS : va_S noA s.heap s.heap [] := va_S.rf
  generalize inW [(kn, .inr (3, [.ref hi, .int (iI (ld)), .int (iI (fd)), .int (iI (fk)), .int (iI (fv)), .ref kl, .ref ke, .ref kd, .ref ks, .ref ka, .int (iI (es)), .int (iI (sk)), .int (iI (so)), .int (iI (lo))])), (ka, .inr (0, [.ref ua])), (ua, arI cs 1005 ar)] = A at hD
  have hl := lv_entry ([.ref kn, .int (iI (((dz : Nat) : Int)))]) (n := 4) (Nat.le_of_ble_eq_true rfl)
  rw [lg_entry_eq]
  generalize (lg_sl ([.ref kn, .int (iI (((dz : Nat) : Int)))]) ++ List.replicate (4 - (lg_sl ([.ref kn, .int (iI (((dz : Nat) : Int)))])).length) Slot.unset).toArray = ls at hl ⊢
  have hl : lv_has ls 4 [(0, .ref kn), (1, .int (iI (((dz : Nat) : Int))))] := hl
  have hH := rfl (a := s.heap)
  refine lv_iconst (v := iI (0)) hx hb dX3_dueAfter_0 rfl ?_
  refine lv_istore_n (lv' := [(2, .int (iI (0))), (0, .ref kn), (1, .int (iI (((dz : Nat) : Int))))]) hx hb dX3_dueAfter_1 rfl hl (by decide) rfl (fun ls hl => ?_)
  refine lv_iconst (v := iI (1)) hx hb dX3_dueAfter_2 rfl ?_
  refine lv_istore_n (lv' := [(3, .int (iI (1))), (2, .int (iI (0))), (0, .ref kn), (1, .int (iI (((dz : Nat) : Int))))]) hx hb dX3_dueAfter_3 rfl hl (by decide) rfl (fun ls hl => ?_)
  suffices KL : ∀ (n : Nat) (i : Nat), i ≤ 5 → 5 - i < n → ∀ (H : Heap) (locs : List Loc) (ls : Array Slot), va_P D vwCl [(kn, .inr (3, [.ref hi, .int (iI (ld)), .int (iI (fd)), .int (iI (fk)), .int (iI (fv)), .ref kl, .ref ke, .ref kd, .ref ks, .ref ka, .int (iI (es)), .int (iI (sk)), .int (iI (so)), .int (iI (lo))])), (ka, .inr (0, [.ref ua])), (ua, arI cs 1005 ar)] H → va_S noA s.heap H locs → lv_has ls 4 [(3, .int (iI ((((i + 1) : Nat) : Int)))), (2, .int (iI (smI (fun j => ar (dz + (j + 1))) i))), (0, .ref kn), (1, .int (iI (((dz : Nat) : Int))))] → W p l e _ s m _ below meth c H locs 0 0 _ (F0 m 4 ls []) from
    KL _ 0 (Nat.zero_le _) (Nat.lt_succ_self _) _ _ _ hP hS (lv_sub hl [0, 1, 2, 3] rfl)
  intro n
  induction n with
  | zero => intro i hil h0; exact absurd h0 (Nat.not_lt_zero _)
  | succ n ih =>
    intro i hil hmu H locs ls hP hS hl
    refine lv_iload_n hx hb dX3_dueAfter_4 rfl (lv_at hl 0 rfl) ?_
    refine lv_iconst (v := iI (5)) hx hb dX3_dueAfter_5 rfl ?_
    refine my_icmp_gt (tgt := 28) hx hb (by omega) dX3_dueAfter_6 (by decide) (fun bh1 => ?_) (fun bh1 => ?_)
    · refine lv_iload_n hx hb dX3_dueAfter_28 rfl (lv_at hl 1 rfl) ?_
      have hres : iI (smI (fun j => ar (dz + (j + 1))) i) = iI (duI ar dz) := congrArg iI (by
          have e : i = 5 := by omega
          rw [e]
          rfl)
      exact W.iret hx hb hr (fun t ht hW => ⟨⟨_, (), rfl, hres, trivial⟩, hS.F ht⟩) hS.2.2 dX3_dueAfter_29
    · refine lv_iload_n hx hb dX3_dueAfter_9 rfl (lv_at hl 1 rfl) ?_
      refine lv_aload_n hx hb dX3_dueAfter_10 rfl (lv_at hl 2 rfl) ?_
      refine my_get hx hb hts inAX3 hown hK hP 0 rfl rfl 9 (by decide) w_353 rfl rfl dX3_dueAfter_11 ?_
      refine lv_iload_n hx hb dX3_dueAfter_14 rfl (lv_at hl 3 rfl) ?_
      refine lv_iload_n hx hb dX3_dueAfter_15 rfl (lv_at hl 0 rfl) ?_
      refine my_iadd (z := ((dz : Nat) : Int) + (((i + 1) : Nat) : Int)) hx hb dX3_dueAfter_16 (rfl) ?_
      refine my_cv0 (z := (((dz + (i + 1)) : Nat) : Int)) (by omega) ?_
      have pk2 : picks [(kn, .inr (3, [.ref hi, .int (iI (ld)), .int (iI (fd)), .int (iI (fk)), .int (iI (fv)), .ref kl, .ref ke, .ref kd, .ref ks, .ref ka, .int (iI (es)), .int (iI (sk)), .int (iI (so)), .int (iI (lo))])), (ka, .inr (0, [.ref ua])), (ua, arI cs 1005 ar)] [1, 2] [(ka, .inr (0, [.ref ua])), (ua, arI cs 1005 ar)] := ⟨rfl, rfl, trivial⟩
      refine va_calli (va_runV (As := [.int (iI ((((dz + (i + 1)) : Nat) : Int)))]) (rest := [.int (iI (smI (fun j => ar (dz + (j + 1))) i))]) ⟨hx, hb, hml, hown, hts⟩ (m_X0_on l D cs ka ua ar (dz + (i + 1)) (by omega)) (cwV 1 hts (gV w_124 w_125 w_126 w_2 w_127) rfl rfl rfl (by decide +kernel) ⟨Nat.le_of_ble_eq_true rfl, Nat.le_of_ble_eq_true rfl⟩) (PC_V hK hN hP hD [1, 2] rfl pk2 rfl rfl) rfl rfl hl.1 rfl (lv_room (Nat.le_of_ble_eq_true rfl)) dX3_dueAfter_17 ⟨Nat.le_of_ble_eq_true rfl, Nat.le_of_ble_eq_true rfl⟩) hS (fun _ _ h => False.elim h) (fun _ h => False.elim h) (fun r u t H locs ht hvm hw hB hz1 hk1 hS => ?_)
      subst hw
      have hP := P_kept hP hk1
      refine my_iadd (z := (smI (fun j => ar (dz + (j + 1))) i) + (ar (dz + (i + 1)))) hx hb dX3_dueAfter_20 (rfl) ?_
      refine lv_istore_n (lv' := [(2, .int (iI ((smI (fun j => ar (dz + (j + 1))) i) + (ar (dz + (i + 1)))))), (3, .int (iI ((((i + 1) : Nat) : Int)))), (0, .ref kn), (1, .int (iI (((dz : Nat) : Int))))]) hx hb dX3_dueAfter_21 rfl hl (by decide) rfl (fun ls hl => ?_)
      refine lv_iinc (v := iI ((((i + 1) : Nat) : Int) + 1)) (lv' := [(3, .int (iI ((((i + 1) : Nat) : Int) + 1))), (2, .int (iI ((smI (fun j => ar (dz + (j + 1))) i) + (ar (dz + (i + 1)))))), (0, .ref kn), (1, .int (iI (((dz : Nat) : Int))))]) hx hb dX3_dueAfter_22 hl (k := 1) rfl (by rw [show ((((i + 1) : Nat) : Int) + 1 : Int) = (((i + 1) : Nat) : Int) + 1 from rfl]; exact iI_add _ _) (by decide) rfl (fun ls hl => ?_)
      refine lv_goto (tgt := 4) hx hb dX3_dueAfter_25 (by decide) ?_
      have e1 : (((i + 1) : Nat) : Int) + 1 = (((i + 1) + 1 : Nat) : Int) := by omega
      rw [e1] at hl
      exact ih (i + 1) (by omega) (by omega) _ _ _ hP hS (lv_sub hl [0, 1, 2, 3] (by rfl))

abbrev ws_X3_firstDueAfter : List Cond := Cond.code yX3_firstDueAfter cX3_firstDueAfter 3 (some .int) :: ALL
set_option maxHeartbeats 4000000 in
set_option maxRecDepth 100000 in
theorem m_X3_firstDueAfter (l : Launch) (D : va_G) (cs : Nat → ClassId) (kn hi kl ke kd ks ka : Nat) (ld fd fk fv es sk so lo : Int) (ua : Nat) (ar : Nat → Int) (dz : Nat) (hd : dz < 1000) (har : ∀ j, 0 ≤ ar j ∧ ar j < 2147483648) : Met l yX3_firstDueAfter ws_X3_firstDueAfter ({ frames := 1, cells := 0, slots := 0, locals := 21 }) (va_Pc [.ref kn, .int (iI (((dz : Nat) : Int)))] (PC D cs [(kn, .inr (3, [.ref hi, .int (iI (ld)), .int (iI (fd)), .int (iI (fk)), .int (iI (fv)), .ref kl, .ref ke, .ref kd, .ref ks, .ref ka, .int (iI (es)), .int (iI (sk)), .int (iI (so)), .int (iI (lo))])), (ka, .inr (0, [.ref ua])), (ua, arI cs 1005 ar)])) (va_Qi (fun r (_ : Unit) => r = iI (fdI ar dz 1 5)) (fun _ _ => True) noA) 0 0 noA := by
  refine Met.ofW (cc := cX3_firstDueAfter) (maxL := 3) (ret := (some .int)) (by decide +kernel) rfl ?_
  intro p e s m args below meth c s₁ B hml hv
  obtain ⟨rfl, hP, hK, hD, hN⟩ := hv
  have hx := B.exec
  have hb := B.bytes
  have hr := B.returns
  have hts : ∀ w ∈ ALL, w.before _ s = true := fun w h => atoms_spec (ws := ws_X3_firstDueAfter) B.pre w (List.mem_cons_of_mem _ h)
  have hown : s.vm.findClass RX3 = some m.cls := findClass_of_methodNamed B.named
  have hlocks := B.notSynchronized
  have hS : va_S noA s.heap s.heap [] := va_S.rf
  generalize inW [(kn, .inr (3, [.ref hi, .int (iI (ld)), .int (iI (fd)), .int (iI (fk)), .int (iI (fv)), .ref kl, .ref ke, .ref kd, .ref ks, .ref ka, .int (iI (es)), .int (iI (sk)), .int (iI (so)), .int (iI (lo))])), (ka, .inr (0, [.ref ua])), (ua, arI cs 1005 ar)] = A at hD
  have hl := lv_entry ([.ref kn, .int (iI (((dz : Nat) : Int)))]) (n := 3) (Nat.le_of_ble_eq_true rfl)
  rw [lg_entry_eq]
  generalize (lg_sl ([.ref kn, .int (iI (((dz : Nat) : Int)))]) ++ List.replicate (3 - (lg_sl ([.ref kn, .int (iI (((dz : Nat) : Int)))])).length) Slot.unset).toArray = ls at hl ⊢
  have hl : lv_has ls 3 [(0, .ref kn), (1, .int (iI (((dz : Nat) : Int))))] := hl
  have hH := rfl (a := s.heap)
  refine lv_iconst (v := iI (1)) hx hb dX3_firstDueAfter_0 rfl ?_
  refine lv_istore_n (lv' := [(2, .int (iI (1))), (0, .ref kn), (1, .int (iI (((dz : Nat) : Int))))]) hx hb dX3_firstDueAfter_1 rfl hl (by decide) rfl (fun ls hl => ?_)
  suffices KL : ∀ (n : Nat) (i : Nat), i ≤ 5 → fdI ar dz 1 5 = fdI ar dz (i + 1) (5 - i) → 5 - i < n → ∀ (H : Heap) (locs : List Loc) (ls : Array Slot), va_P D vwCl [(kn, .inr (3, [.ref hi, .int (iI (ld)), .int (iI (fd)), .int (iI (fk)), .int (iI (fv)), .ref kl, .ref ke, .ref kd, .ref ks, .ref ka, .int (iI (es)), .int (iI (sk)), .int (iI (so)), .int (iI (lo))])), (ka, .inr (0, [.ref ua])), (ua, arI cs 1005 ar)] H → va_S noA s.heap H locs → lv_has ls 3 [(2, .int (iI ((((i + 1) : Nat) : Int)))), (0, .ref kn), (1, .int (iI (((dz : Nat) : Int))))] → W p l e _ s m _ below meth c H locs 0 0 _ (F0 m 2 ls []) from
    KL _ 0 (Nat.zero_le _) (rfl) (Nat.lt_succ_self _) _ _ _ hP hS (lv_sub hl [0, 1, 2] rfl)
  intro n
  induction n with
  | zero => intro i hil hs h0; exact absurd h0 (Nat.not_lt_zero _)
  | succ n ih =>
    intro i hil hs hmu H locs ls hP hS hl
    have har1 := har (dz + (i + 1))
    refine lv_iload_n hx hb dX3_firstDueAfter_2 rfl (lv_at hl 0 rfl) ?_
    refine lv_iconst (v := iI (5)) hx hb dX3_firstDueAfter_3 rfl ?_
    refine my_icmp_gt (tgt := 30) hx hb (by omega) dX3_firstDueAfter_4 (by decide) (fun bh1 => ?_) (fun bh1 => ?_)
    · refine lv_iconst (v := iI (-1)) hx hb dX3_firstDueAfter_30 rfl ?_
      have hres : iI (-1) = iI (fdI ar dz 1 5) := congrArg iI (by
          rw [hs, show 5 - i = 0 from by omega, fdI])
      exact W.iret hx hb hr (fun t ht hW => ⟨⟨_, (), rfl, hres, trivial⟩, hS.F ht⟩) hS.2.2 dX3_firstDueAfter_31
    · refine lv_aload_n hx hb dX3_firstDueAfter_7 rfl (lv_at hl 1 rfl) ?_
      refine my_get hx hb hts inAX3 hown hK hP 0 rfl rfl 9 (by decide) w_353 rfl rfl dX3_firstDueAfter_8 ?_
      refine lv_iload_n hx hb dX3_firstDueAfter_11 rfl (lv_at hl 2 rfl) ?_
      refine lv_iload_n hx hb dX3_firstDueAfter_12 rfl (lv_at hl 0 rfl) ?_
      refine my_iadd (z := ((dz : Nat) : Int) + (((i + 1) : Nat) : Int)) hx hb dX3_firstDueAfter_13 (rfl) ?_
      refine my_cv0 (z := (((dz + (i + 1)) : Nat) : Int)) (by omega) ?_
      have pk2 : picks [(kn, .inr (3, [.ref hi, .int (iI (ld)), .int (iI (fd)), .int (iI (fk)), .int (iI (fv)), .ref kl, .ref ke, .ref kd, .ref ks, .ref ka, .int (iI (es)), .int (iI (sk)), .int (iI (so)), .int (iI (lo))])), (ka, .inr (0, [.ref ua])), (ua, arI cs 1005 ar)] [1, 2] [(ka, .inr (0, [.ref ua])), (ua, arI cs 1005 ar)] := ⟨rfl, rfl, trivial⟩
      refine va_calli (va_runV (As := [.int (iI ((((dz + (i + 1)) : Nat) : Int)))]) (rest := []) ⟨hx, hb, hml, hown, hts⟩ (m_X0_on l D cs ka ua ar (dz + (i + 1)) (by omega)) (cwV 1 hts (gV w_124 w_125 w_126 w_2 w_127) rfl rfl rfl (by decide +kernel) ⟨Nat.le_of_ble_eq_true rfl, Nat.le_of_ble_eq_true rfl⟩) (PC_V hK hN hP hD [1, 2] rfl pk2 rfl rfl) rfl rfl hl.1 rfl (lv_room (Nat.le_of_ble_eq_true rfl)) dX3_firstDueAfter_14 ⟨Nat.le_of_ble_eq_true rfl, Nat.le_of_ble_eq_true rfl⟩) hS (fun _ _ h => False.elim h) (fun _ h => False.elim h) (fun r u t H locs ht hvm hw hB hz1 hk1 hS => ?_)
      subst hw
      have hP := P_kept hP hk1
      refine my_if_le (tgt := 24) hx hb (by omega) dX3_firstDueAfter_17 (by decide) (fun bh3 => ?_) (fun bh3 => ?_)
      · refine lv_iinc (v := iI ((((i + 1) : Nat) : Int) + 1)) (lv' := [(2, .int (iI ((((i + 1) : Nat) : Int) + 1))), (0, .ref kn), (1, .int (iI (((dz : Nat) : Int))))]) hx hb dX3_firstDueAfter_24 hl (k := 0) rfl (by rw [show ((((i + 1) : Nat) : Int) + 1 : Int) = (((i + 1) : Nat) : Int) + 1 from rfl]; exact iI_add _ _) (by decide) rfl (fun ls hl => ?_)
        refine lv_goto (tgt := 2) hx hb dX3_firstDueAfter_27 (by decide) ?_
        have e1 : (((i + 1) : Nat) : Int) + 1 = (((i + 1) + 1 : Nat) : Int) := by omega
        rw [e1] at hl
        exact ih (i + 1) (by omega) (by rw [hs, show 5 - i = (5 - (i + 1)) + 1 from by omega, fdI, if_neg (by omega)]) (by omega) _ _ _ hP hS (lv_sub hl [0, 1, 2] rfl)
      · refine lv_iload_n hx hb dX3_firstDueAfter_20 rfl (lv_at hl 2 rfl) ?_
        refine lv_iload_n hx hb dX3_firstDueAfter_21 rfl (lv_at hl 0 rfl) ?_
        refine my_iadd (z := ((dz : Nat) : Int) + (((i + 1) : Nat) : Int)) hx hb dX3_firstDueAfter_22 (rfl) ?_
        have hres : iI (((dz : Nat) : Int) + (((i + 1) : Nat) : Int)) = iI (fdI ar dz 1 5) := congrArg iI (by
            rw [hs, show 5 - i = (5 - (i + 1)) + 1 from by omega, fdI, if_pos (by omega)])
        exact W.iret hx hb hr (fun t ht hW => ⟨⟨_, (), rfl, hres, trivial⟩, hS.F ht⟩) hS.2.2 dX3_firstDueAfter_23

abbrev ws_X3_journalStock : List Cond := Cond.code yX3_journalStock cX3_journalStock 2 (some .int) :: ALL
set_option maxHeartbeats 4000000 in
set_option maxRecDepth 100000 in
theorem m_X3_journalStock (l : Launch) (D : va_G) (cs : Nat → ClassId) (kn hi kl ke kd ks ka : Nat) (ld fd fk fv es sk so lo : Int) (ua us : Nat) (ar sl : Nat → Int) (dz : Nat) (hd : dz < 1005) : Met l yX3_journalStock ws_X3_journalStock ({ frames := 1, cells := 0, slots := 0, locals := 23 }) (va_Pc [.ref kn, .int (iI (((dz : Nat) : Int)))] (PC D cs [(kn, .inr (3, [.ref hi, .int (iI (ld)), .int (iI (fd)), .int (iI (fk)), .int (iI (fv)), .ref kl, .ref ke, .ref kd, .ref ks, .ref ka, .int (iI (es)), .int (iI (sk)), .int (iI (so)), .int (iI (lo))])), (ka, .inr (0, [.ref ua])), (ua, arI cs 1005 ar), (ks, .inr (0, [.ref us])), (us, arI cs 1005 sl)])) (va_Qi (fun r (_ : Unit) => r = iI (fk + smI ar (dz + 1) - smI sl (dz + 1))) (fun _ _ => True) noA) 0 0 noA := by
  refine Met.ofW (cc := cX3_journalStock) (maxL := 2) (ret := (some .int)) (by decide +kernel) rfl ?_
  intro p e s m args below meth c s₁ B hml hv
  obtain ⟨rfl, hP, hK, hD, hN⟩ := hv
  have hx := B.exec
  have hb := B.bytes
  have hr := B.returns
  have hts : ∀ w ∈ ALL, w.before _ s = true := fun w h => atoms_spec (ws := ws_X3_journalStock) B.pre w (List.mem_cons_of_mem _ h)
  have hown : s.vm.findClass RX3 = some m.cls := findClass_of_methodNamed B.named
  have hlocks := B.notSynchronized
  have hS : va_S noA s.heap s.heap [] := va_S.rf
  generalize inW [(kn, .inr (3, [.ref hi, .int (iI (ld)), .int (iI (fd)), .int (iI (fk)), .int (iI (fv)), .ref kl, .ref ke, .ref kd, .ref ks, .ref ka, .int (iI (es)), .int (iI (sk)), .int (iI (so)), .int (iI (lo))])), (ka, .inr (0, [.ref ua])), (ua, arI cs 1005 ar), (ks, .inr (0, [.ref us])), (us, arI cs 1005 sl)] = A at hD
  have hl := lv_entry ([.ref kn, .int (iI (((dz : Nat) : Int)))]) (n := 2) (Nat.le_of_ble_eq_true rfl)
  rw [lg_entry_eq]
  generalize (lg_sl ([.ref kn, .int (iI (((dz : Nat) : Int)))]) ++ List.replicate (2 - (lg_sl ([.ref kn, .int (iI (((dz : Nat) : Int)))])).length) Slot.unset).toArray = ls at hl ⊢
  have hl : lv_has ls 2 [(0, .ref kn), (1, .int (iI (((dz : Nat) : Int))))] := hl
  have hH := rfl (a := s.heap)
  refine lv_aload_n hx hb dX3_journalStock_0 rfl (lv_at hl 0 rfl) ?_
  refine my_get hx hb hts inAX3 hown hK hP 0 rfl rfl 3 (by decide) w_344 rfl rfl dX3_journalStock_1 ?_
  refine lv_aload_n hx hb dX3_journalStock_4 rfl (lv_at hl 0 rfl) ?_
  refine my_get hx hb hts inAX3 hown hK hP 0 rfl rfl 9 (by decide) w_353 rfl rfl dX3_journalStock_5 ?_
  refine lv_iload_n hx hb dX3_journalStock_8 rfl (lv_at hl 1 rfl) ?_
  have pk1 : picks [(kn, .inr (3, [.ref hi, .int (iI (ld)), .int (iI (fd)), .int (iI (fk)), .int (iI (fv)), .ref kl, .ref ke, .ref kd, .ref ks, .ref ka, .int (iI (es)), .int (iI (sk)), .int (iI (so)), .int (iI (lo))])), (ka, .inr (0, [.ref ua])), (ua, arI cs 1005 ar), (ks, .inr (0, [.ref us])), (us, arI cs 1005 sl)] [1, 2] [(ka, .inr (0, [.ref ua])), (ua, arI cs 1005 ar)] := ⟨rfl, rfl, trivial⟩
  refine va_calli (va_runV (As := [.int (iI (((dz : Nat) : Int)))]) (rest := [.int (iI (fk))]) ⟨hx, hb, hml, hown, hts⟩ (m_X0_sumUpTo l D cs ka ua ar dz (by omega)) (cwV 1 hts (gV w_756 w_757 w_758 w_2 w_759) rfl rfl rfl (by decide +kernel) ⟨Nat.le_of_ble_eq_true rfl, Nat.le_of_ble_eq_true rfl⟩) (PC_V hK hN hP hD [1, 2] rfl pk1 rfl rfl) rfl rfl hl.1 rfl (lv_room (Nat.le_of_ble_eq_true rfl)) dX3_journalStock_9 ⟨Nat.le_of_ble_eq_true rfl, Nat.le_of_ble_eq_true rfl⟩) hS (fun _ _ h => False.elim h) (fun _ h => False.elim h) (fun r u t H locs ht hvm hw hB hz1 hk1 hS => ?_)
  subst hw
  have hP := P_kept hP hk1
  refine my_iadd (z := fk + (smI ar (dz + 1))) hx hb dX3_journalStock_12 (rfl) ?_
  refine lv_aload_n hx hb dX3_journalStock_13 rfl (lv_at hl 0 rfl) ?_
  refine my_get hx hb hts inAX3 hown hK hP 0 rfl rfl 8 (by decide) w_352 rfl rfl dX3_journalStock_14 ?_
  refine lv_iload_n hx hb dX3_journalStock_17 rfl (lv_at hl 1 rfl) ?_
  have pk2 : picks [(kn, .inr (3, [.ref hi, .int (iI (ld)), .int (iI (fd)), .int (iI (fk)), .int (iI (fv)), .ref kl, .ref ke, .ref kd, .ref ks, .ref ka, .int (iI (es)), .int (iI (sk)), .int (iI (so)), .int (iI (lo))])), (ka, .inr (0, [.ref ua])), (ua, arI cs 1005 ar), (ks, .inr (0, [.ref us])), (us, arI cs 1005 sl)] [3, 4] [(ks, .inr (0, [.ref us])), (us, arI cs 1005 sl)] := ⟨rfl, rfl, trivial⟩
  refine va_calli (va_runV (As := [.int (iI (((dz : Nat) : Int)))]) (rest := [.int (iI (fk + (smI ar (dz + 1))))]) ⟨hx, hb, hml, hown, hts⟩ (m_X0_sumUpTo l D cs ks us sl dz (by omega)) (cwV 1 hts (gV w_756 w_757 w_758 w_2 w_759) rfl rfl rfl (by decide +kernel) ⟨Nat.le_of_ble_eq_true rfl, Nat.le_of_ble_eq_true rfl⟩) (PC_V hK hN hP hD [3, 4] rfl pk2 rfl rfl) rfl rfl hl.1 rfl (lv_room (Nat.le_of_ble_eq_true rfl)) dX3_journalStock_18 ⟨Nat.le_of_ble_eq_true rfl, Nat.le_of_ble_eq_true rfl⟩) hS (fun _ _ h => False.elim h) (fun _ h => False.elim h) (fun r u t H locs ht hvm hw hB hz1 hk1 hS => ?_)
  subst hw
  have hP := P_kept hP hk1
  refine my_isub (z := (fk + (smI ar (dz + 1))) - (smI sl (dz + 1))) hx hb dX3_journalStock_21 (rfl) ?_
  have hres : iI ((fk + (smI ar (dz + 1))) - (smI sl (dz + 1))) = iI (fk + smI ar (dz + 1) - smI sl (dz + 1)) := congrArg iI (by
      first | rfl | omega)
  exact W.iret hx hb hr (fun t ht hW => ⟨⟨_, (), rfl, hres, trivial⟩, hS.F ht⟩) hS.2.2 dX3_journalStock_22

abbrev ws_X3_needOn : List Cond := Cond.code yX3_needOn cX3_needOn 6 (some .int) :: ALL
set_option maxHeartbeats 4000000 in
set_option maxRecDepth 100000 in
theorem m_X3_needOn (l : Launch) (D : va_G) (cs : Nat → ClassId) (kn hi kl ke kd ks ka : Nat) (fd fk fv es sk so lo : Int) (ldn us ua : Nat) (lev : Int) (se ef ar : Nat → Int) (dz : Nat) (pct : Int) (hlev : 0 ≤ lev ∧ lev ≤ 9990000) (hse : ∀ w, 100 ≤ se w ∧ se w ≤ 5000) (hef : ∀ j, 0 ≤ ef j ∧ ef j ≤ 1000) (hes : 0 ≤ es ∧ es ≤ 1000) (hpc : 1 ≤ pct ∧ pct ≤ 100) (hd : dz < 1000) (hld : ldn ≤ 5) (hsk : 0 ≤ sk ∧ sk ≤ 100000000) (hdu : 0 ≤ duI ar dz ∧ duI ar dz ≤ 100000000) : Met l yX3_needOn ws_X3_needOn ({ frames := 2, cells := 0, slots := 0, locals := 44 }) (va_Pc [.ref kn, .int (iI (((dz : Nat) : Int))), .int (iI (pct))] (PC D cs [(kn, .inr (3, [.ref hi, .int (iI (((ldn : Nat) : Int))), .int (iI (fd)), .int (iI (fk)), .int (iI (fv)), .ref kl, .ref ke, .ref kd, .ref ks, .ref ka, .int (iI (es)), .int (iI (sk)), .int (iI (so)), .int (iI (lo))])), (kl, .inr (2, [.ref us, .int (iI (lev))])), (us, arI cs 7 se), (ke, arI cs 21 ef), (ka, .inr (0, [.ref ua])), (ua, arI cs 1005 ar)])) (va_Qi (fun r (_ : Unit) => r = iI (ndI lev se ef es pct sk ar dz ldn)) (fun _ _ => True) noA) 0 0 noA := by
  refine Met.ofW (cc := cX3_needOn) (maxL := 6) (ret := (some .int)) (by decide +kernel) rfl ?_
  intro p e s m args below meth c s₁ B hml hv
  obtain ⟨rfl, hP, hK, hD, hN⟩ := hv
  have hx := B.exec
  have hb := B.bytes
  have hr := B.returns
  have hts : ∀ w ∈ ALL, w.before _ s = true := fun w h => atoms_spec (ws := ws_X3_needOn) B.pre w (List.mem_cons_of_mem _ h)
  have hown : s.vm.findClass RX3 = some m.cls := findClass_of_methodNamed B.named
  have hlocks := B.notSynchronized
  have hS : va_S noA s.heap s.heap [] := va_S.rf
  generalize inW [(kn, .inr (3, [.ref hi, .int (iI (((ldn : Nat) : Int))), .int (iI (fd)), .int (iI (fk)), .int (iI (fv)), .ref kl, .ref ke, .ref kd, .ref ks, .ref ka, .int (iI (es)), .int (iI (sk)), .int (iI (so)), .int (iI (lo))])), (kl, .inr (2, [.ref us, .int (iI (lev))])), (us, arI cs 7 se), (ke, arI cs 21 ef), (ka, .inr (0, [.ref ua])), (ua, arI cs 1005 ar)] = A at hD
  have hl := lv_entry ([.ref kn, .int (iI (((dz : Nat) : Int))), .int (iI (pct))]) (n := 6) (Nat.le_of_ble_eq_true rfl)
  rw [lg_entry_eq]
  generalize (lg_sl ([.ref kn, .int (iI (((dz : Nat) : Int))), .int (iI (pct))]) ++ List.replicate (6 - (lg_sl ([.ref kn, .int (iI (((dz : Nat) : Int))), .int (iI (pct))])).length) Slot.unset).toArray = ls at hl ⊢
  have hl : lv_has ls 6 [(0, .ref kn), (1, .int (iI (((dz : Nat) : Int)))), (2, .int (iI (pct)))] := hl
  have hH := rfl (a := s.heap)
  have hfc : ∀ n : Nat, n ≤ 6 → 0 ≤ fcI lev se dz n ∧ fcI lev se dz n ≤ 299700000 := fun n hn => by have h1 := smI_le (f := fun j => thI lev se (dz + j)) (B := 49950000) (fun j => ⟨(thI_rng hlev hse).1, (thI_rng hlev hse).2.1⟩) n; unfold fcI; omega
  have hsf := sfI_rng (er := ef) (es := es) (pct := pct) 21 0 rfl
  refine lv_lconst (v := lI 0) hx hb dX3_needOn_0 (by decide) ?_
  refine lv_lstore_n (lv' := [(3, .long (lI (0))), (0, .ref kn), (1, .int (iI (((dz : Nat) : Int)))), (2, .int (iI (pct)))]) hx hb dX3_needOn_1 rfl hl (by decide) rfl (fun ls hl => ?_)
  refine lv_iconst (v := iI (0)) hx hb dX3_needOn_2 rfl ?_
  refine lv_istore (lv' := [(5, .int (iI (0))), (3, .long (lI (0))), (0, .ref kn), (1, .int (iI (((dz : Nat) : Int)))), (2, .int (iI (pct)))]) hx hb dX3_needOn_3 hl (by decide) rfl (fun ls hl => ?_)
  suffices KL : ∀ (n : Nat) (i : Nat), i ≤ ldn + 1 → ldn + 1 - i < n → ∀ (H : Heap) (locs : List Loc) (ls : Array Slot), va_P D vwCl [(kn, .inr (3, [.ref hi, .int (iI (((ldn : Nat) : Int))), .int (iI (fd)), .int (iI (fk)), .int (iI (fv)), .ref kl, .ref ke, .ref kd, .ref ks, .ref ka, .int (iI (es)), .int (iI (sk)), .int (iI (so)), .int (iI (lo))])), (kl, .inr (2, [.ref us, .int (iI (lev))])), (us, arI cs 7 se), (ke, arI cs 21 ef), (ka, .inr (0, [.ref ua])), (ua, arI cs 1005 ar)] H → va_S noA s.heap H locs → lv_has ls 6 [(5, .int (iI (((i : Nat) : Int)))), (3, .long (lI (fcI lev se dz i))), (0, .ref kn), (1, .int (iI (((dz : Nat) : Int)))), (2, .int (iI (pct)))] → W p l e _ s m _ below meth c H locs 0 0 _ (F0 m 5 ls []) from
    KL _ 0 (Nat.zero_le _) (Nat.lt_succ_self _) _ _ _ hP hS (lv_sub hl [0, 1, 2, 3, 4] rfl)
  intro n
  induction n with
  | zero => intro i hil h0; exact absurd h0 (Nat.not_lt_zero _)
  | succ n ih =>
    intro i hil hmu H locs ls hP hS hl
    have hfc1 := hfc i (by omega)
    have hth := thI_rng (d := dz + i) hlev hse
    have hfs : fcI lev se dz (i + 1) = fcI lev se dz i + thI lev se (dz + i) := rfl
    refine lv_iload hx hb dX3_needOn_5 (lv_at hl 0 rfl) ?_
    refine lv_aload_n hx hb dX3_needOn_7 rfl (lv_at hl 2 rfl) ?_
    refine my_get hx hb hts inAX3 hown hK hP 0 rfl rfl 1 (by decide) w_341 rfl rfl dX3_needOn_8 ?_
    refine my_icmp_gt (tgt := 35) hx hb (by omega) dX3_needOn_11 (by decide) (fun bh1 => ?_) (fun bh1 => ?_)
    · refine lv_lload_n hx hb dX3_needOn_35 rfl (lv_at hl 1 rfl) ?_
      have ei : i = ldn + 1 := by omega
      refine lv_ldc2 (v := lI 999) hx hb hown (hts _ w_589) dX3_needOn_36 ?_
      refine my_ladd (z := (fcI lev se dz i) + 999) hx hb dX3_needOn_39 (rfl) ?_
      refine lv_ldc2 (v := lI 1000) hx hb hown (hts _ w_590) dX3_needOn_40 ?_
      refine my_ldiv hx hb dX3_needOn_43 (by omega) rfl ?_
      refine my_l2i hx hb dX3_needOn_44 ?_
      refine lv_istore (lv' := [(5, .int (iI (((fcI lev se dz i) + 999) / 1000))), (3, .long (lI (fcI lev se dz i))), (0, .ref kn), (1, .int (iI (((dz : Nat) : Int)))), (2, .int (iI (pct)))]) hx hb dX3_needOn_45 hl (by decide) rfl (fun ls hl => ?_)
      refine lv_iload hx hb dX3_needOn_47 (lv_at hl 0 rfl) ?_
      refine lv_aload_n hx hb dX3_needOn_49 rfl (lv_at hl 2 rfl) ?_
      refine lv_iload_n hx hb dX3_needOn_50 rfl (lv_at hl 4 rfl) ?_
      have pk2 : picks [(kn, .inr (3, [.ref hi, .int (iI (((ldn : Nat) : Int))), .int (iI (fd)), .int (iI (fk)), .int (iI (fv)), .ref kl, .ref ke, .ref kd, .ref ks, .ref ka, .int (iI (es)), .int (iI (sk)), .int (iI (so)), .int (iI (lo))])), (kl, .inr (2, [.ref us, .int (iI (lev))])), (us, arI cs 7 se), (ke, arI cs 21 ef), (ka, .inr (0, [.ref ua])), (ua, arI cs 1005 ar)] [0, 3] [(kn, .inr (3, [.ref hi, .int (iI (((ldn : Nat) : Int))), .int (iI (fd)), .int (iI (fk)), .int (iI (fv)), .ref kl, .ref ke, .ref kd, .ref ks, .ref ka, .int (iI (es)), .int (iI (sk)), .int (iI (so)), .int (iI (lo))])), (ke, arI cs 21 ef)] := ⟨rfl, rfl, trivial⟩
      refine va_calli (va_runV (As := [.int (iI (pct))]) (rest := [.int (iI (((fcI lev se dz i) + 999) / 1000))]) ⟨hx, hb, hml, hown, hts⟩ (m_X3_safetyAt l D cs kn hi kl ke kd ks ka ((ldn : Nat) : Int) fd fk fv es sk so lo ef pct (hef) (hes) (hpc)) (cwV 1 hts (gV w_591 w_592 w_593 w_13 w_594) rfl rfl rfl (by decide +kernel) ⟨Nat.le_of_ble_eq_true rfl, Nat.le_of_ble_eq_true rfl⟩) (PC_V hK hN hP hD [0, 3] rfl pk2 rfl rfl) rfl rfl hl.1 rfl (lv_room (Nat.le_of_ble_eq_true rfl)) dX3_needOn_51 ⟨Nat.le_of_ble_eq_true rfl, Nat.le_of_ble_eq_true rfl⟩) hS (fun _ _ h => False.elim h) (fun _ h => False.elim h) (fun r u t H locs ht hvm hw hB hz1 hk1 hS => ?_)
      subst hw
      have hP := P_kept hP hk1
      refine my_iadd (z := (((fcI lev se dz i) + 999) / 1000) + (sfI ef es pct 0 21)) hx hb dX3_needOn_54 (rfl) ?_
      refine lv_aload_n hx hb dX3_needOn_55 rfl (lv_at hl 2 rfl) ?_
      refine my_get hx hb hts inAX3 hown hK hP 0 rfl rfl 11 (by decide) w_356 rfl rfl dX3_needOn_56 ?_
      refine my_isub (z := ((((fcI lev se dz i) + 999) / 1000) + (sfI ef es pct 0 21)) - sk) hx hb dX3_needOn_59 (rfl) ?_
      refine lv_aload_n hx hb dX3_needOn_60 rfl (lv_at hl 2 rfl) ?_
      refine lv_iload_n hx hb dX3_needOn_61 rfl (lv_at hl 3 rfl) ?_
      have pk3 : picks [(kn, .inr (3, [.ref hi, .int (iI (((ldn : Nat) : Int))), .int (iI (fd)), .int (iI (fk)), .int (iI (fv)), .ref kl, .ref ke, .ref kd, .ref ks, .ref ka, .int (iI (es)), .int (iI (sk)), .int (iI (so)), .int (iI (lo))])), (kl, .inr (2, [.ref us, .int (iI (lev))])), (us, arI cs 7 se), (ke, arI cs 21 ef), (ka, .inr (0, [.ref ua])), (ua, arI cs 1005 ar)] [0, 4, 5] [(kn, .inr (3, [.ref hi, .int (iI (((ldn : Nat) : Int))), .int (iI (fd)), .int (iI (fk)), .int (iI (fv)), .ref kl, .ref ke, .ref kd, .ref ks, .ref ka, .int (iI (es)), .int (iI (sk)), .int (iI (so)), .int (iI (lo))])), (ka, .inr (0, [.ref ua])), (ua, arI cs 1005 ar)] := ⟨rfl, rfl, rfl, trivial⟩
      refine va_calli (va_runV (As := [.int (iI (((dz : Nat) : Int)))]) (rest := [.int (iI (((((fcI lev se dz i) + 999) / 1000) + (sfI ef es pct 0 21)) - sk))]) ⟨hx, hb, hml, hown, hts⟩ (m_X3_dueAfter l D cs kn hi kl ke kd ks ka ((ldn : Nat) : Int) fd fk fv es sk so lo ua ar dz (by omega)) (cwV 1 hts (gV w_595 w_121 w_122 w_13 w_123) rfl rfl rfl (by decide +kernel) ⟨Nat.le_of_ble_eq_true rfl, Nat.le_of_ble_eq_true rfl⟩) (PC_V hK hN hP hD [0, 4, 5] rfl pk3 rfl rfl) rfl rfl hl.1 rfl (lv_room (Nat.le_of_ble_eq_true rfl)) dX3_needOn_62 ⟨Nat.le_of_ble_eq_true rfl, Nat.le_of_ble_eq_true rfl⟩) hS (fun _ _ h => False.elim h) (fun _ h => False.elim h) (fun r u t H locs ht hvm hw hB hz1 hk1 hS => ?_)
      subst hw
      have hP := P_kept hP hk1
      refine my_isub (z := (((((fcI lev se dz i) + 999) / 1000) + (sfI ef es pct 0 21)) - sk) - (duI ar dz)) hx hb dX3_needOn_65 (rfl) ?_
      have hres : iI ((((((fcI lev se dz i) + 999) / 1000) + (sfI ef es pct 0 21)) - sk) - (duI ar dz)) = iI (ndI lev se ef es pct sk ar dz ldn) := congrArg iI (by
          rw [ei]
          rfl)
      exact W.iret hx hb hr (fun t ht hW => ⟨⟨_, (), rfl, hres, trivial⟩, hS.F ht⟩) hS.2.2 dX3_needOn_66
    · refine lv_lload_n hx hb dX3_needOn_14 rfl (lv_at hl 1 rfl) ?_
      refine lv_aload_n hx hb dX3_needOn_15 rfl (lv_at hl 2 rfl) ?_
      refine my_get hx hb hts inAX3 hown hK hP 0 rfl rfl 5 (by decide) w_347 rfl rfl dX3_needOn_16 ?_
      refine lv_iload_n hx hb dX3_needOn_19 rfl (lv_at hl 3 rfl) ?_
      refine lv_iload hx hb dX3_needOn_20 (lv_at hl 0 rfl) ?_
      refine my_iadd (z := ((dz : Nat) : Int) + ((i : Nat) : Int)) hx hb dX3_needOn_22 (rfl) ?_
      refine my_cv0 (z := (((dz + i) : Nat) : Int)) (by omega) ?_
      have pk4 : picks [(kn, .inr (3, [.ref hi, .int (iI (((ldn : Nat) : Int))), .int (iI (fd)), .int (iI (fk)), .int (iI (fv)), .ref kl, .ref ke, .ref kd, .ref ks, .ref ka, .int (iI (es)), .int (iI (sk)), .int (iI (so)), .int (iI (lo))])), (kl, .inr (2, [.ref us, .int (iI (lev))])), (us, arI cs 7 se), (ke, arI cs 21 ef), (ka, .inr (0, [.ref ua])), (ua, arI cs 1005 ar)] [1, 2] [(kl, .inr (2, [.ref us, .int (iI (lev))])), (us, arI cs 7 se)] := ⟨rfl, rfl, trivial⟩
      refine va_calli (va_runV (As := [.int (iI ((((dz + i) : Nat) : Int)))]) (rest := [.long (lI (fcI lev se dz i))]) ⟨hx, hb, hml, hown, hts⟩ (m_X2_thousandthsFor l D cs kl us lev se (dz + i) (hlev) (hse) (by omega)) (cwV 1 hts (gV w_588 w_533 w_534 w_3 w_535) rfl rfl rfl (by decide +kernel) ⟨Nat.le_of_ble_eq_true rfl, Nat.le_of_ble_eq_true rfl⟩) (PC_V hK hN hP hD [1, 2] rfl pk4 rfl rfl) rfl rfl hl.1 rfl (lv_room (Nat.le_of_ble_eq_true rfl)) dX3_needOn_23 ⟨Nat.le_of_ble_eq_true rfl, Nat.le_of_ble_eq_true rfl⟩) hS (fun _ _ h => False.elim h) (fun _ h => False.elim h) (fun r u t H locs ht hvm hw hB hz1 hk1 hS => ?_)
      subst hw
      have hP := P_kept hP hk1
      refine my_i2l hx hb dX3_needOn_26 (by omega) ?_
      refine my_ladd (z := (fcI lev se dz i) + (thI lev se (dz + i))) hx hb dX3_needOn_27 (rfl) ?_
      refine lv_lstore_n (lv' := [(3, .long (lI ((fcI lev se dz i) + (thI lev se (dz + i))))), (5, .int (iI (((i : Nat) : Int)))), (0, .ref kn), (1, .int (iI (((dz : Nat) : Int)))), (2, .int (iI (pct)))]) hx hb dX3_needOn_28 rfl hl (by decide) rfl (fun ls hl => ?_)
      refine lv_iinc (v := iI (((i : Nat) : Int) + 1)) (lv' := [(5, .int (iI (((i : Nat) : Int) + 1))), (3, .long (lI ((fcI lev se dz i) + (thI lev se (dz + i))))), (0, .ref kn), (1, .int (iI (((dz : Nat) : Int)))), (2, .int (iI (pct)))]) hx hb dX3_needOn_29 hl (k := 1) rfl (by rw [show (((i : Nat) : Int) + 1 : Int) = ((i : Nat) : Int) + 1 from rfl]; exact iI_add _ _) (by decide) rfl (fun ls hl => ?_)
      refine lv_goto (tgt := 5) hx hb dX3_needOn_32 (by decide) ?_
      have e1 : ((i : Nat) : Int) + 1 = ((i + 1 : Nat) : Int) := by omega
      rw [e1, ← hfs] at hl
      exact ih (i + 1) (by omega) (by omega) _ _ _ hP hS (lv_sub hl [0, 1, 2, 3, 4] rfl)

abbrev ws_X3_requestOn : List Cond := Cond.code yX3_requestOn cX3_requestOn 3 (some .int) :: ALL
set_option maxHeartbeats 4000000 in
set_option maxRecDepth 100000 in
theorem m_X3_requestOn (l : Launch) (D : va_G) (cs : Nat → ClassId) (kn hi kl ke kd ks ka : Nat) (fd fk fv es sk so lo : Int) (ldn us ua : Nat) (lev : Int) (se ef ar : Nat → Int) (dz : Nat) (pct : Int) (ti go pr : Nat) (pk fs st : Int) (hlev : 0 ≤ lev ∧ lev ≤ 9990000) (hse : ∀ w, 100 ≤ se w ∧ se w ≤ 5000) (hef : ∀ j, 0 ≤ ef j ∧ ef j ≤ 1000) (hes : 0 ≤ es ∧ es ≤ 1000) (hpc : 1 ≤ pct ∧ pct ≤ 100) (hd : dz < 1000) (hld : ldn ≤ 5) (hsk : 0 ≤ sk ∧ sk ≤ 100000000) (hdu : 0 ≤ duI ar dz ∧ duI ar dz ≤ 100000000) (hp : 0 < pk ∧ pk ≤ 50) : Met l yX3_requestOn ws_X3_requestOn ({ frames := 3, cells := 0, slots := 0, locals := 69 }) (va_Pc [.ref kn, .int (iI (((dz : Nat) : Int))), .int (iI (pct))] (PC D cs [(kn, .inr (3, [.ref hi, .int (iI (((ldn : Nat) : Int))), .int (iI (fd)), .int (iI (fk)), .int (iI (fv)), .ref kl, .ref ke, .ref kd, .ref ks, .ref ka, .int (iI (es)), .int (iI (sk)), .int (iI (so)), .int (iI (lo))])), (kl, .inr (2, [.ref us, .int (iI (lev))])), (us, arI cs 7 se), (ke, arI cs 21 ef), (ka, .inr (0, [.ref ua])), (ua, arI cs 1005 ar), (hi, .inr (1, [.int (iI (pk)), .int (iI (fs)), .ref ti, .ref go, .ref pr, .int (iI (st))]))])) (va_Qi (fun r (_ : Unit) => r = iI (rqI (ndI lev se ef es pct sk ar dz ldn) pk)) (fun _ _ => True) noA) 0 0 noA := by
  refine Met.ofW (cc := cX3_requestOn) (maxL := 3) (ret := (some .int)) (by decide +kernel) rfl ?_
  intro p e s m args below meth c s₁ B hml hv
  obtain ⟨rfl, hP, hK, hD, hN⟩ := hv
  have hx := B.exec
  have hb := B.bytes
  have hr := B.returns
  have hts : ∀ w ∈ ALL, w.before _ s = true := fun w h => atoms_spec (ws := ws_X3_requestOn) B.pre w (List.mem_cons_of_mem _ h)
  have hown : s.vm.findClass RX3 = some m.cls := findClass_of_methodNamed B.named
  have hlocks := B.notSynchronized
  have hS : va_S noA s.heap s.heap [] := va_S.rf
  generalize inW [(kn, .inr (3, [.ref hi, .int (iI (((ldn : Nat) : Int))), .int (iI (fd)), .int (iI (fk)), .int (iI (fv)), .ref kl, .ref ke, .ref kd, .ref ks, .ref ka, .int (iI (es)), .int (iI (sk)), .int (iI (so)), .int (iI (lo))])), (kl, .inr (2, [.ref us, .int (iI (lev))])), (us, arI cs 7 se), (ke, arI cs 21 ef), (ka, .inr (0, [.ref ua])), (ua, arI cs 1005 ar), (hi, .inr (1, [.int (iI (pk)), .int (iI (fs)), .ref ti, .ref go, .ref pr, .int (iI (st))]))] = A at hD
  have hl := lv_entry ([.ref kn, .int (iI (((dz : Nat) : Int))), .int (iI (pct))]) (n := 3) (Nat.le_of_ble_eq_true rfl)
  rw [lg_entry_eq]
  generalize (lg_sl ([.ref kn, .int (iI (((dz : Nat) : Int))), .int (iI (pct))]) ++ List.replicate (3 - (lg_sl ([.ref kn, .int (iI (((dz : Nat) : Int))), .int (iI (pct))])).length) Slot.unset).toArray = ls at hl ⊢
  have hl : lv_has ls 3 [(0, .ref kn), (1, .int (iI (((dz : Nat) : Int)))), (2, .int (iI (pct)))] := hl
  have hH := rfl (a := s.heap)
  have hfc : 0 ≤ fcI lev se dz (ldn + 1) ∧ fcI lev se dz (ldn + 1) ≤ 299700000 := by have h1 := smI_le (f := fun j => thI lev se (dz + j)) (B := 49950000) (fun j => ⟨(thI_rng hlev hse).1, (thI_rng hlev hse).2.1⟩) (ldn + 1); unfold fcI; omega
  have hsf := sfI_rng (er := ef) (es := es) (pct := pct) 21 0 rfl
  have hnd : -1000000000 ≤ ndI lev se ef es pct sk ar dz ldn ∧ ndI lev se ef es pct sk ar dz ldn ≤ 1000000000 := by unfold ndI; omega
  refine lv_aload_n hx hb dX3_requestOn_0 rfl (lv_at hl 0 rfl) ?_
  refine my_get hx hb hts inAX3 hown hK hP 0 rfl rfl 0 (by decide) w_339 rfl rfl dX3_requestOn_1 ?_
  refine lv_aload_n hx hb dX3_requestOn_4 rfl (lv_at hl 0 rfl) ?_
  refine lv_iload_n hx hb dX3_requestOn_5 rfl (lv_at hl 1 rfl) ?_
  refine lv_iload_n hx hb dX3_requestOn_6 rfl (lv_at hl 2 rfl) ?_
  have pk1 : picks [(kn, .inr (3, [.ref hi, .int (iI (((ldn : Nat) : Int))), .int (iI (fd)), .int (iI (fk)), .int (iI (fv)), .ref kl, .ref ke, .ref kd, .ref ks, .ref ka, .int (iI (es)), .int (iI (sk)), .int (iI (so)), .int (iI (lo))])), (kl, .inr (2, [.ref us, .int (iI (lev))])), (us, arI cs 7 se), (ke, arI cs 21 ef), (ka, .inr (0, [.ref ua])), (ua, arI cs 1005 ar), (hi, .inr (1, [.int (iI (pk)), .int (iI (fs)), .ref ti, .ref go, .ref pr, .int (iI (st))]))] [0, 1, 2, 3, 4, 5] [(kn, .inr (3, [.ref hi, .int (iI (((ldn : Nat) : Int))), .int (iI (fd)), .int (iI (fk)), .int (iI (fv)), .ref kl, .ref ke, .ref kd, .ref ks, .ref ka, .int (iI (es)), .int (iI (sk)), .int (iI (so)), .int (iI (lo))])), (kl, .inr (2, [.ref us, .int (iI (lev))])), (us, arI cs 7 se), (ke, arI cs 21 ef), (ka, .inr (0, [.ref ua])), (ua, arI cs 1005 ar)] := ⟨rfl, rfl, rfl, rfl, rfl, rfl, trivial⟩
  refine va_calli (va_runV (As := [.int (iI (((dz : Nat) : Int))), .int (iI (pct))]) (rest := [.ref hi]) ⟨hx, hb, hml, hown, hts⟩ (m_X3_needOn l D cs kn hi kl ke kd ks ka fd fk fv es sk so lo ldn us ua lev se ef ar dz pct (hlev) (hse) (hef) (hes) (hpc) (by omega) (by omega) (hsk) (hdu)) (cwV 2 hts (gV w_584 w_585 w_586 w_13 w_587) rfl rfl rfl (by decide +kernel) ⟨Nat.le_of_ble_eq_true rfl, Nat.le_of_ble_eq_true rfl⟩) (PC_V hK hN hP hD [0, 1, 2, 3, 4, 5] rfl pk1 rfl rfl) rfl rfl hl.1 rfl (lv_room (Nat.le_of_ble_eq_true rfl)) dX3_requestOn_7 ⟨Nat.le_of_ble_eq_true rfl, Nat.le_of_ble_eq_true rfl⟩) hS (fun _ _ h => False.elim h) (fun _ h => False.elim h) (fun r u t H locs ht hvm hw hB hz1 hk1 hS => ?_)
  subst hw
  have hP := P_kept hP hk1
  have pk2 : picks [(kn, .inr (3, [.ref hi, .int (iI (((ldn : Nat) : Int))), .int (iI (fd)), .int (iI (fk)), .int (iI (fv)), .ref kl, .ref ke, .ref kd, .ref ks, .ref ka, .int (iI (es)), .int (iI (sk)), .int (iI (so)), .int (iI (lo))])), (kl, .inr (2, [.ref us, .int (iI (lev))])), (us, arI cs 7 se), (ke, arI cs 21 ef), (ka, .inr (0, [.ref ua])), (ua, arI cs 1005 ar), (hi, .inr (1, [.int (iI (pk)), .int (iI (fs)), .ref ti, .ref go, .ref pr, .int (iI (st))]))] [6] [(hi, .inr (1, [.int (iI (pk)), .int (iI (fs)), .ref ti, .ref go, .ref pr, .int (iI (st))]))] := ⟨rfl, trivial⟩
  refine va_calli (va_runV (As := [.int (iI (ndI lev se ef es pct sk ar dz ldn))]) (rest := []) ⟨hx, hb, hml, hown, hts⟩ (m_X1_packsFor l D cs hi ti go pr pk fs st (ndI lev se ef es pct sk ar dz ldn) (hp) (hnd)) (cwV 1 hts (gV w_596 w_597 w_598 w_10 w_599) rfl rfl rfl (by decide +kernel) ⟨Nat.le_of_ble_eq_true rfl, Nat.le_of_ble_eq_true rfl⟩) (PC_V hK hN hP hD [6] rfl pk2 rfl rfl) rfl rfl hl.1 rfl (lv_room (Nat.le_of_ble_eq_true rfl)) dX3_requestOn_10 ⟨Nat.le_of_ble_eq_true rfl, Nat.le_of_ble_eq_true rfl⟩) hS (fun _ _ h => False.elim h) (fun _ h => False.elim h) (fun r u t H locs ht hvm hw hB hz1 hk1 hS => ?_)
  subst hw
  have hP := P_kept hP hk1
  have hres : iI (rqI (ndI lev se ef es pct sk ar dz ldn) pk) = iI (rqI (ndI lev se ef es pct sk ar dz ldn) pk) := congrArg iI (by
      first | rfl | omega)
  exact W.iret hx hb hr (fun t ht hW => ⟨⟨_, (), rfl, hres, trivial⟩, hS.F ht⟩) hS.2.2 dX3_requestOn_13

abbrev ws_X3_send : List Cond := Cond.code yX3_send cX3_send 4 (none : Option FieldType) :: ALL
set_option maxHeartbeats 4000000 in
set_option maxRecDepth 100000 in
theorem m_X3_send (l : Launch) (D : va_G) (cs : Nat → ClassId) (kn hi kl ke kd ks ka : Nat) (fd fk fv es sk so lo : Int) (ldn : Nat) (ug ua : Nat) (ti go pr : Nat) (pk fs st : Int) (gf ar : Nat → Int) (dz : Nat) (pz : Int) (hd : dz < 1000) (hld : ldn ≤ 5) : Met l yX3_send ws_X3_send ({ frames := 2, cells := 0, slots := 0, locals := 44 }) (va_Pc [.ref kn, .int (iI (((dz : Nat) : Int))), .int (iI (pz))] (PC D cs [(kn, .inr (3, [.ref hi, .int (iI (((ldn : Nat) : Int))), .int (iI (fd)), .int (iI (fk)), .int (iI (fv)), .ref kl, .ref ke, .ref kd, .ref ks, .ref ka, .int (iI (es)), .int (iI (sk)), .int (iI (so)), .int (iI (lo))])), (hi, .inr (1, [.int (iI (pk)), .int (iI (fs)), .ref ti, .ref go, .ref pr, .int (iI (st))])), (go, .inr (0, [.ref ug])), (ug, arI cs 1005 gf), (ka, .inr (0, [.ref ua])), (ua, arI cs 1005 ar)])) (va_Qv (fun (_ : Unit) => True) (fun _ t => va_P D vwCl [(kn, .inr (3, [.ref hi, .int (iI (((ldn : Nat) : Int))), .int (iI (fd)), .int (iI (fk)), .int (iI (fv)), .ref kl, .ref ke, .ref kd, .ref ks, .ref ka, .int (iI (es)), .int (iI (sk)), .int (iI (so)), .int (iI (lo))])), (hi, .inr (1, [.int (iI (pk)), .int (iI (fs)), .ref ti, .ref go, .ref pr, .int (iI (st - pz * pk))])), (go, .inr (0, [.ref ug])), (ug, arI cs 1005 (upI gf dz (gf dz + pz * pk))), (ka, .inr (0, [.ref ua])), (ua, arI cs 1005 (upI ar (dz + ldn) (ar (dz + ldn) + pz * pk)))] t.heap) (inW [(kn, .inr (3, [.ref hi, .int (iI (((ldn : Nat) : Int))), .int (iI (fd)), .int (iI (fk)), .int (iI (fv)), .ref kl, .ref ke, .ref kd, .ref ks, .ref ka, .int (iI (es)), .int (iI (sk)), .int (iI (so)), .int (iI (lo))])), (hi, .inr (1, [.int (iI (pk)), .int (iI (fs)), .ref ti, .ref go, .ref pr, .int (iI (st))])), (go, .inr (0, [.ref ug])), (ug, arI cs 1005 gf), (ka, .inr (0, [.ref ua])), (ua, arI cs 1005 ar)])) 0 0 (inW [(kn, .inr (3, [.ref hi, .int (iI (((ldn : Nat) : Int))), .int (iI (fd)), .int (iI (fk)), .int (iI (fv)), .ref kl, .ref ke, .ref kd, .ref ks, .ref ka, .int (iI (es)), .int (iI (sk)), .int (iI (so)), .int (iI (lo))])), (hi, .inr (1, [.int (iI (pk)), .int (iI (fs)), .ref ti, .ref go, .ref pr, .int (iI (st))])), (go, .inr (0, [.ref ug])), (ug, arI cs 1005 gf), (ka, .inr (0, [.ref ua])), (ua, arI cs 1005 ar)]) := by
  refine Met.ofW (cc := cX3_send) (maxL := 4) (ret := ((none : Option FieldType))) (by decide +kernel) rfl ?_
  intro p e s m args below meth c s₁ B hml hv
  obtain ⟨rfl, hP, hK, hD, hN⟩ := hv
  have hx := B.exec
  have hb := B.bytes
  have hr := B.returns
  have hts : ∀ w ∈ ALL, w.before _ s = true := fun w h => atoms_spec (ws := ws_X3_send) B.pre w (List.mem_cons_of_mem _ h)
  have hown : s.vm.findClass RX3 = some m.cls := findClass_of_methodNamed B.named
  have hlocks := B.notSynchronized
  generalize hAe : inW [(kn, .inr (3, [.ref hi, .int (iI (((ldn : Nat) : Int))), .int (iI (fd)), .int (iI (fk)), .int (iI (fv)), .ref kl, .ref ke, .ref kd, .ref ks, .ref ka, .int (iI (es)), .int (iI (sk)), .int (iI (so)), .int (iI (lo))])), (hi, .inr (1, [.int (iI (pk)), .int (iI (fs)), .ref ti, .ref go, .ref pr, .int (iI (st))])), (go, .inr (0, [.ref ug])), (ug, arI cs 1005 gf), (ka, .inr (0, [.ref ua])), (ua, arI cs 1005 ar)] = A at hD ⊢
  have hS : va_S A s.heap s.heap [] := va_S.rf
  have hl := lv_entry ([.ref kn, .int (iI (((dz : Nat) : Int))), .int (iI (pz))]) (n := 4) (Nat.le_of_ble_eq_true rfl)
  rw [lg_entry_eq]
  generalize (lg_sl ([.ref kn, .int (iI (((dz : Nat) : Int))), .int (iI (pz))]) ++ List.replicate (4 - (lg_sl ([.ref kn, .int (iI (((dz : Nat) : Int))), .int (iI (pz))])).length) Slot.unset).toArray = ls at hl ⊢
  have hl : lv_has ls 4 [(0, .ref kn), (1, .int (iI (((dz : Nat) : Int)))), (2, .int (iI (pz)))] := hl
  have hH := rfl (a := s.heap)
  refine lv_iload_n hx hb dX3_send_0 rfl (lv_at hl 2 rfl) ?_
  refine lv_aload_n hx hb dX3_send_1 rfl (lv_at hl 0 rfl) ?_
  refine my_get hx hb hts inAX3 hown hK hP 0 rfl rfl 0 (by decide) w_339 rfl rfl dX3_send_2 ?_
  refine my_getN hx hb hts inAX1 hown hK hN hP 1 rfl rfl 0 (by decide) 11 rfl rfl rfl dX3_send_5 ?_
  refine my_imul (z := pz * pk) hx hb dX3_send_8 (rfl) ?_
  refine lv_istore_n (lv' := [(3, .int (iI (pz * pk))), (0, .ref kn), (1, .int (iI (((dz : Nat) : Int)))), (2, .int (iI (pz)))]) hx hb dX3_send_9 rfl hl (by decide) rfl (fun ls hl => ?_)
  refine lv_aload_n hx hb dX3_send_10 rfl (lv_at hl 1 rfl) ?_
  refine my_get hx hb hts inAX3 hown hK hP 0 rfl rfl 0 (by decide) w_339 rfl rfl dX3_send_11 ?_
  refine lv_iload_n hx hb dX3_send_14 rfl (lv_at hl 2 rfl) ?_
  refine lv_iload_n hx hb dX3_send_15 rfl (lv_at hl 0 rfl) ?_
  have pk1 : picks [(kn, .inr (3, [.ref hi, .int (iI (((ldn : Nat) : Int))), .int (iI (fd)), .int (iI (fk)), .int (iI (fv)), .ref kl, .ref ke, .ref kd, .ref ks, .ref ka, .int (iI (es)), .int (iI (sk)), .int (iI (so)), .int (iI (lo))])), (hi, .inr (1, [.int (iI (pk)), .int (iI (fs)), .ref ti, .ref go, .ref pr, .int (iI (st))])), (go, .inr (0, [.ref ug])), (ug, arI cs 1005 gf), (ka, .inr (0, [.ref ua])), (ua, arI cs 1005 ar)] [1, 2, 3] [(hi, .inr (1, [.int (iI (pk)), .int (iI (fs)), .ref ti, .ref go, .ref pr, .int (iI (st))])), (go, .inr (0, [.ref ug])), (ug, arI cs 1005 gf)] := ⟨rfl, rfl, rfl, trivial⟩
  refine va_callv (va_runV (As := [.int (iI (((dz : Nat) : Int))), .int (iI (pz * pk))]) (rest := []) ⟨hx, hb, hml, hown, hts⟩ (m_X1_giveOut l D cs hi ti go pr pk fs st ug gf dz (pz * pk) (by omega)) (cwV 2 hts (gV w_616 w_617 w_618 w_10 w_619) rfl rfl rfl (by decide +kernel) ⟨Nat.le_of_ble_eq_true rfl, Nat.le_of_ble_eq_true rfl⟩) (PC_V hK hN hP hD [1, 2, 3] rfl pk1 rfl rfl) rfl rfl hl.1 rfl (lv_room (Nat.le_of_ble_eq_true rfl)) dX3_send_16 ⟨Nat.le_of_ble_eq_true rfl, Nat.le_of_ble_eq_true rfl⟩) hS (fun q _ h => inW_sub hD [1, 2, 3] pk1 q h) (fun q h => inW_sub hD [1, 2, 3] pk1 q h) (fun u t H locs ht hvm hw hB hz1 hk1 hS => ?_)
  rw [ht] at hB
  obtain ⟨hP, hD⟩ := my_join (W1 := [(hi, .inr (1, [.int (iI (pk)), .int (iI (fs)), .ref ti, .ref go, .ref pr, .int (iI (st - (pz * pk)))])), (go, .inr (0, [.ref ug])), (ug, arI cs 1005 (upI gf dz (gf dz + (pz * pk))))]) hP hD [1, 2, 3] rfl pk1 rfl hk1 hB
  have hP : va_P D vwCl [(kn, .inr (3, [.ref hi, .int (iI (((ldn : Nat) : Int))), .int (iI (fd)), .int (iI (fk)), .int (iI (fv)), .ref kl, .ref ke, .ref kd, .ref ks, .ref ka, .int (iI (es)), .int (iI (sk)), .int (iI (so)), .int (iI (lo))])), (hi, .inr (1, [.int (iI (pk)), .int (iI (fs)), .ref ti, .ref go, .ref pr, .int (iI (st - (pz * pk)))])), (go, .inr (0, [.ref ug])), (ug, arI cs 1005 (upI gf dz (gf dz + (pz * pk)))), (ka, .inr (0, [.ref ua])), (ua, arI cs 1005 ar)] H := hP
  have hD : va_D A [(kn, .inr (3, [.ref hi, .int (iI (((ldn : Nat) : Int))), .int (iI (fd)), .int (iI (fk)), .int (iI (fv)), .ref kl, .ref ke, .ref kd, .ref ks, .ref ka, .int (iI (es)), .int (iI (sk)), .int (iI (so)), .int (iI (lo))])), (hi, .inr (1, [.int (iI (pk)), .int (iI (fs)), .ref ti, .ref go, .ref pr, .int (iI (st - (pz * pk)))])), (go, .inr (0, [.ref ug])), (ug, arI cs 1005 (upI gf dz (gf dz + (pz * pk)))), (ka, .inr (0, [.ref ua])), (ua, arI cs 1005 ar)] := hD
  refine lv_aload_n hx hb dX3_send_19 rfl (lv_at hl 1 rfl) ?_
  refine my_get hx hb hts inAX3 hown hK hP 0 rfl rfl 9 (by decide) w_353 rfl rfl dX3_send_20 ?_
  refine lv_iload_n hx hb dX3_send_23 rfl (lv_at hl 2 rfl) ?_
  refine lv_aload_n hx hb dX3_send_24 rfl (lv_at hl 1 rfl) ?_
  refine my_get hx hb hts inAX3 hown hK hP 0 rfl rfl 1 (by decide) w_341 rfl rfl dX3_send_25 ?_
  refine my_iadd (z := ((dz : Nat) : Int) + ((ldn : Nat) : Int)) hx hb dX3_send_28 (rfl) ?_
  refine my_cv0 (z := (((dz + ldn) : Nat) : Int)) (by omega) ?_
  refine lv_iload_n hx hb dX3_send_29 rfl (lv_at hl 0 rfl) ?_
  have pk2 : picks [(kn, .inr (3, [.ref hi, .int (iI (((ldn : Nat) : Int))), .int (iI (fd)), .int (iI (fk)), .int (iI (fv)), .ref kl, .ref ke, .ref kd, .ref ks, .ref ka, .int (iI (es)), .int (iI (sk)), .int (iI (so)), .int (iI (lo))])), (hi, .inr (1, [.int (iI (pk)), .int (iI (fs)), .ref ti, .ref go, .ref pr, .int (iI (st - (pz * pk)))])), (go, .inr (0, [.ref ug])), (ug, arI cs 1005 (upI gf dz (gf dz + (pz * pk)))), (ka, .inr (0, [.ref ua])), (ua, arI cs 1005 ar)] [4, 5] [(ka, .inr (0, [.ref ua])), (ua, arI cs 1005 ar)] := ⟨rfl, rfl, trivial⟩
  refine va_callv (va_runV (As := [.int (iI ((((dz + ldn) : Nat) : Int))), .int (iI (pz * pk))]) (rest := []) ⟨hx, hb, hml, hown, hts⟩ (m_X0_add l D cs ka ua ar (dz + ldn) (pz * pk) (by omega)) (cwV 2 hts (gV w_511 w_415 w_416 w_2 w_417) rfl rfl rfl (by decide +kernel) ⟨Nat.le_of_ble_eq_true rfl, Nat.le_of_ble_eq_true rfl⟩) (PC_V hK hN hP hD [4, 5] rfl pk2 rfl rfl) rfl rfl hl.1 rfl (lv_room (Nat.le_of_ble_eq_true rfl)) dX3_send_30 ⟨Nat.le_of_ble_eq_true rfl, Nat.le_of_ble_eq_true rfl⟩) hS (fun q _ h => inW_sub hD [4, 5] pk2 q h) (fun q h => inW_sub hD [4, 5] pk2 q h) (fun u t H locs ht hvm hw hB hz1 hk1 hS => ?_)
  rw [ht] at hB
  obtain ⟨hP, hD⟩ := my_join (W1 := [(ka, .inr (0, [.ref ua])), (ua, arI cs 1005 (upI ar (dz + ldn) (ar (dz + ldn) + (pz * pk))))]) hP hD [4, 5] rfl pk2 rfl hk1 hB
  have hP : va_P D vwCl [(kn, .inr (3, [.ref hi, .int (iI (((ldn : Nat) : Int))), .int (iI (fd)), .int (iI (fk)), .int (iI (fv)), .ref kl, .ref ke, .ref kd, .ref ks, .ref ka, .int (iI (es)), .int (iI (sk)), .int (iI (so)), .int (iI (lo))])), (hi, .inr (1, [.int (iI (pk)), .int (iI (fs)), .ref ti, .ref go, .ref pr, .int (iI (st - (pz * pk)))])), (go, .inr (0, [.ref ug])), (ug, arI cs 1005 (upI gf dz (gf dz + (pz * pk)))), (ka, .inr (0, [.ref ua])), (ua, arI cs 1005 (upI ar (dz + ldn) (ar (dz + ldn) + (pz * pk))))] H := hP
  have hD : va_D A [(kn, .inr (3, [.ref hi, .int (iI (((ldn : Nat) : Int))), .int (iI (fd)), .int (iI (fk)), .int (iI (fv)), .ref kl, .ref ke, .ref kd, .ref ks, .ref ka, .int (iI (es)), .int (iI (sk)), .int (iI (so)), .int (iI (lo))])), (hi, .inr (1, [.int (iI (pk)), .int (iI (fs)), .ref ti, .ref go, .ref pr, .int (iI (st - (pz * pk)))])), (go, .inr (0, [.ref ug])), (ug, arI cs 1005 (upI gf dz (gf dz + (pz * pk)))), (ka, .inr (0, [.ref ua])), (ua, arI cs 1005 (upI ar (dz + ldn) (ar (dz + ldn) + (pz * pk))))] := hD
  have hWe : ([(kn, .inr (3, [.ref hi, .int (iI (((ldn : Nat) : Int))), .int (iI (fd)), .int (iI (fk)), .int (iI (fv)), .ref kl, .ref ke, .ref kd, .ref ks, .ref ka, .int (iI (es)), .int (iI (sk)), .int (iI (so)), .int (iI (lo))])), (hi, .inr (1, [.int (iI (pk)), .int (iI (fs)), .ref ti, .ref go, .ref pr, .int (iI (st - (pz * pk)))])), (go, .inr (0, [.ref ug])), (ug, arI cs 1005 (upI gf dz (gf dz + (pz * pk)))), (ka, .inr (0, [.ref ua])), (ua, arI cs 1005 (upI ar (dz + ldn) (ar (dz + ldn) + (pz * pk))))] : va_W) = [(kn, .inr (3, [.ref hi, .int (iI (((ldn : Nat) : Int))), .int (iI (fd)), .int (iI (fk)), .int (iI (fv)), .ref kl, .ref ke, .ref kd, .ref ks, .ref ka, .int (iI (es)), .int (iI (sk)), .int (iI (so)), .int (iI (lo))])), (hi, .inr (1, [.int (iI (pk)), .int (iI (fs)), .ref ti, .ref go, .ref pr, .int (iI (st - pz * pk))])), (go, .inr (0, [.ref ug])), (ug, arI cs 1005 (upI gf dz (gf dz + pz * pk))), (ka, .inr (0, [.ref ua])), (ua, arI cs 1005 (upI ar (dz + ldn) (ar (dz + ldn) + pz * pk)))] := by
    first | rfl | (congr 1; omega)
  rw [hWe] at hP
  subst hAe
  exact W.vret hx hb hr (fun t ht hW => ⟨⟨(), rfl, trivial, by show va_P D vwCl _ t.heap; rw [ht]; exact hP⟩, hS.F ht⟩) hS.2.2 dX3_send_33
end
section
abbrev ws_X4_start : List Cond := Cond.code yX4_start cX4_start 3 (none : Option FieldType) :: ALL
set_option maxHeartbeats 4000000 in
set_option maxRecDepth 100000 in
theorem m_X4_start (l : Launch) (D : va_G) (cs : Nat → ClassId) (kh ur ug : Nat) (rq gv : Nat → Int) (pn : Int) (pz : Int) : Met l yX4_start ws_X4_start ({ frames := 0, cells := 0, slots := 0, locals := 0 }) (va_Pc [.ref kh, .int (iI (pz))] (PC D cs [(kh, .inr (4, [.ref ur, .ref ug, .int (iI (pn))])), (ur, arI cs 4 rq), (ug, arI cs 4 gv)])) (va_Qv (fun (_ : Unit) => True) (fun _ t => va_P D vwCl [(kh, .inr (4, [.ref ur, .ref ug, .int (iI (pz))])), (ur, arI cs 4 (fun _ => 0)), (ug, arI cs 4 gv)] t.heap) (inW [(kh, .inr (4, [.ref ur, .ref ug, .int (iI (pn))])), (ur, arI cs 4 rq), (ug, arI cs 4 gv)])) 0 0 (inW [(kh, .inr (4, [.ref ur, .ref ug, .int (iI (pn))])), (ur, arI cs 4 rq), (ug, arI cs 4 gv)]) := by
  refine Met.ofW (cc := cX4_start) (maxL := 3) (ret := ((none : Option FieldType))) (by decide +kernel) rfl ?_
  intro p e s m args below meth c s₁ B hml hv
  obtain ⟨rfl, hP, hK, hD, hN⟩ := hv
  have hx := B.exec
  have hb := B.bytes
  have hr := B.returns
  have hts : ∀ w ∈ ALL, w.before _ s = true := fun w h => atoms_spec (ws := ws_X4_start) B.pre w (List.mem_cons_of_mem _ h)
  have hown : s.vm.findClass RX4 = some m.cls := findClass_of_methodNamed B.named
  have hlocks := B.notSynchronized
  generalize hAe : inW [(kh, .inr (4, [.ref ur, .ref ug, .int (iI (pn))])), (ur, arI cs 4 rq), (ug, arI cs 4 gv)] = A at hD ⊢
  have hS : va_S A s.heap s.heap [] := va_S.rf
  have hl := lv_entry ([.ref kh, .int (iI (pz))]) (n := 3) (Nat.le_of_ble_eq_true rfl)
  rw [lg_entry_eq]
  generalize (lg_sl ([.ref kh, .int (iI (pz))]) ++ List.replicate (3 - (lg_sl ([.ref kh, .int (iI (pz))])).length) Slot.unset).toArray = ls at hl ⊢
  have hl : lv_has ls 3 [(0, .ref kh), (1, .int (iI (pz)))] := hl
  have hH := rfl (a := s.heap)
  refine lv_aload_n hx hb dX4_start_0 rfl (lv_at hl 0 rfl) ?_
  refine lv_iload_n hx hb dX4_start_1 rfl (lv_at hl 1 rfl) ?_
  refine my_put hx hb hts inAX4 tyX4_ok nmX4 hown hK hP hD hS 0 rfl rfl 2 (by decide) w_61 rfl rfl rfl (Nat.le_of_ble_eq_true rfl) dX4_start_2 (fun H locs hP hD hS => ?_)
  have hP : va_P D vwCl [(kh, .inr (4, [.ref ur, .ref ug, .int (iI (pz))])), (ur, arI cs 4 rq), (ug, arI cs 4 gv)] H := hP
  have hD : va_D A [(kh, .inr (4, [.ref ur, .ref ug, .int (iI (pz))])), (ur, arI cs 4 rq), (ug, arI cs 4 gv)] := hD
  refine lv_iconst (v := iI (0)) hx hb dX4_start_5 rfl ?_
  refine lv_istore_n (lv' := [(2, .int (iI (0))), (0, .ref kh), (1, .int (iI (pz)))]) hx hb dX4_start_6 rfl hl (by decide) rfl (fun ls hl => ?_)
  suffices KL : ∀ (n : Nat) (i : Nat), i ≤ 4 → 4 - i < n → ∀ (H : Heap) (locs : List Loc) (ls : Array Slot), va_P D vwCl [(kh, .inr (4, [.ref ur, .ref ug, .int (iI (pz))])), (ur, arI cs 4 (flI rq 0 i)), (ug, arI cs 4 gv)] H → va_D A [(kh, .inr (4, [.ref ur, .ref ug, .int (iI (pz))])), (ur, arI cs 4 (flI rq 0 i)), (ug, arI cs 4 gv)] → va_S A s.heap H locs → lv_has ls 3 [(2, .int (iI (((i : Nat) : Int)))), (0, .ref kh), (1, .int (iI (pz)))] → W p l e _ s m _ below meth c H locs 0 0 _ (F0 m 7 ls []) from
    KL _ 0 (Nat.zero_le _) (Nat.lt_succ_self _) _ _ _ (by rw [flI_0]; exact hP) (by rw [flI_0]; exact hD) hS (lv_sub hl [0, 1, 2] rfl)
  intro n
  induction n with
  | zero => intro i hil h0; exact absurd h0 (Nat.not_lt_zero _)
  | succ n ih =>
    intro i hil hmu H locs ls hP hD hS hl
    refine lv_iload_n hx hb dX4_start_7 rfl (lv_at hl 0 rfl) ?_
    refine lv_aload_n hx hb dX4_start_8 rfl (lv_at hl 1 rfl) ?_
    refine my_get hx hb hts inAX4 hown hK hP 0 rfl rfl 0 (by decide) w_59 rfl rfl dX4_start_9 ?_
    refine my_alenI hx hb hK hP 1 rfl dX4_start_12 ?_
    refine my_icmp_ge (tgt := 29) hx hb (by omega) dX4_start_13 (by decide) (fun bh1 => ?_) (fun bh1 => ?_)
    · have hD := D_arI hD (k := 1) (g := fun _ => 0) rfl
      have hP := P_arI hP (k := 1) (g := fun _ => 0) rfl (fun j hj => by simp only [flI]; rw [if_pos (by omega)])
      have hP : va_P D vwCl [(kh, .inr (4, [.ref ur, .ref ug, .int (iI (pz))])), (ur, arI cs 4 (fun _ => 0)), (ug, arI cs 4 gv)] H := hP
      have hD : va_D A [(kh, .inr (4, [.ref ur, .ref ug, .int (iI (pz))])), (ur, arI cs 4 (fun _ => 0)), (ug, arI cs 4 gv)] := hD
      subst hAe
      exact W.vret hx hb hr (fun t ht hW => ⟨⟨(), rfl, trivial, by show va_P D vwCl _ t.heap; rw [ht]; exact hP⟩, hS.F ht⟩) hS.2.2 dX4_start_29
    · refine lv_aload_n hx hb dX4_start_16 rfl (lv_at hl 1 rfl) ?_
      refine my_get hx hb hts inAX4 hown hK hP 0 rfl rfl 0 (by decide) w_59 rfl rfl dX4_start_17 ?_
      refine lv_iload_n hx hb dX4_start_20 rfl (lv_at hl 0 rfl) ?_
      refine lv_iconst (v := iI (0)) hx hb dX4_start_21 rfl ?_
      refine my_iast hx hb hK hP hD hS 1 rfl (by omega) (k := i) (Int.toNat_natCast _) dX4_start_22 (fun H locs hP hD hS => ?_)
      have hP : va_P D vwCl [(kh, .inr (4, [.ref ur, .ref ug, .int (iI (pz))])), (ur, arI cs 4 (upI (flI rq 0 i) i 0)), (ug, arI cs 4 gv)] H := hP
      have hD : va_D A [(kh, .inr (4, [.ref ur, .ref ug, .int (iI (pz))])), (ur, arI cs 4 (upI (flI rq 0 i) i 0)), (ug, arI cs 4 gv)] := hD
      refine lv_iinc (v := iI (((i : Nat) : Int) + 1)) (lv' := [(2, .int (iI (((i : Nat) : Int) + 1))), (0, .ref kh), (1, .int (iI (pz)))]) hx hb dX4_start_23 hl (k := 0) rfl (by rw [show (((i : Nat) : Int) + 1 : Int) = ((i : Nat) : Int) + 1 from rfl]; exact iI_add _ _) (by decide) rfl (fun ls hl => ?_)
      refine lv_goto (tgt := 7) hx hb dX4_start_26 (by decide) ?_
      have e1 : ((i : Nat) : Int) + 1 = ((i + 1 : Nat) : Int) := by omega
      rw [e1] at hl
      rw [flI_s] at hP hD
      exact ih (i + 1) (by omega) (by omega) _ _ _ hP hD hS (lv_sub hl [0, 1, 2] rfl)

abbrev ws_X4_ask : List Cond := Cond.code yX4_ask cX4_ask 3 (none : Option FieldType) :: ALL
set_option maxHeartbeats 4000000 in
set_option maxRecDepth 100000 in
theorem m_X4_ask (l : Launch) (D : va_G) (cs : Nat → ClassId) (kh ur ug : Nat) (rq gv : Nat → Int) (pn : Int) (sn : Nat) (rz : Int) (hsn : sn < 4) : Met l yX4_ask ws_X4_ask ({ frames := 0, cells := 0, slots := 0, locals := 0 }) (va_Pc [.ref kh, .int (iI (((sn : Nat) : Int))), .int (iI (rz))] (PC D cs [(kh, .inr (4, [.ref ur, .ref ug, .int (iI (pn))])), (ur, arI cs 4 rq), (ug, arI cs 4 gv)])) (va_Qv (fun (_ : Unit) => True) (fun _ t => va_P D vwCl [(kh, .inr (4, [.ref ur, .ref ug, .int (iI (pn))])), (ur, arI cs 4 (upI rq sn rz)), (ug, arI cs 4 gv)] t.heap) (inW [(kh, .inr (4, [.ref ur, .ref ug, .int (iI (pn))])), (ur, arI cs 4 rq), (ug, arI cs 4 gv)])) 0 0 (inW [(kh, .inr (4, [.ref ur, .ref ug, .int (iI (pn))])), (ur, arI cs 4 rq), (ug, arI cs 4 gv)]) := by
  refine Met.ofW (cc := cX4_ask) (maxL := 3) (ret := ((none : Option FieldType))) (by decide +kernel) rfl ?_
  intro p e s m args below meth c s₁ B hml hv
  obtain ⟨rfl, hP, hK, hD, hN⟩ := hv
  have hx := B.exec
  have hb := B.bytes
  have hr := B.returns
  have hts : ∀ w ∈ ALL, w.before _ s = true := fun w h => atoms_spec (ws := ws_X4_ask) B.pre w (List.mem_cons_of_mem _ h)
  have hown : s.vm.findClass RX4 = some m.cls := findClass_of_methodNamed B.named
  have hlocks := B.notSynchronized
  generalize hAe : inW [(kh, .inr (4, [.ref ur, .ref ug, .int (iI (pn))])), (ur, arI cs 4 rq), (ug, arI cs 4 gv)] = A at hD ⊢
  have hS : va_S A s.heap s.heap [] := va_S.rf
  have hl := lv_entry ([.ref kh, .int (iI (((sn : Nat) : Int))), .int (iI (rz))]) (n := 3) (Nat.le_of_ble_eq_true rfl)
  rw [lg_entry_eq]
  generalize (lg_sl ([.ref kh, .int (iI (((sn : Nat) : Int))), .int (iI (rz))]) ++ List.replicate (3 - (lg_sl ([.ref kh, .int (iI (((sn : Nat) : Int))), .int (iI (rz))])).length) Slot.unset).toArray = ls at hl ⊢
  have hl : lv_has ls 3 [(0, .ref kh), (1, .int (iI (((sn : Nat) : Int)))), (2, .int (iI (rz)))] := hl
  have hH := rfl (a := s.heap)
  refine lv_iload_n hx hb dX4_ask_0 rfl (lv_at hl 1 rfl) ?_
  refine my_if_lt (tgt := 20) hx hb (by omega) dX4_ask_1 (by decide) (fun bh1 => (by omega : False).elim) (fun bh1 => ?_)
  refine lv_iload_n hx hb dX4_ask_4 rfl (lv_at hl 1 rfl) ?_
  refine lv_aload_n hx hb dX4_ask_5 rfl (lv_at hl 0 rfl) ?_
  refine my_get hx hb hts inAX4 hown hK hP 0 rfl rfl 0 (by decide) w_59 rfl rfl dX4_ask_6 ?_
  refine my_alenI hx hb hK hP 1 rfl dX4_ask_9 ?_
  refine my_icmp_ge (tgt := 20) hx hb (by omega) dX4_ask_10 (by decide) (fun bh2 => (by omega : False).elim) (fun bh2 => ?_)
  refine lv_aload_n hx hb dX4_ask_13 rfl (lv_at hl 0 rfl) ?_
  refine my_get hx hb hts inAX4 hown hK hP 0 rfl rfl 0 (by decide) w_59 rfl rfl dX4_ask_14 ?_
  refine lv_iload_n hx hb dX4_ask_17 rfl (lv_at hl 1 rfl) ?_
  refine lv_iload_n hx hb dX4_ask_18 rfl (lv_at hl 2 rfl) ?_
  refine my_iast hx hb hK hP hD hS 1 rfl (by omega) (k := sn) (Int.toNat_natCast _) dX4_ask_19 (fun H locs hP hD hS => ?_)
  have hP : va_P D vwCl [(kh, .inr (4, [.ref ur, .ref ug, .int (iI (pn))])), (ur, arI cs 4 (upI rq sn rz)), (ug, arI cs 4 gv)] H := hP
  have hD : va_D A [(kh, .inr (4, [.ref ur, .ref ug, .int (iI (pn))])), (ur, arI cs 4 (upI rq sn rz)), (ug, arI cs 4 gv)] := hD
  subst hAe
  exact W.vret hx hb hr (fun t ht hW => ⟨⟨(), rfl, trivial, by show va_P D vwCl _ t.heap; rw [ht]; exact hP⟩, hS.F ht⟩) hS.2.2 dX4_ask_20

abbrev ws_X4_givenAhead : List Cond := Cond.code yX4_givenAhead cX4_givenAhead 10 (some .long) :: ALL
set_option maxHeartbeats 4000000 in
set_option maxRecDepth 100000 in
theorem m_X4_givenAhead (l : Launch) (D : va_G) (cs : Nat → ClassId) (kh ur ug : Nat) (rq gv : Nat → Int) (pn : Int) (sn : Nat) (hz : Int) (hsn : sn < 4) (hrq : ∀ j, 0 ≤ rq j ∧ rq j ≤ 1000000) (hhz : 0 ≤ hz ∧ hz ≤ 1000000) : Met l yX4_givenAhead ws_X4_givenAhead ({ frames := 0, cells := 0, slots := 0, locals := 0 }) (va_Pc [.ref kh, .int (iI (((sn : Nat) : Int))), .int (iI (hz))] (PC D cs [(kh, .inr (4, [.ref ur, .ref ug, .int (iI (pn))])), (ur, arI cs 4 rq), (ug, arI cs 4 gv)])) (va_Ql (fun r (_ : Unit) => r = lI (gaI rq sn hz)) (fun _ _ => True) noA) 0 0 noA := by
  refine Met.ofW (cc := cX4_givenAhead) (maxL := 10) (ret := (some .long)) (by decide +kernel) rfl ?_
  intro p e s m args below meth c s₁ B hml hv
  obtain ⟨rfl, hP, hK, hD, hN⟩ := hv
  have hx := B.exec
  have hb := B.bytes
  have hr := B.returns
  have hts : ∀ w ∈ ALL, w.before _ s = true := fun w h => atoms_spec (ws := ws_X4_givenAhead) B.pre w (List.mem_cons_of_mem _ h)
  have hown : s.vm.findClass RX4 = some m.cls := findClass_of_methodNamed B.named
  have hlocks := B.notSynchronized
  have hS : va_S noA s.heap s.heap [] := va_S.rf
  generalize inW [(kh, .inr (4, [.ref ur, .ref ug, .int (iI (pn))])), (ur, arI cs 4 rq), (ug, arI cs 4 gv)] = A at hD
  have hl := lv_entry ([.ref kh, .int (iI (((sn : Nat) : Int))), .int (iI (hz))]) (n := 10) (Nat.le_of_ble_eq_true rfl)
  rw [lg_entry_eq]
  generalize (lg_sl ([.ref kh, .int (iI (((sn : Nat) : Int))), .int (iI (hz))]) ++ List.replicate (10 - (lg_sl ([.ref kh, .int (iI (((sn : Nat) : Int))), .int (iI (hz))])).length) Slot.unset).toArray = ls at hl ⊢
  have hl : lv_has ls 10 [(0, .ref kh), (1, .int (iI (((sn : Nat) : Int)))), (2, .int (iI (hz)))] := hl
  have hH := rfl (a := s.heap)
  have hrs := hrq sn
  refine lv_iload_n hx hb dX4_givenAhead_0 rfl (lv_at hl 1 rfl) ?_
  refine my_if_lt (tgt := 23) hx hb (by omega) dX4_givenAhead_1 (by decide) (fun bh1 => (by omega : False).elim) (fun bh1 => ?_)
  refine lv_iload_n hx hb dX4_givenAhead_4 rfl (lv_at hl 1 rfl) ?_
  refine lv_aload_n hx hb dX4_givenAhead_5 rfl (lv_at hl 0 rfl) ?_
  refine my_get hx hb hts inAX4 hown hK hP 0 rfl rfl 0 (by decide) w_59 rfl rfl dX4_givenAhead_6 ?_
  refine my_alenI hx hb hK hP 1 rfl dX4_givenAhead_9 ?_
  refine my_icmp_ge (tgt := 23) hx hb (by omega) dX4_givenAhead_10 (by decide) (fun bh2 => (by omega : False).elim) (fun bh2 => ?_)
  refine lv_aload_n hx hb dX4_givenAhead_13 rfl (lv_at hl 0 rfl) ?_
  refine my_get hx hb hts inAX4 hown hK hP 0 rfl rfl 0 (by decide) w_59 rfl rfl dX4_givenAhead_14 ?_
  refine lv_iload_n hx hb dX4_givenAhead_17 rfl (lv_at hl 1 rfl) ?_
  refine my_iald hx hb hK hP 1 rfl (by omega) (k := sn) (Int.toNat_natCast _) dX4_givenAhead_18 ?_
  refine my_i2l hx hb dX4_givenAhead_19 (by omega) ?_
  refine lv_goto (tgt := 24) hx hb dX4_givenAhead_20 (by decide) ?_
  refine lv_lstore_n (lv' := [(3, .long (lI (rq sn))), (0, .ref kh), (1, .int (iI (((sn : Nat) : Int)))), (2, .int (iI (hz)))]) hx hb dX4_givenAhead_24 rfl hl (by decide) rfl (fun ls hl => ?_)
  refine lv_lload_n hx hb dX4_givenAhead_25 rfl (lv_at hl 0 rfl) ?_
  refine lv_lconst (v := lI 0) hx hb dX4_givenAhead_26 (by decide) ?_
  refine my_lcmp_gt (tgt := 33) hx hb (by omega) dX4_givenAhead_27 dX4_givenAhead_28 (by decide) (fun bh3 => ?_) (fun bh3 => ?_)
  · refine lv_iload_n hx hb dX4_givenAhead_33 rfl (lv_at hl 3 rfl) ?_
    refine my_i2l hx hb dX4_givenAhead_34 (by omega) ?_
    refine lv_lstore (lv' := [(5, .long (lI (hz))), (3, .long (lI (rq sn))), (0, .ref kh), (1, .int (iI (((sn : Nat) : Int)))), (2, .int (iI (hz)))]) hx hb dX4_givenAhead_35 hl (by decide) rfl (fun ls hl => ?_)
    refine lv_iconst (v := iI (0)) hx hb dX4_givenAhead_37 rfl ?_
    refine lv_istore (lv' := [(7, .int (iI (0))), (5, .long (lI (hz))), (3, .long (lI (rq sn))), (0, .ref kh), (1, .int (iI (((sn : Nat) : Int)))), (2, .int (iI (hz)))]) hx hb dX4_givenAhead_38 hl (by decide) rfl (fun ls hl => ?_)
    suffices KL : ∀ (n : Nat) (i : Nat), i ≤ 4 → 4 - i < n → ∀ (H : Heap) (locs : List Loc) (ls : Array Slot), va_P D vwCl [(kh, .inr (4, [.ref ur, .ref ug, .int (iI (pn))])), (ur, arI cs 4 rq), (ug, arI cs 4 gv)] H → va_S noA s.heap H locs → lv_has ls 10 [(7, .int (iI (((i : Nat) : Int)))), (5, .long (lI (hz + smI (caI rq sn hz) i))), (3, .long (lI (rq sn))), (0, .ref kh), (1, .int (iI (((sn : Nat) : Int)))), (2, .int (iI (hz)))] → W p l e _ s m _ below meth c H locs 0 0 _ (F0 m 40 ls []) from
      KL _ 0 (Nat.zero_le _) (Nat.lt_succ_self _) _ _ _ hP hS (lv_sub hl [0, 1, 2, 3, 4, 5] (by rw [show hz + smI (caI rq sn hz) 0 = hz from by simp [smI]]; rfl))
    intro n
    induction n with
    | zero => intro i hil h0; exact absurd h0 (Nat.not_lt_zero _)
    | succ n ih =>
      intro i hil hmu H locs ls hP hS hl
      have hri := hrq i
      have hm := mul_rng (a := hz) (b := rq i) (A := 1000000) (B := 1000000) hhz.1 hhz.2 hri.1 hri.2
      refine lv_iload hx hb dX4_givenAhead_40 (lv_at hl 0 rfl) ?_
      refine lv_aload_n hx hb dX4_givenAhead_42 rfl (lv_at hl 3 rfl) ?_
      refine my_get hx hb hts inAX4 hown hK hP 0 rfl rfl 0 (by decide) w_59 rfl rfl dX4_givenAhead_43 ?_
      refine my_alenI hx hb hK hP 1 rfl dX4_givenAhead_46 ?_
      refine my_icmp_ge (tgt := 128) hx hb (by omega) dX4_givenAhead_47 (by decide) (fun bh4 => ?_) (fun bh4 => ?_)
      · refine lv_lload hx hb dX4_givenAhead_128 (lv_at hl 1 rfl) ?_
        have hres : lI (hz + smI (caI rq sn hz) i) = lI (gaI rq sn hz) := congrArg lI (by
            have ei : i = 4 := by omega
            rw [gaI, if_neg (by omega), ei])
        exact W.lret hx hb hr (fun t ht hW => ⟨⟨_, (), rfl, hres, trivial⟩, hS.F ht⟩) hS.2.2 dX4_givenAhead_130
      · refine lv_iload_n hx hb dX4_givenAhead_50 rfl (lv_at hl 5 rfl) ?_
        refine my_i2l hx hb dX4_givenAhead_51 (by omega) ?_
        refine lv_aload_n hx hb dX4_givenAhead_52 rfl (lv_at hl 3 rfl) ?_
        refine my_get hx hb hts inAX4 hown hK hP 0 rfl rfl 0 (by decide) w_59 rfl rfl dX4_givenAhead_53 ?_
        refine lv_iload hx hb dX4_givenAhead_56 (lv_at hl 0 rfl) ?_
        refine my_iald hx hb hK hP 1 rfl (by omega) (k := i) (Int.toNat_natCast _) dX4_givenAhead_58 ?_
        refine my_i2l hx hb dX4_givenAhead_59 (by omega) ?_
        refine my_lmul (z := hz * (rq i)) hx hb dX4_givenAhead_60 (rfl) ?_
        refine lv_lstore (lv' := [(8, .long (lI (hz * (rq i)))), (7, .int (iI (((i : Nat) : Int)))), (5, .long (lI (hz + smI (caI rq sn hz) i))), (3, .long (lI (rq sn))), (0, .ref kh), (1, .int (iI (((sn : Nat) : Int)))), (2, .int (iI (hz)))]) hx hb dX4_givenAhead_61 hl (by decide) rfl (fun ls hl => ?_)
        refine lv_aload_n hx hb dX4_givenAhead_63 rfl (lv_at hl 4 rfl) ?_
        refine my_get hx hb hts inAX4 hown hK hP 0 rfl rfl 0 (by decide) w_59 rfl rfl dX4_givenAhead_64 ?_
        refine lv_iload hx hb dX4_givenAhead_67 (lv_at hl 1 rfl) ?_
        refine my_iald hx hb hK hP 1 rfl (by omega) (k := i) (Int.toNat_natCast _) dX4_givenAhead_69 ?_
        refine my_if_le (tgt := 93) hx hb (by omega) dX4_givenAhead_70 (by decide) (fun bh5 => ?_) (fun bh5 => ?_)
        · refine lv_aload_n hx hb dX4_givenAhead_93 rfl (lv_at hl 4 rfl) ?_
          refine my_get hx hb hts inAX4 hown hK hP 0 rfl rfl 0 (by decide) w_59 rfl rfl dX4_givenAhead_94 ?_
          refine lv_iload hx hb dX4_givenAhead_97 (lv_at hl 1 rfl) ?_
          refine my_iald hx hb hK hP 1 rfl (by omega) (k := i) (Int.toNat_natCast _) dX4_givenAhead_99 ?_
          refine my_if_le (tgt := 122) hx hb (by omega) dX4_givenAhead_100 (by decide) (fun bh6 => ?_) (fun bh6 => ?_)
          · refine lv_iinc (v := iI (((i : Nat) : Int) + 1)) (lv' := [(7, .int (iI (((i : Nat) : Int) + 1))), (8, .long (lI (hz * (rq i)))), (5, .long (lI (hz + smI (caI rq sn hz) i))), (3, .long (lI (rq sn))), (0, .ref kh), (1, .int (iI (((sn : Nat) : Int)))), (2, .int (iI (hz)))]) hx hb dX4_givenAhead_122 hl (k := 1) rfl (by rw [show (((i : Nat) : Int) + 1 : Int) = ((i : Nat) : Int) + 1 from rfl]; exact iI_add _ _) (by decide) rfl (fun ls hl => ?_)
            refine lv_goto (tgt := 40) hx hb dX4_givenAhead_125 (by decide) ?_
            have e1 : ((i : Nat) : Int) + 1 = ((i + 1 : Nat) : Int) := by omega
            rw [e1] at hl
            have e2 : hz + smI (caI rq sn hz) i = hz + smI (caI rq sn hz) (i + 1) := by simp only [smI, caI]; first | (rw [if_pos (by omega)]; omega) | (rw [if_neg (by omega), if_pos (by omega)]; omega) | (rw [if_neg (by omega), if_neg (by omega)]; omega)
            rw [e2] at hl
            exact ih (i + 1) (by omega) (by omega) _ _ _ hP hS (lv_sub hl [0, 2, 3, 4, 5, 6] rfl)
          · refine lv_iload hx hb dX4_givenAhead_103 (lv_at hl 1 rfl) ?_
            refine lv_iload_n hx hb dX4_givenAhead_105 rfl (lv_at hl 5 rfl) ?_
            refine my_icmp_le (tgt := 122) hx hb (by omega) dX4_givenAhead_106 (by decide) (fun bh7 => ?_) (fun bh7 => ?_)
            · refine lv_iinc (v := iI (((i : Nat) : Int) + 1)) (lv' := [(7, .int (iI (((i : Nat) : Int) + 1))), (8, .long (lI (hz * (rq i)))), (5, .long (lI (hz + smI (caI rq sn hz) i))), (3, .long (lI (rq sn))), (0, .ref kh), (1, .int (iI (((sn : Nat) : Int)))), (2, .int (iI (hz)))]) hx hb dX4_givenAhead_122 hl (k := 1) rfl (by rw [show (((i : Nat) : Int) + 1 : Int) = ((i : Nat) : Int) + 1 from rfl]; exact iI_add _ _) (by decide) rfl (fun ls hl => ?_)
              refine lv_goto (tgt := 40) hx hb dX4_givenAhead_125 (by decide) ?_
              have e1 : ((i : Nat) : Int) + 1 = ((i + 1 : Nat) : Int) := by omega
              rw [e1] at hl
              have e2 : hz + smI (caI rq sn hz) i = hz + smI (caI rq sn hz) (i + 1) := by simp only [smI, caI]; first | (rw [if_pos (by omega)]; omega) | (rw [if_neg (by omega), if_pos (by omega)]; omega) | (rw [if_neg (by omega), if_neg (by omega)]; omega)
              rw [e2] at hl
              exact ih (i + 1) (by omega) (by omega) _ _ _ hP hS (lv_sub hl [0, 2, 3, 4, 5, 6] rfl)
            · refine lv_lload hx hb dX4_givenAhead_109 (lv_at hl 2 rfl) ?_
              refine lv_lload hx hb dX4_givenAhead_111 (lv_at hl 0 rfl) ?_
              refine lv_lload_n hx hb dX4_givenAhead_113 rfl (lv_at hl 3 rfl) ?_
              refine my_ladd (z := (hz * (rq i)) + (rq sn)) hx hb dX4_givenAhead_114 (rfl) ?_
              refine lv_lconst (v := lI 1) hx hb dX4_givenAhead_115 (by decide) ?_
              refine my_lsub (z := ((hz * (rq i)) + (rq sn)) - 1) hx hb dX4_givenAhead_116 (rfl) ?_
              refine lv_lload_n hx hb dX4_givenAhead_117 rfl (lv_at hl 3 rfl) ?_
              refine my_ldiv hx hb dX4_givenAhead_118 (by omega) rfl ?_
              refine my_ladd (z := (hz + smI (caI rq sn hz) i) + ((((hz * (rq i)) + (rq sn)) - 1) / (rq sn))) hx hb dX4_givenAhead_119 (rfl) ?_
              refine lv_lstore (lv' := [(5, .long (lI ((hz + smI (caI rq sn hz) i) + ((((hz * (rq i)) + (rq sn)) - 1) / (rq sn))))), (8, .long (lI (hz * (rq i)))), (7, .int (iI (((i : Nat) : Int)))), (3, .long (lI (rq sn))), (0, .ref kh), (1, .int (iI (((sn : Nat) : Int)))), (2, .int (iI (hz)))]) hx hb dX4_givenAhead_120 hl (by decide) rfl (fun ls hl => ?_)
              refine lv_iinc (v := iI (((i : Nat) : Int) + 1)) (lv' := [(7, .int (iI (((i : Nat) : Int) + 1))), (5, .long (lI ((hz + smI (caI rq sn hz) i) + ((((hz * (rq i)) + (rq sn)) - 1) / (rq sn))))), (8, .long (lI (hz * (rq i)))), (3, .long (lI (rq sn))), (0, .ref kh), (1, .int (iI (((sn : Nat) : Int)))), (2, .int (iI (hz)))]) hx hb dX4_givenAhead_122 hl (k := 2) rfl (by rw [show (((i : Nat) : Int) + 1 : Int) = ((i : Nat) : Int) + 1 from rfl]; exact iI_add _ _) (by decide) rfl (fun ls hl => ?_)
              refine lv_goto (tgt := 40) hx hb dX4_givenAhead_125 (by decide) ?_
              have e1 : ((i : Nat) : Int) + 1 = ((i + 1 : Nat) : Int) := by omega
              rw [e1] at hl
              have e2 : (hz + smI (caI rq sn hz) i) + ((((hz * (rq i)) + (rq sn)) - 1) / (rq sn)) = hz + smI (caI rq sn hz) (i + 1) := by simp only [smI, caI]; first | (rw [if_pos (by omega)]; omega) | (rw [if_neg (by omega), if_pos (by omega)]; omega) | (rw [if_neg (by omega), if_neg (by omega)]; omega)
              rw [e2] at hl
              exact ih (i + 1) (by omega) (by omega) _ _ _ hP hS (lv_sub hl [0, 1, 3, 4, 5, 6] rfl)
        · refine lv_iload hx hb dX4_givenAhead_73 (lv_at hl 1 rfl) ?_
          refine lv_iload_n hx hb dX4_givenAhead_75 rfl (lv_at hl 5 rfl) ?_
          refine my_icmp_ge (tgt := 93) hx hb (by omega) dX4_givenAhead_76 (by decide) (fun bh8 => ?_) (fun bh8 => ?_)
          · refine lv_aload_n hx hb dX4_givenAhead_93 rfl (lv_at hl 4 rfl) ?_
            refine my_get hx hb hts inAX4 hown hK hP 0 rfl rfl 0 (by decide) w_59 rfl rfl dX4_givenAhead_94 ?_
            refine lv_iload hx hb dX4_givenAhead_97 (lv_at hl 1 rfl) ?_
            refine my_iald hx hb hK hP 1 rfl (by omega) (k := i) (Int.toNat_natCast _) dX4_givenAhead_99 ?_
            refine my_if_le (tgt := 122) hx hb (by omega) dX4_givenAhead_100 (by decide) (fun bh9 => ?_) (fun bh9 => ?_)
            · refine lv_iinc (v := iI (((i : Nat) : Int) + 1)) (lv' := [(7, .int (iI (((i : Nat) : Int) + 1))), (8, .long (lI (hz * (rq i)))), (5, .long (lI (hz + smI (caI rq sn hz) i))), (3, .long (lI (rq sn))), (0, .ref kh), (1, .int (iI (((sn : Nat) : Int)))), (2, .int (iI (hz)))]) hx hb dX4_givenAhead_122 hl (k := 1) rfl (by rw [show (((i : Nat) : Int) + 1 : Int) = ((i : Nat) : Int) + 1 from rfl]; exact iI_add _ _) (by decide) rfl (fun ls hl => ?_)
              refine lv_goto (tgt := 40) hx hb dX4_givenAhead_125 (by decide) ?_
              have e1 : ((i : Nat) : Int) + 1 = ((i + 1 : Nat) : Int) := by omega
              rw [e1] at hl
              have e2 : hz + smI (caI rq sn hz) i = hz + smI (caI rq sn hz) (i + 1) := by simp only [smI, caI]; first | (rw [if_pos (by omega)]; omega) | (rw [if_neg (by omega), if_pos (by omega)]; omega) | (rw [if_neg (by omega), if_neg (by omega)]; omega)
              rw [e2] at hl
              exact ih (i + 1) (by omega) (by omega) _ _ _ hP hS (lv_sub hl [0, 2, 3, 4, 5, 6] rfl)
            · refine lv_iload hx hb dX4_givenAhead_103 (lv_at hl 1 rfl) ?_
              refine lv_iload_n hx hb dX4_givenAhead_105 rfl (lv_at hl 5 rfl) ?_
              refine my_icmp_le (tgt := 122) hx hb (by omega) dX4_givenAhead_106 (by decide) (fun bh10 => ?_) (fun bh10 => ?_)
              · refine lv_iinc (v := iI (((i : Nat) : Int) + 1)) (lv' := [(7, .int (iI (((i : Nat) : Int) + 1))), (8, .long (lI (hz * (rq i)))), (5, .long (lI (hz + smI (caI rq sn hz) i))), (3, .long (lI (rq sn))), (0, .ref kh), (1, .int (iI (((sn : Nat) : Int)))), (2, .int (iI (hz)))]) hx hb dX4_givenAhead_122 hl (k := 1) rfl (by rw [show (((i : Nat) : Int) + 1 : Int) = ((i : Nat) : Int) + 1 from rfl]; exact iI_add _ _) (by decide) rfl (fun ls hl => ?_)
                refine lv_goto (tgt := 40) hx hb dX4_givenAhead_125 (by decide) ?_
                have e1 : ((i : Nat) : Int) + 1 = ((i + 1 : Nat) : Int) := by omega
                rw [e1] at hl
                have e2 : hz + smI (caI rq sn hz) i = hz + smI (caI rq sn hz) (i + 1) := by simp only [smI, caI]; first | (rw [if_pos (by omega)]; omega) | (rw [if_neg (by omega), if_pos (by omega)]; omega) | (rw [if_neg (by omega), if_neg (by omega)]; omega)
                rw [e2] at hl
                exact ih (i + 1) (by omega) (by omega) _ _ _ hP hS (lv_sub hl [0, 2, 3, 4, 5, 6] rfl)
              · refine lv_lload hx hb dX4_givenAhead_109 (lv_at hl 2 rfl) ?_
                refine lv_lload hx hb dX4_givenAhead_111 (lv_at hl 0 rfl) ?_
                refine lv_lload_n hx hb dX4_givenAhead_113 rfl (lv_at hl 3 rfl) ?_
                refine my_ladd (z := (hz * (rq i)) + (rq sn)) hx hb dX4_givenAhead_114 (rfl) ?_
                refine lv_lconst (v := lI 1) hx hb dX4_givenAhead_115 (by decide) ?_
                refine my_lsub (z := ((hz * (rq i)) + (rq sn)) - 1) hx hb dX4_givenAhead_116 (rfl) ?_
                refine lv_lload_n hx hb dX4_givenAhead_117 rfl (lv_at hl 3 rfl) ?_
                refine my_ldiv hx hb dX4_givenAhead_118 (by omega) rfl ?_
                refine my_ladd (z := (hz + smI (caI rq sn hz) i) + ((((hz * (rq i)) + (rq sn)) - 1) / (rq sn))) hx hb dX4_givenAhead_119 (rfl) ?_
                refine lv_lstore (lv' := [(5, .long (lI ((hz + smI (caI rq sn hz) i) + ((((hz * (rq i)) + (rq sn)) - 1) / (rq sn))))), (8, .long (lI (hz * (rq i)))), (7, .int (iI (((i : Nat) : Int)))), (3, .long (lI (rq sn))), (0, .ref kh), (1, .int (iI (((sn : Nat) : Int)))), (2, .int (iI (hz)))]) hx hb dX4_givenAhead_120 hl (by decide) rfl (fun ls hl => ?_)
                refine lv_iinc (v := iI (((i : Nat) : Int) + 1)) (lv' := [(7, .int (iI (((i : Nat) : Int) + 1))), (5, .long (lI ((hz + smI (caI rq sn hz) i) + ((((hz * (rq i)) + (rq sn)) - 1) / (rq sn))))), (8, .long (lI (hz * (rq i)))), (3, .long (lI (rq sn))), (0, .ref kh), (1, .int (iI (((sn : Nat) : Int)))), (2, .int (iI (hz)))]) hx hb dX4_givenAhead_122 hl (k := 2) rfl (by rw [show (((i : Nat) : Int) + 1 : Int) = ((i : Nat) : Int) + 1 from rfl]; exact iI_add _ _) (by decide) rfl (fun ls hl => ?_)
                refine lv_goto (tgt := 40) hx hb dX4_givenAhead_125 (by decide) ?_
                have e1 : ((i : Nat) : Int) + 1 = ((i + 1 : Nat) : Int) := by omega
                rw [e1] at hl
                have e2 : (hz + smI (caI rq sn hz) i) + ((((hz * (rq i)) + (rq sn)) - 1) / (rq sn)) = hz + smI (caI rq sn hz) (i + 1) := by simp only [smI, caI]; first | (rw [if_pos (by omega)]; omega) | (rw [if_neg (by omega), if_pos (by omega)]; omega) | (rw [if_neg (by omega), if_neg (by omega)]; omega)
                rw [e2] at hl
                exact ih (i + 1) (by omega) (by omega) _ _ _ hP hS (lv_sub hl [0, 1, 3, 4, 5, 6] rfl)
          · refine lv_lload hx hb dX4_givenAhead_79 (lv_at hl 2 rfl) ?_
            refine lv_lload hx hb dX4_givenAhead_81 (lv_at hl 0 rfl) ?_
            refine lv_lload_n hx hb dX4_givenAhead_83 rfl (lv_at hl 3 rfl) ?_
            refine my_ldiv hx hb dX4_givenAhead_84 (by omega) rfl ?_
            refine lv_lconst (v := lI 1) hx hb dX4_givenAhead_85 (by decide) ?_
            refine my_ladd (z := ((hz * (rq i)) / (rq sn)) + 1) hx hb dX4_givenAhead_86 (rfl) ?_
            refine my_ladd (z := (hz + smI (caI rq sn hz) i) + (((hz * (rq i)) / (rq sn)) + 1)) hx hb dX4_givenAhead_87 (rfl) ?_
            refine lv_lstore (lv' := [(5, .long (lI ((hz + smI (caI rq sn hz) i) + (((hz * (rq i)) / (rq sn)) + 1)))), (8, .long (lI (hz * (rq i)))), (7, .int (iI (((i : Nat) : Int)))), (3, .long (lI (rq sn))), (0, .ref kh), (1, .int (iI (((sn : Nat) : Int)))), (2, .int (iI (hz)))]) hx hb dX4_givenAhead_88 hl (by decide) rfl (fun ls hl => ?_)
            refine lv_goto (tgt := 122) hx hb dX4_givenAhead_90 (by decide) ?_
            refine lv_iinc (v := iI (((i : Nat) : Int) + 1)) (lv' := [(7, .int (iI (((i : Nat) : Int) + 1))), (5, .long (lI ((hz + smI (caI rq sn hz) i) + (((hz * (rq i)) / (rq sn)) + 1)))), (8, .long (lI (hz * (rq i)))), (3, .long (lI (rq sn))), (0, .ref kh), (1, .int (iI (((sn : Nat) : Int)))), (2, .int (iI (hz)))]) hx hb dX4_givenAhead_122 hl (k := 2) rfl (by rw [show (((i : Nat) : Int) + 1 : Int) = ((i : Nat) : Int) + 1 from rfl]; exact iI_add _ _) (by decide) rfl (fun ls hl => ?_)
            refine lv_goto (tgt := 40) hx hb dX4_givenAhead_125 (by decide) ?_
            have e1 : ((i : Nat) : Int) + 1 = ((i + 1 : Nat) : Int) := by omega
            rw [e1] at hl
            have e2 : (hz + smI (caI rq sn hz) i) + (((hz * (rq i)) / (rq sn)) + 1) = hz + smI (caI rq sn hz) (i + 1) := by simp only [smI, caI]; first | (rw [if_pos (by omega)]; omega) | (rw [if_neg (by omega), if_pos (by omega)]; omega) | (rw [if_neg (by omega), if_neg (by omega)]; omega)
            rw [e2] at hl
            exact ih (i + 1) (by omega) (by omega) _ _ _ hP hS (lv_sub hl [0, 1, 3, 4, 5, 6] rfl)
  · refine lv_lconst (v := lI 0) hx hb dX4_givenAhead_31 (by decide) ?_
    have hres : lI (0) = lI (gaI rq sn hz) := congrArg lI (by
        rw [gaI, if_pos (by omega)])
    exact W.lret hx hb hr (fun t ht hW => ⟨⟨_, (), rfl, hres, trivial⟩, hS.F ht⟩) hS.2.2 dX4_givenAhead_32

abbrev ws_X4_counted : List Cond := Cond.code yX4_counted cX4_counted 6 (some .int) :: ALL
set_option maxHeartbeats 4000000 in
set_option maxRecDepth 100000 in
theorem m_X4_counted (l : Launch) (D : va_G) (cs : Nat → ClassId) (kh ur ug : Nat) (rq gv : Nat → Int) (pn : Int) (sn : Nat) (hsn : sn < 4) (hrq : ∀ j, 0 ≤ rq j ∧ rq j ≤ 1000000) (hpn : 0 ≤ pn ∧ pn ≤ 1000000) : Met l yX4_counted ws_X4_counted ({ frames := 1, cells := 0, slots := 0, locals := 29 }) (va_Pc [.ref kh, .int (iI (((sn : Nat) : Int)))] (PC D cs [(kh, .inr (4, [.ref ur, .ref ug, .int (iI (pn))])), (ur, arI cs 4 rq), (ug, arI cs 4 gv)])) (va_Qi (fun r (_ : Unit) => r = iI (ctI rq pn sn 32 0 (rq sn))) (fun _ _ => True) noA) 0 0 noA := by
  refine Met.ofW (cc := cX4_counted) (maxL := 6) (ret := (some .int)) (by decide +kernel) rfl ?_
  intro p e s m args below meth c s₁ B hml hv
  obtain ⟨rfl, hP, hK, hD, hN⟩ := hv
  have hx := B.exec
  have hb := B.bytes
  have hr := B.returns
  have hts : ∀ w ∈ ALL, w.before _ s = true := fun w h => atoms_spec (ws := ws_X4_counted) B.pre w (List.mem_cons_of_mem _ h)
  have hown : s.vm.findClass RX4 = some m.cls := findClass_of_methodNamed B.named
  have hlocks := B.notSynchronized
  have hS : va_S noA s.heap s.heap [] := va_S.rf
  generalize inW [(kh, .inr (4, [.ref ur, .ref ug, .int (iI (pn))])), (ur, arI cs 4 rq), (ug, arI cs 4 gv)] = A at hD
  have hl := lv_entry ([.ref kh, .int (iI (((sn : Nat) : Int)))]) (n := 6) (Nat.le_of_ble_eq_true rfl)
  rw [lg_entry_eq]
  generalize (lg_sl ([.ref kh, .int (iI (((sn : Nat) : Int)))]) ++ List.replicate (6 - (lg_sl ([.ref kh, .int (iI (((sn : Nat) : Int)))])).length) Slot.unset).toArray = ls at hl ⊢
  have hl : lv_has ls 6 [(0, .ref kh), (1, .int (iI (((sn : Nat) : Int))))] := hl
  have hH := rfl (a := s.heap)
  have hrs := hrq sn
  refine lv_iload_n hx hb dX4_counted_0 rfl (lv_at hl 1 rfl) ?_
  refine my_if_lt (tgt := 13) hx hb (by omega) dX4_counted_1 (by decide) (fun bh1 => (by omega : False).elim) (fun bh1 => ?_)
  refine lv_iload_n hx hb dX4_counted_4 rfl (lv_at hl 1 rfl) ?_
  refine lv_aload_n hx hb dX4_counted_5 rfl (lv_at hl 0 rfl) ?_
  refine my_get hx hb hts inAX4 hown hK hP 0 rfl rfl 0 (by decide) w_59 rfl rfl dX4_counted_6 ?_
  refine my_alenI hx hb hK hP 1 rfl dX4_counted_9 ?_
  refine my_icmp_lt (tgt := 15) hx hb (by omega) dX4_counted_10 (by decide) (fun bh2 => ?_) (fun bh2 => (by omega : False).elim)
  refine lv_iconst (v := iI (0)) hx hb dX4_counted_15 rfl ?_
  refine lv_istore_n (lv' := [(2, .int (iI (0))), (0, .ref kh), (1, .int (iI (((sn : Nat) : Int))))]) hx hb dX4_counted_16 rfl hl (by decide) rfl (fun ls hl => ?_)
  refine lv_aload_n hx hb dX4_counted_17 rfl (lv_at hl 1 rfl) ?_
  refine my_get hx hb hts inAX4 hown hK hP 0 rfl rfl 0 (by decide) w_59 rfl rfl dX4_counted_18 ?_
  refine lv_iload_n hx hb dX4_counted_21 rfl (lv_at hl 2 rfl) ?_
  refine my_iald hx hb hK hP 1 rfl (by omega) (k := sn) (Int.toNat_natCast _) dX4_counted_22 ?_
  refine lv_istore_n (lv' := [(3, .int (iI (rq sn))), (2, .int (iI (0))), (0, .ref kh), (1, .int (iI (((sn : Nat) : Int))))]) hx hb dX4_counted_23 rfl hl (by decide) rfl (fun ls hl => ?_)
  refine lv_iconst (v := iI (0)) hx hb dX4_counted_24 rfl ?_
  refine lv_istore (lv' := [(4, .int (iI (0))), (3, .int (iI (rq sn))), (2, .int (iI (0))), (0, .ref kh), (1, .int (iI (((sn : Nat) : Int))))]) hx hb dX4_counted_25 hl (by decide) rfl (fun ls hl => ?_)
  suffices KL : ∀ (n : Nat) (i : Nat) (lo : Int) (hi : Int), i ≤ 32 → 0 ≤ lo ∧ lo ≤ 1000000 → 0 ≤ hi ∧ hi ≤ 1000000 → ctI rq pn sn 32 0 (rq sn) = ctI rq pn sn (32 - i) lo hi → 32 - i < n → ∀ (H : Heap) (locs : List Loc) (ls : Array Slot), va_P D vwCl [(kh, .inr (4, [.ref ur, .ref ug, .int (iI (pn))])), (ur, arI cs 4 rq), (ug, arI cs 4 gv)] H → va_S noA s.heap H locs → lv_has ls 6 [(4, .int (iI (((i : Nat) : Int)))), (3, .int (iI (hi))), (2, .int (iI (lo))), (0, .ref kh), (1, .int (iI (((sn : Nat) : Int))))] → W p l e _ s m _ below meth c H locs 0 0 _ (F0 m 27 ls []) from
    KL _ 0 0 (rq sn) (Nat.zero_le _) (by omega) (by omega) (rfl) (Nat.lt_succ_self _) _ _ _ hP hS (lv_sub hl [0, 1, 2, 3, 4] rfl)
  intro n
  induction n with
  | zero => intro i lo hi hil hlo hhi hs h0; exact absurd h0 (Nat.not_lt_zero _)
  | succ n ih =>
    intro i lo hi hil hlo hhi hs hmu H locs ls hP hS hl
    have hga := fun (hz : Int) (hh : 0 ≤ hz ∧ hz ≤ 1000000) => gaI_rng (s := sn) hrq hh
    refine lv_iload hx hb dX4_counted_27 (lv_at hl 0 rfl) ?_
    refine lv_bipush (v := iI (32)) hx hb dX4_counted_29 (by decide) ?_
    refine my_icmp_ge (tgt := 81) hx hb (by omega) dX4_counted_31 (by decide) (fun bh3 => ?_) (fun bh3 => ?_)
    · refine lv_iload_n hx hb dX4_counted_81 rfl (lv_at hl 2 rfl) ?_
      have hres : iI (lo) = iI (ctI rq pn sn 32 0 (rq sn)) := congrArg iI (by
          first
          | (rw [hs, show 32 - i = 0 from by omega]; rfl)
          | (rw [hs]; cases h9 : 32 - i with
             | zero => rfl
             | succ n9 => rw [ctI, if_pos (by omega)]))
      exact W.iret hx hb hr (fun t ht hW => ⟨⟨_, (), rfl, hres, trivial⟩, hS.F ht⟩) hS.2.2 dX4_counted_82
    · refine lv_iload_n hx hb dX4_counted_34 rfl (lv_at hl 2 rfl) ?_
      refine lv_iload_n hx hb dX4_counted_35 rfl (lv_at hl 1 rfl) ?_
      refine my_icmp_ge (tgt := 81) hx hb (by omega) dX4_counted_36 (by decide) (fun bh4 => ?_) (fun bh4 => ?_)
      · refine lv_iload_n hx hb dX4_counted_81 rfl (lv_at hl 2 rfl) ?_
        have hres : iI (lo) = iI (ctI rq pn sn 32 0 (rq sn)) := congrArg iI (by
            first
            | (rw [hs, show 32 - i = 0 from by omega]; rfl)
            | (rw [hs]; cases h9 : 32 - i with
               | zero => rfl
               | succ n9 => rw [ctI, if_pos (by omega)]))
        exact W.iret hx hb hr (fun t ht hW => ⟨⟨_, (), rfl, hres, trivial⟩, hS.F ht⟩) hS.2.2 dX4_counted_82
      · refine lv_iload_n hx hb dX4_counted_39 rfl (lv_at hl 2 rfl) ?_
        refine lv_iload_n hx hb dX4_counted_40 rfl (lv_at hl 1 rfl) ?_
        refine lv_iload_n hx hb dX4_counted_41 rfl (lv_at hl 2 rfl) ?_
        refine my_isub (z := hi - lo) hx hb dX4_counted_42 (rfl) ?_
        refine lv_iconst (v := iI (2)) hx hb dX4_counted_43 rfl ?_
        refine my_idiv hx hb dX4_counted_44 (by omega) rfl ?_
        refine my_iadd (z := lo + ((hi - lo) / 2)) hx hb dX4_counted_45 (rfl) ?_
        refine lv_istore (lv' := [(5, .int (iI (lo + ((hi - lo) / 2)))), (4, .int (iI (((i : Nat) : Int)))), (3, .int (iI (hi))), (2, .int (iI (lo))), (0, .ref kh), (1, .int (iI (((sn : Nat) : Int))))]) hx hb dX4_counted_46 hl (by decide) rfl (fun ls hl => ?_)
        refine lv_aload_n hx hb dX4_counted_48 rfl (lv_at hl 4 rfl) ?_
        refine lv_iload_n hx hb dX4_counted_49 rfl (lv_at hl 5 rfl) ?_
        refine lv_iload hx hb dX4_counted_50 (lv_at hl 0 rfl) ?_
        have pk5 : picks [(kh, .inr (4, [.ref ur, .ref ug, .int (iI (pn))])), (ur, arI cs 4 rq), (ug, arI cs 4 gv)] [0, 1, 2] [(kh, .inr (4, [.ref ur, .ref ug, .int (iI (pn))])), (ur, arI cs 4 rq), (ug, arI cs 4 gv)] := ⟨rfl, rfl, rfl, trivial⟩
        refine va_calll (va_runV (As := [.int (iI (((sn : Nat) : Int))), .int (iI (lo + ((hi - lo) / 2)))]) (rest := []) ⟨hx, hb, hml, hown, hts⟩ (m_X4_givenAhead l D cs kh ur ug rq gv pn sn (lo + ((hi - lo) / 2)) (by omega) (hrq) (by omega)) (cwV 2 hts (gV w_608 w_610 w_p14 w_4 w_611) rfl rfl rfl (by decide +kernel) ⟨Nat.le_of_ble_eq_true rfl, Nat.le_of_ble_eq_true rfl⟩) (PC_V hK hN hP hD [0, 1, 2] rfl pk5 rfl rfl) rfl rfl hl.1 rfl (lv_room (Nat.le_of_ble_eq_true rfl)) dX4_counted_52 ⟨Nat.le_of_ble_eq_true rfl, Nat.le_of_ble_eq_true rfl⟩) hS (fun _ _ h => False.elim h) (fun _ h => False.elim h) (fun r u t H locs ht hvm hw hB hz1 hk1 hS => ?_)
        subst hw
        have hP := P_kept hP hk1
        have hgm := hga (lo + (hi - lo) / 2) (by omega)
        refine lv_aload_n hx hb dX4_counted_55 rfl (lv_at hl 4 rfl) ?_
        refine my_get hx hb hts inAX4 hown hK hP 0 rfl rfl 2 (by decide) w_61 rfl rfl dX4_counted_56 ?_
        refine my_i2l hx hb dX4_counted_59 (by omega) ?_
        refine my_lcmp_ge (tgt := 72) hx hb (by omega) dX4_counted_60 dX4_counted_61 (by decide) (fun bh6 => ?_) (fun bh6 => ?_)
        · refine lv_iload hx hb dX4_counted_72 (lv_at hl 0 rfl) ?_
          refine lv_istore_n (lv' := [(3, .int (iI (lo + ((hi - lo) / 2)))), (5, .int (iI (lo + ((hi - lo) / 2)))), (4, .int (iI (((i : Nat) : Int)))), (2, .int (iI (lo))), (0, .ref kh), (1, .int (iI (((sn : Nat) : Int))))]) hx hb dX4_counted_74 rfl hl (by decide) rfl (fun ls hl => ?_)
          refine lv_iinc (v := iI (((i : Nat) : Int) + 1)) (lv' := [(4, .int (iI (((i : Nat) : Int) + 1))), (3, .int (iI (lo + ((hi - lo) / 2)))), (5, .int (iI (lo + ((hi - lo) / 2)))), (2, .int (iI (lo))), (0, .ref kh), (1, .int (iI (((sn : Nat) : Int))))]) hx hb dX4_counted_75 hl (k := 2) rfl (by rw [show (((i : Nat) : Int) + 1 : Int) = ((i : Nat) : Int) + 1 from rfl]; exact iI_add _ _) (by decide) rfl (fun ls hl => ?_)
          refine lv_goto (tgt := 27) hx hb dX4_counted_78 (by decide) ?_
          have e1 : ((i : Nat) : Int) + 1 = ((i + 1 : Nat) : Int) := by omega
          rw [e1] at hl
          exact ih (i + 1) lo (lo + ((hi - lo) / 2)) (by omega) (by omega) (by omega) (by rw [hs, show 32 - i = (32 - (i + 1)) + 1 from by omega, ctI, if_neg (by omega)]; first | rw [if_pos (by omega)] | rw [if_neg (by omega)]) (by omega) _ _ _ hP hS (lv_sub hl [0, 1, 3, 4, 5] rfl)
        · refine lv_iload hx hb dX4_counted_64 (lv_at hl 0 rfl) ?_
          refine lv_iconst (v := iI (1)) hx hb dX4_counted_66 rfl ?_
          refine my_iadd (z := (lo + ((hi - lo) / 2)) + 1) hx hb dX4_counted_67 (rfl) ?_
          refine lv_istore_n (lv' := [(2, .int (iI ((lo + ((hi - lo) / 2)) + 1))), (5, .int (iI (lo + ((hi - lo) / 2)))), (4, .int (iI (((i : Nat) : Int)))), (3, .int (iI (hi))), (0, .ref kh), (1, .int (iI (((sn : Nat) : Int))))]) hx hb dX4_counted_68 rfl hl (by decide) rfl (fun ls hl => ?_)
          refine lv_goto (tgt := 75) hx hb dX4_counted_69 (by decide) ?_
          refine lv_iinc (v := iI (((i : Nat) : Int) + 1)) (lv' := [(4, .int (iI (((i : Nat) : Int) + 1))), (2, .int (iI ((lo + ((hi - lo) / 2)) + 1))), (5, .int (iI (lo + ((hi - lo) / 2)))), (3, .int (iI (hi))), (0, .ref kh), (1, .int (iI (((sn : Nat) : Int))))]) hx hb dX4_counted_75 hl (k := 2) rfl (by rw [show (((i : Nat) : Int) + 1 : Int) = ((i : Nat) : Int) + 1 from rfl]; exact iI_add _ _) (by decide) rfl (fun ls hl => ?_)
          refine lv_goto (tgt := 27) hx hb dX4_counted_78 (by decide) ?_
          have e1 : ((i : Nat) : Int) + 1 = ((i + 1 : Nat) : Int) := by omega
          rw [e1] at hl
          exact ih (i + 1) ((lo + ((hi - lo) / 2)) + 1) hi (by omega) (by omega) (by omega) (by rw [hs, show 32 - i = (32 - (i + 1)) + 1 from by omega, ctI, if_neg (by omega)]; first | rw [if_pos (by omega)] | rw [if_neg (by omega)]) (by omega) _ _ _ hP hS (lv_sub hl [0, 3, 1, 4, 5] rfl)

abbrev ws_X4_nextToGet : List Cond := Cond.code yX4_nextToGet cX4_nextToGet 8 (some .int) :: ALL
set_option maxHeartbeats 4000000 in
set_option maxRecDepth 100000 in
theorem m_X4_nextToGet (l : Launch) (D : va_G) (cs : Nat → ClassId) (kh ur ug : Nat) (rq gv : Nat → Int) (pn : Int) (hrq : ∀ j, 0 ≤ rq j ∧ rq j ≤ 1000000) (hgv : ∀ j, 0 ≤ gv j ∧ gv j ≤ 1000000) : Met l yX4_nextToGet ws_X4_nextToGet ({ frames := 0, cells := 0, slots := 0, locals := 0 }) (va_Pc [.ref kh] (PC D cs [(kh, .inr (4, [.ref ur, .ref ug, .int (iI (pn))])), (ur, arI cs 4 rq), (ug, arI cs 4 gv)])) (va_Qi (fun r (_ : Unit) => r = iI (ntI rq gv 4)) (fun _ _ => True) noA) 0 0 noA := by
  refine Met.ofW (cc := cX4_nextToGet) (maxL := 8) (ret := (some .int)) (by decide +kernel) rfl ?_
  intro p e s m args below meth c s₁ B hml hv
  obtain ⟨rfl, hP, hK, hD, hN⟩ := hv
  have hx := B.exec
  have hb := B.bytes
  have hr := B.returns
  have hts : ∀ w ∈ ALL, w.before _ s = true := fun w h => atoms_spec (ws := ws_X4_nextToGet) B.pre w (List.mem_cons_of_mem _ h)
  have hown : s.vm.findClass RX4 = some m.cls := findClass_of_methodNamed B.named
  have hlocks := B.notSynchronized
  have hS : va_S noA s.heap s.heap [] := va_S.rf
  generalize inW [(kh, .inr (4, [.ref ur, .ref ug, .int (iI (pn))])), (ur, arI cs 4 rq), (ug, arI cs 4 gv)] = A at hD
  have hl := lv_entry ([.ref kh]) (n := 8) (Nat.le_of_ble_eq_true rfl)
  rw [lg_entry_eq]
  generalize (lg_sl ([.ref kh]) ++ List.replicate (8 - (lg_sl ([.ref kh])).length) Slot.unset).toArray = ls at hl ⊢
  have hl : lv_has ls 8 [(0, .ref kh)] := hl
  have hH := rfl (a := s.heap)
  refine lv_iconst (v := iI (-1)) hx hb dX4_nextToGet_0 rfl ?_
  refine lv_istore_n (lv' := [(1, .int (iI (-1))), (0, .ref kh)]) hx hb dX4_nextToGet_1 rfl hl (by decide) rfl (fun ls hl => ?_)
  refine lv_lconst (v := lI 0) hx hb dX4_nextToGet_2 (by decide) ?_
  refine lv_lstore_n (lv' := [(2, .long (lI (0))), (1, .int (iI (-1))), (0, .ref kh)]) hx hb dX4_nextToGet_3 rfl hl (by decide) rfl (fun ls hl => ?_)
  refine lv_lconst (v := lI 1) hx hb dX4_nextToGet_4 (by decide) ?_
  refine lv_lstore (lv' := [(4, .long (lI (1))), (2, .long (lI (0))), (1, .int (iI (-1))), (0, .ref kh)]) hx hb dX4_nextToGet_5 hl (by decide) rfl (fun ls hl => ?_)
  refine lv_iconst (v := iI (0)) hx hb dX4_nextToGet_7 rfl ?_
  refine lv_istore (lv' := [(6, .int (iI (0))), (4, .long (lI (1))), (2, .long (lI (0))), (1, .int (iI (-1))), (0, .ref kh)]) hx hb dX4_nextToGet_8 hl (by decide) rfl (fun ls hl => ?_)
  suffices KL : ∀ (n : Nat) (i : Nat), i ≤ 4 → 4 - i < n → ∀ (H : Heap) (locs : List Loc) (ls : Array Slot), va_P D vwCl [(kh, .inr (4, [.ref ur, .ref ug, .int (iI (pn))])), (ur, arI cs 4 rq), (ug, arI cs 4 gv)] H → va_S noA s.heap H locs → lv_has ls 8 [(6, .int (iI (((i : Nat) : Int)))), (4, .long (lI (nrI rq (ntI rq gv i)))), (2, .long (lI (ngI gv (ntI rq gv i)))), (1, .int (iI (ntI rq gv i))), (0, .ref kh)] → W p l e _ s m _ below meth c H locs 0 0 _ (F0 m 10 ls []) from
    KL _ 0 (Nat.zero_le _) (Nat.lt_succ_self _) _ _ _ hP hS (lv_sub hl [0, 1, 2, 3, 4] rfl)
  intro n
  induction n with
  | zero => intro i hil h0; exact absurd h0 (Nat.not_lt_zero _)
  | succ n ih =>
    intro i hil hmu H locs ls hP hS hl
    have hri := hrq i
    have hgi := hgv i
    have hnt := ntI_rng rq gv i
    have hnr : 0 ≤ nrI rq (ntI rq gv i) ∧ nrI rq (ntI rq gv i) ≤ 1000000 := by unfold nrI; split; omega; exact hrq _
    have hng : 0 ≤ ngI gv (ntI rq gv i) ∧ ngI gv (ntI rq gv i) ≤ 1000000 := by unfold ngI; split; omega; exact hgv _
    have hm1 := mul_rng (a := gv i) (b := nrI rq (ntI rq gv i)) (A := 1000000) (B := 1000000) hgi.1 hgi.2 hnr.1 hnr.2
    have hm2 := mul_rng (a := ngI gv (ntI rq gv i)) (b := rq i) (A := 1000000) (B := 1000000) hng.1 hng.2 hri.1 hri.2
    refine lv_iload hx hb dX4_nextToGet_10 (lv_at hl 0 rfl) ?_
    refine lv_aload_n hx hb dX4_nextToGet_12 rfl (lv_at hl 4 rfl) ?_
    refine my_get hx hb hts inAX4 hown hK hP 0 rfl rfl 1 (by decide) w_60 rfl rfl dX4_nextToGet_13 ?_
    refine my_alenI hx hb hK hP 2 rfl dX4_nextToGet_16 ?_
    refine my_icmp_ge (tgt := 116) hx hb (by omega) dX4_nextToGet_17 (by decide) (fun bh1 => ?_) (fun bh1 => ?_)
    · refine lv_iload_n hx hb dX4_nextToGet_116 rfl (lv_at hl 3 rfl) ?_
      have hres : iI (ntI rq gv i) = iI (ntI rq gv 4) := congrArg iI (by
          have ei : i = 4 := by omega
          rw [ei])
      exact W.iret hx hb hr (fun t ht hW => ⟨⟨_, (), rfl, hres, trivial⟩, hS.F ht⟩) hS.2.2 dX4_nextToGet_117
    · refine lv_iload hx hb dX4_nextToGet_20 (lv_at hl 0 rfl) ?_
      refine lv_aload_n hx hb dX4_nextToGet_22 rfl (lv_at hl 4 rfl) ?_
      refine my_get hx hb hts inAX4 hown hK hP 0 rfl rfl 0 (by decide) w_59 rfl rfl dX4_nextToGet_23 ?_
      refine my_alenI hx hb hK hP 1 rfl dX4_nextToGet_26 ?_
      refine my_icmp_ge (tgt := 116) hx hb (by omega) dX4_nextToGet_27 (by decide) (fun bh2 => (by omega : False).elim) (fun bh2 => ?_)
      refine lv_aload_n hx hb dX4_nextToGet_30 rfl (lv_at hl 4 rfl) ?_
      refine my_get hx hb hts inAX4 hown hK hP 0 rfl rfl 1 (by decide) w_60 rfl rfl dX4_nextToGet_31 ?_
      refine lv_iload hx hb dX4_nextToGet_34 (lv_at hl 0 rfl) ?_
      refine my_iald hx hb hK hP 2 rfl (by omega) (k := i) (Int.toNat_natCast _) dX4_nextToGet_36 ?_
      refine lv_aload_n hx hb dX4_nextToGet_37 rfl (lv_at hl 4 rfl) ?_
      refine my_get hx hb hts inAX4 hown hK hP 0 rfl rfl 0 (by decide) w_59 rfl rfl dX4_nextToGet_38 ?_
      refine lv_iload hx hb dX4_nextToGet_41 (lv_at hl 0 rfl) ?_
      refine my_iald hx hb hK hP 1 rfl (by omega) (k := i) (Int.toNat_natCast _) dX4_nextToGet_43 ?_
      refine my_icmp_ge (tgt := 51) hx hb (by omega) dX4_nextToGet_44 (by decide) (fun bh3 => ?_) (fun bh3 => ?_)
      · refine lv_iconst (v := iI (0)) hx hb dX4_nextToGet_51 rfl ?_
        refine lv_istore (lv' := [(7, .int (iI (0))), (6, .int (iI (((i : Nat) : Int)))), (4, .long (lI (nrI rq (ntI rq gv i)))), (2, .long (lI (ngI gv (ntI rq gv i)))), (1, .int (iI (ntI rq gv i))), (0, .ref kh)]) hx hb dX4_nextToGet_52 hl (by decide) rfl (fun ls hl => ?_)
        refine lv_iload hx hb dX4_nextToGet_54 (lv_at hl 0 rfl) ?_
        refine my_if_eq (tgt := 110) hx hb (by omega) dX4_nextToGet_56 (by decide) (fun bh4 => ?_) (fun bh4 => (by omega : False).elim)
        refine lv_iinc (v := iI (((i : Nat) : Int) + 1)) (lv' := [(6, .int (iI (((i : Nat) : Int) + 1))), (7, .int (iI (0))), (4, .long (lI (nrI rq (ntI rq gv i)))), (2, .long (lI (ngI gv (ntI rq gv i)))), (1, .int (iI (ntI rq gv i))), (0, .ref kh)]) hx hb dX4_nextToGet_110 hl (k := 1) rfl (by rw [show (((i : Nat) : Int) + 1 : Int) = ((i : Nat) : Int) + 1 from rfl]; exact iI_add _ _) (by decide) rfl (fun ls hl => ?_)
        refine lv_goto (tgt := 10) hx hb dX4_nextToGet_113 (by decide) ?_
        have e1 : ((i : Nat) : Int) + 1 = ((i + 1 : Nat) : Int) := by omega
        rw [e1] at hl
        have e2 : ntI rq gv i = ntI rq gv (i + 1) := by rw [ntI, if_neg (by omega)]
        rw [e2] at hl
        exact ih (i + 1) (by omega) (by omega) _ _ _ hP hS (lv_sub hl [0, 2, 3, 4, 5] rfl)
      · refine lv_iconst (v := iI (1)) hx hb dX4_nextToGet_47 rfl ?_
        refine lv_goto (tgt := 52) hx hb dX4_nextToGet_48 (by decide) ?_
        refine lv_istore (lv' := [(7, .int (iI (1))), (6, .int (iI (((i : Nat) : Int)))), (4, .long (lI (nrI rq (ntI rq gv i)))), (2, .long (lI (ngI gv (ntI rq gv i)))), (1, .int (iI (ntI rq gv i))), (0, .ref kh)]) hx hb dX4_nextToGet_52 hl (by decide) rfl (fun ls hl => ?_)
        refine lv_iload hx hb dX4_nextToGet_54 (lv_at hl 0 rfl) ?_
        refine my_if_eq (tgt := 110) hx hb (by omega) dX4_nextToGet_56 (by decide) (fun bh5 => (by omega : False).elim) (fun bh5 => ?_)
        refine lv_iload_n hx hb dX4_nextToGet_59 rfl (lv_at hl 4 rfl) ?_
        refine my_if_lt (tgt := 88) hx hb (by omega) dX4_nextToGet_60 (by decide) (fun bh6 => ?_) (fun bh6 => ?_)
        · refine lv_iload hx hb dX4_nextToGet_88 (lv_at hl 1 rfl) ?_
          refine lv_istore_n (lv' := [(1, .int (iI (((i : Nat) : Int)))), (7, .int (iI (1))), (6, .int (iI (((i : Nat) : Int)))), (4, .long (lI (nrI rq (ntI rq gv i)))), (2, .long (lI (ngI gv (ntI rq gv i)))), (0, .ref kh)]) hx hb dX4_nextToGet_90 rfl hl (by decide) rfl (fun ls hl => ?_)
          refine lv_aload_n hx hb dX4_nextToGet_91 rfl (lv_at hl 5 rfl) ?_
          refine my_get hx hb hts inAX4 hown hK hP 0 rfl rfl 1 (by decide) w_60 rfl rfl dX4_nextToGet_92 ?_
          refine lv_iload hx hb dX4_nextToGet_95 (lv_at hl 2 rfl) ?_
          refine my_iald hx hb hK hP 2 rfl (by omega) (k := i) (Int.toNat_natCast _) dX4_nextToGet_97 ?_
          refine my_i2l hx hb dX4_nextToGet_98 (by omega) ?_
          refine lv_lstore_n (lv' := [(2, .long (lI (gv i))), (1, .int (iI (((i : Nat) : Int)))), (7, .int (iI (1))), (6, .int (iI (((i : Nat) : Int)))), (4, .long (lI (nrI rq (ntI rq gv i)))), (0, .ref kh)]) hx hb dX4_nextToGet_99 rfl hl (by decide) rfl (fun ls hl => ?_)
          refine lv_aload_n hx hb dX4_nextToGet_100 rfl (lv_at hl 5 rfl) ?_
          refine my_get hx hb hts inAX4 hown hK hP 0 rfl rfl 0 (by decide) w_59 rfl rfl dX4_nextToGet_101 ?_
          refine lv_iload hx hb dX4_nextToGet_104 (lv_at hl 3 rfl) ?_
          refine my_iald hx hb hK hP 1 rfl (by omega) (k := i) (Int.toNat_natCast _) dX4_nextToGet_106 ?_
          refine my_i2l hx hb dX4_nextToGet_107 (by omega) ?_
          refine lv_lstore (lv' := [(4, .long (lI (rq i))), (2, .long (lI (gv i))), (1, .int (iI (((i : Nat) : Int)))), (7, .int (iI (1))), (6, .int (iI (((i : Nat) : Int)))), (0, .ref kh)]) hx hb dX4_nextToGet_108 hl (by decide) rfl (fun ls hl => ?_)
          refine lv_iinc (v := iI (((i : Nat) : Int) + 1)) (lv' := [(6, .int (iI (((i : Nat) : Int) + 1))), (4, .long (lI (rq i))), (2, .long (lI (gv i))), (1, .int (iI (((i : Nat) : Int)))), (7, .int (iI (1))), (0, .ref kh)]) hx hb dX4_nextToGet_110 hl (k := 4) rfl (by rw [show (((i : Nat) : Int) + 1 : Int) = ((i : Nat) : Int) + 1 from rfl]; exact iI_add _ _) (by decide) rfl (fun ls hl => ?_)
          refine lv_goto (tgt := 10) hx hb dX4_nextToGet_113 (by decide) ?_
          have e1 : ((i : Nat) : Int) + 1 = ((i + 1 : Nat) : Int) := by omega
          rw [e1] at hl
          have e2 : ntI rq gv (i + 1) = ((i : Nat) : Int) := by rw [ntI, if_pos (by omega)]
          have e3 : ngI gv (ntI rq gv (i + 1)) = gv i := by rw [e2]; unfold ngI; rw [if_neg (by omega), Int.toNat_natCast]
          have e4 : nrI rq (ntI rq gv (i + 1)) = rq i := by rw [e2]; unfold nrI; rw [if_neg (by omega), Int.toNat_natCast]
          exact ih (i + 1) (by omega) (by omega) _ _ _ hP hS (lv_sub hl [0, 1, 2, 3, 5] (by rw [e3, e4, e2]; rfl))
        · refine lv_aload_n hx hb dX4_nextToGet_63 rfl (lv_at hl 5 rfl) ?_
          refine my_get hx hb hts inAX4 hown hK hP 0 rfl rfl 1 (by decide) w_60 rfl rfl dX4_nextToGet_64 ?_
          refine lv_iload hx hb dX4_nextToGet_67 (lv_at hl 1 rfl) ?_
          refine my_iald hx hb hK hP 2 rfl (by omega) (k := i) (Int.toNat_natCast _) dX4_nextToGet_69 ?_
          refine my_i2l hx hb dX4_nextToGet_70 (by omega) ?_
          refine lv_lload hx hb dX4_nextToGet_71 (lv_at hl 2 rfl) ?_
          refine my_lmul (z := (gv i) * (nrI rq (ntI rq gv i))) hx hb dX4_nextToGet_73 (rfl) ?_
          refine lv_lload_n hx hb dX4_nextToGet_74 rfl (lv_at hl 3 rfl) ?_
          refine lv_aload_n hx hb dX4_nextToGet_75 rfl (lv_at hl 5 rfl) ?_
          refine my_get hx hb hts inAX4 hown hK hP 0 rfl rfl 0 (by decide) w_59 rfl rfl dX4_nextToGet_76 ?_
          refine lv_iload hx hb dX4_nextToGet_79 (lv_at hl 1 rfl) ?_
          refine my_iald hx hb hK hP 1 rfl (by omega) (k := i) (Int.toNat_natCast _) dX4_nextToGet_81 ?_
          refine my_i2l hx hb dX4_nextToGet_82 (by omega) ?_
          refine my_lmul (z := (ngI gv (ntI rq gv i)) * (rq i)) hx hb dX4_nextToGet_83 (rfl) ?_
          refine my_lcmp_ge (tgt := 110) hx hb (by omega) dX4_nextToGet_84 dX4_nextToGet_85 (by decide) (fun bh7 => ?_) (fun bh7 => ?_)
          · refine lv_iinc (v := iI (((i : Nat) : Int) + 1)) (lv' := [(6, .int (iI (((i : Nat) : Int) + 1))), (7, .int (iI (1))), (4, .long (lI (nrI rq (ntI rq gv i)))), (2, .long (lI (ngI gv (ntI rq gv i)))), (1, .int (iI (ntI rq gv i))), (0, .ref kh)]) hx hb dX4_nextToGet_110 hl (k := 1) rfl (by rw [show (((i : Nat) : Int) + 1 : Int) = ((i : Nat) : Int) + 1 from rfl]; exact iI_add _ _) (by decide) rfl (fun ls hl => ?_)
            refine lv_goto (tgt := 10) hx hb dX4_nextToGet_113 (by decide) ?_
            have e1 : ((i : Nat) : Int) + 1 = ((i + 1 : Nat) : Int) := by omega
            rw [e1] at hl
            have e2 : ntI rq gv i = ntI rq gv (i + 1) := by rw [ntI, if_neg (by omega)]
            rw [e2] at hl
            exact ih (i + 1) (by omega) (by omega) _ _ _ hP hS (lv_sub hl [0, 2, 3, 4, 5] rfl)
          · refine lv_iload hx hb dX4_nextToGet_88 (lv_at hl 1 rfl) ?_
            refine lv_istore_n (lv' := [(1, .int (iI (((i : Nat) : Int)))), (7, .int (iI (1))), (6, .int (iI (((i : Nat) : Int)))), (4, .long (lI (nrI rq (ntI rq gv i)))), (2, .long (lI (ngI gv (ntI rq gv i)))), (0, .ref kh)]) hx hb dX4_nextToGet_90 rfl hl (by decide) rfl (fun ls hl => ?_)
            refine lv_aload_n hx hb dX4_nextToGet_91 rfl (lv_at hl 5 rfl) ?_
            refine my_get hx hb hts inAX4 hown hK hP 0 rfl rfl 1 (by decide) w_60 rfl rfl dX4_nextToGet_92 ?_
            refine lv_iload hx hb dX4_nextToGet_95 (lv_at hl 2 rfl) ?_
            refine my_iald hx hb hK hP 2 rfl (by omega) (k := i) (Int.toNat_natCast _) dX4_nextToGet_97 ?_
            refine my_i2l hx hb dX4_nextToGet_98 (by omega) ?_
            refine lv_lstore_n (lv' := [(2, .long (lI (gv i))), (1, .int (iI (((i : Nat) : Int)))), (7, .int (iI (1))), (6, .int (iI (((i : Nat) : Int)))), (4, .long (lI (nrI rq (ntI rq gv i)))), (0, .ref kh)]) hx hb dX4_nextToGet_99 rfl hl (by decide) rfl (fun ls hl => ?_)
            refine lv_aload_n hx hb dX4_nextToGet_100 rfl (lv_at hl 5 rfl) ?_
            refine my_get hx hb hts inAX4 hown hK hP 0 rfl rfl 0 (by decide) w_59 rfl rfl dX4_nextToGet_101 ?_
            refine lv_iload hx hb dX4_nextToGet_104 (lv_at hl 3 rfl) ?_
            refine my_iald hx hb hK hP 1 rfl (by omega) (k := i) (Int.toNat_natCast _) dX4_nextToGet_106 ?_
            refine my_i2l hx hb dX4_nextToGet_107 (by omega) ?_
            refine lv_lstore (lv' := [(4, .long (lI (rq i))), (2, .long (lI (gv i))), (1, .int (iI (((i : Nat) : Int)))), (7, .int (iI (1))), (6, .int (iI (((i : Nat) : Int)))), (0, .ref kh)]) hx hb dX4_nextToGet_108 hl (by decide) rfl (fun ls hl => ?_)
            refine lv_iinc (v := iI (((i : Nat) : Int) + 1)) (lv' := [(6, .int (iI (((i : Nat) : Int) + 1))), (4, .long (lI (rq i))), (2, .long (lI (gv i))), (1, .int (iI (((i : Nat) : Int)))), (7, .int (iI (1))), (0, .ref kh)]) hx hb dX4_nextToGet_110 hl (k := 4) rfl (by rw [show (((i : Nat) : Int) + 1 : Int) = ((i : Nat) : Int) + 1 from rfl]; exact iI_add _ _) (by decide) rfl (fun ls hl => ?_)
            refine lv_goto (tgt := 10) hx hb dX4_nextToGet_113 (by decide) ?_
            have e1 : ((i : Nat) : Int) + 1 = ((i + 1 : Nat) : Int) := by omega
            rw [e1] at hl
            have e2 : ntI rq gv (i + 1) = ((i : Nat) : Int) := by rw [ntI, if_pos (by omega)]
            have e3 : ngI gv (ntI rq gv (i + 1)) = gv i := by rw [e2]; unfold ngI; rw [if_neg (by omega), Int.toNat_natCast]
            have e4 : nrI rq (ntI rq gv (i + 1)) = rq i := by rw [e2]; unfold nrI; rw [if_neg (by omega), Int.toNat_natCast]
            exact ih (i + 1) (by omega) (by omega) _ _ _ hP hS (lv_sub hl [0, 1, 2, 3, 5] (by rw [e3, e4, e2]; rfl))

abbrev ws_X4_handedOut : List Cond := Cond.code yX4_handedOut cX4_handedOut 4 (some .int) :: ALL
set_option maxHeartbeats 4000000 in
set_option maxRecDepth 100000 in
theorem m_X4_handedOut (l : Launch) (D : va_G) (cs : Nat → ClassId) (kh ur ug : Nat) (rq gv : Nat → Int) (pn : Int) (sn : Nat) (hsn : sn < 4) (hrq : ∀ j, 0 ≤ rq j ∧ rq j ≤ 1000000) (hpn : 0 ≤ pn ∧ pn ≤ 1000000) : Met l yX4_handedOut ws_X4_handedOut ({ frames := 1, cells := 0, slots := 0, locals := 27 }) (va_Pc [.ref kh, .int (iI (((sn : Nat) : Int)))] (PC D cs [(kh, .inr (4, [.ref ur, .ref ug, .int (iI (pn))])), (ur, arI cs 4 rq), (ug, arI cs 4 gv)])) (va_Qi (fun r (_ : Unit) => r = iI (grI rq pn.toNat sn)) (fun _ t => va_P D vwCl [(kh, .inr (4, [.ref ur, .ref ug, .int (iI (pn))])), (ur, arI cs 4 rq), (ug, arI cs 4 (grI rq pn.toNat))] t.heap) (inW [(kh, .inr (4, [.ref ur, .ref ug, .int (iI (pn))])), (ur, arI cs 4 rq), (ug, arI cs 4 gv)])) 0 0 (inW [(kh, .inr (4, [.ref ur, .ref ug, .int (iI (pn))])), (ur, arI cs 4 rq), (ug, arI cs 4 gv)]) := by
  refine Met.ofW (cc := cX4_handedOut) (maxL := 4) (ret := (some .int)) (by decide +kernel) rfl ?_
  intro p e s m args below meth c s₁ B hml hv
  obtain ⟨rfl, hP, hK, hD, hN⟩ := hv
  have hx := B.exec
  have hb := B.bytes
  have hr := B.returns
  have hts : ∀ w ∈ ALL, w.before _ s = true := fun w h => atoms_spec (ws := ws_X4_handedOut) B.pre w (List.mem_cons_of_mem _ h)
  have hown : s.vm.findClass RX4 = some m.cls := findClass_of_methodNamed B.named
  have hlocks := B.notSynchronized
  generalize hAe : inW [(kh, .inr (4, [.ref ur, .ref ug, .int (iI (pn))])), (ur, arI cs 4 rq), (ug, arI cs 4 gv)] = A at hD ⊢
  have hS : va_S A s.heap s.heap [] := va_S.rf
  have hl := lv_entry ([.ref kh, .int (iI (((sn : Nat) : Int)))]) (n := 4) (Nat.le_of_ble_eq_true rfl)
  rw [lg_entry_eq]
  generalize (lg_sl ([.ref kh, .int (iI (((sn : Nat) : Int)))]) ++ List.replicate (4 - (lg_sl ([.ref kh, .int (iI (((sn : Nat) : Int)))])).length) Slot.unset).toArray = ls at hl ⊢
  have hl : lv_has ls 4 [(0, .ref kh), (1, .int (iI (((sn : Nat) : Int))))] := hl
  have hH := rfl (a := s.heap)
  have hgr := grI_rng (fun j => (hrq j).1)
  have hgr2 : ∀ k j, 0 ≤ grI rq k j ∧ grI rq k j ≤ 1000000 := fun k j => by have h1 := hgr k j; have h2 := hrq j; omega
  refine lv_iconst (v := iI (0)) hx hb dX4_handedOut_0 rfl ?_
  refine lv_istore_n (lv' := [(2, .int (iI (0))), (0, .ref kh), (1, .int (iI (((sn : Nat) : Int))))]) hx hb dX4_handedOut_1 rfl hl (by decide) rfl (fun ls hl => ?_)
  suffices KL : ∀ (n : Nat) (i : Nat), i ≤ 4 → 4 - i < n → ∀ (H : Heap) (locs : List Loc) (ls : Array Slot), va_P D vwCl [(kh, .inr (4, [.ref ur, .ref ug, .int (iI (pn))])), (ur, arI cs 4 rq), (ug, arI cs 4 (flI gv 0 i))] H → va_D A [(kh, .inr (4, [.ref ur, .ref ug, .int (iI (pn))])), (ur, arI cs 4 rq), (ug, arI cs 4 (flI gv 0 i))] → va_S A s.heap H locs → lv_has ls 4 [(2, .int (iI (((i : Nat) : Int)))), (0, .ref kh), (1, .int (iI (((sn : Nat) : Int))))] → W p l e _ s m _ below meth c H locs 0 0 _ (F0 m 2 ls []) from
    KL _ 0 (Nat.zero_le _) (Nat.lt_succ_self _) _ _ _ (by rw [flI_0]; exact hP) (by rw [flI_0]; exact hD) hS (lv_sub hl [0, 1, 2] rfl)
  intro n
  induction n with
  | zero => intro i hil h0; exact absurd h0 (Nat.not_lt_zero _)
  | succ n ih =>
    intro i hil hmu H locs ls hP hD hS hl
    refine lv_iload_n hx hb dX4_handedOut_2 rfl (lv_at hl 0 rfl) ?_
    refine lv_aload_n hx hb dX4_handedOut_3 rfl (lv_at hl 1 rfl) ?_
    refine my_get hx hb hts inAX4 hown hK hP 0 rfl rfl 1 (by decide) w_60 rfl rfl dX4_handedOut_4 ?_
    refine my_alenI hx hb hK hP 2 rfl dX4_handedOut_7 ?_
    refine my_icmp_ge (tgt := 24) hx hb (by omega) dX4_handedOut_8 (by decide) (fun bh1 => ?_) (fun bh1 => ?_)
    · have hD := D_arI hD (k := 2) (g := grI rq 0) rfl
      have hP := P_arI hP (k := 2) (g := grI rq 0) rfl (fun j hj => by simp only [flI, grI]; rw [if_pos (by omega)])
      have hP : va_P D vwCl [(kh, .inr (4, [.ref ur, .ref ug, .int (iI (pn))])), (ur, arI cs 4 rq), (ug, arI cs 4 (grI rq 0))] H := hP
      have hD : va_D A [(kh, .inr (4, [.ref ur, .ref ug, .int (iI (pn))])), (ur, arI cs 4 rq), (ug, arI cs 4 (grI rq 0))] := hD
      refine lv_aload_n hx hb dX4_handedOut_24 rfl (lv_at hl 1 rfl) ?_
      have pk2 : picks [(kh, .inr (4, [.ref ur, .ref ug, .int (iI (pn))])), (ur, arI cs 4 rq), (ug, arI cs 4 (grI rq 0))] [0, 1, 2] [(kh, .inr (4, [.ref ur, .ref ug, .int (iI (pn))])), (ur, arI cs 4 rq), (ug, arI cs 4 (grI rq 0))] := ⟨rfl, rfl, rfl, trivial⟩
      refine va_calli (va_runV (As := []) (rest := []) ⟨hx, hb, hml, hown, hts⟩ (m_X4_nextToGet l D cs kh ur ug rq (grI rq 0) pn (hrq) (by first | exact hgk | exact hgr2 _)) (cwV 0 hts (gV w_730 w_732 w_p15 w_4 w_733) rfl rfl rfl (by decide +kernel) ⟨Nat.le_of_ble_eq_true rfl, Nat.le_of_ble_eq_true rfl⟩) (PC_V hK hN hP hD [0, 1, 2] rfl pk2 rfl rfl) rfl rfl hl.1 rfl (lv_room (Nat.le_of_ble_eq_true rfl)) dX4_handedOut_25 ⟨Nat.le_of_ble_eq_true rfl, Nat.le_of_ble_eq_true rfl⟩) hS (fun _ _ h => False.elim h) (fun _ h => False.elim h) (fun r u t H locs ht hvm hw hB hz1 hk1 hS => ?_)
      subst hw
      have hP := P_kept hP hk1
      refine lv_istore_n (lv' := [(2, .int (iI (ntI rq (grI rq 0) 4))), (0, .ref kh), (1, .int (iI (((sn : Nat) : Int))))]) hx hb dX4_handedOut_28 rfl hl (by decide) rfl (fun ls hl => ?_)
      refine lv_iconst (v := iI (0)) hx hb dX4_handedOut_29 rfl ?_
      refine lv_istore_n (lv' := [(3, .int (iI (0))), (2, .int (iI (ntI rq (grI rq 0) 4))), (0, .ref kh), (1, .int (iI (((sn : Nat) : Int))))]) hx hb dX4_handedOut_30 rfl hl (by decide) rfl (fun ls hl => ?_)
      suffices KL1 : ∀ (n1 : Nat) (k : Nat), (k : Int) ≤ pn → pn.toNat - k < n1 → ∀ (H : Heap) (locs : List Loc) (ls : Array Slot), va_P D vwCl [(kh, .inr (4, [.ref ur, .ref ug, .int (iI (pn))])), (ur, arI cs 4 rq), (ug, arI cs 4 (grI rq k))] H → va_D A [(kh, .inr (4, [.ref ur, .ref ug, .int (iI (pn))])), (ur, arI cs 4 rq), (ug, arI cs 4 (grI rq k))] → va_S A s.heap H locs → lv_has ls 4 [(3, .int (iI (((k : Nat) : Int)))), (2, .int (iI (ntI rq (grI rq k) 4))), (0, .ref kh), (1, .int (iI (((sn : Nat) : Int))))] → W p l e _ s m _ below meth c H locs 0 0 _ (F0 m 31 ls []) from
        KL1 _ 0 (by omega) (Nat.lt_succ_self _) _ _ _ hP hD hS (lv_sub hl [0, 1, 2, 3] rfl)
      intro n1
      induction n1 with
      | zero => intro k hkl h0; exact absurd h0 (Nat.not_lt_zero _)
      | succ n1 ih1 =>
        intro k hkl hmu1 H locs ls hP hD hS hl
        have hnt := ntI_rng rq (grI rq k) 4
        have hgk := hgr2 k
        refine lv_iload_n hx hb dX4_handedOut_31 rfl (lv_at hl 0 rfl) ?_
        refine lv_aload_n hx hb dX4_handedOut_32 rfl (lv_at hl 2 rfl) ?_
        refine my_get hx hb hts inAX4 hown hK hP 0 rfl rfl 2 (by decide) w_61 rfl rfl dX4_handedOut_33 ?_
        refine my_icmp_ge (tgt := 73) hx hb (by omega) dX4_handedOut_36 (by decide) (fun bh3 => ?_) (fun bh3 => ?_)
        · have e6 : grI rq k = grI rq pn.toNat := by
            by_cases h9 : k = pn.toNat
            · rw [h9]
            · rw [show pn.toNat = k + (pn.toNat - k) from by omega, grI_stop (by omega)]
          rw [e6] at hP hD
          refine lv_iload_n hx hb dX4_handedOut_73 rfl (lv_at hl 3 rfl) ?_
          refine my_if_lt (tgt := 95) hx hb (by omega) dX4_handedOut_74 (by decide) (fun bh4 => (by omega : False).elim) (fun bh4 => ?_)
          refine lv_iload_n hx hb dX4_handedOut_77 rfl (lv_at hl 3 rfl) ?_
          refine lv_aload_n hx hb dX4_handedOut_78 rfl (lv_at hl 2 rfl) ?_
          refine my_get hx hb hts inAX4 hown hK hP 0 rfl rfl 1 (by decide) w_60 rfl rfl dX4_handedOut_79 ?_
          refine my_alenI hx hb hK hP 2 rfl dX4_handedOut_82 ?_
          refine my_icmp_ge (tgt := 95) hx hb (by omega) dX4_handedOut_83 (by decide) (fun bh5 => (by omega : False).elim) (fun bh5 => ?_)
          refine lv_aload_n hx hb dX4_handedOut_86 rfl (lv_at hl 2 rfl) ?_
          refine my_get hx hb hts inAX4 hown hK hP 0 rfl rfl 1 (by decide) w_60 rfl rfl dX4_handedOut_87 ?_
          refine lv_iload_n hx hb dX4_handedOut_90 rfl (lv_at hl 3 rfl) ?_
          refine my_iald hx hb hK hP 2 rfl (by omega) (k := sn) (Int.toNat_natCast _) dX4_handedOut_91 ?_
          refine lv_goto (tgt := 96) hx hb dX4_handedOut_92 (by decide) ?_
          subst hAe
          have hres : iI ((grI rq pn.toNat) sn) = iI (grI rq pn.toNat sn) := congrArg iI (by
              rfl)
          exact W.iret hx hb hr (fun t ht hW => ⟨⟨_, (), rfl, hres, by show va_P D vwCl _ t.heap; rw [ht]; exact hP⟩, hS.F ht⟩) hS.2.2 dX4_handedOut_96
        · refine lv_iload_n hx hb dX4_handedOut_39 rfl (lv_at hl 1 rfl) ?_
          refine my_if_lt (tgt := 73) hx hb (by omega) dX4_handedOut_40 (by decide) (fun bh6 => ?_) (fun bh6 => ?_)
          · have e6 : grI rq k = grI rq pn.toNat := by
              by_cases h9 : k = pn.toNat
              · rw [h9]
              · rw [show pn.toNat = k + (pn.toNat - k) from by omega, grI_stop (by omega)]
            rw [e6] at hP hD
            refine lv_iload_n hx hb dX4_handedOut_73 rfl (lv_at hl 3 rfl) ?_
            refine my_if_lt (tgt := 95) hx hb (by omega) dX4_handedOut_74 (by decide) (fun bh7 => (by omega : False).elim) (fun bh7 => ?_)
            refine lv_iload_n hx hb dX4_handedOut_77 rfl (lv_at hl 3 rfl) ?_
            refine lv_aload_n hx hb dX4_handedOut_78 rfl (lv_at hl 2 rfl) ?_
            refine my_get hx hb hts inAX4 hown hK hP 0 rfl rfl 1 (by decide) w_60 rfl rfl dX4_handedOut_79 ?_
            refine my_alenI hx hb hK hP 2 rfl dX4_handedOut_82 ?_
            refine my_icmp_ge (tgt := 95) hx hb (by omega) dX4_handedOut_83 (by decide) (fun bh8 => (by omega : False).elim) (fun bh8 => ?_)
            refine lv_aload_n hx hb dX4_handedOut_86 rfl (lv_at hl 2 rfl) ?_
            refine my_get hx hb hts inAX4 hown hK hP 0 rfl rfl 1 (by decide) w_60 rfl rfl dX4_handedOut_87 ?_
            refine lv_iload_n hx hb dX4_handedOut_90 rfl (lv_at hl 3 rfl) ?_
            refine my_iald hx hb hK hP 2 rfl (by omega) (k := sn) (Int.toNat_natCast _) dX4_handedOut_91 ?_
            refine lv_goto (tgt := 96) hx hb dX4_handedOut_92 (by decide) ?_
            subst hAe
            have hres : iI ((grI rq pn.toNat) sn) = iI (grI rq pn.toNat sn) := congrArg iI (by
                rfl)
            exact W.iret hx hb hr (fun t ht hW => ⟨⟨_, (), rfl, hres, by show va_P D vwCl _ t.heap; rw [ht]; exact hP⟩, hS.F ht⟩) hS.2.2 dX4_handedOut_96
          · refine lv_iload_n hx hb dX4_handedOut_43 rfl (lv_at hl 1 rfl) ?_
            refine lv_aload_n hx hb dX4_handedOut_44 rfl (lv_at hl 2 rfl) ?_
            refine my_get hx hb hts inAX4 hown hK hP 0 rfl rfl 1 (by decide) w_60 rfl rfl dX4_handedOut_45 ?_
            refine my_alenI hx hb hK hP 2 rfl dX4_handedOut_48 ?_
            refine my_icmp_ge (tgt := 73) hx hb (by omega) dX4_handedOut_49 (by decide) (fun bh9 => (by omega : False).elim) (fun bh9 => ?_)
            refine lv_aload_n hx hb dX4_handedOut_52 rfl (lv_at hl 2 rfl) ?_
            refine my_get hx hb hts inAX4 hown hK hP 0 rfl rfl 1 (by decide) w_60 rfl rfl dX4_handedOut_53 ?_
            refine lv_iload_n hx hb dX4_handedOut_56 rfl (lv_at hl 1 rfl) ?_
            refine lv_dup2_11 hx hb dX4_handedOut_57 rfl rfl ?_
            refine my_iald hx hb hK hP 2 rfl (by omega) (k := (ntI rq (grI rq k) 4).toNat) (rfl) dX4_handedOut_58 ?_
            refine lv_iconst (v := iI (1)) hx hb dX4_handedOut_59 rfl ?_
            refine my_iadd (z := ((grI rq k) ((ntI rq (grI rq k) 4).toNat)) + 1) hx hb dX4_handedOut_60 (rfl) ?_
            refine my_iast hx hb hK hP hD hS 2 rfl (by omega) (k := (ntI rq (grI rq k) 4).toNat) (rfl) dX4_handedOut_61 (fun H locs hP hD hS => ?_)
            have hP : va_P D vwCl [(kh, .inr (4, [.ref ur, .ref ug, .int (iI (pn))])), (ur, arI cs 4 rq), (ug, arI cs 4 (upI (grI rq k) ((ntI rq (grI rq k) 4).toNat) (((grI rq k) ((ntI rq (grI rq k) 4).toNat)) + 1)))] H := hP
            have hD : va_D A [(kh, .inr (4, [.ref ur, .ref ug, .int (iI (pn))])), (ur, arI cs 4 rq), (ug, arI cs 4 (upI (grI rq k) ((ntI rq (grI rq k) 4).toNat) (((grI rq k) ((ntI rq (grI rq k) 4).toNat)) + 1)))] := hD
            have e5 : upI (grI rq k) (ntI rq (grI rq k) 4).toNat (grI rq k (ntI rq (grI rq k) 4).toNat + 1) = grI rq (k + 1) := by rw [grI, if_neg (by omega)]
            rw [e5] at hP hD
            refine lv_aload_n hx hb dX4_handedOut_62 rfl (lv_at hl 2 rfl) ?_
            have pk10 : picks [(kh, .inr (4, [.ref ur, .ref ug, .int (iI (pn))])), (ur, arI cs 4 rq), (ug, arI cs 4 (grI rq (k + 1)))] [0, 1, 2] [(kh, .inr (4, [.ref ur, .ref ug, .int (iI (pn))])), (ur, arI cs 4 rq), (ug, arI cs 4 (grI rq (k + 1)))] := ⟨rfl, rfl, rfl, trivial⟩
            refine va_calli (va_runV (As := []) (rest := []) ⟨hx, hb, hml, hown, hts⟩ (m_X4_nextToGet l D cs kh ur ug rq (grI rq (k + 1)) pn (hrq) (by first | exact hgk | exact hgr2 _)) (cwV 0 hts (gV w_730 w_732 w_p15 w_4 w_733) rfl rfl rfl (by decide +kernel) ⟨Nat.le_of_ble_eq_true rfl, Nat.le_of_ble_eq_true rfl⟩) (PC_V hK hN hP hD [0, 1, 2] rfl pk10 rfl rfl) rfl rfl hl.1 rfl (lv_room (Nat.le_of_ble_eq_true rfl)) dX4_handedOut_63 ⟨Nat.le_of_ble_eq_true rfl, Nat.le_of_ble_eq_true rfl⟩) hS (fun _ _ h => False.elim h) (fun _ h => False.elim h) (fun r u t H locs ht hvm hw hB hz1 hk1 hS => ?_)
            subst hw
            have hP := P_kept hP hk1
            refine lv_istore_n (lv' := [(2, .int (iI (ntI rq (grI rq (k + 1)) 4))), (3, .int (iI (((k : Nat) : Int)))), (0, .ref kh), (1, .int (iI (((sn : Nat) : Int))))]) hx hb dX4_handedOut_66 rfl hl (by decide) rfl (fun ls hl => ?_)
            refine lv_iinc (v := iI (((k : Nat) : Int) + 1)) (lv' := [(3, .int (iI (((k : Nat) : Int) + 1))), (2, .int (iI (ntI rq (grI rq (k + 1)) 4))), (0, .ref kh), (1, .int (iI (((sn : Nat) : Int))))]) hx hb dX4_handedOut_67 hl (k := 1) rfl (by rw [show (((k : Nat) : Int) + 1 : Int) = ((k : Nat) : Int) + 1 from rfl]; exact iI_add _ _) (by decide) rfl (fun ls hl => ?_)
            refine lv_goto (tgt := 31) hx hb dX4_handedOut_70 (by decide) ?_
            have e1 : ((k : Nat) : Int) + 1 = ((k + 1 : Nat) : Int) := by omega
            rw [e1] at hl
            exact ih1 (k + 1) (by omega) (by omega) _ _ _ hP hD hS (lv_sub hl [0, 1, 2, 3] rfl)
    · refine lv_aload_n hx hb dX4_handedOut_11 rfl (lv_at hl 1 rfl) ?_
      refine my_get hx hb hts inAX4 hown hK hP 0 rfl rfl 1 (by decide) w_60 rfl rfl dX4_handedOut_12 ?_
      refine lv_iload_n hx hb dX4_handedOut_15 rfl (lv_at hl 0 rfl) ?_
      refine lv_iconst (v := iI (0)) hx hb dX4_handedOut_16 rfl ?_
      refine my_iast hx hb hK hP hD hS 2 rfl (by omega) (k := i) (Int.toNat_natCast _) dX4_handedOut_17 (fun H locs hP hD hS => ?_)
      have hP : va_P D vwCl [(kh, .inr (4, [.ref ur, .ref ug, .int (iI (pn))])), (ur, arI cs 4 rq), (ug, arI cs 4 (upI (flI gv 0 i) i 0))] H := hP
      have hD : va_D A [(kh, .inr (4, [.ref ur, .ref ug, .int (iI (pn))])), (ur, arI cs 4 rq), (ug, arI cs 4 (upI (flI gv 0 i) i 0))] := hD
      refine lv_iinc (v := iI (((i : Nat) : Int) + 1)) (lv' := [(2, .int (iI (((i : Nat) : Int) + 1))), (0, .ref kh), (1, .int (iI (((sn : Nat) : Int))))]) hx hb dX4_handedOut_18 hl (k := 0) rfl (by rw [show (((i : Nat) : Int) + 1 : Int) = ((i : Nat) : Int) + 1 from rfl]; exact iI_add _ _) (by decide) rfl (fun ls hl => ?_)
      refine lv_goto (tgt := 2) hx hb dX4_handedOut_21 (by decide) ?_
      have e1 : ((i : Nat) : Int) + 1 = ((i + 1 : Nat) : Int) := by omega
      rw [e1] at hl
      rw [flI_s] at hP hD
      exact ih (i + 1) (by omega) (by omega) _ _ _ hP hD hS (lv_sub hl [0, 1, 2] rfl)
end
section
/-! an exception whose own constructor calls its superclass's by another place than 7 of its pool (java.util.NoSuchElementException, place 13): xx_ctorMade and xx_newS are the starting texts vx_ctorMadeS and vx_makeS with the first link of the chain left open -/
def xx_atoms (own : String) (ic : Nat) (X : String) (ix : Nat) (rx : ByteArray) (Yn : String) (r : List String) : List Cond :=
  Bundle.throwableAtoms ++ Bundle.throwableSAtoms ++ Bundle.passSAtoms X Yn ix rx ++ Bundle.chainSAtoms Yn r ++
  [.methodLink own ic (Bundle.initS X), .instantiable X 6, .castable X X, .selects X Bundle.tFill0 Bundle.tFill0, .selects X Bundle.tFill Bundle.tFill,
   .lays X Bundle.tN "cause" "Ljava/lang/Throwable;", .lays X Bundle.tN "stackTrace" Bundle.steD, .lays X Bundle.tN "suppressedExceptions" Bundle.listD, .lays X Bundle.tN "detailMessage" "Ljava/lang/String;",
   .isRef (.static Bundle.tN "UNASSIGNED_STACK" Bundle.steD), .isRef (.static Bundle.tN "SUPPRESSED_SENTINEL" Bundle.listD),
   .fieldLink Bundle.tN 198 Bundle.tN "backtrace" "Ljava/lang/Object;", .lays Bundle.tN Bundle.tN "backtrace" "Ljava/lang/Object;", .lays X Bundle.tN "backtrace" "Ljava/lang/Object;"]
def xx_at (own : String) (ic : Nat) (X : String) (ix : Nat) (rx : ByteArray) (Yn : String) (r : List String) : List Cond := (xx_atoms own ic X ix rx Yn r).filter vx_no
theorem xx_chain {args : Array Value} {s : State} {pl : Platform} (hpl : pl.magicAccessors = ({} : Platform).magicAccessors) {top : MethodId} (htop : s.methodNamed? (Bundle.initS Bundle.tN) = some top) {cls Yn : String} {r : List String} {ix : Nat} {rx : ByteArray}
    (x0 : decode rx 0 = .ok (.aload_n 0, 1)) (x1 : decode rx 1 = .ok (.aload_n 1, 1)) (x2 : decode rx 2 = .ok (.invokespecial ix, 3)) (x5 : decode rx 5 = .ok (.return_, 1)) (hcls : Bundle.fit cls = true) (hn : ∀ n ∈ Yn :: r, Bundle.fit n = true)
    (h1 : ∀ c ∈ Bundle.passSAtoms cls Yn ix rx, c.before args s = true) (h2 : ∀ c ∈ Bundle.chainSAtoms Yn r, c.before args s = true) :
    ∃ (P1 : PassC) (Ps : List PassC), Ps.length = r.length + 1 ∧ P1.LinksS pl s ∧ (∀ P, P ∈ Ps → P.LinksS pl s) ∧ s.methodNamed? (Bundle.initS cls) = some P1.m ∧ P1.sup = firstOf top (Ps.map (·.toPassT)) ∧ PassesOn top (Ps.map (·.toPassT)) := by
  obtain ⟨P, hL, hm, hs⟩ := PassC.ofS_atoms (args := args) (s := s) hpl (X := cls) (Y := Yn) (Bundle.fit_spec hcls).1 (Bundle.fit_spec (hn Yn List.mem_cons_self)).2 x0 x1 x2 x5 h1
  obtain ⟨P', Ps, hlen, hL', hLs, hm', hsup, hpass⟩ := Bundle.chainS (args := args) hpl htop r Yn (hn Yn List.mem_cons_self) (fun n hn' => hn n (List.mem_cons_of_mem _ hn')) h2
  exact ⟨P, P' :: Ps, by simp [hlen], hL, fun Q hQ => (List.mem_cons.mp hQ).elim (fun e => e ▸ hL') (hLs Q), hm, Option.some.inj (hs.symm.trans hm'), hsup, hpass⟩
section XXA
variable {p : Program} {l : Launch} {e : Env} {R : Room} {s : State} {m₀ : MethodId} {args : Array Value} {below : List Frame} {meth : Method} {c : Code} {W : State} {locs : List Loc} {cells slots : Nat}
set_option maxHeartbeats 1000000 in
theorem xx_ctorMade (X : Stand p l e R s m₀ args below meth c W locs cells slots) (hexec : p.tables.exec = Jvm.exec) (htr : e.platform.stackTraces = false) {own cls Yn : String} {r : List String} {ic ix : Nat} {rx : ByteArray}
    (x0 : decode rx 0 = .ok (.aload_n 0, 1)) (x1 : decode rx 1 = .ok (.aload_n 1, 1)) (x2 : decode rx 2 = .ok (.invokespecial ix, 3)) (x5 : decode rx 5 = .ok (.return_, 1))
    (hown : s.vm.findClass own = some m₀.cls) (hcls : Bundle.fit cls = true) (hnames : ∀ n ∈ Yn :: r, Bundle.fit n = true)
    (h : ∀ a ∈ xx_atoms own ic cls ix rx Yn r, a.before args s = true)
    (hlocs : ∀ x ∈ locs, ∀ cell, s.heap[x.base]? = some cell → cell.vm.isStatics = false)
    {a : Addr} {cX : ClassId} {kX : Class} (hfoundX : s.vm.findClass cls = some cX) (hkX : s.vm.classes[cX]? = some kX) (hcell : W.heap[a]? = some (freshCell cX kX)) (hnew : s.heap.size ≤ a)
    {msg : Value} (hmsg : msg.isRef = true)
    {g : JFrame} (hg : g.method = m₀) (hsize : g.locals.size = c.maxLocals) {rest : List Value} (hstack : g.stack = msg :: .ref a :: .ref a :: rest)
    (hd6 : decode c.code g.pc = .ok (.invokespecial ic, 3))
    (hRframes : (r.length + 1) + 3 < R.frames) (hRlocals : 2 * g.monitorRoom + ((Value.ref a :: rest).map fun v => v.category).sum + (13 * ((r.length + 1) + 1) + 42) ≤ R.locals) :
    ∃ (V : State) (ce : Cell) (L : List Loc), Stand p l e R s m₀ args below meth c (V.setCell a ce) (locs ++ L) cells slots ∧ (∀ y ∈ L, y.base = a) ∧ a < V.heap.size ∧ ce.cls = cX ∧ ce.vm = .none ∧
      ∀ target, Steps p.tables e below ((V.setCell a ce).setTop { g with stack := .ref a :: rest, pc := g.pc + 3 }) target → Steps p.tables e below (W.setTop g) target := by
  have howns : e.platform.frameOwnsMonitors = true := by rw [X.admits.platform]
  have hfin : e.platform.finalization = false := by rw [X.admits.platform]
  have hpl : e.platform.magicAccessors = ({} : Platform).magicAccessors := by rw [X.admits.platform]
  have a' : ∀ x, x ∈ xx_atoms own ic cls ix rx Yn r → x.holds args s none s [] = true := fun x hx => h x hx
  obtain ⟨T, Z0, L, -, Y⟩ := ThrowableC.of_atoms (args := args) howns hfin hpl (fun x hx => h x (by simp [xx_atoms, hx]))
  obtain ⟨Z, M, LZ, LM, hnZ⟩ := Init0T.ofS_atoms (args := args) hpl L Y (fun x hx => h x (by simp [xx_atoms, hx]))
  obtain ⟨P1, Ps, hlen, L1, hL, hP1m, hlink1, hlink⟩ := xx_chain (args := args) hpl hnZ x0 x1 x2 x5 hcls hnames (fun x hx => h x (by simp [xx_atoms, hx])) (fun x hx => h x (by simp [xx_atoms, hx]))
  have hfound : s.vm.findClass cls = some P1.m.cls := findClass_of_methodNamed hP1m
  cases Option.some.inj (hfoundX.symm.trans hfound)
  obtain ⟨c1, kX', hc1, hk, hord, -, -, hn6⟩ := Cond.instantiable_spec (a' (.instantiable cls 6) (by simp [xx_atoms]))
  cases Option.some.inj (hc1.symm.trans hfound)
  cases Option.some.inj (hkX.symm.trans hk)
  have hsel0 : selectMethod e.platform s.vm P1.m.cls T.fill0 = .method T.fill0 := by
    obtain ⟨c2, r2, m2, q1, q2, q3, q4, -⟩ := Cond.selects_spec (a' (.selects cls Bundle.tFill0 Bundle.tFill0) (by simp [xx_atoms]))
    cases Option.some.inj (q1.symm.trans hfound)
    cases Option.some.inj (q2.symm.trans (State.methodFound?_of_named Y.fill0 (by decide)))
    cases Option.some.inj (q3.symm.trans Y.fill0)
    rw [Launch.admits_selectMethod X.admits]; exact q4
  have hselF : selectMethod e.platform s.vm P1.m.cls T.fill = .method T.fill := by
    obtain ⟨c2, r2, m2, q1, q2, q3, q4, -⟩ := Cond.selects_spec (a' (.selects cls Bundle.tFill Bundle.tFill) (by simp [xx_atoms]))
    cases Option.some.inj (q1.symm.trans hfound)
    cases Option.some.inj (q2.symm.trans (State.methodFound?_of_named Y.fill (by decide)))
    cases Option.some.inj (q3.symm.trans Y.fill)
    rw [Launch.admits_selectMethod X.admits]; exact q4
  obtain ⟨cellS0, hcS0, hiss⟩ := Y.statics
  obtain ⟨u0, hu0⟩ := Cond.staticRefV Y.unassigned L.unassignedStatic L.statics hcS0 hiss (a' (.isRef (.static Bundle.tN "UNASSIGNED_STACK" Bundle.steD)) (by simp [xx_atoms]))
  obtain ⟨sen, hsen⟩ := Cond.staticRefV Y.sentinel L.sentinelStatic L.statics hcS0 hiss (a' (.isRef (.static Bundle.tN "SUPPRESSED_SENTINEL" Bundle.listD)) (by simp [xx_atoms]))
  obtain ⟨ci198, i198, fB, hk198, hg198, ha198, hsB, -, hnB, htB, hffB⟩ := Cond.ownField (t := .object "java/lang/Object") Y.found L.cls (by decide +kernel) (a' (.fieldLink Bundle.tN 198 Bundle.tN "backtrace" "Ljava/lang/Object;") (by simp [xx_atoms])) (a' (.lays Bundle.tN Bundle.tN "backtrace" "Ljava/lang/Object;") (by simp [xx_atoms])) e.platform hpl
  obtain ⟨cellS, hcS', heS, -, hkeep⟩ := X.same.2.2.2.2.2 T.aS cellS0 hcS0
  have hcellS : W.heap[T.aS]? = some cellS := hcS'
  have hout' : ∀ i, (⟨T.aS, i⟩ : Loc) ∉ locs := fun i hmem => by
    have := hlocs _ hmem cellS0 hcS0
    rw [hiss] at this; cases this
  have hknownS : cellS.vm ≠ .unknown := by
    rw [heS]; intro hu
    rw [show cellS0.vm = .unknown from hu] at hiss
    cases hiss
  have hneS : T.aS ≠ a := Nat.ne_of_lt (Nat.lt_of_lt_of_le (Array.getElem?_eq_some_iff.mp hcS0).1 hnew)
  obtain ⟨iM, hffM⟩ := Y.msg
  obtain ⟨tyC, dC, hdC, hdnC⟩ := Cond.laysAt hfound hk Y.cause (a' (.lays cls Bundle.tN "cause" "Ljava/lang/Throwable;") (by simp [xx_atoms]))
  obtain ⟨tyS, dS, hdS, hdnS⟩ := Cond.laysAt hfound hk Y.stack (a' (.lays cls Bundle.tN "stackTrace" Bundle.steD) (by simp [xx_atoms]))
  obtain ⟨tyP, dP, hdP, hdnP⟩ := Cond.laysAt hfound hk Y.supp (a' (.lays cls Bundle.tN "suppressedExceptions" Bundle.listD) (by simp [xx_atoms]))
  obtain ⟨tyM, dM, hdM, hdnM⟩ := Cond.laysAt hfound hk hffM (a' (.lays cls Bundle.tN "detailMessage" "Ljava/lang/String;") (by simp [xx_atoms]))
  obtain ⟨tyB, dB, hdB, hdnB⟩ := Cond.laysAt hfound hk hffB (a' (.lays cls Bundle.tN "backtrace" "Ljava/lang/Object;") (by simp [xx_atoms]))
  have bC := Cond.laysApart hdB hdC hdnB hdnC (by rw [hnB, Y.causeName]; decide)
  have bS := Cond.laysApart hdB hdS hdnB hdnS (by rw [hnB, Y.stackName]; decide)
  have bP := Cond.laysApart hdB hdP hdnB hdnP (by rw [hnB, Y.suppName]; decide)
  have hskip : SkipFacts T e.platform s (fun u => u) u0 ((preparedCellV T.toThrowableT (freshCell P1.m.cls kX) a u0 sen).withEntry W.cur) :=
    ⟨{ ci198 := ci198, i198 := i198, fBack := fB }, ⟨hk198, hg198, ha198, hsB⟩, by
      have := fresh_default (c := P1.m.cls) tyB
      rw [htB] at this
      simpa [preparedCellV, Cell.setSlot, Cell.withEntry, Array.getElem?_setIfInBounds, bC, bS, bP, bC.symm, bS.symm, bP.symm, defaultValue] using this, fun _ _ => rfl⟩
  obtain ⟨tm, methC, cdC, kC, vm₁, hnC, -, -, -, -, -, -, -, hW₁, st1⟩ := Steps.initColdS (tb := p.tables) (e := e) (below := below) (s := s) (U := W) X.here hexec X.warmed hpl hown (t := Bundle.initS cls) rfl rfl (Bundle.fit_spec hcls).2
    (a' (.methodLink own ic (Bundle.initS cls)) (by simp [xx_atoms])) (h (.instanceMethod (Bundle.initS cls)) (by simp [xx_atoms, Bundle.passSAtoms])) (bytes := rx) (maxL := 2) (h (.code (Bundle.initS cls) rx 2 none) (by simp [xx_atoms, Bundle.passSAtoms]))
    (f := g) hg (a := a) (msg := msg) (rest := .ref a :: rest) hstack hd6
  cases Option.some.inj (hnC.symm.trans hP1m)
  have X₁ := X.noted hW₁
  obtain ⟨vm₂, X₂, st2⟩ := X₁.ctorMessageOffV hexec (g := { g with stack := .ref a :: rest }) hg hsize T L Z LZ M LM (P1 :: Ps)
    (fun P hP => by rcases List.mem_cons.mp hP with rfl | hP; exact L1; exact hL P hP) ⟨hlink1, hlink⟩ (u0 := u0) (sen := sen) (self := a) hmsg (cell := freshCell P1.m.cls kX) (cellS := cellS)
    hcell (fun _ => by simp) (by simp) rfl rfl hsel0 hselF hcellS hneS hknownS (by rw [hkeep _ (hout' _)]; exact hu0) (by rw [hkeep _ (hout' _)]; exact hsen)
    (Takes.of_laid hk hord tyC (by rw [Y.causeType]; rfl)) (Takes.of_laid hk hord tyS (by rw [Y.stackType]; exact fits_refV_array _ u0)) (Takes.of_laid hk hord tyP (by rw [Y.suppType]; exact fits_refV_object _ sen))
    (Takes.of_laid hk hord tyM (by rw [Y.msgType]; exact fits_refV_object _ ⟨msg, hmsg⟩)) Y.objLocals hskip htr [] hd6
    (by simp only [List.length_cons, hlen]; omega) (by simp only [List.length_cons, hlen]; exact hRlocals)
  have hlt : a < ((W.setVm vm₁).setVm vm₂).heap.size := (Array.getElem?_eq_some_iff.mp hcell).1
  refine ⟨(W.setVm vm₁).setVm vm₂, _, _, X₂, fun y hy => ?_, hlt, rfl, rfl, fun target hwalk => st1 _ (fun acts => ?_)⟩
  · simp only [List.mem_cons, List.not_mem_nil, or_false] at hy
    rcases hy with rfl | rfl | rfl | rfl | rfl <;> rfl
  · rw [doInvoke_state]
    exact st2 _ hwalk
end XXA
theorem xx_own {args : Array Value} {s : State} {L : List Cond} (h1 : ∀ w ∈ L.filter vx_no, w.before args s = true) (hU : (Cond.isRef (.static Bundle.tN "UNASSIGNED_STACK" Bundle.steD)).before args s = true) (hN : (Cond.isRef (.static Bundle.tN "SUPPRESSED_SENTINEL" Bundle.listD)).before args s = true) (lU : (Cond.laysStatic Bundle.tN "UNASSIGNED_STACK" Bundle.steD).before args s = true) (lN : (Cond.laysStatic Bundle.tN "SUPPRESSED_SENTINEL" Bundle.listD).before args s = true) : ∀ w ∈ L, w.before args s = true := vx_own h1 hU hN lU lN
section XXB
variable {p : Program} {l : Launch} {e : Env} {R : Room} {s : State} {m : MethodId} {args : Array Value} {below : List Frame} {meth : Method} {c : Code} {H : Heap} {locs : List Loc} {cells slots : Nat} {Q : State → Prop}
variable {ls : Array Slot} {rest : List Value}
theorem vx_back9 {T S : State} {R' : Room} {k n : Nat} (X : Stand p l e R s m args below meth c T locs cells slots) (Y : Stand p l e R' ((T.setVm s.vm).setFrames (.invoking m args :: below)) m args below meth c T [] 0 0) (Z : Stand p l e R' ((T.setVm s.vm).setFrames (.invoking m args :: below)) m args below meth c S [] k n) :
    Stand p l e R s m args below meth c S locs (cells + k) (slots + n) := by
  have hW0 : s.WarmedH ((T.setVm s.vm).setFrames (.invoking m args :: below)).vm := State.WarmedH.refl s
  refine { admits := X.admits, cas := X.cas, clock := X.clock, frames := X.frames, room := X.room, hears := X.hears, method := X.method, code := X.code, here := Z.here, tail := Z.tail, warmed := State.WarmedH.trans hW0 Z.warmed, limits := Z.limits.trans (Y.limits.symm.trans X.limits), bytes := Z.bytes.trans (Y.bytes.symm.trans X.bytes), same := ?_ }
  obtain ⟨e1, e2⟩ := Z.same
  rw [State.setFrames_setFrames] at e1
  have h2 : (T.setVm s.vm).sameButNew (S.setVm s.vm) [] k n := ⟨e1, e2⟩
  have h3 := X.same.trans h2
  rw [List.append_nil] at h3
  exact h3
theorem vx_athrow {cc : ByteArray} {pc : Nat} (hexec : p.tables.exec = Jvm.exec) (hb : c.code = cc) {q : Addr} (hdg : decode cc pc = .ok (.athrow, 1)) (k : vx_W p l e R s m args below meth c H locs cells slots Q (F0 m pc ls rest) q) : W p l e R s m args below meth c H locs cells slots Q (F0 m pc ls (.ref q :: rest)) := by
  intro T hT X
  obtain ⟨t, st, hq⟩ := k T hT X
  refine ⟨t, ?_, hq⟩
  have hdg' : decode c.code pc = .ok (.athrow, 1) := by rw [hb]; exact hdg
  jvm_step X.here [X.here.top, hexec, hdg', athrow.wp_sem]
  exact st
theorem xx_newS {cc : ByteArray} {pc : Nat} (hexec : p.tables.exec = Jvm.exec) (hb : c.code = cc) (hl : l.stackTraces = false) {own cls text Yn : String} {r : List String} {ik is ic sa ix : Nat} {rx : ByteArray} {A : Nat → Prop}
    (x0 : decode rx 0 = .ok (.aload_n 0, 1)) (x1 : decode rx 1 = .ok (.aload_n 1, 1)) (x2 : decode rx 2 = .ok (.invokespecial ix, 3)) (x5 : decode rx 5 = .ok (.return_, 1))
    (hown : s.vm.findClass own = some m.cls) (hcls : Bundle.fit cls = true) (hnames : ∀ n ∈ Yn :: r, Bundle.fit n = true)
    (hk : (Cond.classLink own ik cls).before args s = true) (hini : (Cond.initialized cls).before args s = true) (hstr : vk_R own is text sa s) (hat : ∀ w ∈ xx_at own ic cls ix rx Yn r, w.before args s = true)
    (hgood : ∀ w ∈ Cond.classLink own ik cls :: Cond.initialized cls :: xx_at own ic cls ix rx Yn r, vx_ot w = true)
    (hU : vx_Zq Bundle.tN "UNASSIGNED_STACK" Bundle.steD A s s.heap) (hN : vx_Zq Bundle.tN "SUPPRESSED_SENTINEL" Bundle.listD A s s.heap) (hS : va_S A s.heap H locs) (hsize : ls.size = c.maxLocals)
    (d0 : decode cc pc = .ok (.new ik, 3)) (d3 : decode cc (pc + 3) = .ok (.dup, 1)) (d4 : decode cc (pc + 4) = .ok (.ldc is, 2)) (d6 : decode cc (pc + 6) = .ok (.invokespecial ic, 3))
    (hRframes : (r.length + 1) + 3 < R.frames) (hRlocals : (rest.map fun v => v.category).sum + (13 * ((r.length + 1) + 1) + 43) ≤ R.locals) (hRcells : cells + 1 ≤ R.cells) (hRslots : slots + 6 ≤ R.slots)
    (kk : ∀ (q : Nat) (ce : Cell) (H1 : Heap), H1[q]? = some ce → ce.vm = .none → s.vm.findClass cls = some ce.cls → H.size ≤ H1.size → (∀ a : Nat, a < H.size → H1[a]? = H[a]?) → va_S A s.heap H1 locs → W p l e R s m args below meth c H1 locs (cells + 1) (slots + 6) Q (F0 m (pc + 9) ls (.ref q :: rest))) :
    W p l e R s m args below meth c H locs cells slots Q (F0 m pc ls rest) := by
  intro T hT X
  subst hT
  have htr : e.platform.stackTraces = false := (show e.platform.stackTraces = l.stackTraces by rw [X.admits.platform]).trans hl
  have Y := vx_rebase X (R' := { frames := R.frames, locals := R.locals, cells := 1, slots := 6 }) (Nat.le_refl _) (Nat.le_refl _) hRcells hRslots
  obtain ⟨s', hA'⟩ : ∃ z, z = (T.setVm s.vm).setFrames (.invoking m args :: below) := ⟨_, rfl⟩
  rw [← hA'] at Y
  have hvm : s'.vm = s.vm := by rw [hA']; rfl
  have hhp : s'.heap = T.heap := by rw [hA']; rfl
  have hW0 : s.WarmedH s'.vm := by rw [hvm]; exact State.WarmedH.refl s
  have hat' : ∀ w ∈ xx_at own ic cls ix rx Yn r, w.before args s' = true := fun w hw => vx_ot_at hW0 hvm.symm (hgood w (List.mem_cons_of_mem _ (List.mem_cons_of_mem _ hw))) (hat w hw)
  have hk' : (Cond.classLink own ik cls).before args s' = true := vx_ot_at hW0 hvm.symm (hgood _ List.mem_cons_self) hk
  have hini' : (Cond.initialized cls).before args s' = true := vx_ot_at hW0 hvm.symm (hgood _ (List.mem_cons_of_mem _ List.mem_cons_self)) hini
  have hU' : vx_Zq Bundle.tN "UNASSIGNED_STACK" Bundle.steD A s' s'.heap := by rw [hhp]; exact vx_Zq.moved hW0.alike (hU.kept hS.2.1)
  have hN' : vx_Zq Bundle.tN "SUPPRESSED_SENTINEL" Bundle.listD A s' s'.heap := by rw [hhp]; exact vx_Zq.moved hW0.alike (hN.kept hS.2.1)
  have h : ∀ w ∈ xx_atoms own ic cls ix rx Yn r, w.before args s' = true := vx_own hat' (vx_isRefq hU'.1) (vx_isRefq hN'.1) hU'.2.word hN'.2.word
  have hown' : s'.vm.findClass own = some m.cls := by rw [hvm]; exact hown
  have hins : (Cond.instantiable cls 6).before args s' = true := h _ (by simp [xx_atoms])
  obtain ⟨vm₁, cX, kX, hfX, hkX, -, -, X₁, st1⟩ := Y.newCold hexec (own := own) (C := cls) (index := ik) (n := 6) hown' hk' hins hini'
    (g := F0 m pc ls rest) rfl (by rw [hb]; exact d0) (Nat.le_refl _) (Nat.le_refl _)
  generalize hT1 : (T.setVm vm₁).pushCell { cls := cX, slots := kX.instanceTypes.map defaultValue, vm := .none } = T1 at X₁ st1
  have hcat : (Value.ref T.heap.size).category = 1 := rfl
  have hcellA : T1.heap[T.heap.size]? = some (freshCell cX kX) := by rw [← hT1]; exact State.heap_pushCell_size _ _
  have d3' : decode c.code (pc + 3) = .ok (.dup, 1) := by rw [hb]; exact d3
  have d4' : decode c.code (pc + 4) = .ok (.ldc is, 2) := by rw [hb]; exact d4
  have hstr' : vk_R own is text sa s' := vk_R.warm hW0 hstr
  obtain ⟨V, ce, L, Z, hL, hlt, hcl9, hvm9, st⟩ := xx_ctorMade X₁ hexec htr (own := own) (cls := cls) (ic := ic) x0 x1 x2 x5 hown' hcls hnames h (fun x hx => nomatch hx) hfX hkX hcellA (by rw [hhp]; exact Nat.le_refl _) (msg := .ref sa) rfl
    (g := { method := m, pc := pc + 6, locals := ls, stack := .ref sa :: .ref T.heap.size :: .ref T.heap.size :: rest, locked := none }) rfl hsize (rest := rest) rfl
    (by rw [hb]; exact d6) hRframes (by simp only [List.map_cons, List.sum_cons, hcat]; omega)
  have Z0 := Stand.forget (locs := []) Z (fun y hy => by rw [hL y hy, hhp]; exact Nat.le_refl _)
  obtain ⟨f1, f2⟩ := vx_frame Z0.same
  rw [hhp] at f1 f2
  have hcid : s.vm.findClass cls = some ce.cls := by
    rw [hcl9, ← hvm]; exact hfX
  have hh : (V.setCell T.heap.size ce).heap[T.heap.size]? = some ce := heapAt_setCell_self (s := V) ce hlt
  subst hA'
  have X5 := vx_back9 X Y Z0
  have X6 : Stand p l e R s m args below meth c (V.setCell T.heap.size ce) locs (cells + 1) (slots + 6) := { X5 with same := X5.same.mono (by omega) (by omega) }
  obtain ⟨t, a1, b1⟩ := kk T.heap.size ce (V.setCell T.heap.size ce).heap hh hvm9 hcid f1 (fun q hq => f2 q hq (fun z hz => nomatch hz)) ⟨Nat.le_trans hS.1 f1, fun q h1 h2 => (f2 q (Nat.lt_of_lt_of_le h1 hS.1) (fun z hz => nomatch hz)).trans (hS.2.1 q h1 h2), hS.2.2⟩ _ rfl X6
  refine ⟨t, st1 _ ?_, b1⟩
  show Steps p.tables e below (T1.setTop { method := m, pc := pc + 3, locals := ls, stack := .ref T.heap.size :: rest, locked := none }) _
  jvm_step X₁.here [X₁.here.top, hexec, d3', Value.category]
  exact X₁.ldcString hexec (own := own) (text := text) (index := is) (a := sa) hown' hstr'.1 hstr'.2
    (g := { method := m, pc := pc + 4, locals := ls, stack := .ref T.heap.size :: .ref T.heap.size :: rest, locked := none }) rfl d4' _ (st _ a1)
theorem xx_newSW {cc : ByteArray} {pc : Nat} (hexec : p.tables.exec = Jvm.exec) (hb : c.code = cc) (hl : l.stackTraces = false) {own cls text Yn : String} {r : List String} {ik is ic sa ix : Nat} {rx : ByteArray} {A : Nat → Prop}
    (x0 : decode rx 0 = .ok (.aload_n 0, 1)) (x1 : decode rx 1 = .ok (.aload_n 1, 1)) (x2 : decode rx 2 = .ok (.invokespecial ix, 3)) (x5 : decode rx 5 = .ok (.return_, 1))
    (hown : s.vm.findClass own = some m.cls) (hcls : Bundle.fit cls = true) (hnames : ∀ n ∈ Yn :: r, Bundle.fit n = true)
    (hk : (Cond.classLink own ik cls).before args s = true) (hini : (Cond.initialized cls).before args s = true) (hstr : vk_R own is text sa s) (hat : ∀ w ∈ xx_at own ic cls ix rx Yn r, w.before args s = true)
    (hgood : ∀ w ∈ Cond.classLink own ik cls :: Cond.initialized cls :: xx_at own ic cls ix rx Yn r, vx_ot w = true)
    (hU : vx_Zq Bundle.tN "UNASSIGNED_STACK" Bundle.steD A s s.heap) (hN : vx_Zq Bundle.tN "SUPPRESSED_SENTINEL" Bundle.listD A s s.heap) (hS : va_S A s.heap H locs) (hsize : ls.size = c.maxLocals)
    (d0 : decode cc pc = .ok (.new ik, 3)) (d3 : decode cc (pc + 3) = .ok (.dup, 1)) (d4 : decode cc (pc + 4) = .ok (.ldc_w is, 3)) (d6 : decode cc (pc + 7) = .ok (.invokespecial ic, 3))
    (hRframes : (r.length + 1) + 3 < R.frames) (hRlocals : (rest.map fun v => v.category).sum + (13 * ((r.length + 1) + 1) + 43) ≤ R.locals) (hRcells : cells + 1 ≤ R.cells) (hRslots : slots + 6 ≤ R.slots)
    (kk : ∀ (q : Nat) (ce : Cell) (H1 : Heap), H1[q]? = some ce → ce.vm = .none → s.vm.findClass cls = some ce.cls → H.size ≤ H1.size → (∀ a : Nat, a < H.size → H1[a]? = H[a]?) → va_S A s.heap H1 locs → W p l e R s m args below meth c H1 locs (cells + 1) (slots + 6) Q (F0 m (pc + 10) ls (.ref q :: rest))) :
    W p l e R s m args below meth c H locs cells slots Q (F0 m pc ls rest) := by
  intro T hT X
  subst hT
  have htr : e.platform.stackTraces = false := (show e.platform.stackTraces = l.stackTraces by rw [X.admits.platform]).trans hl
  have Y := vx_rebase X (R' := { frames := R.frames, locals := R.locals, cells := 1, slots := 6 }) (Nat.le_refl _) (Nat.le_refl _) hRcells hRslots
  obtain ⟨s', hA'⟩ : ∃ z, z = (T.setVm s.vm).setFrames (.invoking m args :: below) := ⟨_, rfl⟩
  rw [← hA'] at Y
  have hvm : s'.vm = s.vm := by rw [hA']; rfl
  have hhp : s'.heap = T.heap := by rw [hA']; rfl
  have hW0 : s.WarmedH s'.vm := by rw [hvm]; exact State.WarmedH.refl s
  have hat' : ∀ w ∈ xx_at own ic cls ix rx Yn r, w.before args s' = true := fun w hw => vx_ot_at hW0 hvm.symm (hgood w (List.mem_cons_of_mem _ (List.mem_cons_of_mem _ hw))) (hat w hw)
  have hk' : (Cond.classLink own ik cls).before args s' = true := vx_ot_at hW0 hvm.symm (hgood _ List.mem_cons_self) hk
  have hini' : (Cond.initialized cls).before args s' = true := vx_ot_at hW0 hvm.symm (hgood _ (List.mem_cons_of_mem _ List.mem_cons_self)) hini
  have hU' : vx_Zq Bundle.tN "UNASSIGNED_STACK" Bundle.steD A s' s'.heap := by rw [hhp]; exact vx_Zq.moved hW0.alike (hU.kept hS.2.1)
  have hN' : vx_Zq Bundle.tN "SUPPRESSED_SENTINEL" Bundle.listD A s' s'.heap := by rw [hhp]; exact vx_Zq.moved hW0.alike (hN.kept hS.2.1)
  have h : ∀ w ∈ xx_atoms own ic cls ix rx Yn r, w.before args s' = true := vx_own hat' (vx_isRefq hU'.1) (vx_isRefq hN'.1) hU'.2.word hN'.2.word
  have hown' : s'.vm.findClass own = some m.cls := by rw [hvm]; exact hown
  have hins : (Cond.instantiable cls 6).before args s' = true := h _ (by simp [xx_atoms])
  obtain ⟨vm₁, cX, kX, hfX, hkX, -, -, X₁, st1⟩ := Y.newCold hexec (own := own) (C := cls) (index := ik) (n := 6) hown' hk' hins hini'
    (g := F0 m pc ls rest) rfl (by rw [hb]; exact d0) (Nat.le_refl _) (Nat.le_refl _)
  generalize hT1 : (T.setVm vm₁).pushCell { cls := cX, slots := kX.instanceTypes.map defaultValue, vm := .none } = T1 at X₁ st1
  have hcat : (Value.ref T.heap.size).category = 1 := rfl
  have hcellA : T1.heap[T.heap.size]? = some (freshCell cX kX) := by rw [← hT1]; exact State.heap_pushCell_size _ _
  have d3' : decode c.code (pc + 3) = .ok (.dup, 1) := by rw [hb]; exact d3
  have d4' : decode c.code (pc + 4) = .ok (.ldc_w is, 3) := by rw [hb]; exact d4
  have hstr' : vk_R own is text sa s' := vk_R.warm hW0 hstr
  obtain ⟨V, ce, L, Z, hL, hlt, hcl9, hvm9, st⟩ := xx_ctorMade X₁ hexec htr (own := own) (cls := cls) (ic := ic) x0 x1 x2 x5 hown' hcls hnames h (fun x hx => nomatch hx) hfX hkX hcellA (by rw [hhp]; exact Nat.le_refl _) (msg := .ref sa) rfl
    (g := { method := m, pc := pc + 7, locals := ls, stack := .ref sa :: .ref T.heap.size :: .ref T.heap.size :: rest, locked := none }) rfl hsize (rest := rest) rfl
    (by rw [hb]; exact d6) hRframes (by simp only [List.map_cons, List.sum_cons, hcat]; omega)
  have Z0 := Stand.forget (locs := []) Z (fun y hy => by rw [hL y hy, hhp]; exact Nat.le_refl _)
  obtain ⟨f1, f2⟩ := vx_frame Z0.same
  rw [hhp] at f1 f2
  have hcid : s.vm.findClass cls = some ce.cls := by
    rw [hcl9, ← hvm]; exact hfX
  have hh : (V.setCell T.heap.size ce).heap[T.heap.size]? = some ce := heapAt_setCell_self (s := V) ce hlt
  subst hA'
  have X5 := vx_back9 X Y Z0
  have X6 : Stand p l e R s m args below meth c (V.setCell T.heap.size ce) locs (cells + 1) (slots + 6) := { X5 with same := X5.same.mono (by omega) (by omega) }
  obtain ⟨t, a1, b1⟩ := kk T.heap.size ce (V.setCell T.heap.size ce).heap hh hvm9 hcid f1 (fun q hq => f2 q hq (fun z hz => nomatch hz)) ⟨Nat.le_trans hS.1 f1, fun q h1 h2 => (f2 q (Nat.lt_of_lt_of_le h1 hS.1) (fun z hz => nomatch hz)).trans (hS.2.1 q h1 h2), hS.2.2⟩ _ rfl X6
  refine ⟨t, st1 _ ?_, b1⟩
  show Steps p.tables e below (T1.setTop { method := m, pc := pc + 3, locals := ls, stack := .ref T.heap.size :: rest, locked := none }) _
  jvm_step X₁.here [X₁.here.top, hexec, d3', Value.category]
  exact X₁.ldcStringW hexec (own := own) (text := text) (index := is) (a := sa) hown' hstr'.1 hstr'.2
    (g := { method := m, pc := pc + 4, locals := ls, stack := .ref T.heap.size :: .ref T.heap.size :: rest, locked := none }) rfl d4' _ (st _ a1)
end XXB
section XXC
variable {p : Program} {l : Launch} {e : Env} {R : Room} {s : State} {m : MethodId} {args : Array Value} {below : List Frame} {meth : Method} {c : Code} {H : Heap} {locs : List Loc} {cells slots : Nat} {Q : State → Prop}
variable {mc ms : Nat} {free : Addr → Prop} {A0 A1 : Nat → Prop} {H0 : Heap} {a : Array Value} {pc : Nat} {ls : Array Slot} {st0 rest : List Value}
theorem vx_callq {S SX : Type} {post : Option Nat → S → Prop} {px : SX → Prop} {B : S → State → Prop} {BX : String → SX → State → Prop} {AX : Nat → Prop} (hr : vx_Run p l e R s m args below meth c H locs cells slots mc ms (F0 m pc ls st0) rest (va_Qq post B A1 a) (vx_X px BX AX) free) (hS : va_S A0 H0 H locs) (hA : ∀ q, q < H.size → A1 q → A0 q) (hf : ∀ q, free q → A0 q) (hAX : ∀ q, q < H.size → AX q → A0 q)
    (kx : ∀ (E : String) (ce : Cell) (q9 : Addr) (u : SX) (t : State) (H1 : Heap) (locs1 : List Loc), t.heap = H1 → s.vm.Alike t.vm → px u → BX E u t → H.size ≤ H1.size → (∀ q : Nat, q < H.size → ¬ AX q → H1[q]? = H[q]?) → va_S A0 H0 H1 locs1 → H1[q9]? = some ce → ce.vm = .none → s.vm.findClass E = some ce.cls → vx_W p l e R s m args below meth c H1 locs1 (cells + mc) (slots + ms) Q (F0 m pc ls rest) q9)
    (kk : ∀ (r : Option Nat) (u : S) (t : State) (H1 : Heap) (locs1 : List Loc), t.heap = H1 → s.vm.Alike t.vm → post r u → B u t → H.size ≤ H1.size → (∀ q : Nat, q < H.size → ¬ A1 q → H1[q]? = H[q]?) → va_S A0 H0 H1 locs1 → W p l e R s m args below meth c H1 locs1 (cells + mc) (slots + ms) Q (F0 m (pc + 3) ls (va_rf r :: rest))) : W p l e R s m args below meth c H locs cells slots Q (F0 m pc ls st0) := by
  intro T hT X
  rcases hr T hT X with ⟨v, st₀, t, T', L, h0, X', hL, e1, e2, ⟨⟨r, u, hv, hp, hb⟩, hF⟩, st⟩ | ⟨q, st₀, t, T', L, E, ce, h0, X', hL, e1, e2, ⟨u, hp, hb, hF⟩, hce, hcv, hcl, st⟩
  · cases hv
    obtain ⟨k1, k2, k3⟩ := vx_keep h0 e1 hS hA hf hL hF
    obtain ⟨t2, a1, b1⟩ := kk r u t T'.heap (locs ++ L) e1.symm (by rw [← e2]; exact X'.warmed.alike) hp hb k1 k2 k3 T' rfl X'
    exact ⟨t2, st t2 a1, b1⟩
  · obtain ⟨k1, k2, k3⟩ := vx_keep h0 e1 hS hAX hf hL hF
    obtain ⟨t2, a1, b1⟩ := kx E ce q u t T'.heap (locs ++ L) e1.symm (by rw [← e2]; exact X'.warmed.alike) hp hb k1 k2 k3 (by rw [e1]; exact hce) hcv hcl T' rfl X'
    exact ⟨t2, st.trans a1, b1⟩
end XXC
end
section
def strL : List (Nat × String) := [(73, "the lead time is not between 1 and 5"), (80, "there are 4 shops"), (83, "the pack size is not between 1 and 50"), (85, "the stock is not between 0 and 9999"), (87, "there are 5 items"), (100, "the stock is not between 0 and 999"), (103, "the level is not between 0 and 99999"), (109, "the shop carries the item"), (122, "the number is not between 1 and 9999"), (127, "the central stock would be greater than 99999"), (132, "the service is not between 1 and 100"), (134, "the level rate is not between 0 and 100"), (136, "the season rate is not between 0 and 100"), (138, "the day is before today, or greater than 999"), (150, "the day is not between 0 and 999"), (155, "the number is not between 1 and 99"), (165, "the demand today would be greater than 999"), (171, "today is the day 999"), (205, "the weekday is not between 0 and 6"), (210, "the day is before today, or greater than 1099"), (215, "the error is not between 0 and 20"), (235, "nothing is on its way"), (267, "no such shop"), (273, "no such item"), (278, "the shop does not carry the item")]
def decL : List MethodName := [⟨"java/lang/RuntimeException", "<init>", "(Ljava/lang/String;)V"⟩, ⟨"java/lang/Exception", "<init>", "(Ljava/lang/String;)V"⟩, ⟨"java/lang/Throwable", "<init>", "(Ljava/lang/String;)V"⟩]
def casL : List String := ["java/lang/IndexOutOfBoundsException", "java/util/NoSuchElementException", "java/lang/IllegalArgumentException", "java/lang/IllegalStateException", "java/lang/UnsupportedOperationException"]
def ncL : List (String × String) := [("java/lang/IllegalStateException", "java/lang/IllegalArgumentException"), ("java/lang/IndexOutOfBoundsException", "java/lang/IllegalArgumentException"), ("java/util/NoSuchElementException", "java/lang/IllegalArgumentException"), ("java/lang/UnsupportedOperationException", "java/lang/IllegalArgumentException"), ("java/lang/IllegalArgumentException", "java/lang/IllegalStateException"), ("java/lang/IndexOutOfBoundsException", "java/lang/IllegalStateException"), ("java/util/NoSuchElementException", "java/lang/IllegalStateException"), ("java/lang/UnsupportedOperationException", "java/lang/IllegalStateException"), ("java/lang/IllegalArgumentException", "java/lang/IndexOutOfBoundsException"), ("java/lang/IllegalStateException", "java/lang/IndexOutOfBoundsException"), ("java/util/NoSuchElementException", "java/lang/IndexOutOfBoundsException"), ("java/lang/UnsupportedOperationException", "java/lang/IndexOutOfBoundsException"), ("java/lang/IllegalArgumentException", "java/util/NoSuchElementException"), ("java/lang/IllegalStateException", "java/util/NoSuchElementException"), ("java/lang/IndexOutOfBoundsException", "java/util/NoSuchElementException"), ("java/lang/UnsupportedOperationException", "java/util/NoSuchElementException"), ("java/lang/IllegalArgumentException", "java/lang/UnsupportedOperationException"), ("java/lang/IllegalStateException", "java/lang/UnsupportedOperationException"), ("java/lang/IndexOutOfBoundsException", "java/lang/UnsupportedOperationException"), ("java/util/NoSuchElementException", "java/lang/UnsupportedOperationException")]
def evL : List Cond := decL.map (fun y => .declares y) ++ casL.map (fun c => .castable c c)
def exN : Nat → String
  | 1 => "java/lang/IndexOutOfBoundsException"
  | 2 => "java/util/NoSuchElementException"
  | 3 => "java/lang/IllegalArgumentException"
  | 4 => "java/lang/IllegalStateException"
  | _ => "java/lang/UnsupportedOperationException"
/-- what a throw needs of the state: two statics of Throwable that no writing touches, the texts, words on the exceptions' classes -/
def EV (A : Nat → Prop) (U : State) : Prop := vx_Zq Bundle.tN "UNASSIGNED_STACK" Bundle.steD A U U.heap ∧ vx_Zq Bundle.tN "SUPPRESSED_SENTINEL" Bundle.listD A U U.heap ∧ (∀ q ∈ strL, ∃ a, vk_R RX5 q.1 q.2 a U) ∧ (∀ y ∈ decL, va_Nw (.declares y) U) ∧ (∀ c ∈ casL, va_Nw (.castable c c) U) ∧ (∀ q ∈ ncL, va_Nc q.1 q.2 U)
/-- at a call: the callee may write less -/
theorem EV.call {A A1 : Nat → Prop} {s U : State} {H : Heap} {locs : List Loc} (hE : EV A s) (hS : va_S A s.heap H locs) (hA : ∀ q, A1 q → A q) (hU : U.heap = H) (hW : s.WarmedH U.vm) : EV A1 U := by
  obtain ⟨h1, h2, h3, h4, h5, h6⟩ := hE
  exact ⟨by rw [hU]; exact vx_Zq.moved hW.alike ((h1.kept hS.2.1).narrow hA), by rw [hU]; exact vx_Zq.moved hW.alike ((h2.kept hS.2.1).narrow hA), fun q hq => (h3 q hq).elim fun a h => ⟨a, vk_R.warm hW h⟩, fun y hy => va_Nw.warmD hW (h4 y hy), fun c hc => va_Nw.warmC hW (h5 c hc), fun q hq => va_Nc.moved hW.alike (h6 q hq)⟩
theorem EV.same {A : Nat → Prop} {u U : State} (hv : u.vm = U.vm) (hh : U.heap = u.heap) (hE : EV A u) : EV A U := by
  obtain ⟨h1, h2, h3, h4, h5, h6⟩ := hE
  have hal : u.vm.Alike U.vm := by rw [hv]; exact Vm.Alike.refl _
  exact ⟨by rw [hh]; exact vx_Zq.moved hal h1, by rw [hh]; exact vx_Zq.moved hal h2, fun q hq => (h3 q hq).elim fun a h => ⟨a, vk_R.same hv.symm h⟩, fun y hy => va_Nw.same rfl hv (h4 y hy), fun c hc => va_Nw.same rfl hv (h5 c hc), fun q hq => va_Nc.moved hal (h6 q hq)⟩
/-- a start that may throw -/
def PE (D : va_G) (cs : Nat → ClassId) (W : va_W) (A : Nat → Prop) : State → Prop := fun U => PC D cs W U ∧ EV A U
theorem PE_blind {D : va_G} {cs : Nat → ClassId} {W : va_W} {A : Nat → Prop} {av : List Value} : FrameBlind (va_Pc av (PE D cs W A)) := fun a U g mk q => by
  obtain ⟨q0, qC, qE⟩ := q
  exact ⟨q0, (PC_blind (av := av) a U g mk ⟨q0, qC⟩).2, EV.same (u := U) (U := U.calling g mk a) rfl rfl qE⟩
theorem PE_V {D : va_G} {cs : Nat → ClassId} {W ws : va_W} {s : State} {H : Heap} {b : Nat} {As : List Value} {C : String} {T : u_T} {N ci : Nat} {fs : List Value} {A A0 A1 : Nat → Prop} {locs : List Loc} (hK : KK D cs s) (hN : NN s) (hE : EV A s) (hS : va_S A s.heap H locs) (hA : ∀ q, A1 q → A q) (hP : va_P D vwCl ws H) (hD : va_D A0 ws) (is : List Nat) (hn : va_nd is = true) (hp : picks ws is W) (hw : W[0]? = some (b, .inr (ci, fs))) (hc : vwCl[ci]? = some (C, T, N)) : PreV s H C b (va_Pc (.ref b :: As) (PE D cs W A1)) As :=
  ⟨PE_blind, va_recv hK (P_pick hP is hp) hc hw, fun U hU hW => ⟨rfl, ⟨by rw [hU]; exact P_pick hP is hp, va_K.moved hW.alike hK, inW_D (D_pick hD is hn hp), hN.warm hW⟩, hE.call hS hA hU hW⟩⟩
theorem PE_S {D : va_G} {cs : Nat → ClassId} {W ws : va_W} {s : State} {H : Heap} {As : List Value} {A A0 A1 : Nat → Prop} {locs : List Loc} (hK : KK D cs s) (hN : NN s) (hE : EV A s) (hS : va_S A s.heap H locs) (hA : ∀ q, A1 q → A q) (hP : va_P D vwCl ws H) (hD : va_D A0 ws) (is : List Nat) (hn : va_nd is = true) (hp : picks ws is W) : PreS s H (va_Pc As (PE D cs W A1)) As :=
  ⟨PE_blind, fun U hU hW => ⟨rfl, ⟨by rw [hU]; exact P_pick hP is hp, va_K.moved hW.alike hK, inW_D (D_pick hD is hn hp), hN.warm hW⟩, hE.call hS hA hU hW⟩⟩
theorem rf_cat (r : Option Nat) : (va_rf r).category = 1 := by cases r <;> rfl
abbrev xr_1 : ByteArray := prog_13_method_2_code
set_option maxRecDepth 100000 in
theorem xq_1 : (xx_at RX5 269 "java/lang/IndexOutOfBoundsException" 7 xr_1 "java/lang/RuntimeException" ["java/lang/Exception"]).all (fun w => (goodWord w && decide (w ∈ lw_tbl)) || decide (w ∈ evL)) = true := by decide +kernel
set_option maxRecDepth 100000 in
theorem xo_1 : (xx_at RX5 269 "java/lang/IndexOutOfBoundsException" 7 xr_1 "java/lang/RuntimeException" ["java/lang/Exception"]).all vx_ot = true := by decide +kernel
abbrev xr_2 : ByteArray := prog_19_method_4_code
set_option maxRecDepth 100000 in
theorem xq_2 : (xx_at RX5 237 "java/util/NoSuchElementException" 13 xr_2 "java/lang/RuntimeException" ["java/lang/Exception"]).all (fun w => (goodWord w && decide (w ∈ lw_tbl)) || decide (w ∈ evL)) = true := by decide +kernel
set_option maxRecDepth 100000 in
theorem xo_2 : (xx_at RX5 237 "java/util/NoSuchElementException" 13 xr_2 "java/lang/RuntimeException" ["java/lang/Exception"]).all vx_ot = true := by decide +kernel
abbrev xr_3 : ByteArray := prog_11_method_2_code
set_option maxRecDepth 100000 in
theorem xq_3 : (xx_at RX5 75 "java/lang/IllegalArgumentException" 7 xr_3 "java/lang/RuntimeException" ["java/lang/Exception"]).all (fun w => (goodWord w && decide (w ∈ lw_tbl)) || decide (w ∈ evL)) = true := by decide +kernel
set_option maxRecDepth 100000 in
theorem xo_3 : (xx_at RX5 75 "java/lang/IllegalArgumentException" 7 xr_3 "java/lang/RuntimeException" ["java/lang/Exception"]).all vx_ot = true := by decide +kernel
abbrev xr_4 : ByteArray := prog_12_method_2_code
set_option maxRecDepth 100000 in
theorem xq_4 : (xx_at RX5 82 "java/lang/IllegalStateException" 7 xr_4 "java/lang/RuntimeException" ["java/lang/Exception"]).all (fun w => (goodWord w && decide (w ∈ lw_tbl)) || decide (w ∈ evL)) = true := by decide +kernel
set_option maxRecDepth 100000 in
theorem xo_4 : (xx_at RX5 82 "java/lang/IllegalStateException" 7 xr_4 "java/lang/RuntimeException" ["java/lang/Exception"]).all vx_ot = true := by decide +kernel
abbrev xr_5 : ByteArray := prog_18_method_2_code
set_option maxRecDepth 100000 in
theorem xq_5 : (xx_at RX5 167 "java/lang/UnsupportedOperationException" 7 xr_5 "java/lang/RuntimeException" ["java/lang/Exception"]).all (fun w => (goodWord w && decide (w ∈ lw_tbl)) || decide (w ∈ evL)) = true := by decide +kernel
set_option maxRecDepth 100000 in
theorem xo_5 : (xx_at RX5 167 "java/lang/UnsupportedOperationException" 7 xr_5 "java/lang/RuntimeException" ["java/lang/Exception"]).all vx_ot = true := by decide +kernel
theorem ev_ot : ∀ w ∈ evL, w.onTables = true := by decide +kernel
theorem EV.use {A : Nat → Prop} {s : State} {args : Array Value} (hE : EV A s) : ∀ w ∈ evL, w.before args s = true := by
  intro w hw
  have ho := ev_ot w hw
  rcases List.mem_append.mp hw with h | h
  · obtain ⟨y, hy, e⟩ := List.mem_map.mp h
    subst e
    exact va_Nw.use ho (hE.2.2.2.1 y hy)
  · obtain ⟨y, hy, e⟩ := List.mem_map.mp h
    subst e
    exact va_Nw.use ho (hE.2.2.2.2.1 y hy)
theorem xx_hat {A : Nat → Prop} {s : State} {args : Array Value} {L : List Cond} (hts : ∀ w ∈ ALL, w.before args s = true) (hE : EV A s) (h : L.all (fun w => (goodWord w && decide (w ∈ lw_tbl)) || decide (w ∈ evL)) = true) : ∀ w ∈ L, w.before args s = true := by
  intro w hw
  have h1 := List.all_eq_true.mp h w hw
  simp only [Bool.or_eq_true, Bool.and_eq_true, decide_eq_true_eq] at h1
  rcases h1 with h1 | h1
  · exact hts w (List.mem_filter.mpr ⟨h1.2, h1.1⟩)
  · exact hE.use w h1
theorem ot_cl (a : String) (k : Nat) (b : String) : vx_ot (.classLink a k b) = true := rfl
theorem ot_in (a : String) : vx_ot (.initialized a) = true := rfl
section MYT
variable {p : Program} {l : Launch} {e : Env} {R : Room} {s : State} {m : MethodId} {args : Array Value} {below : List Frame} {meth : Method} {c : Code} {H : Heap} {locs : List Loc} {cells slots : Nat} {ls : Array Slot} {rest : List Value} {cc : ByteArray} {pc : Nat} {free : Addr → Prop} {Qc : Array Value → State → Outcome → State → Prop} {XC : String → State → State → Prop}
theorem my_throw1 (hx : p.tables.exec = Jvm.exec) (hb : c.code = cc) (hl : l.stackTraces = false) {text : String} {ik is mc ms : Nat} {A : Nat → Prop} (hts : ∀ w ∈ ALL, w.before args s = true) (hown : s.vm.findClass RX5 = some m.cls) (hE : EV A s) (hS : va_S A s.heap H locs) (hml : c.maxLocals = ls.size) (hk : Cond.classLink RX5 ik "java/lang/IndexOutOfBoundsException" ∈ ALL) (hstr : (is, text) ∈ strL) (hnt : ∀ x ∈ c.exceptionTable.toList, False) (hlocks : meth.locks = false)
    (d0 : decode cc pc = .ok (.new ik, 3)) (d3 : decode cc (pc + 3) = .ok (.dup, 1)) (d4 : decode cc (pc + 4) = .ok (.ldc is, 2)) (d6 : decode cc (pc + 6) = .ok (.invokespecial 269, 3)) (d9 : decode cc (pc + 9) = .ok (.athrow, 1))
    (hRf : 5 < R.frames) (hRl : (rest.map fun v => v.category).sum + 82 ≤ R.locals) (hRc : cells + 1 ≤ R.cells) (hRs : slots + 6 ≤ R.slots)
    (hxc : ∀ (t : State) (H1 : Heap), t.heap = H1 → H.size ≤ H1.size → (∀ q : Nat, q < H.size → H1[q]? = H[q]?) → va_S A s.heap H1 locs → XC "java/lang/IndexOutOfBoundsException" s t) (hf : ∀ z ∈ locs, free z.base) (hc : cells + 1 ≤ mc) (hs : slots + 6 ≤ ms) :
    W p l e R s m args below meth c H locs cells slots (vx_MQ below Qc XC args s mc ms free) (F0 m pc ls rest) := by
  obtain ⟨sa, hsa⟩ := hE.2.2.1 _ hstr
  have hini : Cond.initialized "java/lang/IndexOutOfBoundsException" ∈ ALL := w_11
  refine xx_newS (x0 := (by decide +kernel : decode xr_1 0 = .ok (.aload_n 0, 1))) (x1 := (by decide +kernel : decode xr_1 1 = .ok (.aload_n 1, 1))) (x2 := (by decide +kernel : decode xr_1 2 = .ok (.invokespecial 7, 3))) (x5 := (by decide +kernel : decode xr_1 5 = .ok (.return_, 1))) hx hb hl (Yn := "java/lang/RuntimeException") (r := ["java/lang/Exception"]) hown (by decide +kernel) (by decide +kernel) (hts _ hk) (hts _ hini) hsa (xx_hat hts hE xq_1) (List.forall_mem_cons.mpr ⟨ot_cl _ _ _, List.forall_mem_cons.mpr ⟨ot_in _, List.all_eq_true.mp xo_1⟩⟩) hE.1 hE.2.1 hS hml.symm d0 d3 d4 d6 hRf hRl hRc hRs (fun q ce H1 hq hv hcl hz hk1 hS1 => ?_)
  refine vx_athrow hx hb d9 ?_
  exact vx_out (fun x hx => (hnt x hx).elim) hlocks hq hv hcl (fun t ht _ => hxc t H1 ht hz hk1 hS1) hf hc hs
end MYT
section MYT
variable {p : Program} {l : Launch} {e : Env} {R : Room} {s : State} {m : MethodId} {args : Array Value} {below : List Frame} {meth : Method} {c : Code} {H : Heap} {locs : List Loc} {cells slots : Nat} {ls : Array Slot} {rest : List Value} {cc : ByteArray} {pc : Nat} {free : Addr → Prop} {Qc : Array Value → State → Outcome → State → Prop} {XC : String → State → State → Prop}
theorem my_throwW1 (hx : p.tables.exec = Jvm.exec) (hb : c.code = cc) (hl : l.stackTraces = false) {text : String} {ik is mc ms : Nat} {A : Nat → Prop} (hts : ∀ w ∈ ALL, w.before args s = true) (hown : s.vm.findClass RX5 = some m.cls) (hE : EV A s) (hS : va_S A s.heap H locs) (hml : c.maxLocals = ls.size) (hk : Cond.classLink RX5 ik "java/lang/IndexOutOfBoundsException" ∈ ALL) (hstr : (is, text) ∈ strL) (hnt : ∀ x ∈ c.exceptionTable.toList, False) (hlocks : meth.locks = false)
    (d0 : decode cc pc = .ok (.new ik, 3)) (d3 : decode cc (pc + 3) = .ok (.dup, 1)) (d4 : decode cc (pc + 4) = .ok (.ldc_w is, 3)) (d6 : decode cc (pc + 7) = .ok (.invokespecial 269, 3)) (d9 : decode cc (pc + 10) = .ok (.athrow, 1))
    (hRf : 5 < R.frames) (hRl : (rest.map fun v => v.category).sum + 82 ≤ R.locals) (hRc : cells + 1 ≤ R.cells) (hRs : slots + 6 ≤ R.slots)
    (hxc : ∀ (t : State) (H1 : Heap), t.heap = H1 → H.size ≤ H1.size → (∀ q : Nat, q < H.size → H1[q]? = H[q]?) → va_S A s.heap H1 locs → XC "java/lang/IndexOutOfBoundsException" s t) (hf : ∀ z ∈ locs, free z.base) (hc : cells + 1 ≤ mc) (hs : slots + 6 ≤ ms) :
    W p l e R s m args below meth c H locs cells slots (vx_MQ below Qc XC args s mc ms free) (F0 m pc ls rest) := by
  obtain ⟨sa, hsa⟩ := hE.2.2.1 _ hstr
  have hini : Cond.initialized "java/lang/IndexOutOfBoundsException" ∈ ALL := w_11
  refine xx_newSW (x0 := (by decide +kernel : decode xr_1 0 = .ok (.aload_n 0, 1))) (x1 := (by decide +kernel : decode xr_1 1 = .ok (.aload_n 1, 1))) (x2 := (by decide +kernel : decode xr_1 2 = .ok (.invokespecial 7, 3))) (x5 := (by decide +kernel : decode xr_1 5 = .ok (.return_, 1))) hx hb hl (Yn := "java/lang/RuntimeException") (r := ["java/lang/Exception"]) hown (by decide +kernel) (by decide +kernel) (hts _ hk) (hts _ hini) hsa (xx_hat hts hE xq_1) (List.forall_mem_cons.mpr ⟨ot_cl _ _ _, List.forall_mem_cons.mpr ⟨ot_in _, List.all_eq_true.mp xo_1⟩⟩) hE.1 hE.2.1 hS hml.symm d0 d3 d4 d6 hRf hRl hRc hRs (fun q ce H1 hq hv hcl hz hk1 hS1 => ?_)
  refine vx_athrow hx hb d9 ?_
  exact vx_out (fun x hx => (hnt x hx).elim) hlocks hq hv hcl (fun t ht _ => hxc t H1 ht hz hk1 hS1) hf hc hs
end MYT
section MYT
variable {p : Program} {l : Launch} {e : Env} {R : Room} {s : State} {m : MethodId} {args : Array Value} {below : List Frame} {meth : Method} {c : Code} {H : Heap} {locs : List Loc} {cells slots : Nat} {ls : Array Slot} {rest : List Value} {cc : ByteArray} {pc : Nat} {free : Addr → Prop} {Qc : Array Value → State → Outcome → State → Prop} {XC : String → State → State → Prop}
theorem my_throw2 (hx : p.tables.exec = Jvm.exec) (hb : c.code = cc) (hl : l.stackTraces = false) {text : String} {ik is mc ms : Nat} {A : Nat → Prop} (hts : ∀ w ∈ ALL, w.before args s = true) (hown : s.vm.findClass RX5 = some m.cls) (hE : EV A s) (hS : va_S A s.heap H locs) (hml : c.maxLocals = ls.size) (hk : Cond.classLink RX5 ik "java/util/NoSuchElementException" ∈ ALL) (hstr : (is, text) ∈ strL) (hnt : ∀ x ∈ c.exceptionTable.toList, False) (hlocks : meth.locks = false)
    (d0 : decode cc pc = .ok (.new ik, 3)) (d3 : decode cc (pc + 3) = .ok (.dup, 1)) (d4 : decode cc (pc + 4) = .ok (.ldc is, 2)) (d6 : decode cc (pc + 6) = .ok (.invokespecial 237, 3)) (d9 : decode cc (pc + 9) = .ok (.athrow, 1))
    (hRf : 5 < R.frames) (hRl : (rest.map fun v => v.category).sum + 82 ≤ R.locals) (hRc : cells + 1 ≤ R.cells) (hRs : slots + 6 ≤ R.slots)
    (hxc : ∀ (t : State) (H1 : Heap), t.heap = H1 → H.size ≤ H1.size → (∀ q : Nat, q < H.size → H1[q]? = H[q]?) → va_S A s.heap H1 locs → XC "java/util/NoSuchElementException" s t) (hf : ∀ z ∈ locs, free z.base) (hc : cells + 1 ≤ mc) (hs : slots + 6 ≤ ms) :
    W p l e R s m args below meth c H locs cells slots (vx_MQ below Qc XC args s mc ms free) (F0 m pc ls rest) := by
  obtain ⟨sa, hsa⟩ := hE.2.2.1 _ hstr
  have hini : Cond.initialized "java/util/NoSuchElementException" ∈ ALL := w_12
  refine xx_newS (x0 := (by decide +kernel : decode xr_2 0 = .ok (.aload_n 0, 1))) (x1 := (by decide +kernel : decode xr_2 1 = .ok (.aload_n 1, 1))) (x2 := (by decide +kernel : decode xr_2 2 = .ok (.invokespecial 13, 3))) (x5 := (by decide +kernel : decode xr_2 5 = .ok (.return_, 1))) hx hb hl (Yn := "java/lang/RuntimeException") (r := ["java/lang/Exception"]) hown (by decide +kernel) (by decide +kernel) (hts _ hk) (hts _ hini) hsa (xx_hat hts hE xq_2) (List.forall_mem_cons.mpr ⟨ot_cl _ _ _, List.forall_mem_cons.mpr ⟨ot_in _, List.all_eq_true.mp xo_2⟩⟩) hE.1 hE.2.1 hS hml.symm d0 d3 d4 d6 hRf hRl hRc hRs (fun q ce H1 hq hv hcl hz hk1 hS1 => ?_)
  refine vx_athrow hx hb d9 ?_
  exact vx_out (fun x hx => (hnt x hx).elim) hlocks hq hv hcl (fun t ht _ => hxc t H1 ht hz hk1 hS1) hf hc hs
end MYT
section MYT
variable {p : Program} {l : Launch} {e : Env} {R : Room} {s : State} {m : MethodId} {args : Array Value} {below : List Frame} {meth : Method} {c : Code} {H : Heap} {locs : List Loc} {cells slots : Nat} {ls : Array Slot} {rest : List Value} {cc : ByteArray} {pc : Nat} {free : Addr → Prop} {Qc : Array Value → State → Outcome → State → Prop} {XC : String → State → State → Prop}
theorem my_throwW2 (hx : p.tables.exec = Jvm.exec) (hb : c.code = cc) (hl : l.stackTraces = false) {text : String} {ik is mc ms : Nat} {A : Nat → Prop} (hts : ∀ w ∈ ALL, w.before args s = true) (hown : s.vm.findClass RX5 = some m.cls) (hE : EV A s) (hS : va_S A s.heap H locs) (hml : c.maxLocals = ls.size) (hk : Cond.classLink RX5 ik "java/util/NoSuchElementException" ∈ ALL) (hstr : (is, text) ∈ strL) (hnt : ∀ x ∈ c.exceptionTable.toList, False) (hlocks : meth.locks = false)
    (d0 : decode cc pc = .ok (.new ik, 3)) (d3 : decode cc (pc + 3) = .ok (.dup, 1)) (d4 : decode cc (pc + 4) = .ok (.ldc_w is, 3)) (d6 : decode cc (pc + 7) = .ok (.invokespecial 237, 3)) (d9 : decode cc (pc + 10) = .ok (.athrow, 1))
    (hRf : 5 < R.frames) (hRl : (rest.map fun v => v.category).sum + 82 ≤ R.locals) (hRc : cells + 1 ≤ R.cells) (hRs : slots + 6 ≤ R.slots)
    (hxc : ∀ (t : State) (H1 : Heap), t.heap = H1 → H.size ≤ H1.size → (∀ q : Nat, q < H.size → H1[q]? = H[q]?) → va_S A s.heap H1 locs → XC "java/util/NoSuchElementException" s t) (hf : ∀ z ∈ locs, free z.base) (hc : cells + 1 ≤ mc) (hs : slots + 6 ≤ ms) :
    W p l e R s m args below meth c H locs cells slots (vx_MQ below Qc XC args s mc ms free) (F0 m pc ls rest) := by
  obtain ⟨sa, hsa⟩ := hE.2.2.1 _ hstr
  have hini : Cond.initialized "java/util/NoSuchElementException" ∈ ALL := w_12
  refine xx_newSW (x0 := (by decide +kernel : decode xr_2 0 = .ok (.aload_n 0, 1))) (x1 := (by decide +kernel : decode xr_2 1 = .ok (.aload_n 1, 1))) (x2 := (by decide +kernel : decode xr_2 2 = .ok (.invokespecial 13, 3))) (x5 := (by decide +kernel : decode xr_2 5 = .ok (.return_, 1))) hx hb hl (Yn := "java/lang/RuntimeException") (r := ["java/lang/Exception"]) hown (by decide +kernel) (by decide +kernel) (hts _ hk) (hts _ hini) hsa (xx_hat hts hE xq_2) (List.forall_mem_cons.mpr ⟨ot_cl _ _ _, List.forall_mem_cons.mpr ⟨ot_in _, List.all_eq_true.mp xo_2⟩⟩) hE.1 hE.2.1 hS hml.symm d0 d3 d4 d6 hRf hRl hRc hRs (fun q ce H1 hq hv hcl hz hk1 hS1 => ?_)
  refine vx_athrow hx hb d9 ?_
  exact vx_out (fun x hx => (hnt x hx).elim) hlocks hq hv hcl (fun t ht _ => hxc t H1 ht hz hk1 hS1) hf hc hs
end MYT
section MYT
variable {p : Program} {l : Launch} {e : Env} {R : Room} {s : State} {m : MethodId} {args : Array Value} {below : List Frame} {meth : Method} {c : Code} {H : Heap} {locs : List Loc} {cells slots : Nat} {ls : Array Slot} {rest : List Value} {cc : ByteArray} {pc : Nat} {free : Addr → Prop} {Qc : Array Value → State → Outcome → State → Prop} {XC : String → State → State → Prop}
theorem my_throw3 (hx : p.tables.exec = Jvm.exec) (hb : c.code = cc) (hl : l.stackTraces = false) {text : String} {ik is mc ms : Nat} {A : Nat → Prop} (hts : ∀ w ∈ ALL, w.before args s = true) (hown : s.vm.findClass RX5 = some m.cls) (hE : EV A s) (hS : va_S A s.heap H locs) (hml : c.maxLocals = ls.size) (hk : Cond.classLink RX5 ik "java/lang/IllegalArgumentException" ∈ ALL) (hstr : (is, text) ∈ strL) (hnt : ∀ x ∈ c.exceptionTable.toList, False) (hlocks : meth.locks = false)
    (d0 : decode cc pc = .ok (.new ik, 3)) (d3 : decode cc (pc + 3) = .ok (.dup, 1)) (d4 : decode cc (pc + 4) = .ok (.ldc is, 2)) (d6 : decode cc (pc + 6) = .ok (.invokespecial 75, 3)) (d9 : decode cc (pc + 9) = .ok (.athrow, 1))
    (hRf : 5 < R.frames) (hRl : (rest.map fun v => v.category).sum + 82 ≤ R.locals) (hRc : cells + 1 ≤ R.cells) (hRs : slots + 6 ≤ R.slots)
    (hxc : ∀ (t : State) (H1 : Heap), t.heap = H1 → H.size ≤ H1.size → (∀ q : Nat, q < H.size → H1[q]? = H[q]?) → va_S A s.heap H1 locs → XC "java/lang/IllegalArgumentException" s t) (hf : ∀ z ∈ locs, free z.base) (hc : cells + 1 ≤ mc) (hs : slots + 6 ≤ ms) :
    W p l e R s m args below meth c H locs cells slots (vx_MQ below Qc XC args s mc ms free) (F0 m pc ls rest) := by
  obtain ⟨sa, hsa⟩ := hE.2.2.1 _ hstr
  have hini : Cond.initialized "java/lang/IllegalArgumentException" ∈ ALL := w_8
  refine xx_newS (x0 := (by decide +kernel : decode xr_3 0 = .ok (.aload_n 0, 1))) (x1 := (by decide +kernel : decode xr_3 1 = .ok (.aload_n 1, 1))) (x2 := (by decide +kernel : decode xr_3 2 = .ok (.invokespecial 7, 3))) (x5 := (by decide +kernel : decode xr_3 5 = .ok (.return_, 1))) hx hb hl (Yn := "java/lang/RuntimeException") (r := ["java/lang/Exception"]) hown (by decide +kernel) (by decide +kernel) (hts _ hk) (hts _ hini) hsa (xx_hat hts hE xq_3) (List.forall_mem_cons.mpr ⟨ot_cl _ _ _, List.forall_mem_cons.mpr ⟨ot_in _, List.all_eq_true.mp xo_3⟩⟩) hE.1 hE.2.1 hS hml.symm d0 d3 d4 d6 hRf hRl hRc hRs (fun q ce H1 hq hv hcl hz hk1 hS1 => ?_)
  refine vx_athrow hx hb d9 ?_
  exact vx_out (fun x hx => (hnt x hx).elim) hlocks hq hv hcl (fun t ht _ => hxc t H1 ht hz hk1 hS1) hf hc hs
end MYT
section MYT
variable {p : Program} {l : Launch} {e : Env} {R : Room} {s : State} {m : MethodId} {args : Array Value} {below : List Frame} {meth : Method} {c : Code} {H : Heap} {locs : List Loc} {cells slots : Nat} {ls : Array Slot} {rest : List Value} {cc : ByteArray} {pc : Nat} {free : Addr → Prop} {Qc : Array Value → State → Outcome → State → Prop} {XC : String → State → State → Prop}
theorem my_throwW3 (hx : p.tables.exec = Jvm.exec) (hb : c.code = cc) (hl : l.stackTraces = false) {text : String} {ik is mc ms : Nat} {A : Nat → Prop} (hts : ∀ w ∈ ALL, w.before args s = true) (hown : s.vm.findClass RX5 = some m.cls) (hE : EV A s) (hS : va_S A s.heap H locs) (hml : c.maxLocals = ls.size) (hk : Cond.classLink RX5 ik "java/lang/IllegalArgumentException" ∈ ALL) (hstr : (is, text) ∈ strL) (hnt : ∀ x ∈ c.exceptionTable.toList, False) (hlocks : meth.locks = false)
    (d0 : decode cc pc = .ok (.new ik, 3)) (d3 : decode cc (pc + 3) = .ok (.dup, 1)) (d4 : decode cc (pc + 4) = .ok (.ldc_w is, 3)) (d6 : decode cc (pc + 7) = .ok (.invokespecial 75, 3)) (d9 : decode cc (pc + 10) = .ok (.athrow, 1))
    (hRf : 5 < R.frames) (hRl : (rest.map fun v => v.category).sum + 82 ≤ R.locals) (hRc : cells + 1 ≤ R.cells) (hRs : slots + 6 ≤ R.slots)
    (hxc : ∀ (t : State) (H1 : Heap), t.heap = H1 → H.size ≤ H1.size → (∀ q : Nat, q < H.size → H1[q]? = H[q]?) → va_S A s.heap H1 locs → XC "java/lang/IllegalArgumentException" s t) (hf : ∀ z ∈ locs, free z.base) (hc : cells + 1 ≤ mc) (hs : slots + 6 ≤ ms) :
    W p l e R s m args below meth c H locs cells slots (vx_MQ below Qc XC args s mc ms free) (F0 m pc ls rest) := by
  obtain ⟨sa, hsa⟩ := hE.2.2.1 _ hstr
  have hini : Cond.initialized "java/lang/IllegalArgumentException" ∈ ALL := w_8
  refine xx_newSW (x0 := (by decide +kernel : decode xr_3 0 = .ok (.aload_n 0, 1))) (x1 := (by decide +kernel : decode xr_3 1 = .ok (.aload_n 1, 1))) (x2 := (by decide +kernel : decode xr_3 2 = .ok (.invokespecial 7, 3))) (x5 := (by decide +kernel : decode xr_3 5 = .ok (.return_, 1))) hx hb hl (Yn := "java/lang/RuntimeException") (r := ["java/lang/Exception"]) hown (by decide +kernel) (by decide +kernel) (hts _ hk) (hts _ hini) hsa (xx_hat hts hE xq_3) (List.forall_mem_cons.mpr ⟨ot_cl _ _ _, List.forall_mem_cons.mpr ⟨ot_in _, List.all_eq_true.mp xo_3⟩⟩) hE.1 hE.2.1 hS hml.symm d0 d3 d4 d6 hRf hRl hRc hRs (fun q ce H1 hq hv hcl hz hk1 hS1 => ?_)
  refine vx_athrow hx hb d9 ?_
  exact vx_out (fun x hx => (hnt x hx).elim) hlocks hq hv hcl (fun t ht _ => hxc t H1 ht hz hk1 hS1) hf hc hs
end MYT
section MYT
variable {p : Program} {l : Launch} {e : Env} {R : Room} {s : State} {m : MethodId} {args : Array Value} {below : List Frame} {meth : Method} {c : Code} {H : Heap} {locs : List Loc} {cells slots : Nat} {ls : Array Slot} {rest : List Value} {cc : ByteArray} {pc : Nat} {free : Addr → Prop} {Qc : Array Value → State → Outcome → State → Prop} {XC : String → State → State → Prop}
theorem my_throw4 (hx : p.tables.exec = Jvm.exec) (hb : c.code = cc) (hl : l.stackTraces = false) {text : String} {ik is mc ms : Nat} {A : Nat → Prop} (hts : ∀ w ∈ ALL, w.before args s = true) (hown : s.vm.findClass RX5 = some m.cls) (hE : EV A s) (hS : va_S A s.heap H locs) (hml : c.maxLocals = ls.size) (hk : Cond.classLink RX5 ik "java/lang/IllegalStateException" ∈ ALL) (hstr : (is, text) ∈ strL) (hnt : ∀ x ∈ c.exceptionTable.toList, False) (hlocks : meth.locks = false)
    (d0 : decode cc pc = .ok (.new ik, 3)) (d3 : decode cc (pc + 3) = .ok (.dup, 1)) (d4 : decode cc (pc + 4) = .ok (.ldc is, 2)) (d6 : decode cc (pc + 6) = .ok (.invokespecial 82, 3)) (d9 : decode cc (pc + 9) = .ok (.athrow, 1))
    (hRf : 5 < R.frames) (hRl : (rest.map fun v => v.category).sum + 82 ≤ R.locals) (hRc : cells + 1 ≤ R.cells) (hRs : slots + 6 ≤ R.slots)
    (hxc : ∀ (t : State) (H1 : Heap), t.heap = H1 → H.size ≤ H1.size → (∀ q : Nat, q < H.size → H1[q]? = H[q]?) → va_S A s.heap H1 locs → XC "java/lang/IllegalStateException" s t) (hf : ∀ z ∈ locs, free z.base) (hc : cells + 1 ≤ mc) (hs : slots + 6 ≤ ms) :
    W p l e R s m args below meth c H locs cells slots (vx_MQ below Qc XC args s mc ms free) (F0 m pc ls rest) := by
  obtain ⟨sa, hsa⟩ := hE.2.2.1 _ hstr
  have hini : Cond.initialized "java/lang/IllegalStateException" ∈ ALL := w_9
  refine xx_newS (x0 := (by decide +kernel : decode xr_4 0 = .ok (.aload_n 0, 1))) (x1 := (by decide +kernel : decode xr_4 1 = .ok (.aload_n 1, 1))) (x2 := (by decide +kernel : decode xr_4 2 = .ok (.invokespecial 7, 3))) (x5 := (by decide +kernel : decode xr_4 5 = .ok (.return_, 1))) hx hb hl (Yn := "java/lang/RuntimeException") (r := ["java/lang/Exception"]) hown (by decide +kernel) (by decide +kernel) (hts _ hk) (hts _ hini) hsa (xx_hat hts hE xq_4) (List.forall_mem_cons.mpr ⟨ot_cl _ _ _, List.forall_mem_cons.mpr ⟨ot_in _, List.all_eq_true.mp xo_4⟩⟩) hE.1 hE.2.1 hS hml.symm d0 d3 d4 d6 hRf hRl hRc hRs (fun q ce H1 hq hv hcl hz hk1 hS1 => ?_)
  refine vx_athrow hx hb d9 ?_
  exact vx_out (fun x hx => (hnt x hx).elim) hlocks hq hv hcl (fun t ht _ => hxc t H1 ht hz hk1 hS1) hf hc hs
end MYT
section MYT
variable {p : Program} {l : Launch} {e : Env} {R : Room} {s : State} {m : MethodId} {args : Array Value} {below : List Frame} {meth : Method} {c : Code} {H : Heap} {locs : List Loc} {cells slots : Nat} {ls : Array Slot} {rest : List Value} {cc : ByteArray} {pc : Nat} {free : Addr → Prop} {Qc : Array Value → State → Outcome → State → Prop} {XC : String → State → State → Prop}
theorem my_throwW4 (hx : p.tables.exec = Jvm.exec) (hb : c.code = cc) (hl : l.stackTraces = false) {text : String} {ik is mc ms : Nat} {A : Nat → Prop} (hts : ∀ w ∈ ALL, w.before args s = true) (hown : s.vm.findClass RX5 = some m.cls) (hE : EV A s) (hS : va_S A s.heap H locs) (hml : c.maxLocals = ls.size) (hk : Cond.classLink RX5 ik "java/lang/IllegalStateException" ∈ ALL) (hstr : (is, text) ∈ strL) (hnt : ∀ x ∈ c.exceptionTable.toList, False) (hlocks : meth.locks = false)
    (d0 : decode cc pc = .ok (.new ik, 3)) (d3 : decode cc (pc + 3) = .ok (.dup, 1)) (d4 : decode cc (pc + 4) = .ok (.ldc_w is, 3)) (d6 : decode cc (pc + 7) = .ok (.invokespecial 82, 3)) (d9 : decode cc (pc + 10) = .ok (.athrow, 1))
    (hRf : 5 < R.frames) (hRl : (rest.map fun v => v.category).sum + 82 ≤ R.locals) (hRc : cells + 1 ≤ R.cells) (hRs : slots + 6 ≤ R.slots)
    (hxc : ∀ (t : State) (H1 : Heap), t.heap = H1 → H.size ≤ H1.size → (∀ q : Nat, q < H.size → H1[q]? = H[q]?) → va_S A s.heap H1 locs → XC "java/lang/IllegalStateException" s t) (hf : ∀ z ∈ locs, free z.base) (hc : cells + 1 ≤ mc) (hs : slots + 6 ≤ ms) :
    W p l e R s m args below meth c H locs cells slots (vx_MQ below Qc XC args s mc ms free) (F0 m pc ls rest) := by
  obtain ⟨sa, hsa⟩ := hE.2.2.1 _ hstr
  have hini : Cond.initialized "java/lang/IllegalStateException" ∈ ALL := w_9
  refine xx_newSW (x0 := (by decide +kernel : decode xr_4 0 = .ok (.aload_n 0, 1))) (x1 := (by decide +kernel : decode xr_4 1 = .ok (.aload_n 1, 1))) (x2 := (by decide +kernel : decode xr_4 2 = .ok (.invokespecial 7, 3))) (x5 := (by decide +kernel : decode xr_4 5 = .ok (.return_, 1))) hx hb hl (Yn := "java/lang/RuntimeException") (r := ["java/lang/Exception"]) hown (by decide +kernel) (by decide +kernel) (hts _ hk) (hts _ hini) hsa (xx_hat hts hE xq_4) (List.forall_mem_cons.mpr ⟨ot_cl _ _ _, List.forall_mem_cons.mpr ⟨ot_in _, List.all_eq_true.mp xo_4⟩⟩) hE.1 hE.2.1 hS hml.symm d0 d3 d4 d6 hRf hRl hRc hRs (fun q ce H1 hq hv hcl hz hk1 hS1 => ?_)
  refine vx_athrow hx hb d9 ?_
  exact vx_out (fun x hx => (hnt x hx).elim) hlocks hq hv hcl (fun t ht _ => hxc t H1 ht hz hk1 hS1) hf hc hs
end MYT
section MYT
variable {p : Program} {l : Launch} {e : Env} {R : Room} {s : State} {m : MethodId} {args : Array Value} {below : List Frame} {meth : Method} {c : Code} {H : Heap} {locs : List Loc} {cells slots : Nat} {ls : Array Slot} {rest : List Value} {cc : ByteArray} {pc : Nat} {free : Addr → Prop} {Qc : Array Value → State → Outcome → State → Prop} {XC : String → State → State → Prop}
theorem my_throw5 (hx : p.tables.exec = Jvm.exec) (hb : c.code = cc) (hl : l.stackTraces = false) {text : String} {ik is mc ms : Nat} {A : Nat → Prop} (hts : ∀ w ∈ ALL, w.before args s = true) (hown : s.vm.findClass RX5 = some m.cls) (hE : EV A s) (hS : va_S A s.heap H locs) (hml : c.maxLocals = ls.size) (hk : Cond.classLink RX5 ik "java/lang/UnsupportedOperationException" ∈ ALL) (hstr : (is, text) ∈ strL) (hnt : ∀ x ∈ c.exceptionTable.toList, False) (hlocks : meth.locks = false)
    (d0 : decode cc pc = .ok (.new ik, 3)) (d3 : decode cc (pc + 3) = .ok (.dup, 1)) (d4 : decode cc (pc + 4) = .ok (.ldc is, 2)) (d6 : decode cc (pc + 6) = .ok (.invokespecial 167, 3)) (d9 : decode cc (pc + 9) = .ok (.athrow, 1))
    (hRf : 5 < R.frames) (hRl : (rest.map fun v => v.category).sum + 82 ≤ R.locals) (hRc : cells + 1 ≤ R.cells) (hRs : slots + 6 ≤ R.slots)
    (hxc : ∀ (t : State) (H1 : Heap), t.heap = H1 → H.size ≤ H1.size → (∀ q : Nat, q < H.size → H1[q]? = H[q]?) → va_S A s.heap H1 locs → XC "java/lang/UnsupportedOperationException" s t) (hf : ∀ z ∈ locs, free z.base) (hc : cells + 1 ≤ mc) (hs : slots + 6 ≤ ms) :
    W p l e R s m args below meth c H locs cells slots (vx_MQ below Qc XC args s mc ms free) (F0 m pc ls rest) := by
  obtain ⟨sa, hsa⟩ := hE.2.2.1 _ hstr
  have hini : Cond.initialized "java/lang/UnsupportedOperationException" ∈ ALL := w_14
  refine xx_newS (x0 := (by decide +kernel : decode xr_5 0 = .ok (.aload_n 0, 1))) (x1 := (by decide +kernel : decode xr_5 1 = .ok (.aload_n 1, 1))) (x2 := (by decide +kernel : decode xr_5 2 = .ok (.invokespecial 7, 3))) (x5 := (by decide +kernel : decode xr_5 5 = .ok (.return_, 1))) hx hb hl (Yn := "java/lang/RuntimeException") (r := ["java/lang/Exception"]) hown (by decide +kernel) (by decide +kernel) (hts _ hk) (hts _ hini) hsa (xx_hat hts hE xq_5) (List.forall_mem_cons.mpr ⟨ot_cl _ _ _, List.forall_mem_cons.mpr ⟨ot_in _, List.all_eq_true.mp xo_5⟩⟩) hE.1 hE.2.1 hS hml.symm d0 d3 d4 d6 hRf hRl hRc hRs (fun q ce H1 hq hv hcl hz hk1 hS1 => ?_)
  refine vx_athrow hx hb d9 ?_
  exact vx_out (fun x hx => (hnt x hx).elim) hlocks hq hv hcl (fun t ht _ => hxc t H1 ht hz hk1 hS1) hf hc hs
end MYT
section MYT
variable {p : Program} {l : Launch} {e : Env} {R : Room} {s : State} {m : MethodId} {args : Array Value} {below : List Frame} {meth : Method} {c : Code} {H : Heap} {locs : List Loc} {cells slots : Nat} {ls : Array Slot} {rest : List Value} {cc : ByteArray} {pc : Nat} {free : Addr → Prop} {Qc : Array Value → State → Outcome → State → Prop} {XC : String → State → State → Prop}
theorem my_throwW5 (hx : p.tables.exec = Jvm.exec) (hb : c.code = cc) (hl : l.stackTraces = false) {text : String} {ik is mc ms : Nat} {A : Nat → Prop} (hts : ∀ w ∈ ALL, w.before args s = true) (hown : s.vm.findClass RX5 = some m.cls) (hE : EV A s) (hS : va_S A s.heap H locs) (hml : c.maxLocals = ls.size) (hk : Cond.classLink RX5 ik "java/lang/UnsupportedOperationException" ∈ ALL) (hstr : (is, text) ∈ strL) (hnt : ∀ x ∈ c.exceptionTable.toList, False) (hlocks : meth.locks = false)
    (d0 : decode cc pc = .ok (.new ik, 3)) (d3 : decode cc (pc + 3) = .ok (.dup, 1)) (d4 : decode cc (pc + 4) = .ok (.ldc_w is, 3)) (d6 : decode cc (pc + 7) = .ok (.invokespecial 167, 3)) (d9 : decode cc (pc + 10) = .ok (.athrow, 1))
    (hRf : 5 < R.frames) (hRl : (rest.map fun v => v.category).sum + 82 ≤ R.locals) (hRc : cells + 1 ≤ R.cells) (hRs : slots + 6 ≤ R.slots)
    (hxc : ∀ (t : State) (H1 : Heap), t.heap = H1 → H.size ≤ H1.size → (∀ q : Nat, q < H.size → H1[q]? = H[q]?) → va_S A s.heap H1 locs → XC "java/lang/UnsupportedOperationException" s t) (hf : ∀ z ∈ locs, free z.base) (hc : cells + 1 ≤ mc) (hs : slots + 6 ≤ ms) :
    W p l e R s m args below meth c H locs cells slots (vx_MQ below Qc XC args s mc ms free) (F0 m pc ls rest) := by
  obtain ⟨sa, hsa⟩ := hE.2.2.1 _ hstr
  have hini : Cond.initialized "java/lang/UnsupportedOperationException" ∈ ALL := w_14
  refine xx_newSW (x0 := (by decide +kernel : decode xr_5 0 = .ok (.aload_n 0, 1))) (x1 := (by decide +kernel : decode xr_5 1 = .ok (.aload_n 1, 1))) (x2 := (by decide +kernel : decode xr_5 2 = .ok (.invokespecial 7, 3))) (x5 := (by decide +kernel : decode xr_5 5 = .ok (.return_, 1))) hx hb hl (Yn := "java/lang/RuntimeException") (r := ["java/lang/Exception"]) hown (by decide +kernel) (by decide +kernel) (hts _ hk) (hts _ hini) hsa (xx_hat hts hE xq_5) (List.forall_mem_cons.mpr ⟨ot_cl _ _ _, List.forall_mem_cons.mpr ⟨ot_in _, List.all_eq_true.mp xo_5⟩⟩) hE.1 hE.2.1 hS hml.symm d0 d3 d4 d6 hRf hRl hRc hRs (fun q ce H1 hq hv hcl hz hk1 hS1 => ?_)
  refine vx_athrow hx hb d9 ?_
  exact vx_out (fun x hx => (hnt x hx).elim) hlocks hq hv hcl (fun t ht _ => hxc t H1 ht hz hk1 hS1) hf hc hs
end MYT
end
section
abbrev ws_X5_isShop : List Cond := Cond.code yX5_isShop cX5_isShop 2 (some .boolean) :: ALL
set_option maxHeartbeats 4000000 in
set_option maxRecDepth 100000 in
theorem m_X5_isShop (l : Launch) (D : va_G) (cs : Nat → ClassId) (kr la ia na b4 b6 b8 b10 sh it : Nat) (lc : Int) (dy : Nat) (pct lr sr : Int) (lf : Nat → Int) (zs : Int) (hsh : sh ≤ 4) (hzs : -2147483648 ≤ zs ∧ zs < 2147483648) : Met l yX5_isShop ws_X5_isShop ({ frames := 0, cells := 0, slots := 0, locals := 0 }) (va_Pc [.ref kr, .int (iI (zs))] (PC D cs [(kr, .inr (5, [.ref la, .ref ia, .ref na, .ref b4, .ref b6, .ref b8, .ref b10, .int (iI (((sh : Nat) : Int))), .int (iI (((it : Nat) : Int))), .int (iI (lc)), .int (iI (((dy : Nat) : Int))), .int (iI (pct)), .int (iI (lr)), .int (iI (sr))])), (la, arI cs 4 lf)])) (va_Qi (fun r (_ : Unit) => r = iI (okI sh zs)) (fun _ _ => True) noA) 0 0 noA := by
  refine Met.ofW (cc := cX5_isShop) (maxL := 2) (ret := (some .boolean)) (by decide +kernel) rfl ?_
  intro p e s m args below meth c s₁ B hml hv
  obtain ⟨rfl, hP, hK, hD, hN⟩ := hv
  have hx := B.exec
  have hb := B.bytes
  have hr := B.returns
  have hts : ∀ w ∈ ALL, w.before _ s = true := fun w h => atoms_spec (ws := ws_X5_isShop) B.pre w (List.mem_cons_of_mem _ h)
  have hown : s.vm.findClass RX5 = some m.cls := findClass_of_methodNamed B.named
  have hlocks := B.notSynchronized
  have hS : va_S noA s.heap s.heap [] := va_S.rf
  generalize inW [(kr, .inr (5, [.ref la, .ref ia, .ref na, .ref b4, .ref b6, .ref b8, .ref b10, .int (iI (((sh : Nat) : Int))), .int (iI (((it : Nat) : Int))), .int (iI (lc)), .int (iI (((dy : Nat) : Int))), .int (iI (pct)), .int (iI (lr)), .int (iI (sr))])), (la, arI cs 4 lf)] = A at hD
  have hl := lv_entry ([.ref kr, .int (iI (zs))]) (n := 2) (Nat.le_of_ble_eq_true rfl)
  rw [lg_entry_eq]
  generalize (lg_sl ([.ref kr, .int (iI (zs))]) ++ List.replicate (2 - (lg_sl ([.ref kr, .int (iI (zs))])).length) Slot.unset).toArray = ls at hl ⊢
  have hl : lv_has ls 2 [(0, .ref kr), (1, .int (iI (zs)))] := hl
  have hH := rfl (a := s.heap)
  refine lv_iload_n hx hb dX5_isShop_0 rfl (lv_at hl 1 rfl) ?_
  refine my_if_lt (tgt := 25) hx hb (by omega) dX5_isShop_1 (by decide) (fun bh1 => ?_) (fun bh1 => ?_)
  · refine lv_iconst (v := iI (0)) hx hb dX5_isShop_25 rfl ?_
    have hres : iI (0) = iI (okI sh zs) := congrArg iI (by
        unfold okI; split <;> omega)
    exact W.zret hx hb hr (by decide) (fun t ht hW => ⟨⟨_, (), rfl, hres, trivial⟩, hS.F ht⟩) hS.2.2 dX5_isShop_26
  · refine lv_iload_n hx hb dX5_isShop_4 rfl (lv_at hl 1 rfl) ?_
    refine lv_aload_n hx hb dX5_isShop_5 rfl (lv_at hl 0 rfl) ?_
    refine my_get hx hb hts inAX5 hown hK hP 0 rfl rfl 7 (by decide) w_76 rfl rfl dX5_isShop_6 ?_
    refine my_icmp_ge (tgt := 25) hx hb (by omega) dX5_isShop_9 (by decide) (fun bh2 => ?_) (fun bh2 => ?_)
    · refine lv_iconst (v := iI (0)) hx hb dX5_isShop_25 rfl ?_
      have hres : iI (0) = iI (okI sh zs) := congrArg iI (by
          unfold okI; split <;> omega)
      exact W.zret hx hb hr (by decide) (fun t ht hW => ⟨⟨_, (), rfl, hres, trivial⟩, hS.F ht⟩) hS.2.2 dX5_isShop_26
    · refine lv_iload_n hx hb dX5_isShop_12 rfl (lv_at hl 1 rfl) ?_
      refine lv_aload_n hx hb dX5_isShop_13 rfl (lv_at hl 0 rfl) ?_
      refine my_get hx hb hts inAX5 hown hK hP 0 rfl rfl 0 (by decide) w_69 rfl rfl dX5_isShop_14 ?_
      refine my_alenI hx hb hK hP 1 rfl dX5_isShop_17 ?_
      refine my_icmp_ge (tgt := 25) hx hb (by omega) dX5_isShop_18 (by decide) (fun bh3 => (by omega : False).elim) (fun bh3 => ?_)
      refine lv_iconst (v := iI (1)) hx hb dX5_isShop_21 rfl ?_
      refine lv_goto (tgt := 26) hx hb dX5_isShop_22 (by decide) ?_
      have hres : iI (1) = iI (okI sh zs) := congrArg iI (by
          unfold okI; split <;> omega)
      exact W.zret hx hb hr (by decide) (fun t ht hW => ⟨⟨_, (), rfl, hres, trivial⟩, hS.F ht⟩) hS.2.2 dX5_isShop_26

abbrev ws_X5_isItem : List Cond := Cond.code yX5_isItem cX5_isItem 2 (some .boolean) :: ALL
set_option maxHeartbeats 4000000 in
set_option maxRecDepth 100000 in
theorem m_X5_isItem (l : Launch) (D : va_G) (cs : Nat → ClassId) (kr la ia na b4 b6 b8 b10 sh it : Nat) (lc : Int) (dy : Nat) (pct lr sr : Int) (itf : Nat → Option Nat) (zi : Int) (hit : it ≤ 5) (hzi : -2147483648 ≤ zi ∧ zi < 2147483648) : Met l yX5_isItem ws_X5_isItem ({ frames := 0, cells := 0, slots := 0, locals := 0 }) (va_Pc [.ref kr, .int (iI (zi))] (PC D cs [(kr, .inr (5, [.ref la, .ref ia, .ref na, .ref b4, .ref b6, .ref b8, .ref b10, .int (iI (((sh : Nat) : Int))), .int (iI (((it : Nat) : Int))), .int (iI (lc)), .int (iI (((dy : Nat) : Int))), .int (iI (pct)), .int (iI (lr)), .int (iI (sr))])), (ia, arQ cs 2 5 itf)])) (va_Qi (fun r (_ : Unit) => r = iI (okI it zi)) (fun _ _ => True) noA) 0 0 noA := by
  refine Met.ofW (cc := cX5_isItem) (maxL := 2) (ret := (some .boolean)) (by decide +kernel) rfl ?_
  intro p e s m args below meth c s₁ B hml hv
  obtain ⟨rfl, hP, hK, hD, hN⟩ := hv
  have hx := B.exec
  have hb := B.bytes
  have hr := B.returns
  have hts : ∀ w ∈ ALL, w.before _ s = true := fun w h => atoms_spec (ws := ws_X5_isItem) B.pre w (List.mem_cons_of_mem _ h)
  have hown : s.vm.findClass RX5 = some m.cls := findClass_of_methodNamed B.named
  have hlocks := B.notSynchronized
  have hS : va_S noA s.heap s.heap [] := va_S.rf
  generalize inW [(kr, .inr (5, [.ref la, .ref ia, .ref na, .ref b4, .ref b6, .ref b8, .ref b10, .int (iI (((sh : Nat) : Int))), .int (iI (((it : Nat) : Int))), .int (iI (lc)), .int (iI (((dy : Nat) : Int))), .int (iI (pct)), .int (iI (lr)), .int (iI (sr))])), (ia, arQ cs 2 5 itf)] = A at hD
  have hl := lv_entry ([.ref kr, .int (iI (zi))]) (n := 2) (Nat.le_of_ble_eq_true rfl)
  rw [lg_entry_eq]
  generalize (lg_sl ([.ref kr, .int (iI (zi))]) ++ List.replicate (2 - (lg_sl ([.ref kr, .int (iI (zi))])).length) Slot.unset).toArray = ls at hl ⊢
  have hl : lv_has ls 2 [(0, .ref kr), (1, .int (iI (zi)))] := hl
  have hH := rfl (a := s.heap)
  refine lv_iload_n hx hb dX5_isItem_0 rfl (lv_at hl 1 rfl) ?_
  refine my_if_lt (tgt := 25) hx hb (by omega) dX5_isItem_1 (by decide) (fun bh1 => ?_) (fun bh1 => ?_)
  · refine lv_iconst (v := iI (0)) hx hb dX5_isItem_25 rfl ?_
    have hres : iI (0) = iI (okI it zi) := congrArg iI (by
        unfold okI; split <;> omega)
    exact W.zret hx hb hr (by decide) (fun t ht hW => ⟨⟨_, (), rfl, hres, trivial⟩, hS.F ht⟩) hS.2.2 dX5_isItem_26
  · refine lv_iload_n hx hb dX5_isItem_4 rfl (lv_at hl 1 rfl) ?_
    refine lv_aload_n hx hb dX5_isItem_5 rfl (lv_at hl 0 rfl) ?_
    refine my_get hx hb hts inAX5 hown hK hP 0 rfl rfl 8 (by decide) w_77 rfl rfl dX5_isItem_6 ?_
    refine my_icmp_ge (tgt := 25) hx hb (by omega) dX5_isItem_9 (by decide) (fun bh2 => ?_) (fun bh2 => ?_)
    · refine lv_iconst (v := iI (0)) hx hb dX5_isItem_25 rfl ?_
      have hres : iI (0) = iI (okI it zi) := congrArg iI (by
          unfold okI; split <;> omega)
      exact W.zret hx hb hr (by decide) (fun t ht hW => ⟨⟨_, (), rfl, hres, trivial⟩, hS.F ht⟩) hS.2.2 dX5_isItem_26
    · refine lv_iload_n hx hb dX5_isItem_12 rfl (lv_at hl 1 rfl) ?_
      refine lv_aload_n hx hb dX5_isItem_13 rfl (lv_at hl 0 rfl) ?_
      refine my_get hx hb hts inAX5 hown hK hP 0 rfl rfl 1 (by decide) w_70 rfl rfl dX5_isItem_14 ?_
      refine my_alenQ hx hb hK hP 1 2 rfl rfl dX5_isItem_17 ?_
      refine my_icmp_ge (tgt := 25) hx hb (by omega) dX5_isItem_18 (by decide) (fun bh3 => (by omega : False).elim) (fun bh3 => ?_)
      refine lv_iconst (v := iI (1)) hx hb dX5_isItem_21 rfl ?_
      refine lv_goto (tgt := 26) hx hb dX5_isItem_22 (by decide) ?_
      have hres : iI (1) = iI (okI it zi) := congrArg iI (by
          unfold okI; split <;> omega)
      exact W.zret hx hb hr (by decide) (fun t ht hW => ⟨⟨_, (), rfl, hres, trivial⟩, hS.F ht⟩) hS.2.2 dX5_isItem_26

abbrev ws_X5_requireShop : List Cond := Cond.code yX5_requireShop cX5_requireShop 2 (none : Option FieldType) :: ALL
set_option maxHeartbeats 4000000 in
set_option maxRecDepth 100000 in
theorem m_X5_requireShop (l : Launch) (hst : l.stackTraces = false) (D : va_G) (cs : Nat → ClassId) (kr la ia na b4 b6 b8 b10 sh it : Nat) (lc : Int) (dy : Nat) (pct lr sr : Int) (lf : Nat → Int) (zs : Int) (hsh : sh ≤ 4) (hzs : -2147483648 ≤ zs ∧ zs < 2147483648) : vx_Met l yX5_requireShop ws_X5_requireShop ({ frames := 6, cells := 1, slots := 6, locals := 82 }) (va_Pc [.ref kr, .int (iI (zs))] (PE D cs [(kr, .inr (5, [.ref la, .ref ia, .ref na, .ref b4, .ref b6, .ref b8, .ref b10, .int (iI (((sh : Nat) : Int))), .int (iI (((it : Nat) : Int))), .int (iI (lc)), .int (iI (((dy : Nat) : Int))), .int (iI (pct)), .int (iI (lr)), .int (iI (sr))])), (la, arI cs 4 lf)] noA)) (va_Qv (fun (_ : Unit) => cdS sh zs = 0) (fun _ _ => True) noA) (vx_X (fun (u : Nat) => u = cdS sh zs ∧ u ≠ 0) (fun E u _ => E = exN u) noA) 1 6 noA := by
  refine vx_ofW (cc := cX5_requireShop) (maxL := 2) (ret := ((none : Option FieldType))) (by decide +kernel) rfl ?_
  intro p e s m args below meth c s₁ B hml hnt hv
  obtain ⟨rfl, ⟨hP, hK, hD, hN⟩, hE⟩ := hv
  have hx := B.exec
  have hb := B.bytes
  have hr := B.returns
  have hts : ∀ w ∈ ALL, w.before _ s = true := fun w h => atoms_spec (ws := ws_X5_requireShop) B.pre w (List.mem_cons_of_mem _ h)
  have hown : s.vm.findClass RX5 = some m.cls := findClass_of_methodNamed B.named
  have hlocks := B.notSynchronized
  have hS : va_S noA s.heap s.heap [] := va_S.rf
  generalize inW [(kr, .inr (5, [.ref la, .ref ia, .ref na, .ref b4, .ref b6, .ref b8, .ref b10, .int (iI (((sh : Nat) : Int))), .int (iI (((it : Nat) : Int))), .int (iI (lc)), .int (iI (((dy : Nat) : Int))), .int (iI (pct)), .int (iI (lr)), .int (iI (sr))])), (la, arI cs 4 lf)] = A at hD
  have hl := lv_entry ([.ref kr, .int (iI (zs))]) (n := 2) (Nat.le_of_ble_eq_true rfl)
  rw [lg_entry_eq]
  generalize (lg_sl ([.ref kr, .int (iI (zs))]) ++ List.replicate (2 - (lg_sl ([.ref kr, .int (iI (zs))])).length) Slot.unset).toArray = ls at hl ⊢
  have hl : lv_has ls 2 [(0, .ref kr), (1, .int (iI (zs)))] := hl
  have hH := rfl (a := s.heap)
  refine lv_aload_n hx hb dX5_requireShop_0 rfl (lv_at hl 0 rfl) ?_
  refine lv_iload_n hx hb dX5_requireShop_1 rfl (lv_at hl 1 rfl) ?_
  have pk1 : picks [(kr, .inr (5, [.ref la, .ref ia, .ref na, .ref b4, .ref b6, .ref b8, .ref b10, .int (iI (((sh : Nat) : Int))), .int (iI (((it : Nat) : Int))), .int (iI (lc)), .int (iI (((dy : Nat) : Int))), .int (iI (pct)), .int (iI (lr)), .int (iI (sr))])), (la, arI cs 4 lf)] [0, 1] [(kr, .inr (5, [.ref la, .ref ia, .ref na, .ref b4, .ref b6, .ref b8, .ref b10, .int (iI (((sh : Nat) : Int))), .int (iI (((it : Nat) : Int))), .int (iI (lc)), .int (iI (((dy : Nat) : Int))), .int (iI (pct)), .int (iI (lr)), .int (iI (sr))])), (la, arI cs 4 lf)] := ⟨rfl, rfl, trivial⟩
  refine va_calli (va_runV (As := [.int (iI (zs))]) (rest := []) ⟨hx, hb, hml, hown, hts⟩ (m_X5_isShop l D cs kr la ia na b4 b6 b8 b10 sh it lc dy pct lr sr lf zs (by assumption) (by omega)) (cwV 1 hts (gV w_281 w_283 w_p2 w_1 w_284) rfl rfl rfl (by decide +kernel) ⟨Nat.le_of_ble_eq_true rfl, Nat.le_of_ble_eq_true rfl⟩) (PC_V hK hN hP hD [0, 1] rfl pk1 rfl rfl) rfl rfl hl.1 rfl (lv_room (Nat.le_of_ble_eq_true rfl)) dX5_requireShop_2 ⟨Nat.le_of_ble_eq_true rfl, Nat.le_of_ble_eq_true rfl⟩) hS (fun _ _ h => False.elim h) (fun _ h => False.elim h) (fun r u t H locs ht hvm hw hB hz1 hk1 hS => ?_)
  subst hw
  have hP := P_kept hP hk1
  have hok := okI_s sh zs
  refine my_if_ne (tgt := 19) hx hb (by omega) dX5_requireShop_5 (by decide) (fun bh2 => ?_) (fun bh2 => ?_)
  · refine vx_ret ?_
    refine W.widen (k := 1) (n := 6) (by omega) (by omega) ?_
    have hcode : cdS sh zs = 0 := by
        unfold cdS; rw [if_pos (by omega)]
    exact W.vret hx hb hr (fun t ht hW => ⟨⟨(), rfl, hcode, trivial⟩, hS.F ht⟩) hS.2.2 dX5_requireShop_19
  · refine my_throwW1 hx hb hst hts hown hE hS (hml.trans hl.1.symm) w_285 (List.mem_of_getElem? (i := 22) rfl) hnt hlocks dX5_requireShop_8 dX5_requireShop_11 dX5_requireShop_12 dX5_requireShop_15 dX5_requireShop_18 (Nat.le_of_ble_eq_true rfl) (Nat.le_of_ble_eq_true rfl) (Nat.le_of_ble_eq_true rfl) (Nat.le_of_ble_eq_true rfl) (fun t H1 ht hz1 hk1 hS1 => ?_) hS.2.2 (Nat.le_of_ble_eq_true rfl) (Nat.le_of_ble_eq_true rfl)
    have hcode : 1 = cdS sh zs := by
        unfold cdS; rw [if_neg (by omega)]
    exact ⟨1, ⟨hcode, by decide⟩, rfl, hS1.F ht⟩

abbrev ws_X5_itemOrNull : List Cond := Cond.code yX5_itemOrNull cX5_itemOrNull 2 (some (.object "Replen$Item")) :: ALL
set_option maxHeartbeats 4000000 in
set_option maxRecDepth 100000 in
theorem m_X5_itemOrNull (l : Launch) (D : va_G) (cs : Nat → ClassId) (kr la ia na b4 b6 b8 b10 sh it : Nat) (lc : Int) (dy : Nat) (pct lr sr : Int) (itf : Nat → Option Nat) (zi : Int) (hit : it ≤ 5) (hzi : -2147483648 ≤ zi ∧ zi < 2147483648) : Met l yX5_itemOrNull ws_X5_itemOrNull ({ frames := 1, cells := 0, slots := 0, locals := 21 }) (va_Pc [.ref kr, .int (iI (zi))] (PC D cs [(kr, .inr (5, [.ref la, .ref ia, .ref na, .ref b4, .ref b6, .ref b8, .ref b10, .int (iI (((sh : Nat) : Int))), .int (iI (((it : Nat) : Int))), .int (iI (lc)), .int (iI (((dy : Nat) : Int))), .int (iI (pct)), .int (iI (lr)), .int (iI (sr))])), (ia, arQ cs 2 5 itf)])) (va_Qq (fun r (_ : Unit) => r = itO it itf zi) (fun _ _ => True) noA) 0 0 noA := by
  refine Met.ofW (cc := cX5_itemOrNull) (maxL := 2) (ret := ((some (.object "Replen$Item")))) (by decide +kernel) rfl ?_
  intro p e s m args below meth c s₁ B hml hv
  obtain ⟨rfl, hP, hK, hD, hN⟩ := hv
  have hx := B.exec
  have hb := B.bytes
  have hr := B.returns
  have hts : ∀ w ∈ ALL, w.before _ s = true := fun w h => atoms_spec (ws := ws_X5_itemOrNull) B.pre w (List.mem_cons_of_mem _ h)
  have hown : s.vm.findClass RX5 = some m.cls := findClass_of_methodNamed B.named
  have hlocks := B.notSynchronized
  have hS : va_S noA s.heap s.heap [] := va_S.rf
  generalize inW [(kr, .inr (5, [.ref la, .ref ia, .ref na, .ref b4, .ref b6, .ref b8, .ref b10, .int (iI (((sh : Nat) : Int))), .int (iI (((it : Nat) : Int))), .int (iI (lc)), .int (iI (((dy : Nat) : Int))), .int (iI (pct)), .int (iI (lr)), .int (iI (sr))])), (ia, arQ cs 2 5 itf)] = A at hD
  have hl := lv_entry ([.ref kr, .int (iI (zi))]) (n := 2) (Nat.le_of_ble_eq_true rfl)
  rw [lg_entry_eq]
  generalize (lg_sl ([.ref kr, .int (iI (zi))]) ++ List.replicate (2 - (lg_sl ([.ref kr, .int (iI (zi))])).length) Slot.unset).toArray = ls at hl ⊢
  have hl : lv_has ls 2 [(0, .ref kr), (1, .int (iI (zi)))] := hl
  have hH := rfl (a := s.heap)
  refine lv_aload_n hx hb dX5_itemOrNull_0 rfl (lv_at hl 0 rfl) ?_
  refine lv_iload_n hx hb dX5_itemOrNull_1 rfl (lv_at hl 1 rfl) ?_
  have pk1 : picks [(kr, .inr (5, [.ref la, .ref ia, .ref na, .ref b4, .ref b6, .ref b8, .ref b10, .int (iI (((sh : Nat) : Int))), .int (iI (((it : Nat) : Int))), .int (iI (lc)), .int (iI (((dy : Nat) : Int))), .int (iI (pct)), .int (iI (lr)), .int (iI (sr))])), (ia, arQ cs 2 5 itf)] [0, 1] [(kr, .inr (5, [.ref la, .ref ia, .ref na, .ref b4, .ref b6, .ref b8, .ref b10, .int (iI (((sh : Nat) : Int))), .int (iI (((it : Nat) : Int))), .int (iI (lc)), .int (iI (((dy : Nat) : Int))), .int (iI (pct)), .int (iI (lr)), .int (iI (sr))])), (ia, arQ cs 2 5 itf)] := ⟨rfl, rfl, trivial⟩
  refine va_calli (va_runV (As := [.int (iI (zi))]) (rest := []) ⟨hx, hb, hml, hown, hts⟩ (m_X5_isItem l D cs kr la ia na b4 b6 b8 b10 sh it lc dy pct lr sr itf zi (by assumption) (by omega)) (cwV 1 hts (gV w_309 w_311 w_p5 w_1 w_312) rfl rfl rfl (by decide +kernel) ⟨Nat.le_of_ble_eq_true rfl, Nat.le_of_ble_eq_true rfl⟩) (PC_V hK hN hP hD [0, 1] rfl pk1 rfl rfl) rfl rfl hl.1 rfl (lv_room (Nat.le_of_ble_eq_true rfl)) dX5_itemOrNull_2 ⟨Nat.le_of_ble_eq_true rfl, Nat.le_of_ble_eq_true rfl⟩) hS (fun _ _ h => False.elim h) (fun _ h => False.elim h) (fun r u t H locs ht hvm hw hB hz1 hk1 hS => ?_)
  subst hw
  have hP := P_kept hP hk1
  have hok := okI_s it zi
  refine my_if_eq (tgt := 17) hx hb (by omega) dX5_itemOrNull_5 (by decide) (fun bh2 => ?_) (fun bh2 => ?_)
  · refine lv_null hx hb dX5_itemOrNull_17 ?_
    have hres : (Value.null : Value) = va_rf (itO it itf zi) := by
        unfold itO; first | rw [if_pos (by omega)] | rw [if_neg (by omega)]; rfl
    exact W.aret hx hb hr (Or.inl ⟨_, rfl⟩) (Or.inl rfl) (fun t ht hW => ⟨⟨_, (), by rw [hres], rfl, trivial⟩, hS.F ht⟩) hS.2.2 dX5_itemOrNull_18
  · refine lv_aload_n hx hb dX5_itemOrNull_8 rfl (lv_at hl 0 rfl) ?_
    refine my_get hx hb hts inAX5 hown hK hP 0 rfl rfl 1 (by decide) w_70 rfl rfl dX5_itemOrNull_9 ?_
    refine lv_iload_n hx hb dX5_itemOrNull_12 rfl (lv_at hl 1 rfl) ?_
    refine my_aald hx hb hK hP 1 2 rfl rfl (by omega) (k := zi.toNat) (rfl) dX5_itemOrNull_13 ?_
    refine lv_goto (tgt := 18) hx hb dX5_itemOrNull_14 (by decide) ?_
    have hres : (va_rf (itf zi.toNat) : Value) = va_rf (itO it itf zi) := by
        unfold itO; first | rw [if_pos (by omega)] | rw [if_neg (by omega)]; rfl
    exact W.aret hx hb hr (Or.inl ⟨_, rfl⟩) (va_rf_or _) (fun t ht hW => ⟨⟨_, (), by rw [hres], rfl, trivial⟩, hS.F ht⟩) hS.2.2 dX5_itemOrNull_18

abbrev ws_X5_requireItem : List Cond := Cond.code yX5_requireItem cX5_requireItem 3 (some (.object "Replen$Item")) :: ALL
set_option maxHeartbeats 4000000 in
set_option maxRecDepth 100000 in
theorem m_X5_requireItem (l : Launch) (hst : l.stackTraces = false) (D : va_G) (cs : Nat → ClassId) (kr la ia na b4 b6 b8 b10 sh it : Nat) (lc : Int) (dy : Nat) (pct lr sr : Int) (itf : Nat → Option Nat) (zi : Int) (hit : it ≤ 5) (hitf : ∀ j, j < it → itf j ≠ none) (hzi : -2147483648 ≤ zi ∧ zi < 2147483648) : vx_Met l yX5_requireItem ws_X5_requireItem ({ frames := 6, cells := 1, slots := 6, locals := 82 }) (va_Pc [.ref kr, .int (iI (zi))] (PE D cs [(kr, .inr (5, [.ref la, .ref ia, .ref na, .ref b4, .ref b6, .ref b8, .ref b10, .int (iI (((sh : Nat) : Int))), .int (iI (((it : Nat) : Int))), .int (iI (lc)), .int (iI (((dy : Nat) : Int))), .int (iI (pct)), .int (iI (lr)), .int (iI (sr))])), (ia, arQ cs 2 5 itf)] noA)) (va_Qq (fun r (_ : Unit) => cdS it zi = 0 ∧ r = itf zi.toNat) (fun _ _ => True) noA) (vx_X (fun (u : Nat) => u = cdS it zi ∧ u ≠ 0) (fun E u _ => E = exN u) noA) 1 6 noA := by
  refine vx_ofW (cc := cX5_requireItem) (maxL := 3) (ret := ((some (.object "Replen$Item")))) (by decide +kernel) rfl ?_
  intro p e s m args below meth c s₁ B hml hnt hv
  obtain ⟨rfl, ⟨hP, hK, hD, hN⟩, hE⟩ := hv
  have hx := B.exec
  have hb := B.bytes
  have hr := B.returns
  have hts : ∀ w ∈ ALL, w.before _ s = true := fun w h => atoms_spec (ws := ws_X5_requireItem) B.pre w (List.mem_cons_of_mem _ h)
  have hown : s.vm.findClass RX5 = some m.cls := findClass_of_methodNamed B.named
  have hlocks := B.notSynchronized
  have hS : va_S noA s.heap s.heap [] := va_S.rf
  generalize inW [(kr, .inr (5, [.ref la, .ref ia, .ref na, .ref b4, .ref b6, .ref b8, .ref b10, .int (iI (((sh : Nat) : Int))), .int (iI (((it : Nat) : Int))), .int (iI (lc)), .int (iI (((dy : Nat) : Int))), .int (iI (pct)), .int (iI (lr)), .int (iI (sr))])), (ia, arQ cs 2 5 itf)] = A at hD
  have hl := lv_entry ([.ref kr, .int (iI (zi))]) (n := 3) (Nat.le_of_ble_eq_true rfl)
  rw [lg_entry_eq]
  generalize (lg_sl ([.ref kr, .int (iI (zi))]) ++ List.replicate (3 - (lg_sl ([.ref kr, .int (iI (zi))])).length) Slot.unset).toArray = ls at hl ⊢
  have hl : lv_has ls 3 [(0, .ref kr), (1, .int (iI (zi)))] := hl
  have hH := rfl (a := s.heap)
  refine lv_aload_n hx hb dX5_requireItem_0 rfl (lv_at hl 0 rfl) ?_
  refine lv_iload_n hx hb dX5_requireItem_1 rfl (lv_at hl 1 rfl) ?_
  have pk1 : picks [(kr, .inr (5, [.ref la, .ref ia, .ref na, .ref b4, .ref b6, .ref b8, .ref b10, .int (iI (((sh : Nat) : Int))), .int (iI (((it : Nat) : Int))), .int (iI (lc)), .int (iI (((dy : Nat) : Int))), .int (iI (pct)), .int (iI (lr)), .int (iI (sr))])), (ia, arQ cs 2 5 itf)] [0, 1] [(kr, .inr (5, [.ref la, .ref ia, .ref na, .ref b4, .ref b6, .ref b8, .ref b10, .int (iI (((sh : Nat) : Int))), .int (iI (((it : Nat) : Int))), .int (iI (lc)), .int (iI (((dy : Nat) : Int))), .int (iI (pct)), .int (iI (lr)), .int (iI (sr))])), (ia, arQ cs 2 5 itf)] := ⟨rfl, rfl, trivial⟩
  refine va_callq (va_runV (As := [.int (iI (zi))]) (rest := []) ⟨hx, hb, hml, hown, hts⟩ (m_X5_itemOrNull l D cs kr la ia na b4 b6 b8 b10 sh it lc dy pct lr sr itf zi (by assumption) (by omega)) (cwV 1 hts (gV w_305 w_307 w_p4 w_1 w_308) rfl rfl rfl (by decide +kernel) ⟨Nat.le_of_ble_eq_true rfl, Nat.le_of_ble_eq_true rfl⟩) (PC_V hK hN hP hD [0, 1] rfl pk1 rfl rfl) rfl rfl hl.1 rfl (lv_room (Nat.le_of_ble_eq_true rfl)) dX5_requireItem_2 ⟨Nat.le_of_ble_eq_true rfl, Nat.le_of_ble_eq_true rfl⟩) hS (fun _ _ h => False.elim h) (fun _ h => False.elim h) (fun r u t H locs ht hvm hw hB hz1 hk1 hS => ?_)
  subst hw
  have hP := P_kept hP hk1
  rcases hq2 : (itO it itf zi) with _ | qa3
  · refine lv_astore_nN (lv' := [(2, .null), (0, .ref kr), (1, .int (iI (zi)))]) hx hb dX5_requireItem_5 rfl hl (by decide) rfl (fun ls hl => ?_)
    refine lv_aload_nN hx hb dX5_requireItem_6 rfl (lv_at hl 0 rfl) ?_
    refine lv_ifnonnullN hx hb dX5_requireItem_7 ?_
    refine my_throwW1 hx hb hst hts hown hE hS (hml.trans hl.1.symm) w_285 (List.mem_of_getElem? (i := 23) rfl) hnt hlocks dX5_requireItem_10 dX5_requireItem_13 dX5_requireItem_14 dX5_requireItem_17 dX5_requireItem_20 (Nat.le_of_ble_eq_true rfl) (Nat.le_of_ble_eq_true rfl) (Nat.le_of_ble_eq_true rfl) (Nat.le_of_ble_eq_true rfl) (fun t H1 ht hz1 hk1 hS1 => ?_) hS.2.2 (Nat.le_of_ble_eq_true rfl) (Nat.le_of_ble_eq_true rfl)
    have hcode : 1 = cdS it zi := by
        by_cases h9 : 0 ≤ zi ∧ zi < (it : Int)
        · unfold itO at hq2; rw [if_pos h9] at hq2; exact absurd hq2 (hitf _ (by omega))
        · unfold cdS; rw [if_neg h9]
    exact ⟨1, ⟨hcode, by decide⟩, rfl, hS1.F ht⟩
  · refine lv_astore_n (lv' := [(2, .ref qa3), (0, .ref kr), (1, .int (iI (zi)))]) hx hb dX5_requireItem_5 rfl hl (by decide) rfl (fun ls hl => ?_)
    refine lv_aload_n hx hb dX5_requireItem_6 rfl (lv_at hl 0 rfl) ?_
    refine lv_ifnonnull (tgt := 21) hx hb dX5_requireItem_7 (by decide) ?_
    refine lv_aload_n hx hb dX5_requireItem_21 rfl (lv_at hl 0 rfl) ?_
    refine vx_ret ?_
    refine W.widen (k := 1) (n := 6) (by omega) (by omega) ?_
    have hcode : cdS it zi = 0 := by
        by_cases h9 : 0 ≤ zi ∧ zi < (it : Int)
        · unfold cdS; rw [if_pos h9]
        · unfold itO at hq2; rw [if_neg h9] at hq2; exact absurd hq2 (by simp)
    have hres : (Value.ref qa3 : Value) = va_rf (itf zi.toNat) := by
        by_cases h9 : 0 ≤ zi ∧ zi < (it : Int)
        · unfold itO at hq2; rw [if_pos h9] at hq2; rw [hq2]; rfl
        · unfold itO at hq2; rw [if_neg h9] at hq2; exact absurd hq2 (by simp)
    exact W.aret hx hb hr (Or.inl ⟨_, rfl⟩) (Or.inr ⟨_, rfl⟩) (fun t ht hW => ⟨⟨_, (), by rw [hres], ⟨hcode, rfl⟩, trivial⟩, hS.F ht⟩) hS.2.2 dX5_requireItem_22

abbrev ws_X5_placeOf : List Cond := Cond.code yX5_placeOf cX5_placeOf 3 (some .int) :: ALL
set_option maxHeartbeats 4000000 in
set_option maxRecDepth 100000 in
theorem m_X5_placeOf (l : Launch) (D : va_G) (cs : Nat → ClassId) (kr la ia na b4 b6 b8 b10 sh it : Nat) (lc : Int) (dy : Nat) (pct lr sr : Int) (lf : Nat → Int) (itf : Nat → Option Nat) (zs zi : Int) (hsh : sh ≤ 4) (hit : it ≤ 5) (hzs : -2147483648 ≤ zs ∧ zs < 2147483648) (hzi : -2147483648 ≤ zi ∧ zi < 2147483648) : Met l yX5_placeOf ws_X5_placeOf ({ frames := 1, cells := 0, slots := 0, locals := 21 }) (va_Pc [.ref kr, .int (iI (zs)), .int (iI (zi))] (PC D cs [(kr, .inr (5, [.ref la, .ref ia, .ref na, .ref b4, .ref b6, .ref b8, .ref b10, .int (iI (((sh : Nat) : Int))), .int (iI (((it : Nat) : Int))), .int (iI (lc)), .int (iI (((dy : Nat) : Int))), .int (iI (pct)), .int (iI (lr)), .int (iI (sr))])), (la, arI cs 4 lf), (ia, arQ cs 2 5 itf)])) (va_Qi (fun r (_ : Unit) => r = iI (plI sh it zs zi)) (fun _ _ => True) noA) 0 0 noA := by
  refine Met.ofW (cc := cX5_placeOf) (maxL := 3) (ret := (some .int)) (by decide +kernel) rfl ?_
  intro p e s m args below meth c s₁ B hml hv
  obtain ⟨rfl, hP, hK, hD, hN⟩ := hv
  have hx := B.exec
  have hb := B.bytes
  have hr := B.returns
  have hts : ∀ w ∈ ALL, w.before _ s = true := fun w h => atoms_spec (ws := ws_X5_placeOf) B.pre w (List.mem_cons_of_mem _ h)
  have hown : s.vm.findClass RX5 = some m.cls := findClass_of_methodNamed B.named
  have hlocks := B.notSynchronized
  have hS : va_S noA s.heap s.heap [] := va_S.rf
  generalize inW [(kr, .inr (5, [.ref la, .ref ia, .ref na, .ref b4, .ref b6, .ref b8, .ref b10, .int (iI (((sh : Nat) : Int))), .int (iI (((it : Nat) : Int))), .int (iI (lc)), .int (iI (((dy : Nat) : Int))), .int (iI (pct)), .int (iI (lr)), .int (iI (sr))])), (la, arI cs 4 lf), (ia, arQ cs 2 5 itf)] = A at hD
  have hl := lv_entry ([.ref kr, .int (iI (zs)), .int (iI (zi))]) (n := 3) (Nat.le_of_ble_eq_true rfl)
  rw [lg_entry_eq]
  generalize (lg_sl ([.ref kr, .int (iI (zs)), .int (iI (zi))]) ++ List.replicate (3 - (lg_sl ([.ref kr, .int (iI (zs)), .int (iI (zi))])).length) Slot.unset).toArray = ls at hl ⊢
  have hl : lv_has ls 3 [(0, .ref kr), (1, .int (iI (zs))), (2, .int (iI (zi)))] := hl
  have hH := rfl (a := s.heap)
  refine lv_aload_n hx hb dX5_placeOf_0 rfl (lv_at hl 0 rfl) ?_
  refine lv_iload_n hx hb dX5_placeOf_1 rfl (lv_at hl 1 rfl) ?_
  have pk1 : picks [(kr, .inr (5, [.ref la, .ref ia, .ref na, .ref b4, .ref b6, .ref b8, .ref b10, .int (iI (((sh : Nat) : Int))), .int (iI (((it : Nat) : Int))), .int (iI (lc)), .int (iI (((dy : Nat) : Int))), .int (iI (pct)), .int (iI (lr)), .int (iI (sr))])), (la, arI cs 4 lf), (ia, arQ cs 2 5 itf)] [0, 1] [(kr, .inr (5, [.ref la, .ref ia, .ref na, .ref b4, .ref b6, .ref b8, .ref b10, .int (iI (((sh : Nat) : Int))), .int (iI (((it : Nat) : Int))), .int (iI (lc)), .int (iI (((dy : Nat) : Int))), .int (iI (pct)), .int (iI (lr)), .int (iI (sr))])), (la, arI cs 4 lf)] := ⟨rfl, rfl, trivial⟩
  refine va_calli (va_runV (As := [.int (iI (zs))]) (rest := []) ⟨hx, hb, hml, hown, hts⟩ (m_X5_isShop l D cs kr la ia na b4 b6 b8 b10 sh it lc dy pct lr sr lf zs (by assumption) (by omega)) (cwV 1 hts (gV w_281 w_283 w_p2 w_1 w_284) rfl rfl rfl (by decide +kernel) ⟨Nat.le_of_ble_eq_true rfl, Nat.le_of_ble_eq_true rfl⟩) (PC_V hK hN hP hD [0, 1] rfl pk1 rfl rfl) rfl rfl hl.1 rfl (lv_room (Nat.le_of_ble_eq_true rfl)) dX5_placeOf_2 ⟨Nat.le_of_ble_eq_true rfl, Nat.le_of_ble_eq_true rfl⟩) hS (fun _ _ h => False.elim h) (fun _ h => False.elim h) (fun r u t H locs ht hvm hw hB hz1 hk1 hS => ?_)
  subst hw
  have hP := P_kept hP hk1
  have hok := okI_s sh zs
  refine my_if_eq (tgt := 24) hx hb (by omega) dX5_placeOf_5 (by decide) (fun bh2 => ?_) (fun bh2 => ?_)
  · refine lv_iconst (v := iI (-1)) hx hb dX5_placeOf_24 rfl ?_
    have hres : iI (-1) = iI (plI sh it zs zi) := congrArg iI (by
        unfold plI; split <;> omega)
    exact W.iret hx hb hr (fun t ht hW => ⟨⟨_, (), rfl, hres, trivial⟩, hS.F ht⟩) hS.2.2 dX5_placeOf_25
  · refine lv_aload_n hx hb dX5_placeOf_8 rfl (lv_at hl 0 rfl) ?_
    refine lv_iload_n hx hb dX5_placeOf_9 rfl (lv_at hl 2 rfl) ?_
    have pk3 : picks [(kr, .inr (5, [.ref la, .ref ia, .ref na, .ref b4, .ref b6, .ref b8, .ref b10, .int (iI (((sh : Nat) : Int))), .int (iI (((it : Nat) : Int))), .int (iI (lc)), .int (iI (((dy : Nat) : Int))), .int (iI (pct)), .int (iI (lr)), .int (iI (sr))])), (la, arI cs 4 lf), (ia, arQ cs 2 5 itf)] [0, 2] [(kr, .inr (5, [.ref la, .ref ia, .ref na, .ref b4, .ref b6, .ref b8, .ref b10, .int (iI (((sh : Nat) : Int))), .int (iI (((it : Nat) : Int))), .int (iI (lc)), .int (iI (((dy : Nat) : Int))), .int (iI (pct)), .int (iI (lr)), .int (iI (sr))])), (ia, arQ cs 2 5 itf)] := ⟨rfl, rfl, trivial⟩
    refine va_calli (va_runV (As := [.int (iI (zi))]) (rest := []) ⟨hx, hb, hml, hown, hts⟩ (m_X5_isItem l D cs kr la ia na b4 b6 b8 b10 sh it lc dy pct lr sr itf zi (by assumption) (by omega)) (cwV 1 hts (gV w_309 w_311 w_p5 w_1 w_312) rfl rfl rfl (by decide +kernel) ⟨Nat.le_of_ble_eq_true rfl, Nat.le_of_ble_eq_true rfl⟩) (PC_V hK hN hP hD [0, 2] rfl pk3 rfl rfl) rfl rfl hl.1 rfl (lv_room (Nat.le_of_ble_eq_true rfl)) dX5_placeOf_10 ⟨Nat.le_of_ble_eq_true rfl, Nat.le_of_ble_eq_true rfl⟩) hS (fun _ _ h => False.elim h) (fun _ h => False.elim h) (fun r u t H locs ht hvm hw hB hz1 hk1 hS => ?_)
    subst hw
    have hP := P_kept hP hk1
    have hok := okI_s it zi
    refine my_if_eq (tgt := 24) hx hb (by omega) dX5_placeOf_13 (by decide) (fun bh4 => ?_) (fun bh4 => ?_)
    · refine lv_iconst (v := iI (-1)) hx hb dX5_placeOf_24 rfl ?_
      have hres : iI (-1) = iI (plI sh it zs zi) := congrArg iI (by
          unfold plI; split <;> omega)
      exact W.iret hx hb hr (fun t ht hW => ⟨⟨_, (), rfl, hres, trivial⟩, hS.F ht⟩) hS.2.2 dX5_placeOf_25
    · refine lv_iload_n hx hb dX5_placeOf_16 rfl (lv_at hl 1 rfl) ?_
      refine lv_iconst (v := iI (5)) hx hb dX5_placeOf_17 rfl ?_
      refine my_imul (z := zs * 5) hx hb dX5_placeOf_18 (rfl) ?_
      refine lv_iload_n hx hb dX5_placeOf_19 rfl (lv_at hl 2 rfl) ?_
      refine my_iadd (z := (zs * 5) + zi) hx hb dX5_placeOf_20 (rfl) ?_
      refine lv_goto (tgt := 25) hx hb dX5_placeOf_21 (by decide) ?_
      have hres : iI ((zs * 5) + zi) = iI (plI sh it zs zi) := congrArg iI (by
          unfold plI; split <;> omega)
      exact W.iret hx hb hr (fun t ht hW => ⟨⟨_, (), rfl, hres, trivial⟩, hS.F ht⟩) hS.2.2 dX5_placeOf_25

abbrev ws_X5_lineOrNull : List Cond := Cond.code yX5_lineOrNull cX5_lineOrNull 4 (some (.object "Replen$Line")) :: ALL
set_option maxHeartbeats 4000000 in
set_option maxRecDepth 100000 in
theorem m_X5_lineOrNull (l : Launch) (D : va_G) (cs : Nat → ClassId) (kr la ia na b4 b6 b8 b10 sh it : Nat) (lc : Int) (dy : Nat) (pct lr sr : Int) (lf : Nat → Int) (itf : Nat → Option Nat) (lnf : Nat → Option Nat) (zs zi : Int) (hsh : sh ≤ 4) (hit : it ≤ 5) (hzs : -2147483648 ≤ zs ∧ zs < 2147483648) (hzi : -2147483648 ≤ zi ∧ zi < 2147483648) : Met l yX5_lineOrNull ws_X5_lineOrNull ({ frames := 2, cells := 0, slots := 0, locals := 43 }) (va_Pc [.ref kr, .int (iI (zs)), .int (iI (zi))] (PC D cs [(kr, .inr (5, [.ref la, .ref ia, .ref na, .ref b4, .ref b6, .ref b8, .ref b10, .int (iI (((sh : Nat) : Int))), .int (iI (((it : Nat) : Int))), .int (iI (lc)), .int (iI (((dy : Nat) : Int))), .int (iI (pct)), .int (iI (lr)), .int (iI (sr))])), (la, arI cs 4 lf), (ia, arQ cs 2 5 itf), (na, arQ cs 3 20 lnf)])) (va_Qq (fun r (_ : Unit) => r = lnO sh it lnf zs zi) (fun _ _ => True) noA) 0 0 noA := by
  refine Met.ofW (cc := cX5_lineOrNull) (maxL := 4) (ret := ((some (.object "Replen$Line")))) (by decide +kernel) rfl ?_
  intro p e s m args below meth c s₁ B hml hv
  obtain ⟨rfl, hP, hK, hD, hN⟩ := hv
  have hx := B.exec
  have hb := B.bytes
  have hr := B.returns
  have hts : ∀ w ∈ ALL, w.before _ s = true := fun w h => atoms_spec (ws := ws_X5_lineOrNull) B.pre w (List.mem_cons_of_mem _ h)
  have hown : s.vm.findClass RX5 = some m.cls := findClass_of_methodNamed B.named
  have hlocks := B.notSynchronized
  have hS : va_S noA s.heap s.heap [] := va_S.rf
  generalize inW [(kr, .inr (5, [.ref la, .ref ia, .ref na, .ref b4, .ref b6, .ref b8, .ref b10, .int (iI (((sh : Nat) : Int))), .int (iI (((it : Nat) : Int))), .int (iI (lc)), .int (iI (((dy : Nat) : Int))), .int (iI (pct)), .int (iI (lr)), .int (iI (sr))])), (la, arI cs 4 lf), (ia, arQ cs 2 5 itf), (na, arQ cs 3 20 lnf)] = A at hD
  have hl := lv_entry ([.ref kr, .int (iI (zs)), .int (iI (zi))]) (n := 4) (Nat.le_of_ble_eq_true rfl)
  rw [lg_entry_eq]
  generalize (lg_sl ([.ref kr, .int (iI (zs)), .int (iI (zi))]) ++ List.replicate (4 - (lg_sl ([.ref kr, .int (iI (zs)), .int (iI (zi))])).length) Slot.unset).toArray = ls at hl ⊢
  have hl : lv_has ls 4 [(0, .ref kr), (1, .int (iI (zs))), (2, .int (iI (zi)))] := hl
  have hH := rfl (a := s.heap)
  refine lv_aload_n hx hb dX5_lineOrNull_0 rfl (lv_at hl 0 rfl) ?_
  refine lv_iload_n hx hb dX5_lineOrNull_1 rfl (lv_at hl 1 rfl) ?_
  refine lv_iload_n hx hb dX5_lineOrNull_2 rfl (lv_at hl 2 rfl) ?_
  have pk1 : picks [(kr, .inr (5, [.ref la, .ref ia, .ref na, .ref b4, .ref b6, .ref b8, .ref b10, .int (iI (((sh : Nat) : Int))), .int (iI (((it : Nat) : Int))), .int (iI (lc)), .int (iI (((dy : Nat) : Int))), .int (iI (pct)), .int (iI (lr)), .int (iI (sr))])), (la, arI cs 4 lf), (ia, arQ cs 2 5 itf), (na, arQ cs 3 20 lnf)] [0, 1, 2] [(kr, .inr (5, [.ref la, .ref ia, .ref na, .ref b4, .ref b6, .ref b8, .ref b10, .int (iI (((sh : Nat) : Int))), .int (iI (((it : Nat) : Int))), .int (iI (lc)), .int (iI (((dy : Nat) : Int))), .int (iI (pct)), .int (iI (lr)), .int (iI (sr))])), (la, arI cs 4 lf), (ia, arQ cs 2 5 itf)] := ⟨rfl, rfl, rfl, trivial⟩
  refine va_calli (va_runV (As := [.int (iI (zs)), .int (iI (zi))]) (rest := []) ⟨hx, hb, hml, hown, hts⟩ (m_X5_placeOf l D cs kr la ia na b4 b6 b8 b10 sh it lc dy pct lr sr lf itf zs zi (by assumption) (by assumption) (by omega) (by omega)) (cwV 2 hts (gV w_317 w_319 w_p6 w_1 w_320) rfl rfl rfl (by decide +kernel) ⟨Nat.le_of_ble_eq_true rfl, Nat.le_of_ble_eq_true rfl⟩) (PC_V hK hN hP hD [0, 1, 2] rfl pk1 rfl rfl) rfl rfl hl.1 rfl (lv_room (Nat.le_of_ble_eq_true rfl)) dX5_lineOrNull_3 ⟨Nat.le_of_ble_eq_true rfl, Nat.le_of_ble_eq_true rfl⟩) hS (fun _ _ h => False.elim h) (fun _ h => False.elim h) (fun r u t H locs ht hvm hw hB hz1 hk1 hS => ?_)
  subst hw
  have hP := P_kept hP hk1
  have hpl := plI_s sh it zs zi
  refine lv_istore_n (lv' := [(3, .int (iI (plI sh it zs zi))), (0, .ref kr), (1, .int (iI (zs))), (2, .int (iI (zi)))]) hx hb dX5_lineOrNull_6 rfl hl (by decide) rfl (fun ls hl => ?_)
  refine lv_iload_n hx hb dX5_lineOrNull_7 rfl (lv_at hl 0 rfl) ?_
  refine my_if_lt (tgt := 29) hx hb (by omega) dX5_lineOrNull_8 (by decide) (fun bh2 => ?_) (fun bh2 => ?_)
  · refine lv_null hx hb dX5_lineOrNull_29 ?_
    have hres : (Value.null : Value) = va_rf (lnO sh it lnf zs zi) := by
        unfold lnO; rw [if_neg (by omega)]; rfl
    exact W.aret hx hb hr (Or.inl ⟨_, rfl⟩) (Or.inl rfl) (fun t ht hW => ⟨⟨_, (), by rw [hres], rfl, trivial⟩, hS.F ht⟩) hS.2.2 dX5_lineOrNull_30
  · refine lv_iload_n hx hb dX5_lineOrNull_11 rfl (lv_at hl 0 rfl) ?_
    refine lv_aload_n hx hb dX5_lineOrNull_12 rfl (lv_at hl 1 rfl) ?_
    refine my_get hx hb hts inAX5 hown hK hP 0 rfl rfl 2 (by decide) w_71 rfl rfl dX5_lineOrNull_13 ?_
    refine my_alenQ hx hb hK hP 3 3 rfl rfl dX5_lineOrNull_16 ?_
    refine my_icmp_ge (tgt := 29) hx hb (by omega) dX5_lineOrNull_17 (by decide) (fun bh3 => (by omega : False).elim) (fun bh3 => ?_)
    refine lv_aload_n hx hb dX5_lineOrNull_20 rfl (lv_at hl 1 rfl) ?_
    refine my_get hx hb hts inAX5 hown hK hP 0 rfl rfl 2 (by decide) w_71 rfl rfl dX5_lineOrNull_21 ?_
    refine lv_iload_n hx hb dX5_lineOrNull_24 rfl (lv_at hl 0 rfl) ?_
    refine my_aald hx hb hK hP 3 3 rfl rfl (by omega) (k := (plI sh it zs zi).toNat) (rfl) dX5_lineOrNull_25 ?_
    refine lv_goto (tgt := 30) hx hb dX5_lineOrNull_26 (by decide) ?_
    have hres : (va_rf (lnf ((plI sh it zs zi).toNat)) : Value) = va_rf (lnO sh it lnf zs zi) := by
        unfold lnO; rw [if_pos (by omega), show plI sh it zs zi = zs * 5 + zi from by omega]
    exact W.aret hx hb hr (Or.inl ⟨_, rfl⟩) (va_rf_or _) (fun t ht hW => ⟨⟨_, (), by rw [hres], rfl, trivial⟩, hS.F ht⟩) hS.2.2 dX5_lineOrNull_30

abbrev ws_X5_requireLine : List Cond := Cond.code yX5_requireLine cX5_requireLine 4 (some (.object "Replen$Line")) :: ALL
set_option maxHeartbeats 4000000 in
set_option maxRecDepth 100000 in
theorem m_X5_requireLine (l : Launch) (hst : l.stackTraces = false) (D : va_G) (cs : Nat → ClassId) (kr la ia na b4 b6 b8 b10 sh it : Nat) (lc : Int) (dy : Nat) (pct lr sr : Int) (lf : Nat → Int) (itf : Nat → Option Nat) (lnf : Nat → Option Nat) (zs zi : Int) (hsh : sh ≤ 4) (hit : it ≤ 5) (hitf : ∀ j, j < it → itf j ≠ none) (hzs : -2147483648 ≤ zs ∧ zs < 2147483648) (hzi : -2147483648 ≤ zi ∧ zi < 2147483648) : vx_Met l yX5_requireLine ws_X5_requireLine ({ frames := 7, cells := 3, slots := 18, locals := 104 }) (va_Pc [.ref kr, .int (iI (zs)), .int (iI (zi))] (PE D cs [(kr, .inr (5, [.ref la, .ref ia, .ref na, .ref b4, .ref b6, .ref b8, .ref b10, .int (iI (((sh : Nat) : Int))), .int (iI (((it : Nat) : Int))), .int (iI (lc)), .int (iI (((dy : Nat) : Int))), .int (iI (pct)), .int (iI (lr)), .int (iI (sr))])), (la, arI cs 4 lf), (ia, arQ cs 2 5 itf), (na, arQ cs 3 20 lnf)] noA)) (va_Qq (fun r (_ : Unit) => cdL sh it lnf zs zi = 0 ∧ r = lnf (zs * 5 + zi).toNat) (fun _ _ => True) noA) (vx_X (fun (u : Nat) => u = cdL sh it lnf zs zi ∧ u ≠ 0) (fun E u _ => E = exN u) noA) 3 18 noA := by
  refine vx_ofW (cc := cX5_requireLine) (maxL := 4) (ret := ((some (.object "Replen$Line")))) (by decide +kernel) rfl ?_
  intro p e s m args below meth c s₁ B hml hnt hv
  obtain ⟨rfl, ⟨hP, hK, hD, hN⟩, hE⟩ := hv
  have hx := B.exec
  have hb := B.bytes
  have hr := B.returns
  have hts : ∀ w ∈ ALL, w.before _ s = true := fun w h => atoms_spec (ws := ws_X5_requireLine) B.pre w (List.mem_cons_of_mem _ h)
  have hown : s.vm.findClass RX5 = some m.cls := findClass_of_methodNamed B.named
  have hlocks := B.notSynchronized
  have hS : va_S noA s.heap s.heap [] := va_S.rf
  generalize inW [(kr, .inr (5, [.ref la, .ref ia, .ref na, .ref b4, .ref b6, .ref b8, .ref b10, .int (iI (((sh : Nat) : Int))), .int (iI (((it : Nat) : Int))), .int (iI (lc)), .int (iI (((dy : Nat) : Int))), .int (iI (pct)), .int (iI (lr)), .int (iI (sr))])), (la, arI cs 4 lf), (ia, arQ cs 2 5 itf), (na, arQ cs 3 20 lnf)] = A at hD
  have hl := lv_entry ([.ref kr, .int (iI (zs)), .int (iI (zi))]) (n := 4) (Nat.le_of_ble_eq_true rfl)
  rw [lg_entry_eq]
  generalize (lg_sl ([.ref kr, .int (iI (zs)), .int (iI (zi))]) ++ List.replicate (4 - (lg_sl ([.ref kr, .int (iI (zs)), .int (iI (zi))])).length) Slot.unset).toArray = ls at hl ⊢
  have hl : lv_has ls 4 [(0, .ref kr), (1, .int (iI (zs))), (2, .int (iI (zi)))] := hl
  have hH := rfl (a := s.heap)
  refine lv_aload_n hx hb dX5_requireLine_0 rfl (lv_at hl 0 rfl) ?_
  refine lv_iload_n hx hb dX5_requireLine_1 rfl (lv_at hl 1 rfl) ?_
  have pk1 : picks [(kr, .inr (5, [.ref la, .ref ia, .ref na, .ref b4, .ref b6, .ref b8, .ref b10, .int (iI (((sh : Nat) : Int))), .int (iI (((it : Nat) : Int))), .int (iI (lc)), .int (iI (((dy : Nat) : Int))), .int (iI (pct)), .int (iI (lr)), .int (iI (sr))])), (la, arI cs 4 lf), (ia, arQ cs 2 5 itf), (na, arQ cs 3 20 lnf)] [0, 1] [(kr, .inr (5, [.ref la, .ref ia, .ref na, .ref b4, .ref b6, .ref b8, .ref b10, .int (iI (((sh : Nat) : Int))), .int (iI (((it : Nat) : Int))), .int (iI (lc)), .int (iI (((dy : Nat) : Int))), .int (iI (pct)), .int (iI (lr)), .int (iI (sr))])), (la, arI cs 4 lf)] := ⟨rfl, rfl, trivial⟩
  refine vx_callv (vx_runV (As := [.int (iI (zs))]) (rest := []) ⟨hx, hb, hml, hown, hts⟩ (m_X5_requireShop l hst D cs kr la ia na b4 b6 b8 b10 sh it lc dy pct lr sr lf zs (by assumption) (by omega)) (cwV 1 hts (gV w_277 w_279 w_p1 w_1 w_280) rfl rfl rfl (by decide +kernel) ⟨Nat.le_of_ble_eq_true rfl, Nat.le_of_ble_eq_true rfl⟩) (PE_V hK hN hE hS (fun _ h => False.elim h) hP hD [0, 1] rfl pk1 rfl rfl) rfl rfl hl.1 rfl (lv_room (Nat.le_of_ble_eq_true rfl)) dX5_requireLine_2 ⟨Nat.le_of_ble_eq_true rfl, Nat.le_of_ble_eq_true rfl⟩) hS (fun _ _ h => False.elim h) (fun _ h => False.elim h) (fun _ _ h => False.elim h) (fun E ce q9 u t H1 locs1 ht hvm hpx hBX hz1 hk1 hS1 hce hcv hcl => ?_) (fun u t H locs ht hvm hw hB hz1 hk1 hS => ?_)
  · have hcode : u = cdL sh it lnf zs zi := by
        have h9 : u = cdS sh zs := hpx.1
        have h10 : u ≠ 0 := hpx.2
        have h11 := cdS_s sh zs
        unfold cdL; rw [if_neg (by omega)]; omega
    exact vx_out (fun x hx => (hnt x hx).elim) hlocks hce hcv hcl (fun t2 ht2 _ => ⟨u, ⟨hcode, hpx.2⟩, hBX, hS1.F ht2⟩) hS1.2.2 (Nat.le_of_ble_eq_true rfl) (Nat.le_of_ble_eq_true rfl)
  have hc2 := hw
  have hP := P_kept hP hk1
  have hcs := cdS_s sh zs
  refine lv_aload_n hx hb dX5_requireLine_5 rfl (lv_at hl 0 rfl) ?_
  refine lv_iload_n hx hb dX5_requireLine_6 rfl (lv_at hl 2 rfl) ?_
  have pk3 : picks [(kr, .inr (5, [.ref la, .ref ia, .ref na, .ref b4, .ref b6, .ref b8, .ref b10, .int (iI (((sh : Nat) : Int))), .int (iI (((it : Nat) : Int))), .int (iI (lc)), .int (iI (((dy : Nat) : Int))), .int (iI (pct)), .int (iI (lr)), .int (iI (sr))])), (la, arI cs 4 lf), (ia, arQ cs 2 5 itf), (na, arQ cs 3 20 lnf)] [0, 2] [(kr, .inr (5, [.ref la, .ref ia, .ref na, .ref b4, .ref b6, .ref b8, .ref b10, .int (iI (((sh : Nat) : Int))), .int (iI (((it : Nat) : Int))), .int (iI (lc)), .int (iI (((dy : Nat) : Int))), .int (iI (pct)), .int (iI (lr)), .int (iI (sr))])), (ia, arQ cs 2 5 itf)] := ⟨rfl, rfl, trivial⟩
  refine vx_callq (vx_runV (As := [.int (iI (zi))]) (rest := []) ⟨hx, hb, hml, hown, hts⟩ (m_X5_requireItem l hst D cs kr la ia na b4 b6 b8 b10 sh it lc dy pct lr sr itf zi (by assumption) (by assumption) (by omega)) (cwV 1 hts (gV w_301 w_303 w_p3 w_1 w_304) rfl rfl rfl (by decide +kernel) ⟨Nat.le_of_ble_eq_true rfl, Nat.le_of_ble_eq_true rfl⟩) (PE_V hK hN hE hS (fun _ h => False.elim h) hP hD [0, 2] rfl pk3 rfl rfl) rfl rfl hl.1 rfl (lv_room (Nat.le_of_ble_eq_true rfl)) dX5_requireLine_7 ⟨Nat.le_of_ble_eq_true rfl, Nat.le_of_ble_eq_true rfl⟩) hS (fun _ _ h => False.elim h) (fun _ h => False.elim h) (fun _ _ h => False.elim h) (fun E ce q9 u t H1 locs1 ht hvm hpx hBX hz1 hk1 hS1 hce hcv hcl => ?_) (fun r u t H locs ht hvm hw hB hz1 hk1 hS => ?_)
  · have hcode : u = cdL sh it lnf zs zi := by
        have h9 : u = cdS it zi := hpx.1
        have h10 : u ≠ 0 := hpx.2
        have h11 := cdS_s it zi
        unfold cdL; rw [if_neg (by omega)]; omega
    exact vx_out (fun x hx => (hnt x hx).elim) hlocks hce hcv hcl (fun t2 ht2 _ => ⟨u, ⟨hcode, hpx.2⟩, hBX, hS1.F ht2⟩) hS1.2.2 (Nat.le_of_ble_eq_true rfl) (Nat.le_of_ble_eq_true rfl)
  obtain ⟨hc4, hw⟩ := hw
  subst hw
  have hP := P_kept hP hk1
  have hci := cdS_s it zi
  refine lv_pop hx hb dX5_requireLine_10 (rf_cat _) ?_
  refine lv_aload_n hx hb dX5_requireLine_11 rfl (lv_at hl 0 rfl) ?_
  refine lv_iload_n hx hb dX5_requireLine_12 rfl (lv_at hl 1 rfl) ?_
  refine lv_iload_n hx hb dX5_requireLine_13 rfl (lv_at hl 2 rfl) ?_
  have pk5 : picks [(kr, .inr (5, [.ref la, .ref ia, .ref na, .ref b4, .ref b6, .ref b8, .ref b10, .int (iI (((sh : Nat) : Int))), .int (iI (((it : Nat) : Int))), .int (iI (lc)), .int (iI (((dy : Nat) : Int))), .int (iI (pct)), .int (iI (lr)), .int (iI (sr))])), (la, arI cs 4 lf), (ia, arQ cs 2 5 itf), (na, arQ cs 3 20 lnf)] [0, 1, 2, 3] [(kr, .inr (5, [.ref la, .ref ia, .ref na, .ref b4, .ref b6, .ref b8, .ref b10, .int (iI (((sh : Nat) : Int))), .int (iI (((it : Nat) : Int))), .int (iI (lc)), .int (iI (((dy : Nat) : Int))), .int (iI (pct)), .int (iI (lr)), .int (iI (sr))])), (la, arI cs 4 lf), (ia, arQ cs 2 5 itf), (na, arQ cs 3 20 lnf)] := ⟨rfl, rfl, rfl, rfl, trivial⟩
  refine va_callq (va_runV (As := [.int (iI (zs)), .int (iI (zi))]) (rest := []) ⟨hx, hb, hml, hown, hts⟩ (m_X5_lineOrNull l D cs kr la ia na b4 b6 b8 b10 sh it lc dy pct lr sr lf itf lnf zs zi (by assumption) (by assumption) (by omega) (by omega)) (cwV 2 hts (gV w_397 w_399 w_p8 w_1 w_400) rfl rfl rfl (by decide +kernel) ⟨Nat.le_of_ble_eq_true rfl, Nat.le_of_ble_eq_true rfl⟩) (PC_V hK hN hP hD [0, 1, 2, 3] rfl pk5 rfl rfl) rfl rfl hl.1 rfl (lv_room (Nat.le_of_ble_eq_true rfl)) dX5_requireLine_14 ⟨Nat.le_of_ble_eq_true rfl, Nat.le_of_ble_eq_true rfl⟩) hS (fun _ _ h => False.elim h) (fun _ h => False.elim h) (fun r u t H locs ht hvm hw hB hz1 hk1 hS => ?_)
  subst hw
  have hP := P_kept hP hk1
  rcases hq6 : (lnO sh it lnf zs zi) with _ | qa7
  · refine lv_astore_nN (lv' := [(3, .null), (0, .ref kr), (1, .int (iI (zs))), (2, .int (iI (zi)))]) hx hb dX5_requireLine_17 rfl hl (by decide) rfl (fun ls hl => ?_)
    refine lv_aload_nN hx hb dX5_requireLine_18 rfl (lv_at hl 0 rfl) ?_
    refine lv_ifnonnullN hx hb dX5_requireLine_19 ?_
    refine my_throwW2 hx hb hst hts hown hE hS (hml.trans hl.1.symm) w_470 (List.mem_of_getElem? (i := 24) rfl) hnt hlocks dX5_requireLine_22 dX5_requireLine_25 dX5_requireLine_26 dX5_requireLine_29 dX5_requireLine_32 (Nat.le_of_ble_eq_true rfl) (Nat.le_of_ble_eq_true rfl) (Nat.le_of_ble_eq_true rfl) (Nat.le_of_ble_eq_true rfl) (fun t H1 ht hz1 hk1 hS1 => ?_) hS.2.2 (Nat.le_of_ble_eq_true rfl) (Nat.le_of_ble_eq_true rfl)
    have hcode : 2 = cdL sh it lnf zs zi := by
        unfold lnO at hq6; rw [if_pos (by omega)] at hq6
        unfold cdL; rw [if_pos (by omega), if_pos hq6]
    exact ⟨2, ⟨hcode, by decide⟩, rfl, hS1.F ht⟩
  · refine lv_astore_n (lv' := [(3, .ref qa7), (0, .ref kr), (1, .int (iI (zs))), (2, .int (iI (zi)))]) hx hb dX5_requireLine_17 rfl hl (by decide) rfl (fun ls hl => ?_)
    refine lv_aload_n hx hb dX5_requireLine_18 rfl (lv_at hl 0 rfl) ?_
    refine lv_ifnonnull (tgt := 33) hx hb dX5_requireLine_19 (by decide) ?_
    refine lv_aload_n hx hb dX5_requireLine_33 rfl (lv_at hl 0 rfl) ?_
    refine vx_ret ?_
    refine W.widen (k := 3) (n := 18) (by omega) (by omega) ?_
    have hcode : cdL sh it lnf zs zi = 0 := by
        unfold lnO at hq6; rw [if_pos (by omega)] at hq6
        unfold cdL; rw [if_pos (by omega), if_neg (by rw [hq6]; simp)]
    have hres : (Value.ref qa7 : Value) = va_rf (lnf (zs * 5 + zi).toNat) := by
        unfold lnO at hq6; rw [if_pos (by omega)] at hq6; rw [hq6]; rfl
    exact W.aret hx hb hr (Or.inl ⟨_, rfl⟩) (Or.inr ⟨_, rfl⟩) (fun t ht hW => ⟨⟨_, (), by rw [hres], ⟨hcode, rfl⟩, trivial⟩, hS.F ht⟩) hS.2.2 dX5_requireLine_34

abbrev ws_X5_leadOf : List Cond := Cond.code yX5_leadOf cX5_leadOf 2 (some .int) :: ALL
set_option maxHeartbeats 4000000 in
set_option maxRecDepth 100000 in
theorem m_X5_leadOf (l : Launch) (D : va_G) (cs : Nat → ClassId) (kr la ia na b4 b6 b8 b10 sh it : Nat) (lc : Int) (dy : Nat) (pct lr sr : Int) (lf : Nat → Int) (zs : Int) (hsh : sh ≤ 4) (hzs : -2147483648 ≤ zs ∧ zs < 2147483648) : Met l yX5_leadOf ws_X5_leadOf ({ frames := 1, cells := 0, slots := 0, locals := 21 }) (va_Pc [.ref kr, .int (iI (zs))] (PC D cs [(kr, .inr (5, [.ref la, .ref ia, .ref na, .ref b4, .ref b6, .ref b8, .ref b10, .int (iI (((sh : Nat) : Int))), .int (iI (((it : Nat) : Int))), .int (iI (lc)), .int (iI (((dy : Nat) : Int))), .int (iI (pct)), .int (iI (lr)), .int (iI (sr))])), (la, arI cs 4 lf)])) (va_Qi (fun r (_ : Unit) => r = iI (if 0 ≤ zs ∧ zs < (sh : Int) then lf zs.toNat else 1)) (fun _ _ => True) noA) 0 0 noA := by
  refine Met.ofW (cc := cX5_leadOf) (maxL := 2) (ret := (some .int)) (by decide +kernel) rfl ?_
  intro p e s m args below meth c s₁ B hml hv
  obtain ⟨rfl, hP, hK, hD, hN⟩ := hv
  have hx := B.exec
  have hb := B.bytes
  have hr := B.returns
  have hts : ∀ w ∈ ALL, w.before _ s = true := fun w h => atoms_spec (ws := ws_X5_leadOf) B.pre w (List.mem_cons_of_mem _ h)
  have hown : s.vm.findClass RX5 = some m.cls := findClass_of_methodNamed B.named
  have hlocks := B.notSynchronized
  have hS : va_S noA s.heap s.heap [] := va_S.rf
  generalize inW [(kr, .inr (5, [.ref la, .ref ia, .ref na, .ref b4, .ref b6, .ref b8, .ref b10, .int (iI (((sh : Nat) : Int))), .int (iI (((it : Nat) : Int))), .int (iI (lc)), .int (iI (((dy : Nat) : Int))), .int (iI (pct)), .int (iI (lr)), .int (iI (sr))])), (la, arI cs 4 lf)] = A at hD
  have hl := lv_entry ([.ref kr, .int (iI (zs))]) (n := 2) (Nat.le_of_ble_eq_true rfl)
  rw [lg_entry_eq]
  generalize (lg_sl ([.ref kr, .int (iI (zs))]) ++ List.replicate (2 - (lg_sl ([.ref kr, .int (iI (zs))])).length) Slot.unset).toArray = ls at hl ⊢
  have hl : lv_has ls 2 [(0, .ref kr), (1, .int (iI (zs)))] := hl
  have hH := rfl (a := s.heap)
  refine lv_aload_n hx hb dX5_leadOf_0 rfl (lv_at hl 0 rfl) ?_
  refine lv_iload_n hx hb dX5_leadOf_1 rfl (lv_at hl 1 rfl) ?_
  have pk1 : picks [(kr, .inr (5, [.ref la, .ref ia, .ref na, .ref b4, .ref b6, .ref b8, .ref b10, .int (iI (((sh : Nat) : Int))), .int (iI (((it : Nat) : Int))), .int (iI (lc)), .int (iI (((dy : Nat) : Int))), .int (iI (pct)), .int (iI (lr)), .int (iI (sr))])), (la, arI cs 4 lf)] [0, 1] [(kr, .inr (5, [.ref la, .ref ia, .ref na, .ref b4, .ref b6, .ref b8, .ref b10, .int (iI (((sh : Nat) : Int))), .int (iI (((it : Nat) : Int))), .int (iI (lc)), .int (iI (((dy : Nat) : Int))), .int (iI (pct)), .int (iI (lr)), .int (iI (sr))])), (la, arI cs 4 lf)] := ⟨rfl, rfl, trivial⟩
  refine va_calli (va_runV (As := [.int (iI (zs))]) (rest := []) ⟨hx, hb, hml, hown, hts⟩ (m_X5_isShop l D cs kr la ia na b4 b6 b8 b10 sh it lc dy pct lr sr lf zs (by assumption) (by omega)) (cwV 1 hts (gV w_281 w_283 w_p2 w_1 w_284) rfl rfl rfl (by decide +kernel) ⟨Nat.le_of_ble_eq_true rfl, Nat.le_of_ble_eq_true rfl⟩) (PC_V hK hN hP hD [0, 1] rfl pk1 rfl rfl) rfl rfl hl.1 rfl (lv_room (Nat.le_of_ble_eq_true rfl)) dX5_leadOf_2 ⟨Nat.le_of_ble_eq_true rfl, Nat.le_of_ble_eq_true rfl⟩) hS (fun _ _ h => False.elim h) (fun _ h => False.elim h) (fun r u t H locs ht hvm hw hB hz1 hk1 hS => ?_)
  subst hw
  have hP := P_kept hP hk1
  have hok := okI_s sh zs
  refine my_if_eq (tgt := 17) hx hb (by omega) dX5_leadOf_5 (by decide) (fun bh2 => ?_) (fun bh2 => ?_)
  · refine lv_iconst (v := iI (1)) hx hb dX5_leadOf_17 rfl ?_
    have hres : iI (1) = iI (if 0 ≤ zs ∧ zs < (sh : Int) then lf zs.toNat else 1) := congrArg iI (by
        first | rw [if_pos (by omega)] | rw [if_neg (by omega)])
    exact W.iret hx hb hr (fun t ht hW => ⟨⟨_, (), rfl, hres, trivial⟩, hS.F ht⟩) hS.2.2 dX5_leadOf_18
  · refine lv_aload_n hx hb dX5_leadOf_8 rfl (lv_at hl 0 rfl) ?_
    refine my_get hx hb hts inAX5 hown hK hP 0 rfl rfl 0 (by decide) w_69 rfl rfl dX5_leadOf_9 ?_
    refine lv_iload_n hx hb dX5_leadOf_12 rfl (lv_at hl 1 rfl) ?_
    refine my_iald hx hb hK hP 1 rfl (by omega) (k := zs.toNat) (rfl) dX5_leadOf_13 ?_
    refine lv_goto (tgt := 18) hx hb dX5_leadOf_14 (by decide) ?_
    have hres : iI (lf zs.toNat) = iI (if 0 ≤ zs ∧ zs < (sh : Int) then lf zs.toNat else 1) := congrArg iI (by
        first | rw [if_pos (by omega)] | rw [if_neg (by omega)])
    exact W.iret hx hb hr (fun t ht hW => ⟨⟨_, (), rfl, hres, trivial⟩, hS.F ht⟩) hS.2.2 dX5_leadOf_18
end
