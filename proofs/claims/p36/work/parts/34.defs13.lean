theorem PC_Va {D : va_G} {cs : Nat → ClassId} {W : va_W} {s : State} {H : Heap} {b : Nat} {As : List Value} {C : String} {T : u_T} {N ci : Nat} {fs : List Value} {A0 : Nat → Prop} (hK : KK D cs s) (hN : NN s) (hP : va_P D vwCl W H) (hD : va_D A0 W) (hw : W[0]? = some (b, .inr (ci, fs))) (hc : vwCl[ci]? = some (C, T, N)) : PreV s H C b (va_Pc (.ref b :: As) (PC D cs W)) As :=
  ⟨PC_blind, va_recv hK hP hc hw, fun U hU hW => ⟨rfl, by rw [hU]; exact hP, va_K.moved hW.alike hK, inW_D hD, hN.warm hW⟩⟩
theorem inW_suba {A0 : Nat → Prop} {ws : va_W} (hD : va_D A0 ws) : ∀ q, inW ws q → A0 q := by
  intro q h
  obtain ⟨w, hw, e⟩ := List.mem_map.mp h
  obtain ⟨j, hj⟩ := List.getElem?_of_mem hw
  rw [← e]; exact hD.2 j w hj
theorem fst_ap {b b' X X' : va_W} (h1 : b'.map Prod.fst = b.map Prod.fst) (h2 : X'.map Prod.fst = X.map Prod.fst) : (b' ++ X').map Prod.fst = (b ++ X).map Prod.fst := by rw [List.map_append, List.map_append, h1, h2]
def lmk (ld fd : Nat) (fk fv es sk so lo lv : Int) (se ef dm sl ar : Nat → Int) : LT := (ld, fd, fk, fv, es, sk, so, lo, lv, se, ef, dm, sl, ar)
def imk (pk fs st : Int) (ti go pr : Nat → Int) : IT := (pk, fs, st, ti, go, pr)
def qS (c : Nat → Bool) (f : LT → LT) (LR : Nat → LT) (n : Nat) : Nat → LT := fun a => if a < n ∧ c a = true then f (LR a) else LR a
theorem upR_id {α : Type} {f : Nat → α} {k : Nat} : upR f k (f k) = f := by funext j; simp only [upR]; split; (rename_i e; rw [e]); rfl
section GS
variable {c : Nat → Bool} {f : LT → LT} {LR : Nat → LT} {n : Nat}
theorem qS_0 : qS c f LR 0 = LR := by funext a; simp [qS]
theorem qS_n : qS c f LR n n = LR n := by simp [qS]
theorem qS_ge {a : Nat} (h : n ≤ a) : qS c f LR n a = LR a := by simp only [qS]; rw [if_neg (by omega)]
theorem qS_id : upR (qS c f LR n) n (LR n) = qS c f LR n := by
  have h := upR_id (f := qS c f LR n) (k := n)
  rwa [qS_n] at h
theorem qS_up (h : c n = true) : upR (qS c f LR n) n (f (LR n)) = qS c f LR (n + 1) := by
  funext j
  simp only [upR, qS]
  by_cases e : j = n
  · subst e; rw [if_pos rfl, if_pos ⟨by omega, h⟩]
  · rw [if_neg e]
    by_cases h2 : j < n ∧ c j = true
    · rw [if_pos h2, if_pos ⟨by omega, h2.2⟩]
    · rw [if_neg h2, if_neg (fun h3 => h2 ⟨by omega, h3.2⟩)]
theorem qS_no (h : ¬ c n = true) : qS c f LR n = qS c f LR (n + 1) := by
  funext j
  simp only [qS]
  by_cases e : j = n
  · subst e; rw [if_neg (by omega), if_neg (fun h3 => h h3.2)]
  · by_cases h2 : j < n ∧ c j = true
    · rw [if_pos h2, if_pos ⟨by omega, h2.2⟩]
    · rw [if_neg h2, if_neg (fun h3 => h2 ⟨by omega, h3.2⟩)]
end GS
/-- the lines that learn from a day -/
def cL (cr : Nat → Bool) (IR : Nat → IT) (dy : Nat) : Nat → Bool := fun a => cr a && decide (ipr (IR (a % 5)) dy = 0)
theorem cL_t {cr : Nat → Bool} {IR : Nat → IT} {dy a : Nat} (h : cr a = true) (h2 : ipr (IR (a % 5)) dy = 0) : cL cr IR dy a = true := by simp [cL, h, h2]
theorem cL_f {cr : Nat → Bool} {IR : Nat → IT} {dy a : Nat} (h : ¬ cr a = true ∨ ipr (IR (a % 5)) dy ≠ 0) : ¬ cL cr IR dy a = true := by
  intro h2
  simp only [cL, Bool.and_eq_true, decide_eq_true_eq] at h2
  rcases h with h | h
  · exact h h2.1
  · exact h h2.2
def lrnR (dy : Nat) (lr sr : Int) (r : LT) : LT :=
  lmk (lld r) (lfd r) (lfk r) (lfv r) (les r + 1) (lsk r) (lso r) (llo r) (lvI (llv r) (lse r (dy % 7)) (ldm r dy) lr) (snI (lvI (llv r) (lse r (dy % 7)) (ldm r dy) lr) (lse r) (dy % 7) (ldm r dy) sr)
    (upI (lef r) (erI (ldm r dy) (unI (llv r) (lse r) dy)).toNat (lef r (erI (ldm r dy) (unI (llv r) (lse r) dy)).toNat + 1)) (ldm r) (lsl r) (lar r)
def rcvR (dy : Nat) (r : LT) : LT := lmk (lld r) (lfd r) (lfk r) (lfv r) (les r) (lsk r + lar r dy) (lso r) (llo r) (llv r) (lse r) (lef r) (ldm r) (lsl r) (lar r)
