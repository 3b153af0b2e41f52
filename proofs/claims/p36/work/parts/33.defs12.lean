/-! a line's and an item's numbers -/
abbrev LT : Type := Nat × Nat × Int × Int × Int × Int × Int × Int × Int × (Nat → Int) × (Nat → Int) × (Nat → Int) × (Nat → Int) × (Nat → Int)
abbrev IT : Type := Int × Int × Int × (Nat → Int) × (Nat → Int) × (Nat → Int)
def lld (r : LT) : Nat := r.1
def lfd (r : LT) : Nat := r.2.1
def lfk (r : LT) : Int := r.2.2.1
def lfv (r : LT) : Int := r.2.2.2.1
def les (r : LT) : Int := r.2.2.2.2.1
def lsk (r : LT) : Int := r.2.2.2.2.2.1
def lso (r : LT) : Int := r.2.2.2.2.2.2.1
def llo (r : LT) : Int := r.2.2.2.2.2.2.2.1
def llv (r : LT) : Int := r.2.2.2.2.2.2.2.2.1
def lse (r : LT) : Nat → Int := r.2.2.2.2.2.2.2.2.2.1
def lef (r : LT) : Nat → Int := r.2.2.2.2.2.2.2.2.2.2.1
def ldm (r : LT) : Nat → Int := r.2.2.2.2.2.2.2.2.2.2.2.1
def lsl (r : LT) : Nat → Int := r.2.2.2.2.2.2.2.2.2.2.2.2.1
def lar (r : LT) : Nat → Int := r.2.2.2.2.2.2.2.2.2.2.2.2.2
def ipk (r : IT) : Int := r.1
def ifs (r : IT) : Int := r.2.1
def ist (r : IT) : Int := r.2.2.1
def iti (r : IT) : Nat → Int := r.2.2.2.1
def igo (r : IT) : Nat → Int := r.2.2.2.2.1
def ipr (r : IT) : Nat → Int := r.2.2.2.2.2
/-- an item's cells -/
def itD (cs : Nat → ClassId) (IA : Nat → Nat → Nat) (i : Nat) (r : IT) : va_W :=
  [(IA i 0, .inr (1, [.int (iI (ipk r)), .int (iI (ifs r)), .ref (IA i 1), .ref (IA i 3), .ref (IA i 5), .int (iI (ist r))])),
   (IA i 1, .inr (0, [.ref (IA i 2)])), (IA i 2, arI cs 1005 (iti r)), (IA i 3, .inr (0, [.ref (IA i 4)])), (IA i 4, arI cs 1005 (igo r)), (IA i 5, .inr (0, [.ref (IA i 6)])), (IA i 6, arI cs 1005 (ipr r))]
/-- a line's cells -/
def lnD (cs : Nat → ClassId) (IA LA : Nat → Nat → Nat) (a : Nat) (r : LT) : va_W :=
  [(LA a 0, .inr (3, [.ref (IA (a % 5) 0), .int (iI ((lld r : Nat) : Int)), .int (iI ((lfd r : Nat) : Int)), .int (iI (lfk r)), .int (iI (lfv r)), .ref (LA a 1), .ref (LA a 3), .ref (LA a 4), .ref (LA a 6), .ref (LA a 8), .int (iI (les r)), .int (iI (lsk r)), .int (iI (lso r)), .int (iI (llo r))])),
   (LA a 1, .inr (2, [.ref (LA a 2), .int (iI (llv r))])), (LA a 2, arI cs 7 (lse r)), (LA a 3, arI cs 21 (lef r)), (LA a 4, .inr (0, [.ref (LA a 5)])), (LA a 5, arI cs 1005 (ldm r)), (LA a 6, .inr (0, [.ref (LA a 7)])), (LA a 7, arI cs 1005 (lsl r)), (LA a 8, .inr (0, [.ref (LA a 9)])), (LA a 9, arI cs 1005 (lar r))]
def fEx (n : Nat) (f : Nat → va_W) (a : Nat) : va_W := ((List.range n).filter (fun b => b != a)).flatMap f
def fAll (n : Nat) (f : Nat → va_W) : va_W := (List.range n).flatMap f
theorem fl_op {l : List Nat} (f : Nat → va_W) {a : Nat} (hn : l.Nodup) (ha : a ∈ l) : (l.flatMap f).Perm (f a ++ (l.filter (fun b => b != a)).flatMap f) := by
  induction l with
  | nil => cases ha
  | cons b l ih =>
    have hn2 := List.nodup_cons.mp hn
    by_cases e : b = a
    · subst e
      have h1 : l.filter (fun c => c != b) = l := List.filter_eq_self.mpr (fun c hc => by
        have : c ≠ b := fun h => hn2.1 (h ▸ hc)
        simpa using this)
      rw [List.filter_cons_of_neg (by simp), h1, List.flatMap_cons]
    · have ha2 : a ∈ l := (List.mem_cons.mp ha).resolve_left (fun h => e h.symm)
      rw [List.filter_cons_of_pos (by simpa using e), List.flatMap_cons, List.flatMap_cons]
      refine ((ih hn2.2 ha2).append_left (f b)).trans ?_
      rw [← List.append_assoc, ← List.append_assoc]
      exact List.perm_append_comm.append_right _
theorem f_op {n : Nat} (f : Nat → va_W) {a : Nat} (ha : a < n) : (fAll n f).Perm (f a ++ fEx n f a) := fl_op f List.nodup_range (List.mem_range.mpr ha)
theorem fEx_eq {n : Nat} {f g : Nat → va_W} {a : Nat} (h : ∀ b, b ≠ a → f b = g b) : fEx n f a = fEx n g a := by
  unfold fEx
  have key : ∀ l : List Nat, (l.filter (fun b => b != a)).flatMap f = (l.filter (fun b => b != a)).flatMap g := by
    intro l
    induction l with
    | nil => rfl
    | cons b l ih =>
      by_cases e : b = a
      · rw [List.filter_cons_of_neg (by simpa using e)]; exact ih
      · rw [List.filter_cons_of_pos (by simpa using e), List.flatMap_cons, List.flatMap_cons, ih, h b e]
  exact key _
def itC (cs : Nat → ClassId) (IA : Nat → Nat → Nat) (it : Nat) (IR : Nat → IT) (i : Nat) : va_W := if i < it then itD cs IA i (IR i) else []
def lnC (cs : Nat → ClassId) (IA LA : Nat → Nat → Nat) (cr : Nat → Bool) (LR : Nat → LT) (a : Nat) : va_W := if cr a = true then lnD cs IA LA a (LR a) else []
def upR {α : Type} (f : Nat → α) (k : Nat) (v : α) : Nat → α := fun j => if j = k then v else f j
theorem upR_same {α : Type} {f : Nat → α} {k : Nat} {v : α} : upR f k v k = v := by simp [upR]
theorem upR_ne {α : Type} {f : Nat → α} {k j : Nat} {v : α} (h : j ≠ k) : upR f k v j = f j := by simp [upR, h]
/-- all items' and lines' cells -/
def aW (cs : Nat → ClassId) (IA LA : Nat → Nat → Nat) (it : Nat) (cr : Nat → Bool) (IR : Nat → IT) (LR : Nat → LT) : va_W := fAll 5 (itC cs IA it IR) ++ fAll 20 (lnC cs IA LA cr LR)
def xI (cs : Nat → ClassId) (IA LA : Nat → Nat → Nat) (it : Nat) (cr : Nat → Bool) (IR : Nat → IT) (LR : Nat → LT) (i : Nat) : va_W := fEx 5 (itC cs IA it IR) i ++ fAll 20 (lnC cs IA LA cr LR)
def xL (cs : Nat → ClassId) (IA LA : Nat → Nat → Nat) (it : Nat) (cr : Nat → Bool) (IR : Nat → IT) (LR : Nat → LT) (a : Nat) : va_W := fAll 5 (itC cs IA it IR) ++ fEx 20 (lnC cs IA LA cr LR) a
def xB (cs : Nat → ClassId) (IA LA : Nat → Nat → Nat) (it : Nat) (cr : Nat → Bool) (IR : Nat → IT) (LR : Nat → LT) (i a : Nat) : va_W := fEx 5 (itC cs IA it IR) i ++ fEx 20 (lnC cs IA LA cr LR) a
section OP
variable {cs : Nat → ClassId} {IA LA : Nat → Nat → Nat} {it : Nat} {cr : Nat → Bool} {IR : Nat → IT} {LR : Nat → LT} {i a : Nat}
theorem opI (hi : i < 5) (ht : i < it) : (aW cs IA LA it cr IR LR).Perm (itD cs IA i (IR i) ++ xI cs IA LA it cr IR LR i) := by
  unfold aW xI
  have h := f_op (itC cs IA it IR) hi
  rw [show itC cs IA it IR i = itD cs IA i (IR i) from if_pos ht] at h
  rw [← List.append_assoc]
  exact h.append_right _
theorem opL (ha : a < 20) (hc : cr a = true) : (aW cs IA LA it cr IR LR).Perm (lnD cs IA LA a (LR a) ++ xL cs IA LA it cr IR LR a) := by
  unfold aW xL
  have h := f_op (lnC cs IA LA cr LR) ha
  rw [show lnC cs IA LA cr LR a = lnD cs IA LA a (LR a) from if_pos hc] at h
  refine (h.append_left _).trans ?_
  rw [← List.append_assoc, ← List.append_assoc]
  exact List.perm_append_comm.append_right _
theorem opB (hi : i < 5) (ht : i < it) (ha : a < 20) (hc : cr a = true) : (aW cs IA LA it cr IR LR).Perm (itD cs IA i (IR i) ++ (lnD cs IA LA a (LR a) ++ xB cs IA LA it cr IR LR i a)) := by
  refine (opI (i := i) hi ht).trans (List.Perm.append_left _ ?_)
  unfold xI xB
  have h := f_op (lnC cs IA LA cr LR) ha
  rw [show lnC cs IA LA cr LR a = lnD cs IA LA a (LR a) from if_pos hc] at h
  refine (h.append_left _).trans ?_
  rw [← List.append_assoc, ← List.append_assoc]
  exact List.perm_append_comm.append_right _
theorem xI_up (r : IT) : xI cs IA LA it cr IR LR i = xI cs IA LA it cr (upR IR i r) LR i := by
  unfold xI
  rw [fEx_eq (f := itC cs IA it IR) (g := itC cs IA it (upR IR i r)) (fun b hb => by unfold itC; rw [upR_ne hb])]
theorem xL_up (r : LT) : xL cs IA LA it cr IR LR a = xL cs IA LA it cr IR (upR LR a r) a := by
  unfold xL
  rw [fEx_eq (f := lnC cs IA LA cr LR) (g := lnC cs IA LA cr (upR LR a r)) (fun b hb => by unfold lnC; rw [upR_ne hb])]
theorem xB_up (q : IT) (r : LT) : xB cs IA LA it cr IR LR i a = xB cs IA LA it cr (upR IR i q) (upR LR a r) i a := by
  unfold xB
  rw [fEx_eq (f := itC cs IA it IR) (g := itC cs IA it (upR IR i q)) (fun b hb => by unfold itC; rw [upR_ne hb]), fEx_eq (f := lnC cs IA LA cr LR) (g := lnC cs IA LA cr (upR LR a r)) (fun b hb => by unfold lnC; rw [upR_ne hb])]
theorem clI (r : IT) (hi : i < 5) (ht : i < it) : (itD cs IA i r ++ xI cs IA LA it cr IR LR i).Perm (aW cs IA LA it cr (upR IR i r) LR) := by
  have h := (opI (cs := cs) (IA := IA) (LA := LA) (cr := cr) (IR := upR IR i r) (LR := LR) hi ht).symm
  rw [upR_same, ← xI_up r] at h
  exact h
theorem clL (r : LT) (ha : a < 20) (hc : cr a = true) : (lnD cs IA LA a r ++ xL cs IA LA it cr IR LR a).Perm (aW cs IA LA it cr IR (upR LR a r)) := by
  have h := (opL (cs := cs) (IA := IA) (LA := LA) (it := it) (IR := IR) (LR := upR LR a r) ha hc).symm
  rw [upR_same, ← xL_up r] at h
  exact h
theorem clB (q : IT) (r : LT) (hi : i < 5) (ht : i < it) (ha : a < 20) (hc : cr a = true) : (itD cs IA i q ++ (lnD cs IA LA a r ++ xB cs IA LA it cr IR LR i a)).Perm (aW cs IA LA it cr (upR IR i q) (upR LR a r)) := by
  have h := (opB (cs := cs) (IA := IA) (LA := LA) (IR := upR IR i q) (LR := upR LR a r) hi ht ha hc).symm
  rw [upR_same, upR_same, ← xB_up q r] at h
  exact h
theorem fAll_fst {n : Nat} {f g : Nat → va_W} (h : ∀ b, (f b).map Prod.fst = (g b).map Prod.fst) : (fAll n f).map Prod.fst = (fAll n g).map Prod.fst := by
  unfold fAll
  rw [List.map_flatMap, List.map_flatMap]
  congr 1
  funext b
  exact h b
theorem aW_fst {IR' : Nat → IT} {LR' : Nat → LT} : (aW cs IA LA it cr IR LR).map Prod.fst = (aW cs IA LA it cr IR' LR').map Prod.fst := by
  unfold aW
  rw [List.map_append, List.map_append, fAll_fst (f := itC cs IA it IR) (g := itC cs IA it IR'), fAll_fst (f := lnC cs IA LA cr LR) (g := lnC cs IA LA cr LR')]
  · intro b; unfold lnC; split <;> rfl
  · intro b; unfold itC; split <;> rfl
end OP
theorem P_pm {D : va_G} {cl : List vw_C} {b X Y : va_W} {H : Heap} (h : va_P D cl (b ++ X) H) (e : X.Perm Y) : va_P D cl (b ++ Y) H := by
  intro k q hk
  have h1 : q ∈ b ++ X := ((e.append_left b).mem_iff).mpr (List.mem_of_getElem? hk)
  obtain ⟨j, hj⟩ := List.getElem?_of_mem h1
  exact h j q hj
theorem D_nd {A : Nat → Prop} {ws : va_W} (h : va_D A ws) : (ws.map Prod.fst).Nodup := by
  rw [List.Nodup, List.pairwise_iff_getElem]
  intro i j hi hj hij e
  rw [List.length_map] at hi hj
  rw [List.getElem_map, List.getElem_map] at e
  have := h.1 i j ws[i] ws[j] (List.getElem?_eq_getElem hi) (List.getElem?_eq_getElem hj) e
  omega
theorem D_pm {A : Nat → Prop} {b X Y : va_W} (h : va_D A (b ++ X)) (e : X.Perm Y) : va_D A (b ++ Y) := by
  have e2 := e.append_left b
  have hn : ((b ++ Y).map Prod.fst).Nodup := ((e2.map Prod.fst).nodup_iff).mp (D_nd h)
  refine ⟨fun i j p q hi hj hpq => ?_, fun k q hk => ?_⟩
  · obtain ⟨a1, a2⟩ := List.getElem?_eq_some_iff.mp hi
    obtain ⟨b1, b2⟩ := List.getElem?_eq_some_iff.mp hj
    rw [List.Nodup, List.pairwise_iff_getElem] at hn
    rcases Nat.lt_trichotomy i j with g | g | g
    · exact absurd (by rw [List.getElem_map, List.getElem_map, a2, b2, hpq]) (hn i j (by rw [List.length_map]; exact a1) (by rw [List.length_map]; exact b1) g)
    · exact g
    · exact absurd (by rw [List.getElem_map, List.getElem_map, a2, b2, hpq]) (hn j i (by rw [List.length_map]; exact b1) (by rw [List.length_map]; exact a1) g)
  · have h1 : q ∈ b ++ X := (e2.mem_iff).mpr (List.mem_of_getElem? hk)
    obtain ⟨j, hj⟩ := List.getElem?_of_mem h1
    exact h.2 j q hj
def lnq (cr : Nat → Bool) (LA : Nat → Nat → Nat) (a : Nat) : Option Nat := if cr a = true then some (LA a 0) else none
def itq (it : Nat) (IA : Nat → Nat → Nat) (i : Nat) : Option Nat := if i < it then some (IA i 0) else none
theorem lnq_some {cr : Nat → Bool} {LA : Nat → Nat → Nat} {a q : Nat} (h : lnq cr LA a = some q) : cr a = true ∧ q = LA a 0 := by
  unfold lnq at h
  split at h
  · rename_i hc; exact ⟨hc, (Option.some.inj h).symm⟩
  · cases h
theorem lnq_none {cr : Nat → Bool} {LA : Nat → Nat → Nat} {a : Nat} (h : lnq cr LA a = none) : cr a ≠ true := by
  unfold lnq at h
  split at h
  · cases h
  · assumption
theorem itq_some {it : Nat} {IA : Nat → Nat → Nat} {i q : Nat} (h : itq it IA i = some q) : i < it ∧ q = IA i 0 := by
  unfold itq at h
  split at h
  · rename_i hc; exact ⟨hc, (Option.some.inj h).symm⟩
  · cases h
theorem itq_none {it : Nat} {IA : Nat → Nat → Nat} {i : Nat} (h : itq it IA i = none) : ¬ i < it := by
  unfold itq at h
  split at h
  · cases h
  · assumption
theorem itq_lt {it : Nat} {IA : Nat → Nat → Nat} : ∀ j, j < it → itq it IA j ≠ none := fun j h => by unfold itq; rw [if_pos h]; simp
theorem lnO_s {sh it : Nat} {lnf : Nat → Option Nat} {sn tn : Nat} (h1 : sn < sh) (h2 : tn < it) {o : Option Nat} (h : lnO sh it lnf (sn : Int) (tn : Int) = o) : lnf (sn * 5 + tn) = o := (lnO_0 (lnf := lnf) h1 h2).symm.trans h
