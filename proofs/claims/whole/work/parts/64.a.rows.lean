/-! ===== multianewarray of four rows of 1089 ints ===== -/
section MROWS
/-- the outer row, when i of its rows have come -/
def mro (cO : ClassId) (a i : Nat) : Cell := arrV cO 4 (fun j => if j < i then .ref (a + 1 + j) else .null)
def mri (cI : ClassId) : Cell := arrV cI 1089 (fun _ => .int 0)
/-- the states that the instruction goes through -/
def mrs (S : State) (cO cI : ClassId) : Nat → State
  | 0 => S.pushCell (mro cO S.heap.size 0)
  | i + 1 => ((mrs S cO cI i).pushCell (mri cI)).setCell S.heap.size (mro cO S.heap.size (i + 1))
theorem mro_next (cO : ClassId) (a i : Nat) : (mro cO a i).setSlot i (.ref (a + 1 + i)) = mro cO a (i + 1) := by
  unfold mro
  rw [arrV_store]
  congr 1
  funext j
  unfold updV
  by_cases h : j = i
  · subst h
    rw [if_pos rfl, if_pos (Nat.lt_succ_self j)]
  · rw [if_neg h]
    show (if j < i then Value.ref (a + 1 + j) else Value.null) = _
    by_cases h2 : j < i
    · rw [if_pos h2, if_pos (by omega)]
    · rw [if_neg h2, if_neg (by omega)]
theorem mro_size (cO : ClassId) (a i : Nat) : (mro cO a i).slots.size = 4 := arrV_size _ _ _
theorem mri_size (cI : ClassId) : (mri cI).slots.size = 1089 := arrV_size _ _ _
theorem mrs_facts (S : State) (cO cI : ClassId) (i : Nat) : (mrs S cO cI i).heap.size = S.heap.size + 1 + i ∧ (mrs S cO cI i).heap[S.heap.size]? = some (mro cO S.heap.size i) ∧ (mrs S cO cI i).vm = S.vm ∧ (mrs S cO cI i).slotsUsed = S.slotsUsed + 4 + i * 1089 := by
  induction i with
  | zero =>
    refine ⟨by simp [mrs], by simp [mrs], rfl, ?_⟩
    simp [mrs, mro_size]
  | succ i ih =>
    obtain ⟨h1, h2, h3, h4⟩ := ih
    have hlt : S.heap.size < (mrs S cO cI i).heap.size := by omega
    have hc : ((mrs S cO cI i).pushCell (mri cI)).heap[S.heap.size]? = some (mro cO S.heap.size i) := by
      rw [State.heap_pushCell_of_lt (h := hlt)]; exact h2
    refine ⟨?_, State.heap_setCell_self hc, by simp [mrs, h3], ?_⟩
    · simp [mrs, State.setCell, h1]; omega
    · simp [mrs, h4, mri_size]; omega
theorem mrs_old (S : State) (cO cI : ClassId) {x : Addr} (hx : x < S.heap.size) (i : Nat) : (mrs S cO cI i).heap[x]? = S.heap[x]? := by
  induction i with
  | zero => exact State.heap_pushCell_of_lt _ _ hx
  | succ i ih =>
    have h1 := (mrs_facts S cO cI i).1
    have hlt : x < (mrs S cO cI i).heap.size := Nat.lt_of_lt_of_le hx (by rw [h1]; omega)
    show (((mrs S cO cI i).pushCell (mri cI)).setCell S.heap.size _).heap[x]? = _
    rw [State.heap_setCell_other (Nat.ne_of_gt hx), State.heap_pushCell_of_lt (h := hlt), ih]
theorem mrs_row (S : State) (cO cI : ClassId) (i : Nat) : ∀ j, j < i → (mrs S cO cI i).heap[S.heap.size + 1 + j]? = some (mri cI) := by
  induction i with
  | zero => intro j hj; exact absurd hj (Nat.not_lt_zero _)
  | succ i ih =>
    intro j hj
    have h1 := (mrs_facts S cO cI i).1
    show (((mrs S cO cI i).pushCell (mri cI)).setCell S.heap.size _).heap[S.heap.size + 1 + j]? = _
    rw [State.heap_setCell_other (show S.heap.size ≠ S.heap.size + 1 + j by omega)]
    by_cases hji : j = i
    · rw [hji, ← h1]
      exact State.heap_pushCell_size _ _
    · rw [State.heap_pushCell_of_lt (h := show S.heap.size + 1 + j < (mrs S cO cI i).heap.size by omega)]
      exact ih j (by omega)
theorem mrs_top (S : State) (f : JFrame) (cO cI : ClassId) (i : Nat) : mrs (S.setTop f) cO cI i = (mrs S cO cI i).setTop f := by
  induction i with
  | zero => rfl
  | succ i ih => simp only [mrs, ih, State.heap_setTop, State.pushCell_setTop, State.setCell_setTop]
theorem mrs_stand {p : Program} {l : Launch} {e : Env} {R : Room} {s : State} {m : MethodId} {args : Array Value} {below : List Frame} {meth : Method} {c : Code} {T : State} {locs : List Loc} {cells slots : Nat} (X : Stand p l e R s m args below meth c T locs cells slots) (cO cI : ClassId) (i : Nat) :
    Stand p l e R s m args below meth c (mrs T cO cI i) (locs ++ (List.range i).map fun j => ⟨T.heap.size, j⟩) (cells + 1 + i) (slots + 4 + i * 1089) := by
  induction i with
  | zero =>
    have h := X.pushed (mro cO T.heap.size 0)
    rw [mro_size] at h
    simpa [mrs] using h
  | succ i ih =>
    obtain ⟨h1, h2, -, -⟩ := mrs_facts T cO cI i
    have hlt : T.heap.size < (mrs T cO cI i).heap.size := by omega
    have hc : ((mrs T cO cI i).pushCell (mri cI)).heap[T.heap.size]? = some (mro cO T.heap.size i) := by
      rw [State.heap_pushCell_of_lt (h := hlt)]; exact h2
    have h := (ih.pushed (mri cI)).stored hc i (.ref (T.heap.size + 1 + i))
    rw [mri_size, mro_next] at h
    have e1 : (locs ++ (List.range (i + 1)).map fun j => (⟨T.heap.size, j⟩ : Loc)) = (locs ++ (List.range i).map fun j => (⟨T.heap.size, j⟩ : Loc)) ++ [⟨T.heap.size, i⟩] := by rw [List.range_succ, List.map_append, List.append_assoc]; rfl
    have e2 : slots + 4 + (i + 1) * 1089 = slots + 4 + i * 1089 + 1089 := by omega
    rw [e1, e2]
    exact h
end MROWS
