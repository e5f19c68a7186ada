/-! ===== objects being made: worlds as lists ===== -/
/-- room; which cells may change; what is to be reached; what is known of the start -/
abbrev BK : Type := Room × (State → Nat → Prop) × (List Frame → Array Value → State → State → Prop) × (State → Prop)
def BX (E : EV) (M : MI) (K : BK) (p : Program) (s : State) (m : MethodId) (args : Array Value) (meth : Method) (c : Code) : Prop :=
  p.tables.exec = Jvm.exec ∧ c.code = mC M ∧ meth.sig.returnType = mR M ∧ c.maxLocals = mL M ∧ s.vm.findClass (mY M).cls = some m.cls ∧ (∀ w ∈ gt, w.before args s = true) ∧ va_K (eD E) vwCl (tyE E) s ∧ meth.locks = false ∧ ((mY M).name = "<init>" → meth.name = "<init>") ∧ (∀ q, s.heap.size ≤ q → K.2.1 s q) ∧ K.2.2.2 s
def BW (E : EV) (M : MI) (K : BK) (ws : va_W) (n k pc : Nat) (lv : List (Nat × Value)) (st : List Value) : Prop :=
  ∀ (p : Program) (e : Env) (s : State) (m : MethodId) (args : Array Value) (below : List Frame) (meth : Method) (c : Code) (H : Heap) (ls : Array Slot) (locs : List Loc),
    BX E M K p s m args meth c → va_P (eD E) vwCl ws H → va_D (K.2.1 s) ws → va_S (K.2.1 s) s.heap H locs → lv_has ls (mL M) lv →
    W p (eL E) e K.1 s m args below meth c H locs n k (K.2.2.1 below args s) (F0 m pc ls st)
section BWR
variable {E : EV} {M : MI} {K : BK} {ws : va_W} {n k pc : Nat} {lv : List (Nat × Value)} {st : List Value}
theorem bw_iconst {z : Int} (v : Int32) (d : decode (mC M) pc = .ok (.iconst z, 1)) (hv : Int32.ofInt z = v) (kk : BW E M K ws n k (pc + 1) lv (.int v :: st)) : BW E M K ws n k pc lv st :=
  fun p e s m args below meth c H ls locs C hP hD hS hl => lv_iconst C.1 C.2.1 d hv (kk p e s m args below meth c H ls locs C hP hD hS hl)
theorem bw_bipush {z : Int} (v : Int32) (d : decode (mC M) pc = .ok (.bipush z, 2)) (hv : (Int8.ofInt z).toInt32 = v) (kk : BW E M K ws n k (pc + 2) lv (.int v :: st)) : BW E M K ws n k pc lv st :=
  fun p e s m args below meth c H ls locs C hP hD hS hl => lv_bipush C.1 C.2.1 d hv (kk p e s m args below meth c H ls locs C hP hD hS hl)
theorem bw_sipush {z : Int} (v : Int32) (d : decode (mC M) pc = .ok (.sipush z, 3)) (hv : (Int16.ofInt z).toInt32 = v) (kk : BW E M K ws n k (pc + 3) lv (.int v :: st)) : BW E M K ws n k pc lv st :=
  fun p e s m args below meth c H ls locs C hP hD hS hl => lv_sipush C.1 C.2.1 d hv (kk p e s m args below meth c H ls locs C hP hD hS hl)
theorem bw_aload {z : Fin 4} {x : Nat} (j : Nat) (d : decode (mC M) pc = .ok (.aload_n z, 1)) (q : lv[j]? = some ((z : Nat), .ref x)) (kk : BW E M K ws n k (pc + 1) lv (.ref x :: st)) : BW E M K ws n k pc lv st :=
  fun p e s m args below meth c H ls locs C hP hD hS hl => lv_aload_n C.1 C.2.1 d rfl (lv_at hl j q) (kk p e s m args below meth c H ls locs C hP hD hS hl)
theorem bw_iload {z : Fin 4} {x : Int32} (j : Nat) (d : decode (mC M) pc = .ok (.iload_n z, 1)) (q : lv[j]? = some ((z : Nat), .int x)) (kk : BW E M K ws n k (pc + 1) lv (.int x :: st)) : BW E M K ws n k pc lv st :=
  fun p e s m args below meth c H ls locs C hP hD hS hl => lv_iload_n C.1 C.2.1 d rfl (lv_at hl j q) (kk p e s m args below meth c H ls locs C hP hD hS hl)
theorem bw_dup {x : Nat} (d : decode (mC M) pc = .ok (.dup, 1)) (kk : BW E M K ws n k (pc + 1) lv (.ref x :: .ref x :: st)) : BW E M K ws n k pc lv (.ref x :: st) :=
  fun p e s m args below meth c H ls locs C hP hD hS hl => lv_dup C.1 C.2.1 d rfl (kk p e s m args below meth c H ls locs C hP hD hS hl)
theorem bw_imul {x y : Int32} (d : decode (mC M) pc = .ok (.imul, 1)) (kk : BW E M K ws n k (pc + 1) lv (.int (x * y) :: st)) : BW E M K ws n k pc lv (.int y :: .int x :: st) :=
  fun p e s m args below meth c H ls locs C hP hD hS hl => lv_imul C.1 C.2.1 d (kk p e s m args below meth c H ls locs C hP hD hS hl)
theorem bw_obj {i x : Nat} (g1 : Cond.methodLink (mY M).cls i Lib.objectInit ∈ gt) (g2 : Cond.instanceMethod Lib.objectInit ∈ gt) (g3 : Cond.code Lib.objectInit ⟨#[0xb1]⟩ 1 none ∈ gt) (d : decode (mC M) pc = .ok (.invokespecial i, 3)) (hR : 1 ≤ K.1.frames) (hR2 : (st.map Value.category).sum + 12 ≤ K.1.locals) (kk : BW E M K ws n k (pc + 3) lv st) : BW E M K ws n k pc lv (.ref x :: st) := by
  intro p e s m args below meth c H ls locs C hP hD hS hl
  have hg := C.2.2.2.2.2.1
  refine W.objInit C.1 C.2.1 C.2.2.2.2.1 (hg _ g1) (hg _ g2) (hg _ g3) rfl (by rw [C.2.2.2.1]; exact hl.1) rfl d hR ?_ (W.eq (g2 := F0 m (pc + 3) ls st) rfl (kk p e s m args below meth c H ls locs C hP hD hS hl))
  have : 2 * (F0 m pc ls (.ref x :: st)).monitorRoom = 0 := rfl
  rw [this, Nat.zero_add]
  exact hR2
theorem arr_same {E : EV} {s : State} {cA : ClassId} {ty : FieldType} {j : Nat} {tys : List (ClassId × FieldType)} {c0 : ClassId} (h0 : tys[j]? = some (c0, ty)) (hty : ∀ C, ty ≠ .object C) (hK : va_K (eD E) vwCl (tys ++ [(cA, ty)]) s) : cA = c0 := by
  have h1 := (hK.2 j (c0, ty) (by rw [List.getElem?_append_left (List.getElem?_eq_some_iff.mp h0).1]; exact h0)).2
  have h2 := (hK.2 tys.length (cA, ty) (by rw [List.getElem?_append_right (Nat.le_refl _), Nat.sub_self]; rfl)).2
  cases ty with
  | object C => exact absurd rfl (hty C)
  | _ => exact Option.some.inj (h2.symm.trans h1)
theorem bw_newi {z : Int32} (N : Nat) (ga : Cond.arrayClass .int ∈ gt) (hz : z = nI N) (hN : N ≤ 100000) (d : decode (mC M) pc = .ok (.newarray .int, 2)) (hR : n + 1 ≤ K.1.cells ∧ k + N ≤ K.1.slots) (kk : ∀ q, BW E M K (ws ++ [(q, .inl (eI E, N, .inl (fun _ => nI 0)))]) (n + 1) (k + N) (pc + 2) lv (.ref q :: st)) : BW E M K ws n k pc lv (.int z :: st) := by
  intro p e s m args below meth c H ls locs C hP hD hS hl
  subst hz
  refine va_newa (atype := .int) (ty := .int) (N' := N) (a0 := (N, .inl (fun _ => nI 0))) C.1 C.2.1 (C.2.2.2.2.2.1 _ ga) rfl C.2.2.2.2.2.2.1 hP hD hS C.2.2.2.2.2.2.2.2.2.1 (fun _ => rfl) ?_ (e_ix (by omega)) ?_ hR.1 hR.2 d (fun q cA H1 hK hP1 hD1 hS1 => ?_)
  · exact Int32.not_lt.mpr (by rw [show (0 : Int32) = nI 0 from rfl, e_le (by decide) (by omega)]; omega)
  · show N * 4 ≤ 536870912; omega
  · have hc := arr_same (E := E) (j := 0) (tys := tyE E) rfl (fun _ h => by cases h) hK
    subst hc
    exact kk q p e s m args below meth c H1 ls locs C hP1 hD1 hS1 hl
theorem bw_newz {z : Int32} (N : Nat) (ga : Cond.arrayClass .boolean ∈ gt) (hz : z = nI N) (hN : N ≤ 100000) (d : decode (mC M) pc = .ok (.newarray .boolean, 2)) (hR : n + 1 ≤ K.1.cells ∧ k + N ≤ K.1.slots) (kk : ∀ q, BW E M K (ws ++ [(q, .inl (eZ E, N, .inl (fun _ => nI 0)))]) (n + 1) (k + N) (pc + 2) lv (.ref q :: st)) : BW E M K ws n k pc lv (.int z :: st) := by
  intro p e s m args below meth c H ls locs C hP hD hS hl
  subst hz
  refine va_newa (atype := .boolean) (ty := .boolean) (N' := N) (a0 := (N, .inl (fun _ => nI 0))) C.1 C.2.1 (C.2.2.2.2.2.1 _ ga) rfl C.2.2.2.2.2.2.1 hP hD hS C.2.2.2.2.2.2.2.2.2.1 (fun _ => rfl) ?_ (e_ix (by omega)) ?_ hR.1 hR.2 d (fun q cA H1 hK hP1 hD1 hS1 => ?_)
  · exact Int32.not_lt.mpr (by rw [show (0 : Int32) = nI 0 from rfl, e_le (by decide) (by omega)]; omega)
  · show N * 1 ≤ 536870912; omega
  · have hc := arr_same (E := E) (j := 1) (tys := tyE E) rfl (fun _ h => by cases h) hK
    subst hc
    exact kk q p e s m args below meth c H1 ls locs C hP1 hD1 hS1 hl
theorem mid_get {α : Type} (pre : List α) (x : α) (post : List α) : (pre ++ x :: post)[pre.length]? = some x := by
  rw [List.getElem?_append_right (Nat.le_refl _), Nat.sub_self]; rfl
theorem mid_set {α : Type} (pre : List α) (x y : α) (post : List α) : (pre ++ x :: post).set pre.length y = pre ++ y :: post := by
  rw [List.set_append, if_neg (Nat.lt_irrefl _), Nat.sub_self]; rfl
/-- a final field of class c, written in its constructor -/
def fwF (cls : String) (c j : Nat) (ty : FieldType) : Prop := ∃ (q : vw_C) (ty0 : Nat → FieldType), vwCl[c]? = some q ∧ (∀ k, k < q.2.2 → parseFieldDescriptor (q.2.1 k).2.2.1 = some (ty0 k)) ∧ (∀ a, a < q.2.2 → ∀ b, b < q.2.2 → a ≠ b → (q.2.1 a).2.1 ≠ (q.2.1 b).2.1) ∧ (q.2.1 j).2.2.2 = true ∧ (q.2.1 j).1 = cls ∧ parseFieldDescriptor (q.2.1 j).2.2.1 = some ty
theorem bw_putF {pre post : va_W} {a c i j : Nat} {fs : List Value} {v : Value} {ty : FieldType} (hf : fk (mY M).cls i c j) (hw : fwF (mY M).cls c j ty) (hm : (mY M).name = "<init>") (hj : j < fs.length) (hnr : narrow ty v = v) (hft : fits ty v = true) (d : decode (mC M) pc = .ok (.putfield i, 3)) (kk : BW E M K (pre ++ (a, .inr (c, fs.set j v)) :: post) n k (pc + 3) lv st) : BW E M K (pre ++ (a, .inr (c, fs)) :: post) n k pc lv (v :: .ref a :: st) := by
  intro p e s m args below meth c' H ls locs C hP hD hS hl
  obtain ⟨⟨C1, T, N1⟩, h1, h2, h3, h4⟩ := hf
  obtain ⟨⟨C2, T2, N2⟩, ty0, g1, g2, g3, g4, g6, g5⟩ := hw
  have e1 : some (C1, T, N1) = some (C2, T2, N2) := h1.symm.trans g1
  cases e1
  refine va_putF (D := eD E) (ci := c) (v := v) (ty := ty) C.1 C.2.1 C.2.2.2.2.2.1 h3 ty0 g2 g3 C.2.2.2.2.1 C.2.2.2.2.2.2.1 hP hD hS pre.length (mid_get _ _ _) h1 j h2 (C.2.2.2.2.2.1 _ h4) (fun _ h9 => h9) g4 (C.2.2.2.2.2.2.2.2.1 hm) g6 g5 hnr hft hj d (fun H1 locs1 hP1 hD1 hS1 => ?_)
  rw [mid_set] at hP1 hD1
  exact kk p e s m args below meth c' H1 ls locs1 C hP1 hD1 hS1 hl
theorem bw_put {pre post : va_W} {a c i j : Nat} {fs : List Value} {v : Value} {ty : FieldType} (hf : fk (mY M).cls i c j) (hw : fw c j ty) (hj : j < fs.length) (hnr : narrow ty v = v) (hft : fits ty v = true) (d : decode (mC M) pc = .ok (.putfield i, 3)) (kk : BW E M K (pre ++ (a, .inr (c, fs.set j v)) :: post) n k (pc + 3) lv st) : BW E M K (pre ++ (a, .inr (c, fs)) :: post) n k pc lv (v :: .ref a :: st) := by
  intro p e s m args below meth c' H ls locs C hP hD hS hl
  obtain ⟨⟨C1, T, N1⟩, h1, h2, h3, h4⟩ := hf
  obtain ⟨⟨C2, T2, N2⟩, ty0, g1, g2, g3, g4, g5⟩ := hw
  have e1 : some (C1, T, N1) = some (C2, T2, N2) := h1.symm.trans g1
  cases e1
  refine va_put (D := eD E) (ci := c) (v := v) (ty := ty) C.1 C.2.1 C.2.2.2.2.2.1 h3 ty0 g2 g3 C.2.2.2.2.1 C.2.2.2.2.2.2.1 hP hD hS pre.length (mid_get _ _ _) h1 j h2 (C.2.2.2.2.2.1 _ h4) (fun _ h9 => h9) g4 g5 hnr hft hj d (fun H1 locs1 hP1 hD1 hS1 => ?_)
  rw [mid_set] at hP1 hD1
  exact kk p e s m args below meth c' H1 ls locs1 C hP1 hD1 hS1 hl
theorem bw_get {pre post : va_W} {a c i j : Nat} {fs : List Value} {v : Value} (hf : fk (mY M).cls i c j) (hv : fs[j]? = some v) (d : decode (mC M) pc = .ok (.getfield i, 3)) (kk : BW E M K (pre ++ (a, .inr (c, fs)) :: post) n k (pc + 3) lv (v :: st)) : BW E M K (pre ++ (a, .inr (c, fs)) :: post) n k pc lv (.ref a :: st) := by
  intro p e s m args below meth c' H ls locs C hP hD hS hl
  obtain ⟨⟨C1, T, N1⟩, h1, h2, h3, h4⟩ := hf
  exact va_get (D := eD E) (ci := c) (v := v) C.1 C.2.1 C.2.2.2.2.2.1 h3 C.2.2.2.2.1 C.2.2.2.2.2.2.1 hP pre.length (mid_get _ _ _) h1 j h2 (C.2.2.2.2.2.1 _ h4) (fun _ h9 => h9) hv d (kk p e s m args below meth c' H ls locs C hP hD hS hl)
/-- class c can be made: its name, slots, types -/
def nwc (own : String) (i c : Nat) (fs : List Value) : Prop := ∃ (q : vw_C) (ty0 : Nat → FieldType), vwCl[c]? = some q ∧ (∀ w ∈ u_ws q.1 q.2.1 q.2.2, w ∈ gt) ∧ (∀ k, k < q.2.2 → parseFieldDescriptor (q.2.1 k).2.2.1 = some (ty0 k)) ∧ Cond.classLink own i q.1 ∈ gt ∧ Cond.instantiable q.1 q.2.2 ∈ gt ∧ Cond.initialized q.1 ∈ gt ∧ (∀ j, j < q.2.2 → defaultValue (ty0 j) = vp_V fs j) ∧ q.2.2 = fs.length
theorem bw_new {i c : Nat} {fs : List Value} (hq : nwc (mY M).cls i c fs) (d : decode (mC M) pc = .ok (.new i, 3)) (hR : n + 1 ≤ K.1.cells ∧ k + fs.length ≤ K.1.slots) (kk : ∀ q, BW E M K (ws ++ [(q, .inr (c, fs))]) (n + 1) (k + fs.length) (pc + 3) lv (.ref q :: st)) : BW E M K ws n k pc lv st := by
  intro p e s m args below meth c' H ls locs C hP hD hS hl
  obtain ⟨⟨C1, T, N1⟩, ty0, h1, h2, h3, h4, h5, h6, h7, h8⟩ := hq
  dsimp only at h2 h3 h4 h5 h6 h7 h8
  have hg := C.2.2.2.2.2.1
  subst h8
  exact va_new (ci := c) (fs := fs) (C := C1) (T := T) C.1 C.2.1 hg h2 ty0 h3 C.2.2.2.2.1 (hg _ h4) (hg _ h5) (hg _ h6) C.2.2.2.2.2.2.1 hP hD hS C.2.2.2.2.2.2.2.2.2.1 h1 h7 hR.1 hR.2 d (fun q H1 hP1 hD1 hS1 => kk q p e s m args below meth c' H1 ls locs C hP1 hD1 hS1 hl)
end BWR
