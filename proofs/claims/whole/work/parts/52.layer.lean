/-! ===== THE LAYER: the cells of the run are numbered; a state is what they hold; the kit's W, said of states ===== -/
abbrev LC : Type := List (Option Value)
/-- launch, where the cells lie, how many there are, classes' numbers and slots, the classes of the arrays -/
abbrev EV : Type := Launch × (Nat → Nat) × Nat × va_G × (ClassId × ClassId × ClassId)
abbrev eL (E : EV) : Launch := E.1
abbrev eA (E : EV) : Nat → Nat := E.2.1
abbrev eN (E : EV) : Nat := E.2.2.1
abbrev eD (E : EV) : va_G := E.2.2.2.1
abbrev eI (E : EV) : ClassId := E.2.2.2.2.1
abbrev eZ (E : EV) : ClassId := E.2.2.2.2.2.1
abbrev eO (E : EV) : ClassId := E.2.2.2.2.2.2
def cv (E : EV) : Value → Value
  | .ref k => .ref (eA E k)
  | v => v
theorem cv_cat (E : EV) (v : Value) : (cv E v).category = v.category := by cases v <;> rfl
/-- a field that holds a cell: how far behind its object that cell stands -/
def rfo : Nat → Nat → Option Nat
  | 0, 0 => some 1 | 0, 1 => some 2 | 0, 2 => some 3 | 0, 3 => some 4
  | 1, 0 => some 1 | 1, 1 => some 2
  | 2, 1 => some 1
  | 3, 0 => some 1
  | 4, 0 => some 1 | 4, 3 => some 2
  | 5, 1 => some 1 | 5, 2 => some 2 | 5, 3 => some 3 | 5, 8 => some 4
  | 6, 0 => some 1 | 6, 3 => some 14 | 6, 4 => some 19 | 6, 5 => some 24 | 6, 6 => some 26 | 6, 7 => some 28 | 6, 8 => some 29 | 6, 10 => some 30 | 6, 11 => some 36
  | 7, 0 => some 1 | 7, 1 => some 2 | 7, 2 => some 3 | 7, 4 => some 4 | 7, 5 => some 5 | 7, 7 => some 6 | 7, 9 => some 7 | 7, 11 => some 8 | 7, 12 => some 9
  | 7, 16 => some 10 | 7, 17 => some 11 | 7, 18 => some 12 | 7, 19 => some 13 | 7, 20 => some 14 | 7, 21 => some 15 | 7, 22 => some 16
  | _, _ => none
def rft (tw : TW) (k : Nat) : Nat → Nat → Option Nat
  | 6, 1 => some tw.1
  | 6, 2 => some tw.2
  | c, j => (rfo c j).map (fun o => k + o)
def fv (tw : TW) (h : HP) (k c j : Nat) : Value := match rft tw k c j with
  | some q => .ref q
  | none => .int (h k j)
def wE (E : EV) (tw : TW) (h : HP) (k : Nat) : va_E := match kd k with
  | (0, L) => .inl (eI E, L, .inl (h k))
  | (1, L) => .inl (eZ E, L, .inl (h k))
  | (2, L) => .inl (eO E, L, .inr (.inr (.inr (.inr (fun j => if j < L then some (eA E (k + 1 + j)) else none)))))
  | (c + 3, L) => .inr (c, (List.range L).map (fun j => cv E (fv tw h k c j)))
def wW (E : EV) (tw : TW) (h : HP) : va_W := (List.range (eN E)).map (fun k => (eA E k, wE E tw h k))
theorem wW_get (E : EV) (tw : TW) (h : HP) {k : Nat} (hk : k < eN E) : (wW E tw h)[k]? = some (eA E k, wE E tw h k) := by
  unfold wW
  simp [hk]
theorem wW_set (E : EV) {tw tw' : TW} {h h' : HP} {k : Nat} {x : va_E} (hk : k < eN E) (hx : x = wE E tw' h' k) (ho : ∀ j, j ≠ k → wE E tw' h' j = wE E tw h j) : (wW E tw h).set k (eA E k, x) = wW E tw' h' := by
  subst hx
  apply List.ext_getElem?
  intro j
  by_cases hj : j = k
  · subst hj
    rw [List.getElem?_set_self (by unfold wW; simpa using hk), wW_get E tw' h' hk]
  · rw [List.getElem?_set_ne (fun q => hj q.symm)]
    by_cases hn : j < eN E
    · rw [wW_get E tw h hn, wW_get E tw' h' hn, ho j hj]
    · unfold wW
      simp [hn]
theorem wE_upc (E : EV) (tw : TW) (h : HP) {k j : Nat} (f : Nat → Int32) (n : j ≠ k) : wE E tw (upc h k f) j = wE E tw h j := by
  unfold wE fv
  rw [upc_ne h f n]
def fA (E : EV) (sz : Nat) : Nat → Prop := fun q => (∃ k, k < eN E ∧ q = eA E k) ∨ sz ≤ q
def EI (E : EV) : Prop := ∀ i j, i < eN E → j < eN E → eA E i = eA E j → i = j
theorem wD {E : EV} (hE : EI E) (tw : TW) (h : HP) (sz : Nat) : va_D (fA E sz) (wW E tw h) := by
  have key : ∀ (i : Nat) (p : Nat × va_E), (wW E tw h)[i]? = some p → i < eN E ∧ p.1 = eA E i := by
    intro i p hp
    by_cases hn : i < eN E
    · rw [wW_get E tw h hn] at hp
      cases hp
      exact ⟨hn, rfl⟩
    · unfold wW at hp
      simp [hn] at hp
  refine ⟨fun i j p q hp hq e => ?_, fun k q hq => Or.inl ⟨k, (key k q hq).1, (key k q hq).2⟩⟩
  obtain ⟨a1, a2⟩ := key i p hp
  obtain ⟨b1, b2⟩ := key j q hq
  exact hE i j a1 b1 (by rw [← a2, ← b2]; exact e)
def tyE (E : EV) : List (ClassId × FieldType) := [(eI E, .int), (eZ E, .boolean), (eO E, .array .int)]
/-- a method: its name, code, locals, what it returns, how deep it calls -/
abbrev MI : Type := MethodName × ByteArray × Nat × Option FieldType × Nat
abbrev mY (M : MI) : MethodName := M.1
abbrev mC (M : MI) : ByteArray := M.2.1
abbrev mL (M : MI) : Nat := M.2.2.1
abbrev mR (M : MI) : Option FieldType := M.2.2.2.1
abbrev mD (M : MI) : Nat := M.2.2.2.2
def wds (M : MI) : List Cond := Cond.code (mY M) (mC M) (mL M) (mR M) :: gt
def rmM (M : MI) : Room := { frames := mD M, cells := 0, slots := 0, locals := 64 * mD M }
/-- room, cells and slots made so far, what is to be reached, what is known of the start -/
abbrev KX : Type := Room × Nat × Nat × (List Frame → Array Value → State → State → Prop) × (State → Prop)
def CX (E : EV) (M : MI) (K : KX) (p : Program) (s : State) (m : MethodId) (args : Array Value) (meth : Method) (c : Code) : Prop :=
  p.tables.exec = Jvm.exec ∧ c.code = mC M ∧ meth.sig.returnType = mR M ∧ c.maxLocals = mL M ∧ s.vm.findClass (mY M).cls = some m.cls ∧ (∀ w ∈ gt, w.before args s = true) ∧ va_K (eD E) vwCl (tyE E) s ∧ meth.locks = false ∧ EI E ∧ K.2.2.2.2 s
def ld (loc : LC) (i : Nat) : Option Value := (loc[i]?).getD none
def LR (E : EV) (M : MI) (ls : Array Slot) (loc : LC) : Prop := ls.size = mL M ∧ lv_wf ls ∧ ∀ i v, ld loc i = some v → ls[i]? = some (.val (cv E v))
/-- one cell of the locals is set; a long whose second half it was is gone -/
def clr : Nat → Option Value → Option Value
  | 0, some (.long _) => none
  | 0, some (.double _) => none
  | _, x => x
def so : LC → Nat → Value → LC
  | [], _, _ => []
  | _ :: t, 0, v => some v :: t
  | x :: t, i + 1, v => clr i x :: so t i v
def tl0 : LC → LC
  | [] => []
  | _ :: t => none :: t
def so2 : LC → Nat → Value → LC
  | [], _, _ => []
  | _ :: t, 0, v => some v :: tl0 t
  | x :: t, i + 1, v => clr i x :: so2 t i v
theorem clr_some {i : Nat} {x : Option Value} {w : Value} (h : clr i x = some w) : x = some w ∧ ¬ (i = 0 ∧ w.category = 2) := by
  cases i with
  | succ i => exact ⟨by simpa [clr] using h, by omega⟩
  | zero =>
    cases x with
    | none => simp [clr] at h
    | some v => cases v <;> simp_all [clr] <;> subst h <;> simp [Value.category]
def lvl (E : EV) : Nat → LC → List (Nat × Value)
  | _, [] => []
  | i, none :: t => lvl E (i + 1) t
  | i, some v :: t => (i, cv E v) :: lvl E (i + 1) t
theorem lvl_mem {E : EV} {loc : LC} : ∀ {i k : Nat} {v : Value}, ld loc k = some v → (i + k, cv E v) ∈ lvl E i loc := by
  induction loc with
  | nil => intro i k v h; simp [ld] at h
  | cons x t ih =>
    intro i k v h
    cases k with
    | zero =>
      simp [ld] at h
      subst h
      exact List.mem_cons_self
    | succ k =>
      have h' : ld t k = some v := by simpa [ld] using h
      have := ih (i := i + 1) h'
      rw [show i + 1 + k = i + (k + 1) by omega] at this
      cases x with
      | none => exact this
      | some y => exact List.mem_cons_of_mem _ this
theorem lvl_of {E : EV} {loc : LC} : ∀ {i : Nat} {q : Nat × Value}, q ∈ lvl E i loc → ∃ k v, q = (i + k, cv E v) ∧ ld loc k = some v := by
  induction loc with
  | nil => intro i q h; simp [lvl] at h
  | cons x t ih =>
    intro i q h
    cases x with
    | none =>
      obtain ⟨k, v, e, hv⟩ := ih (i := i + 1) h
      exact ⟨k + 1, v, by rw [e, show i + 1 + k = i + (k + 1) by omega], by simpa [ld] using hv⟩
    | some y =>
      rcases List.mem_cons.mp h with e | h
      · exact ⟨0, y, e, by simp [ld]⟩
      · obtain ⟨k, v, e, hv⟩ := ih (i := i + 1) h
        exact ⟨k + 1, v, by rw [e, show i + 1 + k = i + (k + 1) by omega], by simpa [ld] using hv⟩
theorem LR.has {E : EV} {M : MI} {ls : Array Slot} {loc : LC} (h : LR E M ls loc) : lv_has ls (mL M) (lvl E 0 loc) := by
  refine ⟨h.1, h.2.1, fun q hq => ?_⟩
  obtain ⟨k, v, rfl, hv⟩ := lvl_of hq
  simpa using h.2.2 k v hv
theorem ld_cons (x : Option Value) (t : LC) (k : Nat) : ld (x :: t) (k + 1) = ld t k := by simp [ld]
theorem ld_zero (x : Option Value) (t : LC) : ld (x :: t) 0 = x := by simp [ld]
theorem ld_so {loc : LC} : ∀ {i j : Nat} {v w : Value}, ld (so loc i v) j = some w → (j = i ∧ w = v) ∨ (j ≠ i ∧ ld loc j = some w ∧ ¬ (j + 1 = i ∧ w.category = 2)) := by
  induction loc with
  | nil => intro i j v w h; simp [so, ld] at h
  | cons x t ih =>
    intro i j v w h
    cases i with
    | zero =>
      cases j with
      | zero => simp [so, ld] at h; exact Or.inl ⟨rfl, h.symm⟩
      | succ j => exact Or.inr ⟨by omega, by simpa [so, ld] using h, by omega⟩
    | succ i =>
      cases j with
      | succ j =>
        have h' : ld (so t i v) j = some w := by simpa [so, ld_cons] using h
        rcases ih h' with ⟨a, b⟩ | ⟨a, b, c⟩
        · exact Or.inl ⟨by omega, b⟩
        · exact Or.inr ⟨by omega, by rw [ld_cons]; exact b, fun q => c ⟨by omega, q.2⟩⟩
      | zero =>
        have h' : clr i x = some w := by simpa [so, ld_zero] using h
        obtain ⟨a, b⟩ := clr_some h'
        exact Or.inr ⟨by omega, by rw [ld_zero]; exact a, fun q => b ⟨by omega, q.2⟩⟩
theorem ld_so2 {loc : LC} : ∀ {i j : Nat} {v w : Value}, ld (so2 loc i v) j = some w → (j = i ∧ w = v) ∨ (j ≠ i ∧ j ≠ i + 1 ∧ ld loc j = some w ∧ ¬ (j + 1 = i ∧ w.category = 2)) := by
  induction loc with
  | nil => intro i j v w h; simp [so2, ld] at h
  | cons x t ih =>
    intro i j v w h
    cases i with
    | zero =>
      cases j with
      | zero => simp [so2, ld] at h; exact Or.inl ⟨rfl, h.symm⟩
      | succ j =>
        have h' : ld (tl0 t) j = some w := by simpa [so2, ld_cons] using h
        cases t with
        | nil => simp [tl0, ld] at h'
        | cons y t =>
          cases j with
          | zero => simp [tl0, ld] at h'
          | succ j => exact Or.inr ⟨by omega, by omega, by simpa [tl0, ld] using h', by omega⟩
    | succ i =>
      cases j with
      | succ j =>
        have h' : ld (so2 t i v) j = some w := by simpa [so2, ld_cons] using h
        rcases ih h' with ⟨a, b⟩ | ⟨a, b, c, d⟩
        · exact Or.inl ⟨by omega, b⟩
        · exact Or.inr ⟨by omega, by omega, by rw [ld_cons]; exact c, fun q => d ⟨by omega, q.2⟩⟩
      | zero =>
        have h' : clr i x = some w := by simpa [so2, ld_zero] using h
        obtain ⟨a, b⟩ := clr_some h'
        exact Or.inr ⟨by omega, by omega, by rw [ld_zero]; exact a, fun q => b ⟨by omega, q.2⟩⟩
theorem LR.so {E : EV} {M : MI} {ls' : Array Slot} {loc : LC} {i : Nat} {v : Value} (h : lv_has ls' (mL M) ((i, cv E v) :: (lvl E 0 loc).filter (fun q => !(q.1 == i) && !(q.1 + 1 == i && q.2.category == 2)))) : LR E M ls' (so loc i v) := by
  refine ⟨h.1, h.2.1, fun j w hw => ?_⟩
  rcases ld_so hw with ⟨rfl, rfl⟩ | ⟨a, b, c⟩
  · exact h.2.2 _ List.mem_cons_self
  · have hm := lvl_mem (E := E) (i := 0) b
    rw [Nat.zero_add] at hm
    refine h.2.2 (j, cv E w) (List.mem_cons_of_mem _ (List.mem_filter.mpr ⟨hm, ?_⟩))
    simp only [cv_cat]
    simp [a]
    omega
theorem LR.so2 {E : EV} {M : MI} {ls' : Array Slot} {loc : LC} {i : Nat} {v : Value} (h : lv_has ls' (mL M) ((i, cv E v) :: (lvl E 0 loc).filter (fun q => !(q.1 == i) && (!(q.1 == i + 1) && !(q.1 + 1 == i && q.2.category == 2))))) : LR E M ls' (so2 loc i v) := by
  refine ⟨h.1, h.2.1, fun j w hw => ?_⟩
  rcases ld_so2 hw with ⟨rfl, rfl⟩ | ⟨a, a', b, c⟩
  · exact h.2.2 _ List.mem_cons_self
  · have hm := lvl_mem (E := E) (i := 0) b
    rw [Nat.zero_add] at hm
    refine h.2.2 (j, cv E w) (List.mem_cons_of_mem _ (List.mem_filter.mpr ⟨hm, ?_⟩))
    simp only [cv_cat]
    simp [a, a']
    omega
/-- fewer locals are known -/
def dl : LC → LC → Prop
  | [], _ => True
  | none :: a, _ :: b => dl a b
  | none :: a, [] => dl a []
  | some v :: a, x :: b => x = some v ∧ dl a b
  | some _ :: _, [] => False
theorem ld_dl : ∀ {a b : LC} {i : Nat} {v : Value}, dl a b → ld a i = some v → ld b i = some v := by
  intro a
  induction a with
  | nil => intro b i v _ h; simp [ld] at h
  | cons x a ih =>
    intro b i v hd h
    cases x with
    | none =>
      cases i with
      | zero => simp [ld] at h
      | succ i =>
        rw [ld_cons] at h
        cases b with
        | nil => have := ih (b := []) hd h; simp [ld] at this
        | cons y b => rw [ld_cons]; exact ih hd h
    | some u =>
      cases b with
      | nil => exact hd.elim
      | cons y b =>
        cases i with
        | zero => rw [ld_zero] at h ⊢; rw [hd.1]; exact h
        | succ i => rw [ld_cons] at h ⊢; exact ih hd.2 h
theorem LR.dl {E : EV} {M : MI} {ls : Array Slot} {a b : LC} (h : LR E M ls b) (hd : dl a b) : LR E M ls a := ⟨h.1, h.2.1, fun i v q => h.2.2 i v (ld_dl hd q)⟩
def AW (E : EV) (M : MI) (K : KX) (tw : TW) (h : HP) (pc : Nat) (loc : LC) (st : List Value) : Prop :=
  ∀ (p : Program) (e : Env) (s : State) (m : MethodId) (args : Array Value) (below : List Frame) (meth : Method) (c : Code) (H : Heap) (ls : Array Slot) (locs : List Loc),
    CX E M K p s m args meth c → va_P (eD E) vwCl (wW E tw h) H → va_S (fA E s.heap.size) s.heap H locs → LR E M ls loc →
    W p (eL E) e K.1 s m args below meth c H locs K.2.1 K.2.2.1 (K.2.2.2.1 below args s) (F0 m pc ls (st.map (cv E)))
def QC (E : EV) (sz : Nat) (rv : Option Value) (tw : TW) (h : HP) : Array Value → State → Outcome → State → Prop := fun _ st oc t =>
  (oc = .returned (rv.map (cv E)) ∧ va_P (eD E) vwCl (wW E tw h) t.heap ∧ va_K (eD E) vwCl (tyE E) t) ∧ va_F (fA E sz) st t
/-- the contract: with these arguments, from this state, the method returns this and the cells hold that -/
def CT (E : EV) (M : MI) (tw : TW) (h : HP) (av : List Value) (rv : Option Value) (tw' : TW) (h' : HP) : Prop :=
  ∀ sz : Nat, Met (eL E) (mY M) (wds M) (rmM M) (va_Pc (av.map (cv E)) (fun U => U.heap.size = sz ∧ va_P (eD E) vwCl (wW E tw h) U.heap ∧ va_K (eD E) vwCl (tyE E) U)) (QC E sz rv tw' h') 0 0 (fA E sz)
def KM (E : EV) (M : MI) (rv : Option Value) (tw : TW) (h : HP) : KX := (rmM M, 0, 0, fun below args s => MQ below (QC E s.heap.size rv tw h) args s 0 0 (fA E s.heap.size), fun _ => True)
def lo0 : List Value → LC
  | [] => []
  | v :: t => if v.category = 2 then some v :: none :: lo0 t else some v :: lo0 t
theorem lo0_args {E : EV} : ∀ (av : List Value) (r : Nat) {j i : Nat} {v : Value}, ld (lo0 av ++ List.replicate r none) i = some v → (j + i, cv E v) ∈ lv_args j (av.map (cv E)) := by
  intro av
  induction av with
  | nil =>
    intro r j i v h
    simp only [lo0, List.nil_append, ld] at h
    by_cases q : i < r <;> simp [q] at h
  | cons a t ih =>
    intro r j i v h
    simp only [lo0] at h
    simp only [List.map_cons, lv_args, cv_cat]
    by_cases hc : a.category = 2
    · simp only [hc, if_true] at h ⊢
      match i, h with
      | 0, h => simp [ld] at h; subst h; exact List.mem_cons_self
      | 1, h => simp [ld] at h
      | i + 2, h =>
        rw [List.cons_append, ld_cons, List.cons_append, ld_cons] at h
        have := ih r (j := j + 2) h
        rw [show j + 2 + i = j + (i + 2) by omega] at this
        exact List.mem_cons_of_mem _ this
    · simp only [hc, if_false] at h ⊢
      match i, h with
      | 0, h => simp [ld] at h; subst h; exact List.mem_cons_self
      | i + 1, h =>
        rw [List.cons_append, ld_cons] at h
        have := ih r (j := j + 1) h
        rw [show j + 1 + i = j + (i + 1) by omega] at this
        exact List.mem_cons_of_mem _ this
theorem met_of {l : Launch} {y : MethodName} {ws ws' : List Cond} {rm : Room} {Pc : Array Value → State → Prop} {Qc : Array Value → State → Outcome → State → Prop} {mc ms : Nat} {free : Addr → Prop} {cc : ByteArray} {maxL : Nat} {ret : Option FieldType}
    (hy : plainFor y = true) (hw : ws = Cond.code y cc maxL ret :: ws')
    (body : ∀ p e s m args below meth c s₁, BodyLoose p l y (headSpec ws rm) cc maxL ret e s m args below meth c s₁ → c.maxLocals = maxL → Pc args s →
      W p l e (headSpec ws rm).room s m args below meth c s.heap [] 0 0 (MQ below Qc args s mc ms free) (entryFrame m args maxL)) : Met l y ws rm Pc Qc mc ms free := by
  refine MetFree.of_bodySF (code := cc) (maxLocals := maxL) (ret := ret) hy ?_ ?_
  · intro args s m h hn
    obtain ⟨meth, c, h1, h2, h3, h4, h5, h6, -, -⟩ := Cond.code_spec hn (atoms_spec (ws := ws) h _ (by rw [hw]; exact List.mem_cons_self))
    exact ⟨meth, c, h1, h2, h3, h4, h5, h6⟩
  · intro p e s m args below meth c s₁ B hml hP _
    have hh0 : s₁.heap = s.heap := by rw [B.state]; rfl
    obtain ⟨t, a1, o, b1, b2, b3⟩ := body p e s m args below meth c s₁ B hml hP s₁ hh0 (Stand.of_body B)
    exact ⟨t, o, a1, b1, b2, ⟨b3.1, b3.2⟩⟩
theorem CT.of {E : EV} {M : MI} {tw tw' : TW} {h h' : HP} {av : List Value} {rv : Option Value} (hE : EI E) (hpl : plainFor (mY M) = true) (hlen : (lg_sl (av.map (cv E))).length ≤ mL M) (r : Nat)
    (k : AW E M (KM E M rv tw' h') tw h 0 (lo0 av ++ List.replicate r none) []) : CT E M tw h av rv tw' h' := by
  intro sz
  refine met_of (cc := mC M) (maxL := mL M) (ret := mR M) hpl rfl ?_
  intro p e s m args below meth c s₁ B hml hv
  obtain ⟨rfl, hsz, hP, hK⟩ := hv
  subst hsz
  have hts := atoms_spec (ws := wds M) B.pre
  have hown : s.vm.findClass (mY M).cls = some m.cls := findClass_of_methodNamed B.named
  have hl := lv_entry (av.map (cv E)) (n := mL M) hlen
  rw [lg_entry_eq]
  generalize (lg_sl (av.map (cv E)) ++ List.replicate (mL M - (lg_sl (av.map (cv E))).length) Slot.unset).toArray = ls at hl ⊢
  exact k p e s m _ below meth c s.heap ls [] ⟨B.exec, B.bytes, B.returns, hml, hown, fun w hw => hts w (List.mem_cons_of_mem _ hw), hK, B.notSynchronized, hE, trivial⟩ hP va_S.rf
    ⟨hl.1, hl.2.1, fun i v q => hl.2.2 (i, cv E v) (by have := lo0_args (E := E) av r (j := 0) q; rwa [Nat.zero_add] at this)⟩

