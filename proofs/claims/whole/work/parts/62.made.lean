/-! ===== constructors' contracts ===== -/
def QB (E : EV) (FA : Nat → Prop) (a : Nat) (mk : (Nat → Nat) → va_W) : Array Value → State → Outcome → State → Prop := fun _ st oc t =>
  (oc = .returned none ∧ (∃ ad : Nat → Nat, ad 0 = a ∧ va_P (eD E) vwCl (mk ad) t.heap ∧ va_D FA (mk ad)) ∧ va_K (eD E) vwCl (tyE E) t) ∧ va_F FA st t
def rmB (M : MI) (mc ms : Nat) : Room := { frames := mD M, cells := mc, slots := ms, locals := 64 * mD M }
def PB (E : EV) (X : State → Prop) (W0 : va_W) (a : Nat) (av : List Value) (sz : Nat) : Array Value → State → Prop := va_Pc (.ref a :: av) (fun U => U.heap.size = sz ∧ va_P (eD E) vwCl W0 U.heap ∧ va_K (eD E) vwCl (tyE E) U ∧ X U)
/-- on the object at a, in the world W0, with these arguments: the world is as mk says then, so many cells and slots are new -/
def CBo (E : EV) (M : MI) (X : State → Prop) (FA : Nat → Nat → Prop) (W0 : va_W) (a : Nat) (av : List Value) (mc ms : Nat) (mk : (Nat → Nat) → va_W) : Prop :=
  ∀ sz : Nat, Met (eL E) (mY M) (wds M) (rmB M mc ms) (PB E X W0 a av sz) (QB E (FA sz) a mk) mc ms (FA sz)
def KB (E : EV) (M : MI) (X : State → Prop) (FA : Nat → Nat → Prop) (a : Nat) (mc ms : Nat) (mk : (Nat → Nat) → va_W) : BK :=
  (rmB M mc ms, fun s => FA s.heap.size, fun below args s => MQ below (QB E (FA s.heap.size) a mk) args s mc ms (FA s.heap.size), X)
theorem CBo.of {E : EV} {M : MI} {X : State → Prop} {FA : Nat → Nat → Prop} {W0 : va_W} {a : Nat} {av : List Value} {mc ms : Nat} {mk : (Nat → Nat) → va_W} (hpl : plainFor (mY M) = true) (hlen : (lg_sl (.ref a :: av)).length ≤ mL M) (hFA : ∀ sz q, sz ≤ q → FA sz q) (hD0 : ∀ sz, va_D (FA sz) W0)
    (k : BW E M (KB E M X FA a mc ms mk) W0 0 0 0 (lv_args 0 (.ref a :: av)) []) : CBo E M X FA W0 a av mc ms mk := by
  intro sz
  refine met_of (cc := mC M) (maxL := mL M) (ret := mR M) hpl rfl ?_
  intro p e s m args below meth c s₁ B hml hv
  obtain ⟨rfl, hsz, hP, hK, hX⟩ := hv
  subst hsz
  have hts := atoms_spec (ws := wds M) B.pre
  have hown : s.vm.findClass (mY M).cls = some m.cls := findClass_of_methodNamed B.named
  have hl := lv_entry (.ref a :: av) (n := mL M) hlen
  rw [lg_entry_eq]
  generalize (lg_sl (.ref a :: av) ++ List.replicate (mL M - (lg_sl (.ref a :: av)).length) Slot.unset).toArray = ls at hl ⊢
  exact k p e s m _ below meth c s.heap ls [] ⟨B.exec, B.bytes, B.returns, hml, hown, fun w hw => hts w (List.mem_cons_of_mem _ hw), hK, B.notSynchronized, fun hi => (name_of_methodNamed B.named B.method).1.trans hi, fun q hq => hFA _ q hq, hX⟩ hP (hD0 _) va_S.rf hl
section BWC
variable {E : EV} {M N : MI} {K : BK} {ws pre W0 : va_W} {n k pc : Nat} {lv : List (Nat × Value)} {st : List Value}
theorem bw_ret {X : State → Prop} {FA : Nat → Nat → Prop} {a mc ms : Nat} {mk : (Nat → Nat) → va_W} (ad : Nat → Nat) (h0 : ad 0 = a) (hm : ws = mk ad) (hr : mR M = none) (d : decode (mC M) pc = .ok (.return_, 1)) : BW E M (KB E M X FA a mc ms mk) ws mc ms pc lv [] := by
  subst hm
  intro p e s m args below meth c H ls locs C hP hD hS hl
  exact W.vret C.1 C.2.1 (C.2.2.1.trans hr) (fun t ht hW => ⟨⟨rfl, ⟨ad, h0, by rw [ht]; exact hP, hD⟩, va_K.moved hW.alike C.2.2.2.2.2.2.1⟩, hS.F ht⟩) hS.2.2 d C.2.2.2.2.2.2.2.1
theorem bw_back {p : Program} {e : Env} {s : State} {m : MethodId} {args : Array Value} {below : List Frame} {meth : Method} {c : Code} {H : Heap} {ls : Array Slot} {locs : List Loc} {a mc ms : Nat} {mk : (Nat → Nat) → va_W} {FA1 : Nat → Prop} {av : Array Value} {st0 : List Value}
    (C : BX E M K p s m args meth c) (hP : va_P (eD E) vwCl (pre ++ W0) H) (hD : va_D (K.2.1 s) (pre ++ W0)) (hS : va_S (K.2.1 s) s.heap H locs) (hl : lv_has ls (mL M) lv) (hA1 : ∀ x, FA1 x → K.2.1 s x) (hA2 : ∀ (i : Nat) (z : Nat × va_E), pre[i]? = some z → ¬ FA1 z.1)
    (hr : va_Run p (eL E) e K.1 s m args below meth c H locs n k mc ms (F0 m pc ls st0) st (QB E FA1 a mk av) FA1)
    (kk : ∀ ad : Nat → Nat, ad 0 = a → BW E M K (pre ++ mk ad) (n + mc) (k + ms) (pc + 3) lv st) : W p (eL E) e K.1 s m args below meth c H locs n k (K.2.2.1 below args s) (F0 m pc ls st0) := by
  intro T hT X
  obtain ⟨v, st₀, t, T', L, h0, X', hL, e1, e2, ⟨⟨hv, ⟨ad, ha, hp, hd⟩, hb⟩, hz, hk⟩, stp⟩ := hr T hT X
  have hv2 : v = none := by cases hv; rfl
  subst hv2
  rw [h0] at hz hk
  have hpre : ∀ (i : Nat) (z : Nat × va_E), pre[i]? = some z → (pre ++ W0)[i]? = some z := fun i z hz => by rw [List.getElem?_append_left (List.getElem?_eq_some_iff.mp hz).1]; exact hz
  have hP' : va_P (eD E) vwCl (pre ++ mk ad) T'.heap := by
    rw [e1]
    refine va_P.app (fun i z hi => ?_) hp
    exact (hP i z (hpre i z hi)).kept (hk z.1 (hP i z (hpre i z hi)).lt (hA2 i z hi))
  have hD' : va_D (K.2.1 s) (pre ++ mk ad) := by
    refine va_D.app ⟨fun i j x y hx hy e => hD.1 i j x y (hpre i x hx) (hpre j y hy) e, fun i x hx => hD.2 i x (hpre i x hx)⟩ (hd.weaken (fun _ x _ h => hA1 x.1 h)) (fun i j x y hx hy hxy => ?_)
    exact hA2 i x hx (by rw [hxy]; exact hd.2 j y hy)
  have hS' : va_S (K.2.1 s) s.heap T'.heap (locs ++ L) := by
    refine ⟨Nat.le_trans hS.1 (by rw [e1]; exact hz), fun q h1 h2 => ?_, fun q hq => ?_⟩
    · rw [e1, hk q (Nat.lt_of_lt_of_le h1 hS.1) (fun z => h2 (hA1 q z))]
      exact hS.2.1 q h1 h2
    · rcases List.mem_append.mp hq with z | z
      · exact hS.2.2 q z
      · exact hA1 _ (hL q z)
  obtain ⟨t2, a1, b1⟩ := kk ad ha p e s m args below meth c T'.heap ls (locs ++ L) C hP' hD' hS' hl T' rfl X'
  exact ⟨t2, stp t2 a1, b1⟩
theorem PB.blind {X : State → Prop} {W0 : va_W} {a sz : Nat} {av : List Value} (hXb : ∀ (U : State) (g : JFrame) (mk : MethodId) (a : Array Value), X U → X (U.calling g mk a)) : FrameBlind (PB E X W0 a av sz) := by
  intro b U g mk q
  obtain ⟨q0, q1, qP, qK, qX⟩ := q
  exact ⟨q0, q1, qP, va_K.moved (u := U) (U := U.calling g mk b) (Vm.Alike.refl U.vm) qK, hXb U g mk b qX⟩
def okI (N : MI) (n : Nat) : Prop := Cond.instanceMethod (mY N) ∈ gt ∧ Cond.initialized (mY N).cls ∈ gt ∧ Cond.code (mY N) (mC N) (mL N) (mR N) ∈ gt ∧ mR N = none ∧ (mY N).name = "<init>" ∧ (mY N).cls ≠ "java/lang/invoke/MethodHandle" ∧ (mY N).cls ≠ "java/lang/invoke/VarHandle" ∧ (parseMethodDescriptor (mY N).desc).map (fun d => d.parameters.length) = some n
theorem gt_wds {N : MI} (h : Cond.code (mY N) (mC N) (mL N) (mR N) ∈ gt) : GoodIn gt (wds N) := by
  intro w hw
  have : w ∈ gt := by
    rcases List.mem_cons.mp hw with rfl | hw
    · exact h
    · exact hw
  exact ⟨this, gt_good this⟩
/-- a constructor is called: by a plain link, or by one between nest mates -/
theorem bw_init {i a na mc ms : Nat} {av st0 : List Value} {X : State → Prop} {FA : Nat → Nat → Prop} {mk : (Nat → Nat) → va_W} (ok : okI N na) (hlk : Cond.methodLink (mY M).cls i (mY N) ∈ gt ∨ ∃ host, ∀ s, K.2.2.2 s → va_Nw (.methodLinkNest (mY M).cls i (mY N) host) s)
    (hna : av.length = na) (hs : st0 = av.reverse ++ .ref a :: st) (hst : (st.map Value.category).sum ≤ 8) (hR : mD N + 1 ≤ K.1.frames ∧ 8 + (mL N + 11) + 64 * mD N ≤ K.1.locals) (d : decode (mC M) pc = .ok (.invokespecial i, 3)) (hR2 : n + mc ≤ K.1.cells ∧ k + ms ≤ K.1.slots)
    (hX : ∀ (s U : State) (locs : List Loc), K.2.2.2 s → va_D (K.2.1 s) (pre ++ W0) → (∀ q, s.heap.size ≤ q → K.2.1 s q) → va_S (K.2.1 s) s.heap U.heap locs → s.WarmedH U.vm → X U) (hXb : ∀ (U : State) (g : JFrame) (mk : MethodId) (a : Array Value), X U → X (U.calling g mk a))
    (hc : CBo E N X FA W0 a av mc ms mk) (hF1 : ∀ s sz x, s.heap.size ≤ sz → va_D (K.2.1 s) (pre ++ W0) → (∀ q, s.heap.size ≤ q → K.2.1 s q) → FA sz x → K.2.1 s x) (hF2 : ∀ A H, va_D A (pre ++ W0) → va_P (eD E) vwCl (pre ++ W0) H → ∀ (i : Nat) (z : Nat × va_E), pre[i]? = some z → ¬ FA H.size z.1)
    (kk : ∀ ad : Nat → Nat, ad 0 = a → BW E M K (pre ++ mk ad) (n + mc) (k + ms) (pc + 3) lv st) : BW E M K (pre ++ W0) n k pc lv st0 := by
  intro p e s m args below meth c' H ls locs C hP hD hS hl
  subst hs
  obtain ⟨o1, o2, o3, o4, o5, o6, o7, o8⟩ := ok
  have hg := C.2.2.2.2.2.1
  have hPW : va_P (eD E) vwCl W0 H := fun j z hz => hP (pre.length + j) z (by rw [List.getElem?_append_right (by omega), Nat.add_sub_cancel_left]; exact hz)
  have hp : PreS s H (PB E X W0 a av H.size) (.ref a :: av) := ⟨PB.blind hXb, fun U hU hW => ⟨rfl, by rw [hU], by rw [hU]; exact hPW, va_K.moved hW.alike C.2.2.2.2.2.2.1, hX s U locs C.2.2.2.2.2.2.2.2.2.2 hD C.2.2.2.2.2.2.2.2.2.1 (by rw [hU]; exact hS) hW⟩⟩
  have hcode : wds N = Cond.code (mY N) (mC N) (mL N) none :: gt := by show Cond.code _ _ _ (mR N) :: gt = _; rw [o4]
  refine bw_back (a := a) (mk := mk) (FA1 := FA H.size) (av := (Value.ref a :: av).toArray) C hP hD hS hl (fun x hx => hF1 s H.size x hS.1 hD C.2.2.2.2.2.2.2.2.2.1 hx) (hF2 _ H hD hP) ?_ kk
  rcases hlk with hlk | ⟨host, hlk⟩
  · exact va_runI (As := av) (rest := st) (mc := mc) (ms := ms) (n := na) ⟨C.1, C.2.1, C.2.2.2.1, C.2.2.2.2.1, hg⟩ (hc H.size) (cwI na hg (gt_wds o3) hcode rfl rfl (hg _ o2) (hg _ hlk) (hg _ o1) o5 ⟨o6, o7, o8⟩ hR) hp rfl hna hl.1 rfl (lv_room hst) d hR2
  · exact va_runIN (As := av) (rest := st) (mc := mc) (ms := ms) (n := na) (host := host) ⟨C.1, C.2.1, C.2.2.2.1, C.2.2.2.2.1, hg⟩ (hc H.size) ⟨va_cnB na hg (gt_wds o3) hcode rfl rfl (hlk s C.2.2.2.2.2.2.2.2.2.2) (hg _ o2) ⟨o6, o7, o8⟩ hR, o5, hg _ o1⟩ hp rfl hna hl.1 rfl (lv_room hst) d hR2
theorem bw_max {i : Nat} {x y : Int32} (g1 : Cond.methodLink (mY M).cls i Lib.Math.max.name ∈ gt) (g2 : Cond.static Lib.Math.max.name ∈ gt) (g3 : Cond.initialized "java/lang/Math" ∈ gt) (g4 : Cond.code Lib.Math.max.name Lib.Math.max.code 2 (some .int) ∈ gt) (hR : 1 ≤ K.1.frames ∧ (st.map Value.category).sum + 13 ≤ K.1.locals ∧ n ≤ K.1.cells ∧ k ≤ K.1.slots) (d : decode (mC M) pc = .ok (.invokestatic i, 3)) (kk : BW E M K ws n k (pc + 3) lv (.int (if x < y then y else x) :: st)) : BW E M K ws n k pc lv (.int y :: .int x :: st) := by
  intro p e s m args below meth c H ls locs C hP hD hS hl
  have hg := C.2.2.2.2.2.1
  exact va_mmax C.1 C.2.1 (by rw [C.2.2.2.1, hl.1]) C.2.2.2.2.1 (hg _ g1) (hg _ g2) (hg _ g3) (hg _ g4) hR.1 hR.2.1 hR.2.2.1 hR.2.2.2 d (kk p e s m args below meth c H ls locs C hP hD hS hl)
end BWC
/-- the cells that an object's own constructor may change -/
def FO (a : Nat) (sz x : Nat) : Prop := x = a ∨ sz ≤ x
theorem FO.D (a : Nat) (z : va_E) (sz : Nat) : va_D (FO a sz) [(a, z)] := by
  refine ⟨fun i j p q hi hj _ => ?_, fun i q hi => ?_⟩
  · have h1 := (List.getElem?_eq_some_iff.mp hi).1
    have h2 := (List.getElem?_eq_some_iff.mp hj).1
    simp at h1 h2
    omega
  · have h1 := (List.getElem?_eq_some_iff.mp hi).1
    simp at h1
    subst h1
    cases hi
    exact Or.inl rfl
theorem FO.in {K : BK} {pre : va_W} {a : Nat} {z : va_E} : ∀ (s : State) (sz x : Nat), s.heap.size ≤ sz → va_D (K.2.1 s) (pre ++ [(a, z)]) → (∀ q, s.heap.size ≤ q → K.2.1 s q) → FO a sz x → K.2.1 s x := by
  intro s sz x hsz hD hA h
  rcases h with rfl | h
  · exact hD.2 pre.length (x, z) (mid_get _ _ _)
  · exact hA x (Nat.le_trans hsz h)
theorem FO.out {E : EV} {pre : va_W} {a : Nat} {z : va_E} : ∀ (A : Nat → Prop) (H : Heap), va_D A (pre ++ [(a, z)]) → va_P (eD E) vwCl (pre ++ [(a, z)]) H → ∀ (i : Nat) (q : Nat × va_E), pre[i]? = some q → ¬ FO a H.size q.1 := by
  intro A H hD hP i q hi h
  have hlt := (List.getElem?_eq_some_iff.mp hi).1
  have hi' : (pre ++ [(a, z)])[i]? = some q := by rw [List.getElem?_append_left hlt]; exact hi
  rcases h with h | h
  · have := hD.1 i pre.length q (a, z) hi' (mid_get _ _ _) h
    omega
  · exact absurd (hP i q hi').lt (Nat.not_lt.mpr h)
