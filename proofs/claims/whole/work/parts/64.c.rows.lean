theorem mr_step {p : Program} {l : Launch} {e : Env} {R : Room} {s : State} {m : MethodId} {args : Array Value} {below : List Frame} {meth : Method} {c : Code} {T : State} {locs : List Loc} {cells slots : Nat} (X : Stand p l e R s m args below meth c T locs cells slots) (hexec : p.tables.exec = Jvm.exec) {own : String} {i : Nat} (hown : s.vm.findClass own = some m.cls) (hlink : (Cond.classLink own i "[[I").before args s = true)
    {cO cI cc : ClassId} {kO kI : Class} (hfO : s.vm.findClass "[[I" = some cO) (hkO : s.vm.classes[cO]? = some kO) (hkindO : kO.kind = .array cI (.array .int)) (hkI : s.vm.classes[cI]? = some kI) (hkindI : kI.kind = .array cc .int) {g : JFrame} (hg : g.method = m) (hd : decode c.code g.pc = .ok (.multianewarray i 2, 4)) {rest : List Value} (hst : g.stack = .int (nI 1089) :: .int (nI 4) :: rest) (h1 : cells + 5 ≤ R.cells) (h2 : slots + 4360 ≤ R.slots) :
    ∃ vm₁ : Vm, s.WarmedH vm₁ ∧ Stand p l e R s m args below meth c (mrs (T.setVm vm₁) cO cI 4) (locs ++ (List.range 4).map fun j => ⟨T.heap.size, j⟩) (cells + 5) (slots + 4360) ∧ ∀ target, Steps p.tables e below ((mrs (T.setVm vm₁) cO cI 4).setTop { g with pc := g.pc + 4, stack := .ref T.heap.size :: rest }) target → Steps p.tables e below (T.setTop g) target := by
  subst hg
  have hpl : e.platform.magicAccessors = ({} : Platform).magicAccessors := by rw [X.admits.platform]
  obtain ⟨c0, hf0, hcl⟩ := Cond.classLink_spec hown hlink e.platform hpl
  cases hfO.symm.trans hf0
  obtain ⟨hgives, hwarm, -⟩ := State.classEntry (e := e) X.warmed hcl
  generalize T.vm.noted g.method.cls i (.cls cO) = vm₁ at hgives hwarm
  have hal : s.vm.Alike vm₁ := hwarm.alike
  obtain ⟨kO₁, hkO₁, eO⟩ := hal.2.2 _ _ hkO
  obtain ⟨kI₁, hkI₁, eI⟩ := hal.2.2 _ _ hkI
  have hkindO₁ : kO₁.kind = .array cI (.array .int) := by rw [eO]; exact hkindO
  have hkindI₁ : kI₁.kind = .array cc .int := by rw [eI]; exact hkindI
  have XF := mrs_stand (X.noted hwarm) cO cI 4
  obtain ⟨hr1, hr2⟩ := X.roomAbove h1 h2
  have hl1 : ¬ 1089 > e.platform.arrayLengthLimit := by rw [Launch.admits_arrayLengthLimit X.admits]; decide
  have hl2 : ¬ 1089 * 4 > e.platform.maxHeapBytes := by rw [Launch.admits_maxHeapBytes X.admits]; decide
  refine ⟨vm₁, hwarm, XF, fun target hrest => ?_⟩
  jvm_step X.here [hexec, hd]
  simp only [Op.multianewarray.sem, wp_bind', W.resolveClassAt_links (State.method?_setTop g X.here.top) hgives]
  rw [W.popN, if_neg (by decide)]
  refine ⟨g, State.topJava?_setTop' (s := T.setVm vm₁) g X.here.top, [.int (nI 4), .int (nI 1089)], rest, rfl, hst, ?_⟩
  simp only [List.mapM_cons, List.mapM_nil, wp_bind', wp_pure']
  refine mr_make (kO := kO₁) (kI := kI₁) (cI := cI) (cc := cc) hkO₁ hkindO₁ hkI₁ hkindI₁ hl1 hl2 (by show T.heap.size + 5 ≤ _; exact hr1) (by show T.slotsUsed + 4360 ≤ _; exact hr2) (fun d' acts' => ?_)
  have hS : ((T.setTop g).setVm vm₁).setTop { g with stack := rest } = (T.setVm vm₁).setTop { g with stack := rest } := by
    show ((T.setVm vm₁).setTop g).setTop _ = _
    rw [State.setTop_setTop]
  rw [hS, mrs_top]
  simp only [wp_bind', W.mark, W.pushRef, State.topJava?_setTop' _ XF.here.top, Option.some.injEq, exists_eq_left', State.setTop_setTop, State.heap_setTop]
  intro acts
  simp [jvm, XF.here.top]
  exact hrest
