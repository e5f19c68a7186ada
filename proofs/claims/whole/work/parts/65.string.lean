/-! ===== the text that the class begins with, and what String answers of it ===== -/
def btL : List Nat := [98, 48, 44, 49, 59, 98, 52, 44, 49, 59, 98, 55, 44, 50, 59, 110, 49, 52, 59, 114, 49, 59, 116, 40, 97, 98, 41, 50, 91, 97, 99, 93, 46, 46, 99, 40, 98, 99, 41, 50, 46, 59]
def btx (j : Nat) : Int32 := nI (btL.getD j 0)
def NoA : Nat → Prop := fun _ => False
def SG (sa sv : Nat) (A : Nat → Prop) (U : State) (H : Heap) : Prop := va_O "java/lang/String" sa A U H ∧ va_OF "java/lang/String" "coder" "B" (.int 0) sa A U H ∧ va_OF "java/lang/String" "value" "[B" (.ref sv) sa A U H ∧ va_T .byte sv 42 (fun j => .int (btx j)) A U H ∧ va_Z "java/lang/String" "COMPACT_STRINGS" "Z" (.int 1) A U H ∧ va_Zq "jdk/internal/util/Preconditions" "SIOOBE_FORMATTER" "Ljava/util/function/BiFunction;" A U H
theorem SG.moved {sa sv : Nat} {A : Nat → Prop} {u U : State} {H : Heap} (hvm : u.vm.Alike U.vm) (h : SG sa sv A u H) : SG sa sv A U H := ⟨h.1.moved hvm, h.2.1.moved hvm, h.2.2.1.moved hvm, h.2.2.2.1.moved hvm, h.2.2.2.2.1.moved hvm, h.2.2.2.2.2.moved hvm⟩
theorem SG.kept {sa sv : Nat} {A : Nat → Prop} {U : State} {H H1 : Heap} (h : SG sa sv A U H) (hq : ∀ a : Nat, a < H.size → ¬ A a → H1[a]? = H[a]?) : SG sa sv A U H1 := ⟨h.1.kept hq, h.2.1.kept hq, h.2.2.1.kept hq, h.2.2.2.1.kept hq, h.2.2.2.2.1.kept hq, h.2.2.2.2.2.kept hq⟩
theorem SG.narrow {sa sv : Nat} {A B : Nat → Prop} {U : State} {H : Heap} (h : SG sa sv A U H) (hAB : ∀ q, B q → A q) : SG sa sv B U H := ⟨h.1.narrow hAB, h.2.1.narrow hAB, h.2.2.1.narrow hAB, h.2.2.2.1.narrow hAB, h.2.2.2.2.1.narrow hAB, h.2.2.2.2.2.narrow hAB⟩
def QS (r : Option Value) : Array Value → State → Outcome → State → Prop := fun _ st oc t => oc = .returned r ∧ t.heap = st.heap
def CJ (l : Launch) (M : MI) (sa sv : Nat) (av : List Value) (r : Option Value) : Prop := Met l (mY M) (wds M) (rmM M) (va_Pc av (fun U => SG sa sv NoA U U.heap)) (QS r) 0 0 NoA
def JX (M : MI) (sa sv : Nat) (p : Program) (s : State) (m : MethodId) (args : Array Value) (meth : Method) (c : Code) : Prop :=
  p.tables.exec = Jvm.exec ∧ c.code = mC M ∧ meth.sig.returnType = mR M ∧ c.maxLocals = mL M ∧ s.vm.findClass (mY M).cls = some m.cls ∧ (∀ w ∈ gt, w.before args s = true) ∧ meth.locks = false ∧ SG sa sv NoA s s.heap
def JW (l : Launch) (M : MI) (sa sv : Nat) (r : Option Value) (pc : Nat) (lv : List (Nat × Value)) (st : List Value) : Prop :=
  ∀ (p : Program) (e : Env) (s : State) (m : MethodId) (args : Array Value) (below : List Frame) (meth : Method) (c : Code) (ls : Array Slot) (locs : List Loc), JX M sa sv p s m args meth c → va_S NoA s.heap s.heap locs → lv_has ls (mL M) lv →
    W p l e (rmM M) s m args below meth c s.heap locs 0 0 (MQ below (QS r) args s 0 0 NoA) (F0 m pc ls st)
theorem CJ.of {l : Launch} {M : MI} {sa sv : Nat} {av : List Value} {r : Option Value} (hpl : plainFor (mY M) = true) (hlen : (lg_sl av).length ≤ mL M) (k : JW l M sa sv r 0 (lv_args 0 av) []) : CJ l M sa sv av r := by
  refine met_of (cc := mC M) (maxL := mL M) (ret := mR M) hpl rfl ?_
  intro p e s m args below meth c s₁ B hml hv
  obtain ⟨rfl, hX⟩ := hv
  have hts := atoms_spec (ws := wds M) B.pre
  have hown : s.vm.findClass (mY M).cls = some m.cls := findClass_of_methodNamed B.named
  have hl := lv_entry av (n := mL M) hlen
  rw [lg_entry_eq]
  generalize (lg_sl av ++ List.replicate (mL M - (lg_sl av).length) Slot.unset).toArray = ls at hl ⊢
  exact k p e s m _ below meth c ls [] ⟨B.exec, B.bytes, B.returns, hml, hown, fun w hw => hts w (List.mem_cons_of_mem _ hw), B.notSynchronized, hX⟩ va_S.rf hl
section JWR
variable {l : Launch} {M N : MI} {sa sv pc : Nat} {r : Option Value} {lv : List (Nat × Value)} {st : List Value}
theorem jw_aload {z : Fin 4} {x : Nat} (j : Nat) (d : decode (mC M) pc = .ok (.aload_n z, 1)) (q : lv[j]? = some ((z : Nat), .ref x)) (k : JW l M sa sv r (pc + 1) lv (.ref x :: st)) : JW l M sa sv r pc lv st :=
  fun p e s m args below meth c ls locs C hS hl => lv_aload_n C.1 C.2.1 d rfl (lv_at hl j q) (k p e s m args below meth c ls locs C hS hl)
theorem jw_iload {z : Fin 4} {x : Int32} (j : Nat) (d : decode (mC M) pc = .ok (.iload_n z, 1)) (q : lv[j]? = some ((z : Nat), .int x)) (k : JW l M sa sv r (pc + 1) lv (.int x :: st)) : JW l M sa sv r pc lv st :=
  fun p e s m args below meth c ls locs C hS hl => lv_iload_n C.1 C.2.1 d rfl (lv_at hl j q) (k p e s m args below meth c ls locs C hS hl)
theorem jw_iconst {z : Int} (v : Int32) (d : decode (mC M) pc = .ok (.iconst z, 1)) (hv : Int32.ofInt z = v) (k : JW l M sa sv r (pc + 1) lv (.int v :: st)) : JW l M sa sv r pc lv st :=
  fun p e s m args below meth c ls locs C hS hl => lv_iconst C.1 C.2.1 d hv (k p e s m args below meth c ls locs C hS hl)
theorem jw_sipush {z : Int} (v : Int32) (d : decode (mC M) pc = .ok (.sipush z, 3)) (hv : (Int16.ofInt z).toInt32 = v) (k : JW l M sa sv r (pc + 3) lv (.int v :: st)) : JW l M sa sv r pc lv st :=
  fun p e s m args below meth c ls locs C hS hl => lv_sipush C.1 C.2.1 d hv (k p e s m args below meth c ls locs C hS hl)
theorem jw_iand {x y : Int32} (d : decode (mC M) pc = .ok (.iand, 1)) (k : JW l M sa sv r (pc + 1) lv (.int (x &&& y) :: st)) : JW l M sa sv r pc lv (.int y :: .int x :: st) :=
  fun p e s m args below meth c ls locs C hS hl => lv_iand C.1 C.2.1 d (k p e s m args below meth c ls locs C hS hl)
theorem jw_ishr {x y : Int32} (d : decode (mC M) pc = .ok (.ishr, 1)) (k : JW l M sa sv r (pc + 1) lv (.int (jshr x y) :: st)) : JW l M sa sv r pc lv (.int y :: .int x :: st) :=
  fun p e s m args below meth c ls locs C hS hl => lv_ishr C.1 C.2.1 d (k p e s m args below meth c ls locs C hS hl)
theorem jw_i2c {x v : Int32} (d : decode (mC M) pc = .ok (.i2c, 1)) (hv : (x.toUInt32 % 65536).toInt32 = v) (k : JW l M sa sv r (pc + 1) lv (.int v :: st)) : JW l M sa sv r pc lv (.int x :: st) :=
  fun p e s m args below meth c ls locs C hS hl => lv_i2c C.1 C.2.1 d hv (k p e s m args below meth c ls locs C hS hl)
theorem jw_pop {x : Int32} (d : decode (mC M) pc = .ok (.pop, 1)) (k : JW l M sa sv r (pc + 1) lv st) : JW l M sa sv r pc lv (.int x :: st) :=
  fun p e s m args below meth c ls locs C hS hl => lv_pop C.1 C.2.1 d rfl (k p e s m args below meth c ls locs C hS hl)
theorem jw_goto {off : Int} (tgt : Nat) (d : decode (mC M) pc = .ok (.goto off, 3)) (ht : (pc : Int) + off = (tgt : Int)) (k : JW l M sa sv r tgt lv st) : JW l M sa sv r pc lv st :=
  fun p e s m args below meth c ls locs C hS hl => lv_goto C.1 C.2.1 d ht (k p e s m args below meth c ls locs C hS hl)
theorem jw_if_eqN {x : Int32} {off : Int} (tgt : Nat) (hx : ¬ x = 0) (d : decode (mC M) pc = .ok (.ifCond .eq off, 3)) (ht : (pc : Int) + off = (tgt : Int)) (k : JW l M sa sv r (pc + 3) lv st) : JW l M sa sv r pc lv (.int x :: st) :=
  fun p e s m args below meth c ls locs C hS hl => lv_if_eq C.1 C.2.1 d ht (fun q => absurd q hx) (fun _ => k p e s m args below meth c ls locs C hS hl)
theorem jw_if_neN {x : Int32} {off : Int} (tgt : Nat) (hx : x = 0) (d : decode (mC M) pc = .ok (.ifCond .ne off, 3)) (ht : (pc : Int) + off = (tgt : Int)) (k : JW l M sa sv r (pc + 3) lv st) : JW l M sa sv r pc lv (.int x :: st) :=
  fun p e s m args below meth c ls locs C hS hl => lv_if_ne C.1 C.2.1 d ht (fun q => absurd hx q) (fun _ => k p e s m args below meth c ls locs C hS hl)
theorem jw_if_ltN {x : Int32} {off : Int} (tgt : Nat) (hx : ¬ x < 0) (d : decode (mC M) pc = .ok (.ifCond .lt off, 3)) (ht : (pc : Int) + off = (tgt : Int)) (k : JW l M sa sv r (pc + 3) lv st) : JW l M sa sv r pc lv (.int x :: st) :=
  fun p e s m args below meth c ls locs C hS hl => lv_if_lt C.1 C.2.1 d ht (fun q => absurd q hx) (fun _ => k p e s m args below meth c ls locs C hS hl)
theorem jw_icmp_ltY {x y : Int32} {off : Int} (tgt : Nat) (hx : x < y) (d : decode (mC M) pc = .ok (.if_icmp .lt off, 3)) (ht : (pc : Int) + off = (tgt : Int)) (k : JW l M sa sv r tgt lv st) : JW l M sa sv r pc lv (.int y :: .int x :: st) :=
  fun p e s m args below meth c ls locs C hS hl => lv_icmp_lt C.1 C.2.1 d ht (fun _ => k p e s m args below meth c ls locs C hS hl) (fun q => absurd hx q)
theorem jw_coder {i : Nat} (g : Cond.fieldLink (mY M).cls i "java/lang/String" "coder" "B" ∈ gt) (d : decode (mC M) pc = .ok (.getfield i, 3)) (k : JW l M sa sv r (pc + 3) lv (.int 0 :: st)) : JW l M sa sv r pc lv (.ref sa :: st) :=
  fun p e s m args below meth c ls locs C hS hl => vk_getf C.1 C.2.1 C.2.2.2.2.2.2.2.2.1 hS C.2.2.2.2.1 (C.2.2.2.2.2.1 _ g) (fun _ h => h) d (k p e s m args below meth c ls locs C hS hl)
theorem jw_value {i : Nat} (g : Cond.fieldLink (mY M).cls i "java/lang/String" "value" "[B" ∈ gt) (d : decode (mC M) pc = .ok (.getfield i, 3)) (k : JW l M sa sv r (pc + 3) lv (.ref sv :: st)) : JW l M sa sv r pc lv (.ref sa :: st) :=
  fun p e s m args below meth c ls locs C hS hl => vk_getf C.1 C.2.1 C.2.2.2.2.2.2.2.2.2.1 hS C.2.2.2.2.1 (C.2.2.2.2.2.1 _ g) (fun _ h => h) d (k p e s m args below meth c ls locs C hS hl)
theorem jw_compact {i : Nat} (g : Cond.fieldLink (mY M).cls i "java/lang/String" "COMPACT_STRINGS" "Z" ∈ gt) (d : decode (mC M) pc = .ok (.getstatic i, 3)) (k : JW l M sa sv r (pc + 3) lv (.int 1 :: st)) : JW l M sa sv r pc lv st :=
  fun p e s m args below meth c ls locs C hS hl => va_gets C.1 C.2.1 C.2.2.2.2.2.2.2.2.2.2.2.1 hS C.2.2.2.2.1 (C.2.2.2.2.2.1 _ g) (fun _ h => h) d (k p e s m args below meth c ls locs C hS hl)
theorem jw_format {i : Nat} (g : Cond.fieldLink (mY M).cls i "jdk/internal/util/Preconditions" "SIOOBE_FORMATTER" "Ljava/util/function/BiFunction;" ∈ gt) (d : decode (mC M) pc = .ok (.getstatic i, 3)) (k : ∀ v, (v = .null ∨ ∃ t, v = .ref t) → JW l M sa sv r (pc + 3) lv (v :: st)) : JW l M sa sv r pc lv st := by
  intro p e s m args below meth c ls locs C hS hl
  rcases C.2.2.2.2.2.2.2.2.2.2.2.2 with h | ⟨t, h⟩
  · exact va_gets C.1 C.2.1 h hS C.2.2.2.2.1 (C.2.2.2.2.2.1 _ g) (fun _ h => h) d (k _ (Or.inl rfl) p e s m args below meth c ls locs C hS hl)
  · exact va_gets C.1 C.2.1 h hS C.2.2.2.2.1 (C.2.2.2.2.2.1 _ g) (fun _ h => h) d (k _ (Or.inr ⟨t, rfl⟩) p e s m args below meth c ls locs C hS hl)
theorem jw_len (d : decode (mC M) pc = .ok (.arraylength, 1)) (k : JW l M sa sv r (pc + 1) lv (.int (nI 42) :: st)) : JW l M sa sv r pc lv (.ref sv :: st) :=
  fun p e s m args below meth c ls locs C hS hl => va_tlen C.1 C.2.1 C.2.2.2.2.2.2.2.2.2.2.1 hS rfl d (k p e s m args below meth c ls locs C hS hl)
theorem jw_byte {j : Nat} (hj : j < 42) (d : decode (mC M) pc = .ok (.baload, 1)) (k : JW l M sa sv r (pc + 1) lv (.int (btx j) :: st)) : JW l M sa sv r pc lv (.int (nI j) :: .ref sv :: st) :=
  fun p e s m args below meth c ls locs C hS hl => va_tb C.1 C.2.1 C.2.2.2.2.2.2.2.2.2.2.1 hS (inb_in (inb_t hj (by decide))) (by show Value.int (btx (ix (nI j))) = _; rw [e_ix (by omega)]) d (k p e s m args below meth c ls locs C hS hl)
theorem CJ.blind {av : List Value} : FrameBlind (va_Pc av (fun U => SG sa sv NoA U U.heap)) := by
  intro a U g mk q
  exact ⟨q.1, q.2.moved (u := U) (U := U.calling g mk a) (Vm.Alike.refl U.vm)⟩
theorem jw_back {p : Program} {e : Env} {s : State} {m : MethodId} {args : Array Value} {below : List Frame} {meth : Method} {c : Code} {ls : Array Slot} {locs : List Loc} {rv : Option Value} {a : Array Value} {st0 : List Value}
    (C : JX M sa sv p s m args meth c) (hS : va_S NoA s.heap s.heap locs) (hl : lv_has ls (mL M) lv) (hr : va_Run p l e (rmM M) s m args below meth c s.heap locs 0 0 0 0 (F0 m pc ls st0) st (QS rv a) NoA)
    (k : JW l M sa sv r (pc + 3) lv (rv.toList ++ st)) : W p l e (rmM M) s m args below meth c s.heap locs 0 0 (MQ below (QS r) args s 0 0 NoA) (F0 m pc ls st0) := by
  intro T hT X
  obtain ⟨v, st₀, t, T', L, h0, X', hL, e1, e2, ⟨hv, hh⟩, stp⟩ := hr T hT X
  have hv2 : v = rv := by cases hv; rfl
  subst hv2
  have hT' : T'.heap = s.heap := by rw [e1, hh, h0]
  have hS' : va_S NoA s.heap s.heap (locs ++ L) := ⟨hS.1, hS.2.1, fun q hq => by
    rcases List.mem_append.mp hq with z | z
    · exact hS.2.2 q z
    · exact hL q z⟩
  obtain ⟨t2, a1, b1⟩ := k p e s m args below meth c ls (locs ++ L) C hS' hl T' hT' X'
  exact ⟨t2, stp t2 a1, b1⟩
theorem jw_callS {i n : Nat} {As st0 : List Value} {rv : Option Value} (ok : okS N n) (hlk : Cond.methodLink (mY M).cls i (mY N) ∈ gt) (hlen : As.length = n) (hs : st0 = As.reverse ++ st) (hst : (st.map Value.category).sum ≤ 8) (hR : roomy N (rmM M)) (d : decode (mC M) pc = .ok (.invokestatic i, 3)) (hc : CJ l N sa sv As rv) (k : JW l M sa sv r (pc + 3) lv (rv.toList ++ st)) : JW l M sa sv r pc lv st0 := by
  intro p e s m args below meth c ls locs C hS hl
  subst hs
  obtain ⟨o1, o3, o4, o5, o6, o7⟩ := ok
  have hG : GoodIn gt (va_wsS (mY M).cls i (mY N) (wds N)) := by
    intro w hw
    have : w ∈ gt := by
      simp only [va_wsS, wds, List.cons_append, List.nil_append, List.mem_cons] at hw
      rcases hw with rfl | rfl | rfl | rfl | hw <;> assumption
    exact ⟨this, gt_good this⟩
  exact jw_back C hS hl (va_runS (As := As) (rest := st) (mc := 0) (ms := 0) (n := n) ⟨C.1, C.2.1, C.2.2.2.1, C.2.2.2.2.1, C.2.2.2.2.2.1⟩ hc (va_cwS n C.2.2.2.2.2.1 hG rfl rfl rfl ⟨o5, o6, o7⟩ hR) ⟨CJ.blind, fun U hU hW => ⟨rfl, by show SG sa sv NoA U U.heap; rw [hU]; exact C.2.2.2.2.2.2.2.moved hW.alike⟩⟩ rfl hlen hl.1 rfl (lv_room hst) d ⟨Nat.le_refl _, Nat.le_refl _⟩) k
theorem jw_callV {i n : Nat} {As st0 : List Value} {rv : Option Value} (ok : okV N n) (hcl : (mY N).cls = "java/lang/String") (hlk : Cond.methodLink (mY M).cls i (mY N) ∈ gt) (hlen : As.length = n) (hs : st0 = As.reverse ++ .ref sa :: st) (hst : (st.map Value.category).sum ≤ 8) (hR : roomy N (rmM M)) (d : decode (mC M) pc = .ok (.invokevirtual i, 3)) (hc : CJ l N sa sv (.ref sa :: As) rv) (k : JW l M sa sv r (pc + 3) lv (rv.toList ++ st)) : JW l M sa sv r pc lv st0 := by
  intro p e s m args below meth c ls locs C hS hl
  subst hs
  obtain ⟨o1, o2, o3, o4, o5, o6, o7⟩ := ok
  have hG : GoodIn gt (wsV (mY M).cls i (mY N).cls (mY N) (wds N)) := by
    intro w hw
    have : w ∈ gt := by
      simp only [wsV, wds, List.cons_append, List.nil_append, List.mem_cons] at hw
      rcases hw with rfl | rfl | rfl | rfl | rfl | hw <;> assumption
    exact ⟨this, gt_good this⟩
  refine jw_back C hS hl (va_runV (As := As) (rest := st) (mc := 0) (ms := 0) (n := n) ⟨C.1, C.2.1, C.2.2.2.1, C.2.2.2.2.1, C.2.2.2.2.2.1⟩ hc (cwV n C.2.2.2.2.2.1 hG rfl rfl rfl ⟨rfl, o5, o6, o7⟩ hR) ⟨CJ.blind, ?_, fun U hU hW => ⟨rfl, by show SG sa sv NoA U U.heap; rw [hU]; exact C.2.2.2.2.2.2.2.moved hW.alike⟩⟩ rfl hlen hl.1 rfl (lv_room hst) d ⟨Nat.le_refl _, Nat.le_refl _⟩) k
  obtain ⟨cell, h1, h2, h3, -⟩ := C.2.2.2.2.2.2.2.1
  exact ⟨cell, h1, h2, by rw [hcl]; exact h3⟩
theorem jw_zret {x : Int32} {ty : FieldType} (hr : mR M = some ty) (hx : narrow ty (.int x) = .int x) (d : decode (mC M) pc = .ok (.ireturn, 1)) : JW l M sa sv (some (.int x)) pc lv [.int x] :=
  fun p e s m args below meth c ls locs C hS hl => W.zret (v := x) C.1 C.2.1 (C.2.2.1.trans hr) hx (fun t ht hW => ⟨rfl, ht⟩) hS.2.2 d C.2.2.2.2.2.2.1
theorem jw_iret {x : Int32} (hr : mR M = some .int) (d : decode (mC M) pc = .ok (.ireturn, 1)) : JW l M sa sv (some (.int x)) pc lv [.int x] :=
  fun p e s m args below meth c ls locs C hS hl => W.iret (v := x) C.1 C.2.1 (C.2.2.1.trans hr) (fun t ht hW => ⟨rfl, ht⟩) hS.2.2 d C.2.2.2.2.2.2.1
theorem jw_vret (hr : mR M = none) (d : decode (mC M) pc = .ok (.return_, 1)) : JW l M sa sv none pc lv [] :=
  fun p e s m args below meth c ls locs C hS hl => W.vret C.1 C.2.1 (C.2.2.1.trans hr) (fun t ht hW => ⟨rfl, ht⟩) hS.2.2 d C.2.2.2.2.2.2.1
end JWR
def mJ3_checkIndex_8e157 : MI := (yJ3_checkIndex_8e157, cJ3_checkIndex_8e157, 3, (some .int), 0)
theorem okJ3_checkIndex_8e157 : okS mJ3_checkIndex_8e157 3 := ⟨gt_in 264 (by decide +kernel) (by decide +kernel), gt_in 65 (by decide +kernel) (by decide +kernel), gt_in 265 (by decide +kernel) (by decide +kernel), by decide +kernel, by decide +kernel, by decide +kernel⟩
def mJ0_checkIndex_df160 : MI := (yJ0_checkIndex_df160, cJ0_checkIndex_df160, 2, none, 1)
theorem okJ0_checkIndex_df160 : okS mJ0_checkIndex_df160 2 := ⟨gt_in 259 (by decide +kernel) (by decide +kernel), gt_in 63 (by decide +kernel) (by decide +kernel), gt_in 260 (by decide +kernel) (by decide +kernel), by decide +kernel, by decide +kernel, by decide +kernel⟩
def mJ1_charAt_3b067 : MI := (yJ1_charAt_3b067, cJ1_charAt_3b067, 2, (some .char), 2)
theorem okJ1_charAt_3b067 : okS mJ1_charAt_3b067 2 := ⟨gt_in 256 (by decide +kernel) (by decide +kernel), gt_in 64 (by decide +kernel) (by decide +kernel), gt_in 257 (by decide +kernel) (by decide +kernel), by decide +kernel, by decide +kernel, by decide +kernel⟩
def mJ0_isLatin1_aae02 : MI := (yJ0_isLatin1_aae02, cJ0_isLatin1_aae02, 1, (some .boolean), 0)
theorem okJ0_isLatin1_aae02 : okV mJ0_isLatin1_aae02 0 := ⟨gt_in 252 (by decide +kernel) (by decide +kernel), gt_in 253 (by decide +kernel) (by decide +kernel), gt_in 63 (by decide +kernel) (by decide +kernel), gt_in 254 (by decide +kernel) (by decide +kernel), by decide +kernel, by decide +kernel, by decide +kernel⟩
def mJ0_coder_7d493 : MI := (yJ0_coder_7d493, cJ0_coder_7d493, 1, (some .byte), 0)
theorem okJ0_coder_7d493 : okV mJ0_coder_7d493 0 := ⟨gt_in 242 (by decide +kernel) (by decide +kernel), gt_in 243 (by decide +kernel) (by decide +kernel), gt_in 63 (by decide +kernel) (by decide +kernel), gt_in 244 (by decide +kernel) (by decide +kernel), by decide +kernel, by decide +kernel, by decide +kernel⟩
def mJ0_charAt_5068e : MI := (yJ0_charAt_5068e, cJ0_charAt_5068e, 2, (some .char), 3)
theorem okJ0_charAt_5068e : okV mJ0_charAt_5068e 1 := ⟨gt_in 248 (by decide +kernel) (by decide +kernel), gt_in 249 (by decide +kernel) (by decide +kernel), gt_in 63 (by decide +kernel) (by decide +kernel), gt_in 250 (by decide +kernel) (by decide +kernel), by decide +kernel, by decide +kernel, by decide +kernel⟩
def mJ0_length_8abf5 : MI := (yJ0_length_8abf5, cJ0_length_8abf5, 1, (some .int), 1)
theorem okJ0_length_8abf5 : okV mJ0_length_8abf5 0 := ⟨gt_in 238 (by decide +kernel) (by decide +kernel), gt_in 239 (by decide +kernel) (by decide +kernel), gt_in 63 (by decide +kernel) (by decide +kernel), gt_in 240 (by decide +kernel) (by decide +kernel), by decide +kernel, by decide +kernel, by decide +kernel⟩
theorem ljJ0_335 : Cond.methodLink RJ0 335 yJ0_coder_7d493 ∈ gt := gt_in 241 (by decide +kernel) (by decide +kernel)
theorem ljJ0_492 : Cond.methodLink RJ0 492 yJ0_isLatin1_aae02 ∈ gt := gt_in 251 (by decide +kernel) (by decide +kernel)
theorem ljJ0_495 : Cond.methodLink RJ0 495 yJ1_charAt_3b067 ∈ gt := gt_in 255 (by decide +kernel) (by decide +kernel)
theorem ljJ1_9 : Cond.methodLink RJ1 9 yJ0_checkIndex_df160 ∈ gt := gt_in 258 (by decide +kernel) (by decide +kernel)
theorem ljJ0_1059 : Cond.methodLink RJ0 1059 yJ3_checkIndex_8e157 ∈ gt := gt_in 263 (by decide +kernel) (by decide +kernel)
theorem ljX6_71 : Cond.methodLink RX6 71 yJ0_length_8abf5 ∈ gt := gt_in 237 (by decide +kernel) (by decide +kernel)
theorem ljX6_77 : Cond.methodLink RX6 77 yJ0_charAt_5068e ∈ gt := gt_in 247 (by decide +kernel) (by decide +kernel)
theorem fjJ0_9 : Cond.fieldLink RJ0 9 "java/lang/String" "value" "[B" ∈ gt := gt_in 1019 (by decide +kernel) (by decide +kernel)
theorem fjJ0_15 : Cond.fieldLink RJ0 15 "java/lang/String" "coder" "B" ∈ gt := gt_in 1020 (by decide +kernel) (by decide +kernel)
theorem fjJ0_38 : Cond.fieldLink RJ0 38 "java/lang/String" "COMPACT_STRINGS" "Z" ∈ gt := gt_in 245 (by decide +kernel) (by decide +kernel)
theorem fjJ0_1053 : Cond.fieldLink RJ0 1053 "jdk/internal/util/Preconditions" "SIOOBE_FORMATTER" "Ljava/util/function/BiFunction;" ∈ gt := gt_in 261 (by decide +kernel) (by decide +kernel)
section JDK
variable {l : Launch} {sa sv : Nat}
theorem cj_check3 {i : Nat} (hi : i < 42) {v : Value} (hv : v = .null ∨ ∃ t, v = .ref t) : CJ l mJ3_checkIndex_8e157 sa sv [.int (nI i), .int (nI 42), v] (some (.int (nI i))) := by
  have hlv : ∃ lv, lv_args 0 [.int (nI i), .int (nI 42), v] = (0, .int (nI i)) :: (1, .int (nI 42)) :: lv := by
    rcases hv with rfl | ⟨t, rfl⟩
    · exact ⟨_, rfl⟩
    · exact ⟨_, rfl⟩
  have hln : (lg_sl [.int (nI i), .int (nI 42), v]).length ≤ 3 := by
    rcases hv with rfl | ⟨t, rfl⟩
    · exact (Nat.le_of_ble_eq_true rfl)
    · exact (Nat.le_of_ble_eq_true rfl)
  obtain ⟨lv, hlv⟩ := hlv
  refine CJ.of (by decide +kernel) hln ?_
  rw [hlv]
  refine jw_iload 0 dJ3_checkIndex_8e157_0 rfl ?_
  refine jw_if_ltN 9 ?_ dJ3_checkIndex_8e157_1 rfl ?_
  · exact Int32.not_lt.mpr (by rw [show (0 : Int32) = nI 0 from rfl, e_le (by decide) (by omega)]; omega)
  refine jw_iload 0 dJ3_checkIndex_8e157_4 rfl ?_
  refine jw_iload 1 dJ3_checkIndex_8e157_5 rfl ?_
  refine jw_icmp_ltY 16 (by rw [e_lt (by omega) (by decide)]; exact hi) dJ3_checkIndex_8e157_6 rfl ?_
  refine jw_iload 0 dJ3_checkIndex_8e157_16 rfl ?_
  exact jw_iret rfl dJ3_checkIndex_8e157_17
theorem cj_check0 {i : Nat} (hi : i < 42) : CJ l mJ0_checkIndex_df160 sa sv [.int (nI i), .int (nI 42)] none := by
  refine CJ.of (by decide +kernel) (Nat.le_of_ble_eq_true rfl) ?_
  refine jw_iload 0 dJ0_checkIndex_df160_0 rfl ?_
  refine jw_iload 1 dJ0_checkIndex_df160_1 rfl ?_
  refine jw_format fjJ0_1053 dJ0_checkIndex_df160_2 (fun v hv => ?_)
  refine jw_callS (As := [.int (nI i), .int (nI 42), v]) okJ3_checkIndex_8e157 ljJ0_1059 rfl rfl (Nat.le_of_ble_eq_true rfl) ⟨(Nat.le_of_ble_eq_true rfl), (Nat.le_of_ble_eq_true rfl)⟩ dJ0_checkIndex_df160_5 (cj_check3 hi hv) ?_
  refine jw_pop dJ0_checkIndex_df160_8 ?_
  exact jw_vret rfl dJ0_checkIndex_df160_9
theorem btx_char : ∀ j, j < 42 → ((btx j &&& 255).toUInt32 % 65536).toInt32 = btx j ∧ narrow .char (.int (btx j)) = .int (btx j) := by decide +kernel
theorem cj_charAt1 {i : Nat} (hi : i < 42) : CJ l mJ1_charAt_3b067 sa sv [.ref sv, .int (nI i)] (some (.int (btx i))) := by
  refine CJ.of (by decide +kernel) (Nat.le_of_ble_eq_true rfl) ?_
  refine jw_iload 1 dJ1_charAt_3b067_0 rfl ?_
  refine jw_aload 0 dJ1_charAt_3b067_1 rfl ?_
  refine jw_len dJ1_charAt_3b067_2 ?_
  refine jw_callS (As := [.int (nI i), .int (nI 42)]) okJ0_checkIndex_df160 ljJ1_9 rfl rfl (Nat.le_of_ble_eq_true rfl) ⟨(Nat.le_of_ble_eq_true rfl), (Nat.le_of_ble_eq_true rfl)⟩ dJ1_charAt_3b067_3 (cj_check0 hi) ?_
  refine jw_aload 0 dJ1_charAt_3b067_6 rfl ?_
  refine jw_iload 1 dJ1_charAt_3b067_7 rfl ?_
  refine jw_byte hi dJ1_charAt_3b067_8 ?_
  refine jw_sipush 255 dJ1_charAt_3b067_9 (by decide) ?_
  refine jw_iand dJ1_charAt_3b067_12 ?_
  refine jw_i2c dJ1_charAt_3b067_13 (btx_char i hi).1 ?_
  exact jw_zret rfl (btx_char i hi).2 dJ1_charAt_3b067_14
theorem cj_coder : CJ l mJ0_coder_7d493 sa sv [.ref sa] (some (.int 0)) := by
  refine CJ.of (by decide +kernel) (Nat.le_of_ble_eq_true rfl) ?_
  refine jw_compact fjJ0_38 dJ0_coder_7d493_0 ?_
  refine jw_if_eqN 13 (by decide) dJ0_coder_7d493_3 rfl ?_
  refine jw_aload 0 dJ0_coder_7d493_6 rfl ?_
  refine jw_coder fjJ0_15 dJ0_coder_7d493_7 ?_
  refine jw_goto 14 dJ0_coder_7d493_10 rfl ?_
  exact jw_zret rfl rfl dJ0_coder_7d493_14
theorem cj_latin : CJ l mJ0_isLatin1_aae02 sa sv [.ref sa] (some (.int 1)) := by
  refine CJ.of (by decide +kernel) (Nat.le_of_ble_eq_true rfl) ?_
  refine jw_compact fjJ0_38 dJ0_isLatin1_aae02_0 ?_
  refine jw_if_eqN 17 (by decide) dJ0_isLatin1_aae02_3 rfl ?_
  refine jw_aload 0 dJ0_isLatin1_aae02_6 rfl ?_
  refine jw_coder fjJ0_15 dJ0_isLatin1_aae02_7 ?_
  refine jw_if_neN 17 rfl dJ0_isLatin1_aae02_10 rfl ?_
  refine jw_iconst 1 dJ0_isLatin1_aae02_13 (by decide) ?_
  refine jw_goto 18 dJ0_isLatin1_aae02_14 rfl ?_
  exact jw_zret rfl rfl dJ0_isLatin1_aae02_18
theorem cj_length : CJ l mJ0_length_8abf5 sa sv [.ref sa] (some (.int (nI 42))) := by
  refine CJ.of (by decide +kernel) (Nat.le_of_ble_eq_true rfl) ?_
  refine jw_aload 0 dJ0_length_8abf5_0 rfl ?_
  refine jw_value fjJ0_9 dJ0_length_8abf5_1 ?_
  refine jw_len dJ0_length_8abf5_4 ?_
  refine jw_aload 0 dJ0_length_8abf5_5 rfl ?_
  refine jw_callV (As := []) okJ0_coder_7d493 rfl ljJ0_335 rfl rfl (Nat.le_of_ble_eq_true rfl) ⟨(Nat.le_of_ble_eq_true rfl), (Nat.le_of_ble_eq_true rfl)⟩ dJ0_length_8abf5_6 cj_coder ?_
  refine jw_ishr dJ0_length_8abf5_9 ?_
  exact jw_iret rfl dJ0_length_8abf5_10
theorem cj_charAt {i : Nat} (hi : i < 42) : CJ l mJ0_charAt_5068e sa sv [.ref sa, .int (nI i)] (some (.int (btx i))) := by
  refine CJ.of (by decide +kernel) (Nat.le_of_ble_eq_true rfl) ?_
  refine jw_aload 0 dJ0_charAt_5068e_0 rfl ?_
  refine jw_callV (As := []) okJ0_isLatin1_aae02 rfl ljJ0_492 rfl rfl (Nat.le_of_ble_eq_true rfl) ⟨(Nat.le_of_ble_eq_true rfl), (Nat.le_of_ble_eq_true rfl)⟩ dJ0_charAt_5068e_1 cj_latin ?_
  refine jw_if_eqN 16 (by decide) dJ0_charAt_5068e_4 rfl ?_
  refine jw_aload 0 dJ0_charAt_5068e_7 rfl ?_
  refine jw_value fjJ0_9 dJ0_charAt_5068e_8 ?_
  refine jw_iload 1 dJ0_charAt_5068e_11 rfl ?_
  refine jw_callS (As := [.ref sv, .int (nI i)]) okJ1_charAt_3b067 ljJ0_495 rfl rfl (Nat.le_of_ble_eq_true rfl) ⟨(Nat.le_of_ble_eq_true rfl), (Nat.le_of_ble_eq_true rfl)⟩ dJ0_charAt_5068e_12 (cj_charAt1 hi) ?_
  exact jw_zret rfl (btx_char i hi).2 dJ0_charAt_5068e_15
end JDK
