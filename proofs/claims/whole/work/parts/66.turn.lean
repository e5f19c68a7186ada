/-! ===== from worlds as lists to states ===== -/
def eS (E : EV) (ad : Nat → Nat) (N : Nat) : EV := (E.1, ad, N, E.2.2.2)
theorem ei_of {E : EV} {A : Nat → Prop} {tw : TW} {h : HP} (hD : va_D A (wW E tw h)) : EI E := fun i j hi hj e => hD.1 i j _ _ (wW_get E tw h hi) (wW_get E tw h hj) e
theorem bw_aw {E : EV} {M : MI} {K : BK} {ad : Nat → Nat} {N : Nat} {tw : TW} {h : HP} {ws : va_W} {n k pc : Nat} {lv : List (Nat × Value)} {st st' : List Value} {loc : LC} (hws : ws = wW (eS E ad N) tw h) (hA : ∀ s x, K.2.1 s x → fA (eS E ad N) s.heap.size x) (hst : st = st'.map (cv (eS E ad N))) (hlv : ∀ i v, ld loc i = some v → (i, cv (eS E ad N) v) ∈ lv)
    (kk : EI (eS E ad N) → AW (eS E ad N) M (K.1, n, k, K.2.2.1, fun s => K.2.2.2 s ∧ ∀ j, j < N → K.2.1 s (ad j)) tw h pc loc st') : BW E M K ws n k pc lv st := by
  subst hws
  subst hst
  intro p e s m args below meth c H ls locs C hP hD hS hl
  have hE : EI (eS E ad N) := ei_of (A := K.2.1 s) (tw := tw) (h := h) hD
  have hD2 : ∀ j, j < N → K.2.1 s (ad j) := fun j hj => hD.2 j _ (wW_get (eS E ad N) tw h hj)
  exact kk hE p e s m args below meth c H ls locs ⟨C.1, C.2.1, C.2.2.1, C.2.2.2.1, C.2.2.2.2.1, C.2.2.2.2.2.1, C.2.2.2.2.2.2.1, C.2.2.2.2.2.2.2.1, hE, C.2.2.2.2.2.2.2.2.2.2, hD2⟩ hP ⟨hS.1, fun q h1 h2 => hS.2.1 q h1 (fun z => h2 (hA s q z)), fun q hq => hA s _ (hS.2.2 q hq)⟩ ⟨hl.1, hl.2.1, fun i v q => hl.2.2 (i, cv (eS E ad N) v) (hlv i v q)⟩
theorem aw_retB {E : EV} {M : MI} {X XX : State → Prop} {FA : Nat → Nat → Prop} {a mc ms N pc : Nat} {mk : (Nat → Nat) → va_W} {ad ad' : Nat → Nat} {tw : TW} {h : HP} {loc : LC} (hmk : mk ad' = wW (eS E ad N) tw h) (had : ad' 0 = a) (hFA : ∀ sz q, sz ≤ q → FA sz q) (hXX : ∀ s, XX s → ∀ j, j < N → FA s.heap.size (ad j)) (hr : mR M = none) (d : decode (mC M) pc = .ok (.return_, 1)) :
    AW (eS E ad N) M (rmB M mc ms, mc, ms, (KB E M X FA a mc ms mk).2.2.1, XX) tw h pc loc [] := by
  intro p e s m args below meth c H ls locs C hP hS hl
  have hE : EI (eS E ad N) := C.2.2.2.2.2.2.2.2.1
  have hin : ∀ q, fA (eS E ad N) s.heap.size q → FA s.heap.size q := fun q hq => by
    rcases hq with ⟨j, hj, rfl⟩ | hq
    · exact hXX s C.2.2.2.2.2.2.2.2.2 j hj
    · exact hFA _ q hq
  have hD : va_D (FA s.heap.size) (mk ad') := by
    rw [hmk]
    exact (wD hE tw h s.heap.size).weaken (fun _ q _ hq => hin q.1 hq)
  have hS' : va_S (FA s.heap.size) s.heap H locs := ⟨hS.1, fun q h1 h2 => hS.2.1 q h1 (fun z => h2 (hin q z)), fun q hq => hin _ (hS.2.2 q hq)⟩
  exact W.vret C.1 C.2.1 (C.2.2.1.trans hr) (fun t ht hW => ⟨⟨rfl, ⟨ad', had, by rw [ht, hmk]; exact hP, hD⟩, va_K.moved hW.alike C.2.2.2.2.2.2.1⟩, hS'.F ht⟩) hS'.2.2 d C.2.2.2.2.2.2.2.1
section AWS
variable {E : EV} {M N : MI} {K : KX} {tw tw' : TW} {h h' : HP} {pc : Nat} {loc : LC} {st : List Value}
theorem aw_ldcS {i q : Nat} {tx : String} (hZ : ∀ s, K.2.2.2.2 s → vk_R (mY M).cls i tx (eA E q) s) (d : decode (mC M) pc = .ok (.ldc i, 2)) (k : AW E M K tw h (pc + 2) loc (.ref q :: st)) : AW E M K tw h pc loc st :=
  fun p e s m args below meth c H ls locs C hP hS hl => va_ldcS C.1 C.2.1 C.2.2.2.2.1 (hZ s C.2.2.2.2.2.2.2.2.2) d (k p e s m args below meth c H ls locs C hP hS hl)
theorem aw_callJ {i n q sv : Nat} {As st0 : List Value} {rv : Int32} (ok : okV N n) (hcl : (mY N).cls = "java/lang/String") (hlk : Cond.methodLink (mY M).cls i (mY N) ∈ gt) (hlen : As.length = n) (hs : st0 = As.reverse ++ .ref q :: st) (hst : (st.map Value.category).sum ≤ 8) (hR : roomy N K.1) (d : decode (mC M) pc = .ok (.invokevirtual i, 3)) (hR2 : K.2.1 ≤ K.1.cells ∧ K.2.2.1 ≤ K.1.slots)
    (hG : ∀ s, K.2.2.2.2 s → SG (eA E q) sv (fA E s.heap.size) s s.heap) (hc : CJ (eL E) N (eA E q) sv ((.ref q :: As).map (cv E)) (some (.int rv))) (k : AW E M K tw h (pc + 3) loc (.int rv :: st)) : AW E M K tw h pc loc st0 := by
  intro p e s m args below meth c H ls locs C hP hS hl
  subst hs
  obtain ⟨o1, o2, o3, o4, o5, o6, o7⟩ := ok
  have hG' : GoodIn gt (wsV (mY M).cls i (mY N).cls (mY N) (wds N)) := by
    intro w hw
    have : w ∈ gt := by
      simp only [wsV, wds, List.cons_append, List.nil_append, List.mem_cons] at hw
      rcases hw with rfl | rfl | rfl | rfl | rfl | hw <;> assumption
    exact ⟨this, gt_good this⟩
  have hsg : SG (eA E q) sv NoA s H := ((hG s C.2.2.2.2.2.2.2.2.2).kept hS.2.1).narrow (fun _ z => z.elim)
  have hr : va_Run p (eL E) e K.1 s m args below meth c H locs K.2.1 K.2.2.1 0 0 (F0 m pc ls ((As.reverse ++ .ref q :: st).map (cv E))) (st.map (cv E)) (QS (some (.int rv)) (Value.ref (eA E q) :: As.map (cv E)).toArray) NoA := by
    refine va_runV (As := As.map (cv E)) (rest := st.map (cv E)) (mc := 0) (ms := 0) (n := n) (b := eA E q) (C := (mY N).cls) ⟨C.1, C.2.1, C.2.2.2.1, C.2.2.2.2.1, C.2.2.2.2.2.1⟩ hc (cwV n C.2.2.2.2.2.1 hG' rfl rfl rfl ⟨rfl, o5, o6, o7⟩ hR) ⟨CJ.blind, ?_, fun U hU hW => ⟨rfl, by show SG (eA E q) sv NoA U U.heap; rw [hU]; exact hsg.moved hW.alike⟩⟩ rfl (by simpa using hlen) hl.1 ?_ ?_ d hR2
    · obtain ⟨cell, h1, h2, h3, -⟩ := hsg.1
      exact ⟨cell, h1, h2, by rw [hcl]; exact h3⟩
    · show List.map (cv E) _ = _
      simp [cv]
    · refine lv_room ?_
      rw [List.map_map, show ((fun v : Value => v.category) ∘ cv E) = Value.category from funext fun v => cv_cat E v]
      exact hst
  intro T hT X
  obtain ⟨v, st₀, t, T', L, h0, X', hL, e1, e2, ⟨hv, hh⟩, stp⟩ := hr T hT X
  have hv2 : v = some (.int rv) := by cases hv; rfl
  subst hv2
  have hT' : T'.heap = H := by rw [e1, hh, h0]
  have hS' : va_S (fA E s.heap.size) s.heap H (locs ++ L) := ⟨hS.1, hS.2.1, fun z hz => by
    rcases List.mem_append.mp hz with y | y
    · exact hS.2.2 z y
    · exact (hL z y).elim⟩
  obtain ⟨t2, a1, b1⟩ := k p e s m args below meth c H ls (locs ++ L) C hP hS' hl T' hT' X'
  exact ⟨t2, stp t2 a1, b1⟩
end AWS
