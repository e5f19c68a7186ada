section MWP
variable {EC : CtlPost} {e : Env} {d : Bool} {acts : List Action} {s : State}
/-- a fresh array, all of its slots the same default -/
theorem mr_new {c comp : ClassId} {k : Class} {ty : FieldType} {len : Nat} {v : Value} (hk : s.vm.classes[c]? = some k) (hkind : k.kind = .array comp ty) (h1 : ¬ len > e.platform.arrayLengthLimit) (h2 : ¬ len * componentBytes ty > e.platform.maxHeapBytes) (hfit : fits ty v = true) (hdef : v.isDefault = true) (h3 : s.heap.size < e.platform.maxCells) (h4 : s.slotsUsed + len ≤ e.platform.maxSlots)
    {Q : Addr → Pre} (hq : Q s.heap.size d acts (s.pushCell (arrV c len (fun _ => v)))) : wp (Jvm.newArray c len v) Q EC e d acts s := by
  rw [← arrV_new] at hq
  have hall : ((Array.replicate len v).all (·.isDefault)) = true := by
    rw [Array.all_replicate]
    split
    · rfl
    · exact hdef
  have hact : allocActs (Array.replicate len v) s.heap.size acts = acts := by
    unfold allocActs
    rw [if_pos hall]
  have hfits : ∀ i w, (Array.replicate len v)[i]? = some w → s.fitsSlot c .none i w = true := fun i w hw => by
    rw [Array.getElem?_replicate] at hw
    by_cases hi : i < len
    · rw [if_pos hi] at hw
      cases hw
      simp [State.fitsSlot, State.slotType?, hk, hkind, hfit]
    · rw [if_neg hi] at hw
      cases hw
  simp only [Jvm.newArray, Jvm.arrayFits, wp_bind', W.ask, W.ite, h1, if_false, wp_pure', W.theClass, hk, hkind, h2, W.alloc, W.stop, Option.some.injEq, exists_eq_left', Array.size_replicate, hact]
  rw [if_neg (by omega)]
  exact ⟨h3, h4, hfits, hq⟩
theorem mr_n4 : (nI 4).toNatClampNeg = 4 := by decide
theorem mr_n1089 : (nI 1089).toNatClampNeg = 1089 := by decide
/-- one row -/
theorem mr_row {cI cc : ClassId} {k : Class} (hk : s.vm.classes[cI]? = some k) (hkind : k.kind = .array cc .int) (h1 : ¬ 1089 > e.platform.arrayLengthLimit) (h2 : ¬ 1089 * 4 > e.platform.maxHeapBytes) (h3 : s.heap.size < e.platform.maxCells) (h4 : s.slotsUsed + 1089 ≤ e.platform.maxSlots) {Q : Addr → Pre} (hq : Q s.heap.size d acts (s.pushCell (mri cI))) :
    wp (Op.multianewarray.make cI [nI 1089]) Q EC e d acts s := by
  have hneg : ¬ (nI 1089) < 0 := by decide
  rw [Op.multianewarray.make]
  simp only [wp_bind', W.ite, hneg, if_false, wp_pure', W.theClass, hk, hkind, Option.some.injEq, exists_eq_left', mr_n1089]
  exact mr_new (ty := .int) (v := .int 0) hk hkind h1 h2 rfl rfl h3 h4 hq
/-- four rows, and the row that holds them -/
theorem mr_make {cO cI cc : ClassId} {kO kI : Class} (hkO : s.vm.classes[cO]? = some kO) (hkindO : kO.kind = .array cI (.array .int)) (hkI : s.vm.classes[cI]? = some kI) (hkindI : kI.kind = .array cc .int) (h1 : ¬ 1089 > e.platform.arrayLengthLimit) (h2 : ¬ 1089 * 4 > e.platform.maxHeapBytes) (h3 : s.heap.size + 5 ≤ e.platform.maxCells) (h4 : s.slotsUsed + 4360 ≤ e.platform.maxSlots)
    {Q : Addr → Pre} (hq : ∀ d' acts', Q s.heap.size d' acts' (mrs s cO cI 4)) : wp (Op.multianewarray.make cO [nI 4, nI 1089]) Q EC e d acts s := by
  have hneg : ¬ (nI 4) < 0 := by decide
  have hfind : ([nI 1089].find? (· < 0)) = none := by decide
  have hz : ((nI 4) == 0) = false := by decide
  rw [Op.multianewarray.make]
  simp only [wp_bind', W.ite, hneg, if_false, wp_pure', W.theClass, hkO, hkindO, Option.some.injEq, exists_eq_left', mr_n4]
  refine mr_new (ty := .array .int) hkO hkindO (by omega) (by show ¬ 4 * 4 > _; omega) rfl rfl (by omega) (by omega) ?_
  simp only [hfind]
  rw [ite_self, wp_bind', Std.Legacy.Range.forIn_eq_forIn_range']
  show wp (forIn (List.range' 0 4 1) PUnit.unit _) _ EC e d acts _
  refine wp_forIn_inv (fun rest u => ∃ i, i ≤ 4 ∧ rest = List.range' i (4 - i) ∧ u = mrs s cO cI i) _ _ ⟨0, by decide, rfl, ?_⟩ ?_ ?_
  · show s.pushCell (arrV cO 4 (fun _ => .null)) = s.pushCell (mro cO s.heap.size 0)
    unfold mro
    rfl
  · rintro x rest u d' acts' Q' ⟨i, hi, hl, rfl⟩ hnext
    have hi4 : i < 4 := by
      rcases Nat.lt_or_ge i 4 with z | z
      · exact z
      · rw [show 4 - i = 0 by omega] at hl
        cases hl
    have hl2 : x = i ∧ rest = List.range' (i + 1) (4 - (i + 1)) := by
      rw [show 4 - i = (4 - (i + 1)) + 1 by omega, List.range'_succ] at hl
      exact ⟨(List.cons.inj hl).1, (List.cons.inj hl).2⟩
    obtain ⟨rfl, hrest⟩ := hl2
    obtain ⟨f1, f2, f3, f4⟩ := mrs_facts s cO cI x
    have hlt : s.heap.size < (mrs s cO cI x).heap.size := by rw [f1]; omega
    simp only [wp_bind']
    refine mr_row (k := kI) (cc := cc) (by rw [f3]; exact hkI) hkindI h1 h2 (by rw [f1]; omega) (by rw [f4]; omega) ?_
    simp only [wp_bind', W.writeLoc, wp_pure']
    refine ⟨mro cO s.heap.size x, by rw [State.heap_pushCell_of_lt (h := hlt)]; exact f2, (by intro z; cases z), by rw [mro_size]; exact hi4, ?_, hnext _ _ _ ⟨x + 1, hi4, hrest, ?_⟩⟩
    · show State.fitsSlot _ cO .none x _ = true
      simp [State.fitsSlot, State.slotType?, f3, hkO, hkindO]
      rfl
    · rw [f1, mro_next]; rfl
  · rintro u d' acts' ⟨i, hi, hl, rfl⟩
    have hi4 : i = 4 := by
      rcases Nat.lt_or_ge i 4 with z | z
      · rw [show 4 - i = (4 - (i + 1)) + 1 by omega, List.range'_succ] at hl
        cases hl
      · omega
    subst hi4
    simp only [wp_pure']
    exact hq _ _
end MWP
