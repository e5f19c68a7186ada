/-! ===== rows of rows ===== -/
/-- the class of rows of rows, as the tables have it -/
def MU (E : EV) (U : State) : Prop := ∃ kA : Class, U.vm.classes[eO E]? = some kA ∧ kA.kind = .array (eI E) (.array .int) ∧ U.vm.findClass "[I" = some (eI E) ∧ U.vm.findClass "[[I" = some (eO E)
theorem MU.moved {E : EV} {u U : State} (hvm : u.vm.Alike U.vm) (h : MU E u) : MU E U := by
  obtain ⟨kA, h1, h2, h3, h4⟩ := h
  obtain ⟨k', hk', he⟩ := hvm.2.2 _ _ h1
  exact ⟨k', hk', by rw [he]; exact h2, by rw [hvm.findClass]; exact h3, by rw [hvm.findClass]; exact h4⟩
abbrev rw4 (E : EV) (f : Nat → Nat) : va_E := .inl (eO E, 4, .inr (.inr (.inr (.inr (fun j => if j < 4 then some (f j) else none)))))
theorem mro_cell (cO : ClassId) (a : Nat) : mro cO a 4 = vp_cell cO (4, .inr (.inr (.inr (.inr (fun j => if j < 4 then some (a + (j + 1)) else none))))) := by
  rw [vp_cell_q]
  unfold mro
  refine congrArg (arrV cO 4) (funext fun j => ?_)
  by_cases hj : j < 4
  · rw [if_pos hj, if_pos hj]
    show Value.ref (a + 1 + j) = Value.ref (a + (j + 1))
    rw [Nat.add_assoc, Nat.add_comm 1 j]
  · rw [if_neg hj, if_neg hj]
    rfl
theorem bw_multi {E : EV} {M : MI} {K : BK} {ws : va_W} {n k pc i : Nat} {lv : List (Nat × Value)} {st : List Value} (gl : Cond.classLink (mY M).cls i "[[I" ∈ gt) (hX : ∀ s, K.2.2.2 s → MU E s) (d : decode (mC M) pc = .ok (.multianewarray i 2, 4)) (hR : n + 5 ≤ K.1.cells ∧ k + 4360 ≤ K.1.slots)
    (kk : ∀ f : Nat → Nat, BW E M K (ws ++ [(f 0, rw4 E (fun j => f (j + 1))), (f 1, zr E 1089), (f 2, zr E 1089), (f 3, zr E 1089), (f 4, zr E 1089)]) (n + 5) (k + 4360) (pc + 4) lv (.ref (f 0) :: st)) : BW E M K ws n k pc lv (.int (nI 1089) :: .int (nI 4) :: st) := by
  intro p e s m args below meth c H ls locs C hP hD hS hl T hT X
  obtain ⟨kO, hO2, hO3, hI1, hO1⟩ := hX s C.2.2.2.2.2.2.2.2.2.2
  obtain ⟨c1, kI, cc, hc1, hk1, hkind1⟩ := Cond.arrayClass_spec (C.2.2.2.2.2.1 _ gArrI)
  have hcc : c1 = eI E := Option.some.inj (hc1.symm.trans hI1)
  subst hcc
  subst hT
  obtain ⟨vm₁, hW, X', step⟩ := mr_step X C.1 C.2.2.2.2.1 (C.2.2.2.2.2.1 _ gl) hO1 hO2 hO3 hk1 hkind1 (g := F0 m pc ls (.int (nI 1089) :: .int (nI 4) :: st)) rfl (by rw [C.2.1]; exact d) (rest := st) rfl hR.1 hR.2
  have hA := C.2.2.2.2.2.2.2.2.2.1
  obtain ⟨f1, f2, -, -⟩ := mrs_facts (T.setVm vm₁) (eO E) (eI E) 4
  have hold : ∀ x, x < T.heap.size → (mrs (T.setVm vm₁) (eO E) (eI E) 4).heap[x]? = T.heap[x]? := fun x hx => mrs_old (T.setVm vm₁) (eO E) (eI E) hx 4
  have hrow := mrs_row (T.setVm vm₁) (eO E) (eI E) 4
  have hnew : ∀ (j : Nat) (q : Nat × va_E), ([(T.heap.size + 0, rw4 E (fun j => T.heap.size + (j + 1))), (T.heap.size + 1, zr E 1089), (T.heap.size + 2, zr E 1089), (T.heap.size + 3, zr E 1089), (T.heap.size + 4, zr E 1089)] : va_W)[j]? = some q → q.1 = T.heap.size + j ∧ va_at (eD E) vwCl q (mrs (T.setVm vm₁) (eO E) (eI E) 4).heap := by
    intro j q hq
    match j, hq with
    | 0, hq =>
      cases hq
      refine ⟨rfl, ?_⟩
      show (mrs (T.setVm vm₁) (eO E) (eI E) 4).heap[T.heap.size]? = _
      rw [show T.heap.size = (T.setVm vm₁).heap.size from rfl, f2]
      refine congrArg some ?_
      exact mro_cell (eO E) T.heap.size
    | 1, hq => cases hq; exact ⟨rfl, hrow 0 (by decide)⟩
    | 2, hq => cases hq; exact ⟨rfl, hrow 1 (by decide)⟩
    | 3, hq => cases hq; exact ⟨rfl, hrow 2 (by decide)⟩
    | 4, hq => cases hq; exact ⟨rfl, hrow 3 (by decide)⟩
    | j + 5, hq => cases hq
  have hP' : va_P (eD E) vwCl (ws ++ [(T.heap.size + 0, rw4 E (fun j => T.heap.size + (j + 1))), (T.heap.size + 1, zr E 1089), (T.heap.size + 2, zr E 1089), (T.heap.size + 3, zr E 1089), (T.heap.size + 4, zr E 1089)]) (mrs (T.setVm vm₁) (eO E) (eI E) 4).heap :=
    va_P.app (hP.kept (fun j q hq => hold q.1 (hP j q hq).lt)) (fun j q hq => (hnew j q hq).2)
  have hD' : va_D (K.2.1 s) (ws ++ [(T.heap.size + 0, rw4 E (fun j => T.heap.size + (j + 1))), (T.heap.size + 1, zr E 1089), (T.heap.size + 2, zr E 1089), (T.heap.size + 3, zr E 1089), (T.heap.size + 4, zr E 1089)]) := by
    refine va_D.app hD ⟨fun i j x y hx hy hxy => ?_, fun j q hq => ?_⟩ (fun i j x y hx hy hxy => ?_)
    · have h1 := (hnew i x hx).1
      have h2 := (hnew j y hy).1
      rw [hxy] at h1
      exact Nat.add_left_cancel (h1.symm.trans h2)
    · rw [(hnew j q hq).1]
      exact hA _ (Nat.le_trans hS.1 (Nat.le_add_right _ _))
    · have h1 := (hP i x hx).lt
      have h2 := (hnew j y hy).1
      rw [hxy, h2] at h1
      exact absurd h1 (Nat.not_lt.mpr (Nat.le_add_right _ _))
  have hsz : T.heap.size ≤ (mrs (T.setVm vm₁) (eO E) (eI E) 4).heap.size := by
    rw [f1]
    exact Nat.le_trans (Nat.le_add_right _ 1) (Nat.le_add_right _ 4)
  have hS' : va_S (K.2.1 s) s.heap (mrs (T.setVm vm₁) (eO E) (eI E) 4).heap (locs ++ (List.range 4).map fun j => ⟨T.heap.size, j⟩) := by
    refine ⟨Nat.le_trans hS.1 hsz, fun q h1 h2 => ?_, fun q hq => ?_⟩
    · rw [hold q (Nat.lt_of_lt_of_le h1 hS.1)]
      exact hS.2.1 q h1 h2
    · rcases List.mem_append.mp hq with z | z
      · exact hS.2.2 q z
      · obtain ⟨j, -, rfl⟩ := List.mem_map.mp z
        exact hA _ hS.1
  obtain ⟨t, a1, b1⟩ := kk (fun j => T.heap.size + j) p e s m args below meth c _ ls _ C hP' hD' hS' hl (mrs (T.setVm vm₁) (eO E) (eI E) 4) rfl X'
  exact ⟨t, step t a1, b1⟩
theorem clX3_11 : Cond.classLink RX3 11 "[[I" ∈ gt := gt_in 211 (by decide +kernel) (by decide +kernel)
def adS (a : Nat) (f : Nat → Nat) : Nat → Nat
  | 0 => a
  | k + 1 => f k
theorem cb_X3_init {E : EV} (a : Nat) : CBo E mX3_init (MU E) (FO a) [(a, .inr (3, bl3))] a [] 5 4360 (fun ad => [(ad 0, .inr (3, [.ref (ad 1)])), (ad 1, rw4 E (fun j => ad (j + 2))), (ad 2, zr E 1089), (ad 3, zr E 1089), (ad 4, zr E 1089), (ad 5, zr E 1089)]) := by
  refine CBo.of (by decide +kernel) (Nat.le_of_ble_eq_true rfl) (fun sz q h => Or.inr h) (fun sz => FO.D _ _ sz) ?_
  refine bw_aload 0 dX3_init_0 rfl ?_
  refine bw_obj liX3_3 gObjI gObjC dX3_init_1 (Nat.le_of_ble_eq_true rfl) (Nat.le_of_ble_eq_true rfl) ?_
  refine bw_aload 0 dX3_init_4 rfl ?_
  refine bw_iconst (nI 4) dX3_init_5 (by decide) ?_
  refine bw_sipush (nI 1089) dX3_init_6 (by decide) ?_
  refine bw_multi clX3_11 (fun _ h => h) dX3_init_9 ⟨Nat.le_of_ble_eq_true rfl, Nat.le_of_ble_eq_true rfl⟩ (fun f => ?_)
  refine bw_putF (pre := []) (post := [(f 0, rw4 E (fun j => f (j + 1))), (f 1, zr E 1089), (f 2, zr E 1089), (f 3, zr E 1089), (f 4, zr E 1089)]) (a := a) (fs := [.null]) (v := .ref (f 0)) fkX3_13 fwF_3_0 rfl (Nat.le_of_ble_eq_true rfl) rfl rfl dX3_init_13 ?_
  exact bw_ret (adS a f) rfl rfl rfl dX3_init_16
