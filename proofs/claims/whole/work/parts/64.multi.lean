/-! ===== rows of rows ===== -/
/-- the class of rows of rows, as the tables have it -/
def MU (E : EV) (U : State) : Prop := ∃ kA : Class, U.vm.classes[eO E]? = some kA ∧ kA.kind = .array (eI E) (.array .int) ∧ U.vm.findClass "[I" = some (eI E) ∧ U.vm.findClass "[[I" = some (eO E)
theorem MU.moved {E : EV} {u U : State} (hvm : u.vm.Alike U.vm) (h : MU E u) : MU E U := by
  obtain ⟨kA, h1, h2, h3, h4⟩ := h
  obtain ⟨k', hk', he⟩ := hvm.2.2 _ _ h1
  exact ⟨k', hk', by rw [he]; exact h2, by rw [hvm.findClass]; exact h3, by rw [hvm.findClass]; exact h4⟩
abbrev rw4 (E : EV) (f : Nat → Nat) : va_E := .inl (eO E, 4, .inr (.inr (.inr (.inr (fun j => if j < 4 then some (f j) else none)))))
theorem bw_multi {E : EV} {M : MI} {K : BK} {ws : va_W} {n k pc i : Nat} {lv : List (Nat × Value)} {st : List Value} (gl : Cond.classLink (mY M).cls i "[[I" ∈ gt) (hX : ∀ s, K.2.2.2 s → MU E s) (d : decode (mC M) pc = .ok (.multianewarray i 2, 4)) (hR : n + 5 ≤ K.1.cells ∧ k + 4360 ≤ K.1.slots)
    (kk : ∀ f : Nat → Nat, BW E M K (ws ++ [(f 0, rw4 E (fun j => f (j + 1))), (f 1, zr E 1089), (f 2, zr E 1089), (f 3, zr E 1089), (f 4, zr E 1089)]) (n + 5) (k + 4360) (pc + 4) lv (.ref (f 0) :: st)) : BW E M K ws n k pc lv (.int (nI 1089) :: .int (nI 4) :: st) := by
  sorry
theorem clX3_11 : Cond.classLink RX3 11 "[[I" ∈ gt := gt_in 211 (by decide +kernel) (by decide +kernel)
def adS (a : Nat) (f : Nat → Nat) : Nat → Nat
  | 0 => a
  | k + 1 => f k
theorem cb_X3_init {E : EV} (a : Nat) : CBo E mX3_init (MU E) (FO a) [(a, .inr (3, bl3))] a [] 5 4360 (fun ad => [(ad 0, .inr (3, [.ref (ad 1)])), (ad 1, rw4 E (fun j => ad (j + 2))), (ad 2, zr E 1089), (ad 3, zr E 1089), (ad 4, zr E 1089), (ad 5, zr E 1089)]) := by
  refine CBo.of (by decide +kernel) (Nat.le_of_ble_eq_true rfl) (fun sz q h => Or.inr h) (fun sz => FO.D _ _ sz) ?_
  refine bw_aload 0 dX3_init_0 rfl ?_
  refine bw_obj liX3_3 gObjI gObjC dX3_init_1 (Nat.le_of_ble_eq_true rfl) (Nat.le_of_ble_eq_true rfl) ?_
  refine bw_aload 0 dX3_init_4 rfl ?_
  refine bw_iconst (nI 4) dX3_init_5 (by decide) ?_
  refine bw_sipush (nI 1089) dX3_init_6 (by decide) ?_
  refine bw_multi clX3_11 (fun _ h => h) dX3_init_9 ⟨Nat.le_of_ble_eq_true rfl, Nat.le_of_ble_eq_true rfl⟩ (fun f => ?_)
  refine bw_putF (pre := []) (post := [(f 0, rw4 E (fun j => f (j + 1))), (f 1, zr E 1089), (f 2, zr E 1089), (f 3, zr E 1089), (f 4, zr E 1089)]) (a := a) (fs := [.null]) (v := .ref (f 0)) fkX3_13 fwF_3_0 rfl (Nat.le_of_ble_eq_true rfl) rfl rfl dX3_init_13 ?_
  exact bw_ret (adS a f) rfl rfl rfl dX3_init_16
