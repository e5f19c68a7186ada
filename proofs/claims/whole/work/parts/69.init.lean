/-! ===== the two new objects: both towers, both drums are alike ===== -/
def hI : HP := (f_ini 600 42 0 h00).getD h00
def hJ : HP := (f_inm 600 (h56 hI)).getD h00
theorem getD_of {α : Type} {o : Option α} {d : α} (h : o.isSome = true) : o = some (o.getD d) := by
  cases o with
  | none => cases h
  | some x => rfl
theorem hI_eq : f_ini 600 42 0 h00 = some hI := getD_of (by decide +kernel)
theorem hJ_eq : f_inm 600 (h56 hI) = some hJ := getD_of (by decide +kernel)
def TI0 (b : Nat) : Nat := [0, 4, 7].getD b 0
def MI0 (b : Nat) : Nat := [1, 1, 2].getD b 0
def PI0 (r : Nat) : Nat := [1, 2, 1, 2, 5, 0, 0, 4, 2, 4, 2, 4, 0].getD r 0
theorem j_ctw : hJ 9 0 = nI 3 ∧ hJ 9 4 = nI 14 ∧ hJ 9 5 = nI 1 ∧ ∀ b, b < 3 → hJ 10 b = nI (TI0 b) ∧ hJ 11 b = nI (MI0 b) ∧ hJ 12 b = nI (illm 3 TI0 b) := by decide +kernel
theorem j_mtw : hJ 40 0 = nI 3 ∧ hJ 40 1 = nI 14 ∧ hJ 40 2 = nI 1 ∧ ∀ b, b < 3 → hJ 40 (3 + b) = nI (TI0 b) ∧ hJ 40 (11 + b) = nI (MI0 b) := by decide +kernel
theorem j_now : hJ 43 0 = nI 14 ∧ hJ 43 1 = nI 0 ∧ (∀ j, j < 16 → hJ 43 (34 + j) = -1000) ∧ ∀ r, r < 32 → hJ 43 (2 + r) = nI (PI0 r) := by decide +kernel
theorem j_dv : (∀ j, j < 34 → dv hJ 14 j = hJ 43 j) ∧ (∀ j, j < 16 → dv hJ 14 (34 + j) = nI 0) ∧ ∀ j, j < 16 → dv hJ 14 (50 + j) = hJ 43 (50 + j) := by decide +kernel
theorem j_rest : (hJ 24 0 = nI 8 ∧ hJ 24 2 = nI 0 ∧ hJ 24 3 = nI 0) ∧ (hJ 26 0 = nI 2 ∧ hJ 26 2 = nI 0 ∧ hJ 26 3 = nI 0) ∧ (hJ 39 6 = nI 0 ∧ hJ 39 8 = nI 0 ∧ hJ 39 10 = nI 0 ∧ hJ 39 13 = nI 0) ∧ hJ 0 9 = nI 0 ∧ hJ 1 1 = nI 0 := by decide +kernel
theorem j_want : ∀ r, r < 32 → hJ 28 r = nI 0 ∧ hJ 47 r = nI 0 := by decide +kernel
theorem pi_lt : ∀ r, r < 32 → PI0 r < 2 ^ 3 := by decide
theorem inv0 : INV 0 (9, 4) hJ := by
  obtain ⟨n0, n1, n2, n3⟩ := j_now
  obtain ⟨⟨a0, a2, a3⟩, ⟨b0, b2, b3⟩, ⟨c6, c8, c10, c13⟩, d9, d1⟩ := j_rest
  refine ⟨Or.inr rfl, 3, 14, 1, TI0, MI0, ⟨by decide, by decide, by decide, by decide, by decide, by decide⟩, j_ctw, j_mtw, ⟨⟨14, by decide, n0⟩, ⟨0, Nat.le_refl _, n1, fun j hj => Or.inl (n2 j hj)⟩, fun r hr => ⟨PI0 r, pi_lt r hr, n3 r hr⟩⟩, ⟨fun j hj hh => ?_, fun j hj => Or.inl ⟨n2 j hj, j_dv.2.1 j hj⟩⟩, ⟨0, ⟨Nat.zero_le _, a0, a3, 0, by decide, a2, fun i hi => absurd hi (Nat.not_lt_zero _)⟩, c6⟩, ⟨0, ⟨Nat.zero_le _, b0, b3, 0, by decide, b2, fun i hi => absurd hi (Nat.not_lt_zero _)⟩, c8⟩, fun r hr => ⟨by rw [(j_want r hr).1, (j_want r hr).2], 0, by decide, (j_want r hr).2⟩, ⟨0, Nat.zero_le _, d9, c13, fun i hi => absurd hi (Nat.not_lt_zero _)⟩, ⟨0, Nat.zero_le _, d1, c10, fun i hi => absurd hi (Nat.not_lt_zero _)⟩⟩
  rcases hh with h1 | h1
  · exact j_dv.1 j h1
  · obtain ⟨i, rfl⟩ : ∃ i, j = 50 + i := ⟨j - 50, by omega⟩
    exact j_dv.2.2 i (by omega)
