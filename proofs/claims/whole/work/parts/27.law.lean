/-! ===== the law's loop ===== -/
theorem law_go {F L : Nat} {xs : Nat → Int32} (hF : 600 ≤ F) (hL : L ≤ 2048) : ∀ (k i m : Nat) (tw : TW) (h : HP), L < i + 4 * k + 4 → k < m → i ≤ L → INV i tw h → ∃ h', f_L_law_18 F xs L m (nI i) tw h = some h' := by
  intro k
  induction k with
  | zero =>
    intro i m tw h hk hm hi inv
    obtain ⟨m, rfl⟩ := succ_of hm
    refine ⟨h, ?_⟩
    rw [f_L_law_18, if_pos]
    by_cases z : L < 4
    · exact Int32.lt_of_lt_of_le ((sub48 (by omega) (by decide)).mpr z) (by rw [e_le (by decide) (by omega)]; omega)
    · rw [e_sub (by omega), e_lt (by omega) (by omega)]; omega
  | succ k ih =>
    intro i m tw h hk hm hi inv
    obtain ⟨m, rfl⟩ := succ_of hm
    have hc : i < 900000 := by omega
    by_cases hz : (nI L - nI 4) < nI i
    · exact ⟨h, by rw [f_L_law_18, if_pos hz]⟩
    have hiL : i + 4 ≤ L := by
      by_cases z : L < 4
      · exact absurd (Int32.lt_of_lt_of_le ((sub48 (by omega) (by decide)).mpr z) (by rw [e_le (by decide) (by omega)]; omega)) hz
      · rw [e_sub (by omega), e_lt (by omega) (by omega)] at hz; omega
    have go : ∀ tw' h', INV (i + 1) tw' h' → ∃ h'', f_L_law_18 F xs L m (nI (i + 4)) tw' h' = some h'' := fun tw' h' iv => ih (i + 4) m tw' h' (by omega) (by omega) (by omega) (iv.mono (by omega))
    rw [f_L_law_18, if_neg hz, if_pos (inb_t (by omega) (by omega)), e_ix (show i < 2147483648 by omega)]
    generalize (xs i &&& nI 31) = v
    by_cases z0 : v = nI 0
    · obtain ⟨r, h1, h2, a1, a2, a3⟩ := op_write (F := F) inv (xs (ix (nI (i + 1))))
      rw [if_pos z0, e_add, e_add, if_pos (inb_t (show i + 1 < L by omega) (by omega)), a1, ob_eq, a2, ob_eq, if_pos rfl]
      exact go tw h2 a3
    rw [if_neg z0]
    by_cases z1 : v = nI 1
    · obtain ⟨r, h1, h2, a1, a2, a3⟩ := op_wipe (F := F) inv 
      rw [if_pos z1, e_add, a1, ob_eq, a2, ob_eq, if_pos rfl]
      exact go tw h2 a3
    rw [if_neg z1]
    by_cases z2 : v = nI 2
    · obtain ⟨r, h1, h2, a1, a2, a3⟩ := op_fault hF inv 
      rw [if_pos z2, e_add, a1, ob_eq, a2, ob_eq, if_pos rfl]
      exact go tw h2 a3
    rw [if_neg z2]
    by_cases z3 : v = nI 3
    · obtain ⟨r, tw', h1, h2, a1, a2, a3⟩ := op_lay hF inv
      rw [if_pos z3, a1, ob3_eq, a2, ob_eq, if_pos rfl, e_add]
      exact go tw' h2 a3
    rw [if_neg z3]
    by_cases z4 : v = nI 4
    · obtain ⟨r, h1, h2, a1, a2, a3⟩ := Same.step (op_bell hF inv (xs (ix (nI (i + 1)))) (xs (ix (nI (i + 2))))) inv
      rw [if_pos z4, e_add, e_add, e_add, if_pos (inb_t (show i + 1 < L by omega) (by omega)), if_pos (inb_t (show i + 2 < L by omega) (by omega)), a1, ob_eq, a2, ob_eq, if_pos rfl]
      exact go tw h2 a3
    rw [if_neg z4]
    by_cases z5 : v = nI 5
    · obtain ⟨r, h1, h2, a1, a2, a3⟩ := Same.step (op_pins (F := F) inv (xs (ix (nI (i + 1))))) inv
      rw [if_pos z5, e_add, e_add, if_pos (inb_t (show i + 1 < L by omega) (by omega)), a1, ob_eq, a2, ob_eq, if_pos rfl]
      exact go tw h2 a3
    rw [if_neg z5]
    by_cases z6 : v = nI 6
    · obtain ⟨r, h1, h2, a1, a2, a3⟩ := op_turn hF hc inv 
      rw [if_pos z6, e_add, a1, ob_eq, a2, ob_eq, if_pos rfl]
      exact go tw h2 a3
    rw [if_neg z6]
    by_cases z7 : v = nI 7
    · obtain ⟨r, h1, h2, a1, a2, a3⟩ := op_turnBack hF hc inv 
      rw [if_pos z7, e_add, a1, ob_eq, a2, ob_eq, if_pos rfl]
      exact go tw h2 a3
    rw [if_neg z7]
    by_cases z8 : v = nI 8
    · obtain ⟨r, h1, h2, a1, a2, a3⟩ := op_pin hF hc inv (xs (ix (nI (i + 1)))) (xs (ix (nI (i + 2)))) (if (xs (ix (nI (i + 3)))) = nI 0 then nI 0 else nI 1)
      rw [if_pos z8, e_add, e_add, e_add, e_add, if_pos (inb_t (show i + 1 < L by omega) (by omega)), if_pos (inb_t (show i + 2 < L by omega) (by omega)), if_pos (inb_t (show i + 3 < L by omega) (by omega)), a1, ob_eq, a2, ob_eq, if_pos rfl]
      exact go tw h2 a3
    rw [if_neg z8]
    by_cases z9 : v = nI 9
    · obtain ⟨r, h1, h2, a1, a2, a3⟩ := op_shift hF hc inv (xs (ix (nI (i + 1))))
      rw [if_pos z9, e_add, e_add, if_pos (inb_t (show i + 1 < L by omega) (by omega)), a1, ob_eq, a2, ob_eq, if_pos rfl]
      exact go tw h2 a3
    rw [if_neg z9]
    by_cases z10 : v = nI 10
    · obtain ⟨r, h1, h2, a1, a2, a3⟩ := op_undo hF inv 
      rw [if_pos z10, e_add, a1, ob_eq, a2, ob_eq, if_pos rfl]
      exact go tw h2 a3
    rw [if_neg z10]
    by_cases z11 : v = nI 11
    · obtain ⟨r, h1, h2, a1, a2, a3⟩ := op_whole hF hc inv (xs (ix (nI (i + 1))))
      rw [if_pos z11, e_add, e_add, if_pos (inb_t (show i + 1 < L by omega) (by omega)), a1, ob_eq, a2, ob_eq, if_pos rfl]
      exact go tw h2 a3
    rw [if_neg z11]
    by_cases z12 : v = nI 12
    · obtain ⟨r, h1, h2, a1, a2, a3⟩ := Same.step (op_silence hF inv ) inv
      rw [if_pos z12, e_add, a1, ob_eq, a2, ob_eq, if_pos rfl]
      exact go tw h2 a3
    rw [if_neg z12]
    by_cases z13 : v = nI 13
    · obtain ⟨r, h1, h2, a1, a2, a3⟩ := Same.step (op_again hF inv ) inv
      rw [if_pos z13, e_add, a1, ob_eq, a2, ob_eq, if_pos rfl]
      exact go tw h2 a3
    rw [if_neg z13]
    by_cases z14 : v = nI 14
    · obtain ⟨r, h1, h2, a1, a2, a3⟩ := Same.step (op_harsh hF inv ) inv
      rw [if_pos z14, e_add, a1, ob_eq, a2, ob_eq, if_pos rfl]
      exact go tw h2 a3
    rw [if_neg z14]
    by_cases z15 : v = nI 15
    · obtain ⟨r, h1, h2, a1, a2, a3⟩ := Same.step (op_canon hF inv (xs (ix (nI (i + 1))))) inv
      rw [if_pos z15, e_add, e_add, if_pos (inb_t (show i + 1 < L by omega) (by omega)), a1, ob_eq, a2, ob_eq, if_pos rfl]
      exact go tw h2 a3
    rw [if_neg z15]
    by_cases z16 : v = nI 16
    · obtain ⟨r, h1, h2, a1, a2, a3⟩ := op_want (F := F) inv (xs (ix (nI (i + 1)))) (xs (ix (nI (i + 2))))
      rw [if_pos z16, e_add, e_add, e_add, if_pos (inb_t (show i + 1 < L by omega) (by omega)), if_pos (inb_t (show i + 2 < L by omega) (by omega)), a1, ob_eq, a2, ob_eq, if_pos rfl]
      exact go tw h2 a3
    rw [if_neg z16]
    by_cases z17 : v = nI 17
    · obtain ⟨r, h1, h2, a1, a2, a3⟩ := Same.step (op_changes hF inv (xs (ix (nI (i + 1))))) inv
      rw [if_pos z17, e_add, e_add, if_pos (inb_t (show i + 1 < L by omega) (by omega)), a1, ob_eq, a2, ob_eq, if_pos rfl]
      exact go tw h2 a3
    rw [if_neg z17]
    by_cases z18 : v = nI 18
    · obtain ⟨r, h1, h2, a1, a2, a3⟩ := op_letters hF inv 
      rw [if_pos z18, e_add, a1, ob_eq, a2, ob_eq, if_pos rfl]
      exact go tw h2 a3
    rw [if_neg z18]
    by_cases z19 : v = nI 19
    · obtain ⟨r, h1, h2, a1, a2, a3⟩ := op_ringers hF inv 
      rw [if_pos z19, e_add, a1, ob_eq, a2, ob_eq, if_pos rfl]
      exact go tw h2 a3
    rw [if_neg z19]
    by_cases z20 : v = nI 20
    · obtain ⟨r, h1, h2, a1, a2, a3⟩ := op_hear (F := F) inv (xs (ix (nI (i + 1))))
      rw [if_pos z20, e_add, e_add, if_pos (inb_t (show i + 1 < L by omega) (by omega)), a1, ob_eq, a2, ob_eq, if_pos rfl]
      exact go tw h2 a3
    rw [if_neg z20]
    by_cases z21 : v = nI 21
    · obtain ⟨r, h1, h2, a1, a2, a3⟩ := op_forget (F := F) inv 
      rw [if_pos z21, e_add, a1, ob_eq, a2, ob_eq, if_pos rfl]
      exact go tw h2 a3
    rw [if_neg z21]
    by_cases z22 : v = nI 22
    · obtain ⟨r, h1, h2, a1, a2, a3⟩ := Same.step (op_stood hF inv ) inv
      rw [if_pos z22, e_add, a1, ob_eq, a2, ob_eq, if_pos rfl]
      exact go tw h2 a3
    rw [if_neg z22]
    by_cases z23 : v = nI 23
    · obtain ⟨r, h1, h2, a1, a2, a3⟩ := Same.step (op_octaves hF inv ) inv
      rw [if_pos z23, e_add, a1, ob_eq, a2, ob_eq, if_pos rfl]
      exact go tw h2 a3
    rw [if_neg z23]
    by_cases z24 : v = nI 24
    · obtain ⟨r, h1, h2, a1, a2, a3⟩ := Same.step (op_melody hF inv (xs (ix (nI (i + 1))))) inv
      rw [if_pos z24, e_add, e_add, if_pos (inb_t (show i + 1 < L by omega) (by omega)), a1, ob_eq, a2, ob_eq, if_pos rfl]
      exact go tw h2 a3
    rw [if_neg z24]
    by_cases z25 : v = nI 25
    · obtain ⟨r, h1, h2, a1, a2, a3⟩ := op_winter hF hc inv (xs (ix (nI (i + 1)))) (xs (ix (nI (i + 2)))) (xs (ix (nI (i + 3))))
      rw [if_pos z25, e_add, e_add, e_add, e_add, if_pos (inb_t (show i + 1 < L by omega) (by omega)), if_pos (inb_t (show i + 2 < L by omega) (by omega)), if_pos (inb_t (show i + 3 < L by omega) (by omega)), a1, ob_eq, a2, ob_eq, if_pos rfl]
      exact go tw h2 a3
    rw [if_neg z25]
    by_cases z26 : v = nI 26
    · obtain ⟨r, h1, h2, a1, a2, a3⟩ := op_keep hF inv 
      rw [if_pos z26, e_add, a1, ob_eq, a2, ob_eq, if_pos rfl]
      exact go tw h2 a3
    rw [if_neg z26]
    by_cases z27 : v = nI 27
    · obtain ⟨r, h1, h2, a1, a2, a3⟩ := op_back hF inv 
      rw [if_pos z27, e_add, a1, ob_eq, a2, ob_eq, if_pos rfl]
      exact go tw h2 a3
    rw [if_neg z27]
    by_cases z28 : v = nI 28
    · obtain ⟨r, h1, h2, a1, a2, a3⟩ := Same.step (op_count hF inv (xs (ix (nI (i + 1))))) inv
      rw [if_pos z28, e_add, e_add, if_pos (inb_t (show i + 1 < L by omega) (by omega)), a1, ob_eq, a2, ob_eq, if_pos rfl]
      exact go tw h2 a3
    rw [if_neg z28]
    rw [e_add]
    exact go tw h (inv.mono (by omega))
