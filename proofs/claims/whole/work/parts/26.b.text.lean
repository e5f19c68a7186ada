/-! ===== the text: the reference's numbers ===== -/
def PFt (g g' : HP) : Prop := (∀ z, z ≠ 39 → z ≠ 49 → g' z = g z) ∧ ∀ j, j ≠ 14 → g' 39 j = g 39 j
theorem PFm.t {g g' : HP} (p : PFm g g') : PFt g g' := ⟨fun z h1 _ => p.1 z h1, p.2⟩
theorem PFt.refl (g : HP) : PFt g g := ⟨fun _ _ _ => rfl, fun _ _ => rfl⟩
theorem PFt.trans {h h' h'' : HP} (a : PFt h h') (b : PFt h' h'') : PFt h h'' := ⟨fun z hz hz2 => by rw [b.1 z hz hz2, a.1 z hz hz2], fun j hj => by rw [b.2 j hj, a.2 j hj]⟩
theorem TXM.pt {n : Nat} {t : Nat → Nat} {h h' : HP} (x : TXM n t h) (p : PFt h h') : TXM n t h' := by
  unfold TXM
  rw [p.2 10 (by decide), p.1 46 (by decide) (by decide)]
  exact x
theorem TXM.tb {n : Nat} {t : Nat → Nat} {h : HP} (x : TXM n t h) : ∀ j, j < n → t j ≤ 126 := fun j hj => (x.2.2 j hj).2.2
theorem n1n0 : ¬ nI 1 = nI 0 := by decide
theorem tk_step {F : Nat} {n : Nat} {t : Nat → Nat} {X k c q m : Nat} {x3 : Int32} {k2 : Int32 → HP → Option (Int32 × HP)} {g : HP} (x : TXM n t g) (hq : g 39 14 = nI q) (hq2 : q < 900) (hc : c < 900) (hX1 : 1 ≤ X) (hX : X ≤ 2) (hk : k < X) :
    f_X7_takes_12 F (nI X) k2 (m + 1) (nI k) x3 (nI c) g = if 48 ≤ chr n t q ∧ chr n t q ≤ 57 then f_X7_takes_12 F (nI X) k2 m (nI k) (if 2 ≤ c then x3 else nI 10 * x3 + nI (chr n t q) - nI 48) (nI (c + 1)) (up g 39 14 (nI (q + 1))) else if (1 ≤ c ∧ c ≤ 2) ∧ chr n t q = (if X - 1 ≤ k then 59 else 44) then k2 (nI (k + 1)) (up (up g 49 k x3) 39 14 (nI (q + 1))) else some (nI 0, g) := by
  have tb := x.tb
  have sep : (if (nI X - nI 1) ≤ nI k then (nI 59) else (nI 44)) = nI (if X - 1 ≤ k then 59 else 44) := by rw [e_sub hX1, i_le (by omega) (by omega), ite_n]
  rw [f_X7_takes_12, here_n F x hq (by omega), ob_eq, hIr_in F tb (by decide) (by decide) (by decide), ob_eq]
  by_cases d : 48 ≤ chr n t q ∧ chr n t q ≤ 57
  · rw [if_pos d, if_neg n1n0, if_pos d, hq, e_add, e_add]
    by_cases z : 2 ≤ c
    · rw [if_pos (by rw [e_le (by decide) (by omega)]; exact z), if_pos z]
    · have hlt : q < n := chr_lt (t := t) (by omega)
      rw [if_neg (by rw [e_le (by decide) (by omega)]; exact z), if_neg z, here_n F x hq (by omega), ob_eq, hq, e_add]
      have : hIr n t q = nI (chr n t q) := by unfold hIr chr; rw [if_pos hlt, if_pos hlt]
      rw [this]
  · rw [if_neg d, if_pos rfl, if_neg d, l64 (show 1 < 2147483648 by decide), l64 (show 2 < 2147483648 by decide), in_spec, ob_eq]
    by_cases z : 1 ≤ c ∧ c ≤ 2
    · rw [if_pos (show nI 1 ≤ nI c ∧ nI c ≤ nI 2 by rw [e_le (by decide) (by omega), e_le (by omega) (by decide)]; exact z), if_neg n1n0, here_n F x hq (by omega), ob_eq, sep, hIr_eq tb (by split <;> decide) (by split <;> decide)]
      by_cases y : chr n t q = (if X - 1 ≤ k then 59 else 44)
      · rw [if_pos y, if_pos (inb_t (show k < 2 by omega) (by decide)), if_pos (show (1 ≤ c ∧ c ≤ 2) ∧ chr n t q = (if X - 1 ≤ k then 59 else 44) from ⟨z, y⟩), e_ix (by omega), e_add, up_c (show 39 ≠ 49 by decide), hq, e_add]
      · rw [if_neg y, if_neg (fun w => y w.2)]
    · rw [if_neg (show ¬ (nI 1 ≤ nI c ∧ nI c ≤ nI 2) by rw [e_le (by decide) (by omega), e_le (by omega) (by decide)]; exact z), if_pos rfl, if_neg (fun w => z w.1)]
theorem tk_no {F : Nat} {n : Nat} {t : Nat → Nat} {X k : Nat} {k2 : Int32 → HP → Option (Int32 × HP)} (hX1 : 1 ≤ X) (hX : X ≤ 2) (hk : k < X) :
    ∀ (r q c m : Nat) (x3 : Int32) (g : HP), q + r = n + 1 → r < m → 3 ≤ c → c + r < 900 → TXM n t g → g 39 14 = nI q → ∃ g', f_X7_takes_12 F (nI X) k2 m (nI k) x3 (nI c) g = some (nI 0, g') ∧ PFm g g' := by
  intro r
  induction r with
  | zero =>
    intro q c m x3 g hr hm hc hc2 x hq
    obtain ⟨m, rfl⟩ := succ_of hm
    have := x.1
    have z : chr n t q = 0 := by unfold chr; rw [if_neg (by omega)]
    refine ⟨g, ?_, PFm.refl _⟩
    rw [tk_step x hq (by omega) (by omega) hX1 hX hk, if_neg (by omega), if_neg (by omega)]
  | succ r ih =>
    intro q c m x3 g hr hm hc hc2 x hq
    obtain ⟨m, rfl⟩ := succ_of hm
    have := x.1
    rw [tk_step x hq (by omega) (by omega) hX1 hX hk]
    by_cases d : 48 ≤ chr n t q ∧ chr n t q ≤ 57
    · rw [if_pos d]
      have p := PFm.up g (nI (q + 1))
      obtain ⟨g', e, pf⟩ := ih (q + 1) (c + 1) m _ (up g 39 14 (nI (q + 1))) (by omega) (by omega) (by omega) (by omega) (x.pf p) up_s
      exact ⟨g', e, p.trans pf⟩
    · rw [if_neg d, if_neg (by omega)]
      exact ⟨g, rfl, PFm.refl _⟩
theorem take_num {F : Nat} (hF : 600 ≤ F) {n : Nat} {t : Nat → Nat} {X k q sp : Nat} {k2 : Int32 → HP → Option (Int32 × HP)} {g : HP} (hsp : sp = if X - 1 ≤ k then 59 else 44) (hX1 : 1 ≤ X) (hX : X ≤ 2) (hk : k < X) (x : TXM n t g) (hq : g 39 14 = nI q) (hqn : q ≤ n) :
    (∃ v q' g', num n t q v q' ∧ chr n t q' = sp ∧ f_X7_takes_12 F (nI X) k2 F (nI k) (nI 0) (nI 0) g = k2 (nI (k + 1)) g' ∧ g' 49 k = nI v ∧ (∀ j, j ≠ k → g' 49 j = g 49 j) ∧ g' 39 14 = nI (q' + 1) ∧ PFt g g') ∨ ((∀ v q', ¬ (num n t q v q' ∧ chr n t q' = sp)) ∧ ∃ g', f_X7_takes_12 F (nI X) k2 F (nI k) (nI 0) (nI 0) g = some (nI 0, g') ∧ PFt g g') := by
  obtain ⟨m, rfl⟩ : ∃ m, F = m + 3 := ⟨F - 3, by omega⟩
  have hn := x.1
  have fin : ∀ (v q' : Nat) (g1 : HP), PFm g g1 → (up (up g1 49 k (nI v)) 39 14 (nI (q' + 1))) 49 k = nI v ∧ (∀ j, j ≠ k → (up (up g1 49 k (nI v)) 39 14 (nI (q' + 1))) 49 j = g 49 j) ∧ (up (up g1 49 k (nI v)) 39 14 (nI (q' + 1))) 39 14 = nI (q' + 1) ∧ PFt g (up (up g1 49 k (nI v)) 39 14 (nI (q' + 1))) := fun v q' g1 p =>
    ⟨by rw [up_c (by decide), up_s], fun j hj => by rw [up_c (by decide), up_n hj, p.1 49 (by decide)], up_s, fun z h1 h2 => by rw [up_c h1, up_c h2, p.1 z h1], fun j hj => by rw [up_n hj, up_c (by decide), p.2 j hj]⟩
  rw [tk_step x hq (by omega) (by omega) hX1 hX hk, ← hsp]
  by_cases d : 48 ≤ chr n t q ∧ chr n t q ≤ 57
  · have hqn1 : q < n := chr_lt (t := t) (by omega)
    have p1 := PFm.up g (nI (q + 1))
    rw [if_pos d, if_neg (show ¬ 2 ≤ 0 by decide), e_mul, e_add, e_sub (by omega), show 10 * 0 + chr n t q - 48 = chr n t q - 48 by omega, tk_step (x.pf p1) up_s (by omega) (by omega) hX1 hX hk, ← hsp]
    by_cases d2 : 48 ≤ chr n t (q + 1) ∧ chr n t (q + 1) ≤ 57
    · have hqn2 : q + 1 < n := chr_lt (t := t) (by omega)
      have p2 := p1.trans (PFm.up (up g 39 14 (nI (q + 1))) (nI (q + 1 + 1)))
      rw [if_pos d2, if_neg (show ¬ 2 ≤ 0 + 1 by decide), e_mul, e_add, e_sub (by omega), tk_step (x.pf p2) up_s (by omega) (by omega) hX1 hX hk, ← hsp]
      by_cases d3 : 48 ≤ chr n t (q + 1 + 1) ∧ chr n t (q + 1 + 1) ≤ 57
      · have p3 := p2.trans (PFm.up (up (up g 39 14 (nI (q + 1))) 39 14 (nI (q + 1 + 1))) (nI (q + 1 + 1 + 1)))
        have hqn3 : q + 1 + 1 < n := chr_lt (t := t) (by omega)
        rw [if_pos d3]
        obtain ⟨g', e, pf⟩ := tk_no (F := m + 3) (k2 := k2) hX1 hX hk (n + 1 - (q + 1 + 1 + 1)) (q + 1 + 1 + 1) 3 m (if 2 ≤ 0 + 1 + 1 then nI (10 * (chr n t q - 48) + chr n t (q + 1) - 48) else nI 10 * nI (10 * (chr n t q - 48) + chr n t (q + 1) - 48) + nI (chr n t (q + 1 + 1)) - nI 48) (up (up (up g 39 14 (nI (q + 1))) 39 14 (nI (q + 1 + 1))) 39 14 (nI (q + 1 + 1 + 1))) (by omega) (by omega) (by omega) (by omega) (x.pf p3) up_s
        refine Or.inr ⟨fun v q' w => ?_, g', e, (p3.trans pf).t⟩
        obtain ⟨⟨w1, w2, w3⟩, _⟩ := w
        rcases w3 with ⟨w4, _⟩ | ⟨w4, _⟩
        · rw [w4] at w2; exact w2 d2
        · rw [w4] at w2; exact w2 d3
      · rw [if_neg d3]
        by_cases y : chr n t (q + 1 + 1) = sp
        · rw [if_pos (show (1 ≤ 0 + 1 + 1 ∧ 0 + 1 + 1 ≤ 2) ∧ chr n t (q + 1 + 1) = sp from ⟨by omega, y⟩)]
          obtain ⟨a1, a2, a3, a4⟩ := fin (10 * (chr n t q - 48) + chr n t (q + 1) - 48) (q + 1 + 1) _ p2
          exact Or.inl ⟨_, q + 1 + 1, _, ⟨d, d3, Or.inr ⟨rfl, d2, by omega⟩⟩, y, rfl, a1, a2, a3, a4⟩
        · rw [if_neg (fun w => y w.2)]
          refine Or.inr ⟨fun v q' w => ?_, _, rfl, p2.t⟩
          obtain ⟨⟨w1, w2, w3⟩, w5⟩ := w
          rcases w3 with ⟨w4, _⟩ | ⟨w4, _⟩
          · rw [w4] at w2; exact w2 d2
          · rw [w4] at w5; exact y w5
    · rw [if_neg d2]
      by_cases y : chr n t (q + 1) = sp
      · rw [if_pos (show (1 ≤ 0 + 1 ∧ 0 + 1 ≤ 2) ∧ chr n t (q + 1) = sp from ⟨by omega, y⟩)]
        obtain ⟨a1, a2, a3, a4⟩ := fin (chr n t q - 48) (q + 1) _ p1
        exact Or.inl ⟨_, q + 1, _, ⟨d, d2, Or.inl ⟨rfl, rfl⟩⟩, y, rfl, a1, a2, a3, a4⟩
      · rw [if_neg (fun w => y w.2)]
        refine Or.inr ⟨fun v q' w => ?_, _, rfl, p1.t⟩
        obtain ⟨⟨w1, w2, w3⟩, w5⟩ := w
        rcases w3 with ⟨w4, _⟩ | ⟨w4, w6, _⟩
        · rw [w4] at w5; exact y w5
        · exact d2 w6
  · rw [if_neg d, if_neg (fun w => absurd w.1.1 (by decide))]
    exact Or.inr ⟨fun v q' w => d w.1.1, g, rfl, PFt.refl _⟩
