/-! ===== letters: the reference ===== -/
theorem C_one {w : Nat → Nat} {N d i : Nat} {C : Nat → Nat → Nat → Nat} (hK : ∀ d i, d < 4 → i ≤ N → KC w N C d i) (hd : d < 4) (hi : i < N) : C d i (i + 1) = Lof (w i) := by
  obtain ⟨a, b, c⟩ := (hK d i hd (by omega)).2 (i + 1) (by omega) hi
  have z : C d (i + 1) (i + 1) = 0 := (hK d (i + 1) hd hi).1
  rcases c with c | ⟨l, m, ⟨_, ⟨h1, h2, _, _⟩, h3⟩, _⟩
  · omega
  · have := Nat.mul_le_mul_right l h2
    omega
theorem C_sub {w : Nat → Nat} {N d : Nat} {C : Nat → Nat → Nat → Nat} (hK : ∀ d i, d < 4 → i ≤ N → KC w N C d i) (hd : d < 4) : ∀ (n i k j : Nat), k - i ≤ n → i ≤ k → k ≤ j → j ≤ N → C d i j ≤ C d i k + C d k j := by
  intro n
  induction n with
  | zero =>
    intro i k j h1 h2 h3 h4
    have : k = i := by omega
    rw [this]; omega
  | succ n ih =>
    intro i k j h1 h2 h3 h4
    by_cases z : k = i
    · rw [z]; omega
    · obtain ⟨a, b, c⟩ := (hK d i hd (by omega)).2 k (by omega) (by omega)
      obtain ⟨a', b', _⟩ := (hK d i hd (by omega)).2 j (by omega) h4
      rcases c with c | ⟨l, m, hc, c⟩
      · have := ih (i + 1) k j (by omega) (by omega) h3 h4
        omega
      · obtain ⟨q0, ⟨q1, q2, q3, q4⟩, q5⟩ := hc
        have q6 := Nat.mul_le_mul_right l q2
        have e1 := b' l m ⟨q0, ⟨q1, q2, q3, q4⟩, by omega⟩
        have e2 := ih (i + m * l) k j (by omega) q5 h3 h4
        unfold cval at c e1
        omega
theorem C_rep {w : Nat → Nat} {N d i l m : Nat} {C : Nat → Nat → Nat → Nat} (hK : ∀ d i, d < 4 → i ≤ N → KC w N C d i) (hd : d < 4) (h0 : 0 < d) (hr : rep w i l m) (hN : i + m * l ≤ N) : C d i (i + m * l) ≤ 3 + C (d - 1) i (i + l) := by
  have q6 := Nat.mul_le_mul_right l hr.2.1
  have q1 := hr.1
  have e := ((hK d i hd (by omega)).2 (i + m * l) (by omega) hN).2.1 l m ⟨h0, hr, Nat.le_refl _⟩
  unfold cval at e
  rw [(hK d (i + m * l) hd hN).1] at e
  exact e
theorem C_att {w : Nat → Nat} {N d i j : Nat} {C : Nat → Nat → Nat → Nat} (hK : ∀ d i, d < 4 → i ≤ N → KC w N C d i) (hd : d < 4) (hij : i + 2 ≤ j) (hj : j ≤ N) : (∃ k, i < k ∧ k < j ∧ C d i k + C d k j ≤ C d i j) ∨ ∃ l m, 0 < d ∧ rep w i l m ∧ j = i + m * l ∧ C d i j = 3 + C (d - 1) i (i + l) := by
  rcases ((hK d i hd (by omega)).2 j (by omega) hj).2.2 with c | ⟨l, m, ⟨q0, q1, q2⟩, c⟩
  · refine Or.inl ⟨i + 1, by omega, by omega, ?_⟩
    rw [C_one hK hd (by omega)]; omega
  · have q6 := Nat.mul_le_mul_right l q1.2.1
    have q7 := q1.1
    unfold cval at c
    rcases Nat.lt_or_ge (i + m * l) j with z | z
    · have := C_rep hK hd q0 q1 (by omega)
      exact Or.inl ⟨i + m * l, by omega, z, by omega⟩
    · have ez : i + m * l = j := by omega
      rw [ez, (hK d j hd hj).1] at c
      exact Or.inr ⟨l, m, q0, q1, ez.symm, c⟩
theorem isAgain_n {F : Nat} (hF : 600 ≤ F) {w : Nat → Nat} {i j l : Nat} {h : HP} (hl : 1 ≤ l) (hlj : i + l ≤ j) (hj : j ≤ 32) (hw : ∀ x, x < 32 → h 43 (2 + x) = nI (w x) ∧ w x < 256) :
    ∃ b, b ≤ 1 ∧ f_X7_isAgain F (nI i) (nI j) (nI l) h = some (nI b, h) ∧ (b = 1 ↔ ∀ x, i + l ≤ x → x < j → w x = w (x - l)) := by
  have lp : ∀ (k x n b : Nat), x + k = j → k < n → i + l ≤ x → b ≤ 1 → (b = 1 ↔ ∀ y, i + l ≤ y → y < x → w y = w (y - l)) → ∃ b', b' ≤ 1 ∧ f_X7_isAgain_8 F (nI i) (nI j) (nI l) n (nI b) (nI x) h = some (nI b', h) ∧ (b' = 1 ↔ ∀ y, i + l ≤ y → y < j → w y = w (y - l)) := by
    intro k
    induction k with
    | zero =>
      intro x n b hx hn hix hb hbx
      obtain ⟨n, rfl⟩ := succ_of hn
      refine ⟨b, hb, ?_, by rw [← show x = j by omega]; exact hbx⟩
      rw [f_X7_isAgain_8, if_pos (by rw [e_le (by omega) (by omega)]; omega), guard01]
      rcases (show b = 0 ∨ b = 1 by omega) with z | z
      · exact Or.inl (by rw [z])
      · exact Or.inr (by rw [z])
    | succ k ih =>
      intro x n b hx hn hix hb hbx
      obtain ⟨n, rfl⟩ := succ_of hn
      rw [f_X7_isAgain_8, if_neg (by rw [e_le (by omega) (by omega)]; omega), i_eq (by omega) (by decide), e_add, e_add]
      by_cases z : b = 0
      · rw [if_pos z]
        refine ih (x + 1) n 0 (by omega) (by omega) (by omega) (by decide) ⟨fun q => absurd q (by decide), fun q => ?_⟩
        have := hbx.mpr (fun y h1 h2 => q y h1 (by omega))
        omega
      · rw [if_neg z, if_pos (inb_t (by omega) (by decide)), e_sub (by omega), if_pos (inb_t (by omega) (by decide)), e_ix (by omega), e_ix (by omega), show 2 + x - l = 2 + (x - l) by omega, (hw x (by omega)).1, (hw (x - l) (by omega)).1]
        have q1 := (hw x (by omega)).2
        have q2 := (hw (x - l) (by omega)).2
        rw [i_eq (by omega) (by omega), ite_n]
        refine ih (x + 1) n (if w x = w (x - l) then 1 else 0) (by omega) (by omega) (by omega) (by split <;> decide) ⟨fun q y h1 h2 => ?_, fun q => by rw [if_pos (q x hix (by omega))]⟩
        by_cases g : w x = w (x - l)
        · by_cases y2 : y = x
          · rw [y2]; exact g
          · exact hbx.mp (by omega) y h1 (by omega)
        · rw [if_neg g] at q
          exact absurd q (by decide)
  obtain ⟨b, b1, b2, b3⟩ := lp (j - (i + l)) (i + l) F 1 (by omega) (by omega) (Nat.le_refl _) (Nat.le_refl _) ⟨fun _ y h1 h2 => by omega, fun _ => rfl⟩
  refine ⟨b, b1, ?_, b3⟩
  unfold f_X7_isAgain
  rw [e_add]
  exact b2
theorem rep_iff {w : Nat → Nat} {i l m j : Nat} (hl : 1 ≤ l) (hm : 2 ≤ m) (hm9 : m ≤ 9) (hj : j = i + m * l) : rep w i l m ↔ ∀ x, i + l ≤ x → x < j → w x = w (x - l) := by
  constructor
  · intro h x h1 h2
    have := h.2.2.2 (x - l) (by omega) (by omega)
    rw [show x - l + l = x by omega] at this
    exact this.symm
  · intro h
    refine ⟨hl, hm, hm9, fun x h1 h2 => ?_⟩
    have := h (x + l) (by omega) (by omega)
    rw [show x + l - l = x by omega] at this
    exact this.symm
theorem fw106 {F : Nat} (hF : 600 ≤ F) {w : Nat → Nat} {N d i j : Nat} {C : Nat → Nat → Nat → Nat} {h : HP} (hN : N ≤ 32) (hK : ∀ d i, d < 4 → i ≤ N → KC w N C d i) (hbd : ∀ d i j, d < 4 → i ≤ j → j ≤ N → C d i j ≤ 10 * (j - i)) (hd : d < 4) (hij : i + 2 ≤ j) (hj : j ≤ N) (hw : ∀ x, x < 32 → h 43 (2 + x) = nI (w x) ∧ w x < 256)
    (hP : 0 < d → ∀ i' j', i' < j' → j' ≤ N → h 53 ((33 * (d - 1) + i') * 33 + j') = nI (C (d - 1) i' j')) :
    ∀ (k m n v : Nat), m + k = 10 → k < n → 2 ≤ m → v ≤ 1000000 → C d i j ≤ v →
      ∃ v', f_X7_fewest_106 F (nI d) (nI i) (nI j) n (nI (j - i)) (nI v) (nI m) h = some (nI v', h) ∧ C d i j ≤ v' ∧ v' ≤ v ∧ (0 < d → ∀ m' l, m ≤ m' → m' < 10 → j = i + m' * l → rep w i l m' → v' ≤ 3 + C (d - 1) i (i + l)) := by
  intro k
  induction k with
  | zero =>
    intro m n v hm hn hm2 hv hCv
    obtain ⟨n, rfl⟩ := succ_of hn
    refine ⟨v, ?_, hCv, Nat.le_refl _, fun _ m' l h1 h2 => by omega⟩
    rw [f_X7_fewest_106, if_pos (by rw [e_le (by omega) (by omega)]; omega)]
  | succ k ih =>
    intro m n v hm hn hm2 hv hCv
    obtain ⟨n, rfl⟩ := succ_of hn
    rw [f_X7_fewest_106, if_neg (by rw [e_le (by omega) (by omega)]; omega)]
    by_cases g : d = 0
    · refine ⟨v, ?_, hCv, Nat.le_refl _, fun h0 => by omega⟩
      rw [if_pos (by rw [g]; exact Int32.le_refl _)]
    rw [if_neg (by rw [e_le (by omega) (by decide)]; omega), if_pos (by rw [Ne, e_eq (by omega) (by decide)]; omega), jrem_n (by omega) (by omega) (by omega), i_eq (by have := Nat.mod_lt (j - i) (show 0 < m by omega); omega) (by decide), pk_div (by rw [e31]; omega) (by omega) (by rw [e31]; omega), e_add]
    by_cases g2 : (j - i) % m = 0
    · rw [if_pos g2]
      obtain ⟨l, hl⟩ : ∃ l, l = (j - i) / m := ⟨_, rfl⟩
      rw [← hl]
      have hml : j = i + m * l := by
        have := Nat.div_add_mod (j - i) m
        rw [← hl, g2] at this
        omega
      have hl1 : 1 ≤ l := by
        rcases Nat.lt_or_ge 0 l with q | q
        · exact q
        · have : l = 0 := by omega
          rw [this] at hml; omega
      have hl2 : 2 * l ≤ m * l := Nat.mul_le_mul_right l hm2
      obtain ⟨b, b1, b2, b3⟩ := isAgain_n hF (i := i) (j := j) (l := l) hl1 (by omega) (by omega) hw
      rw [b2, ob_eq, i_eq (by omega) (by decide)]
      have hri := rep_iff (w := w) hl1 hm2 (show m ≤ 9 by omega) hml
      have same : ∀ m' l', m' = m → j = i + m' * l' → l' = l := fun m' l' e1 e2 => by
        rw [e1] at e2
        have : m * l' = m * l := by omega
        exact Nat.eq_of_mul_eq_mul_left (by omega) this
      by_cases z : b = 0
      · rw [if_pos z]
        obtain ⟨v', f1, f2, f3, f4⟩ := ih (m + 1) n v (by omega) (by omega) (by omega) hv hCv
        refine ⟨v', f1, f2, f3, fun h0 m' l' h1 h2 h3 h4 => ?_⟩
        rcases Nat.lt_or_ge m m' with q | q
        · exact f4 h0 m' l' q h2 h3 h4
        · have em : m' = m := by omega
          have el := same m' l' em h3
          rw [em, el] at h4
          have := b3.mpr (hri.mp h4)
          omega
      · have hr : rep w i l m := hri.mpr (b3.mp (by omega))
        have hcr := C_rep hK hd (by omega) hr (by omega)
        rw [← hml] at hcr
        have hb := hbd (d - 1) i (i + l) (by omega) (by omega) (by omega)
        rw [if_neg z]
        unfold f_X7_cell
        rw [ob_eq, e_sub (by omega), e_mul, e_add, e_mul, e_add, e_add, if_pos (inb_t (by omega) (by decide)), e_ix (by omega), hP (by omega) i (i + l) (by omega) (by omega), e_add, i_le (by omega) (by omega), ite_n]
        obtain ⟨v', f1, f2, f3, f4⟩ := ih (m + 1) n (if v ≤ 3 + C (d - 1) i (i + l) then v else 3 + C (d - 1) i (i + l)) (by omega) (by omega) (by omega) (by split <;> omega) (by split <;> omega)
        have hle : v' ≤ v ∧ v' ≤ 3 + C (d - 1) i (i + l) := by
          by_cases q : v ≤ 3 + C (d - 1) i (i + l)
          · rw [if_pos q] at f3; omega
          · rw [if_neg q] at f3; omega
        refine ⟨v', f1, f2, hle.1, fun h0 m' l' h1 h2 h3 h4 => ?_⟩
        rcases Nat.lt_or_ge m m' with q | q
        · exact f4 h0 m' l' q h2 h3 h4
        · have em : m' = m := by omega
          rw [same m' l' em h3]
          exact hle.2
    · rw [if_neg g2]
      obtain ⟨v', f1, f2, f3, f4⟩ := ih (m + 1) n v (by omega) (by omega) (by omega) hv hCv
      refine ⟨v', f1, f2, f3, fun h0 m' l' h1 h2 h3 h4 => ?_⟩
      rcases Nat.lt_or_ge m m' with q | q
      · exact f4 h0 m' l' q h2 h3 h4
      · have em : m' = m := by omega
        rw [em] at h3
        exact absurd (by rw [show j - i = m * l' by omega]; exact Nat.mul_mod_right m l') g2
theorem fw48 {F : Nat} (hF : 600 ≤ F) {w : Nat → Nat} {N d i j : Nat} {C : Nat → Nat → Nat → Nat} {h : HP} (hN : N ≤ 32) (hK : ∀ d i, d < 4 → i ≤ N → KC w N C d i) (hbd : ∀ d i j, d < 4 → i ≤ j → j ≤ N → C d i j ≤ 10 * (j - i)) (hd : d < 4) (hij : i + 2 ≤ j) (hj : j ≤ N) (hw : ∀ x, x < 32 → h 43 (2 + x) = nI (w x) ∧ w x < 256)
    (hA : ∀ i' j', i' < j' → j' ≤ N → j' - i' < j - i → h 53 ((33 * d + i') * 33 + j') = nI (C d i' j'))
    (hP : 0 < d → ∀ i' j', i' < j' → j' ≤ N → h 53 ((33 * (d - 1) + i') * 33 + j') = nI (C (d - 1) i' j')) :
    ∀ (k x n v : Nat), x + k = j → k < n → i < x → v ≤ 1000000 → C d i j ≤ v →
      ∃ v', f_X7_fewest_48 F (nI d) (nI i) (nI j) n (nI (j - i)) (nI v) (nI x) h = some (nI v', h) ∧ C d i j ≤ v' ∧ v' ≤ v ∧ (∀ y, x ≤ y → y < j → v' ≤ C d i y + C d y j) ∧ (0 < d → ∀ m' l, 2 ≤ m' → m' < 10 → j = i + m' * l → rep w i l m' → v' ≤ 3 + C (d - 1) i (i + l)) := by
  intro k
  induction k with
  | zero =>
    intro x n v hx hn hix hv hCv
    obtain ⟨n, rfl⟩ := succ_of hn
    rw [f_X7_fewest_48, if_pos (by rw [e_le (by omega) (by omega)]; omega)]
    obtain ⟨v', f1, f2, f3, f4⟩ := fw106 hF hN hK hbd hd hij hj hw hP 8 2 F v (by omega) (by omega) (by omega) hv hCv
    exact ⟨v', f1, f2, f3, fun y h1 h2 => by omega, f4⟩
  | succ k ih =>
    intro x n v hx hn hix hv hCv
    obtain ⟨n, rfl⟩ := succ_of hn
    have hs := C_sub hK hd (x - i) i x j (Nat.le_refl _) (by omega) (by omega) hj
    have b1 := hbd d i x hd (by omega) (by omega)
    have b2 := hbd d x j hd (by omega) hj
    obtain ⟨v', f1, f2, f3, f4, f5⟩ := ih (x + 1) n (if v ≤ C d i x + C d x j then v else C d i x + C d x j) (by omega) (by omega) (by omega) (by split <;> omega) (by split <;> omega)
    have hle : v' ≤ v ∧ v' ≤ C d i x + C d x j := by
      by_cases q : v ≤ C d i x + C d x j
      · rw [if_pos q] at f3; omega
      · rw [if_neg q] at f3; omega
    refine ⟨v', ?_, f2, hle.1, fun y h1 h2 => ?_, f5⟩
    · rw [f_X7_fewest_48, if_neg (by rw [e_le (by omega) (by omega)]; omega)]
      unfold f_X7_cell
      rw [ob_eq, e_mul, e_add, e_mul, e_add, if_pos (inb_t (by omega) (by decide)), ob_eq, e_add, e_mul, e_add, if_pos (inb_t (by omega) (by decide)), e_ix (by omega), e_ix (by omega), hA i x (by omega) (by omega) (by omega), hA x j (by omega) hj (by omega), e_add, i_le (by omega) (by omega), ite_n, e_add]
      exact f1
    · by_cases z : y = x
      · rw [z]; exact hle.2
      · exact f4 y (by omega) h2
theorem fewest_n {F : Nat} (hF : 600 ≤ F) {w : Nat → Nat} {N d i j : Nat} {C : Nat → Nat → Nat → Nat} {h : HP} (hN : N ≤ 32) (hK : ∀ d i, d < 4 → i ≤ N → KC w N C d i) (hbd : ∀ d i j, d < 4 → i ≤ j → j ≤ N → C d i j ≤ 10 * (j - i)) (hd : d < 4) (hij : i < j) (hj : j ≤ N) (hw : ∀ x, x < 32 → h 43 (2 + x) = nI (w x) ∧ w x < 256)
    (hA : ∀ i' j', i' < j' → j' ≤ N → j' - i' < j - i → h 53 ((33 * d + i') * 33 + j') = nI (C d i' j'))
    (hP : 0 < d → ∀ i' j', i' < j' → j' ≤ N → h 53 ((33 * (d - 1) + i') * 33 + j') = nI (C (d - 1) i' j')) :
    f_X7_fewest F (nI d) (nI i) (nI j) h = some (nI (C d i j), h) := by
  unfold f_X7_fewest
  rw [e_sub (by omega), i_eq (by omega) (by decide)]
  by_cases g : j - i = 1
  · have hp := popc_le (w i)
    rw [if_pos g, e_add, if_pos (inb_t (by omega) (by decide)), e_ix (by omega), (hw i (by omega)).1, bits_spec hF (hw i (by omega)).2, ob_eq, i_le (by decide) (by omega), e_add, show j = i + 1 by omega, C_one hK hd (by omega)]
    unfold Lof
    by_cases z : 2 ≤ popc (w i)
    · rw [if_pos z, if_pos z]
    · rw [if_neg z, if_neg z]
  · have hb := hbd d i j hd (by omega) hj
    rw [if_neg g, e_add]
    obtain ⟨v', f1, f2, f3, f4, f5⟩ := fw48 hF hN hK hbd hd (show i + 2 ≤ j by omega) hj hw hA hP (j - (i + 1)) (i + 1) F 1000000 (by omega) (by omega) (by omega) (Nat.le_refl _) (by omega)
    rw [f1]
    have : v' = C d i j := by
      rcases C_att hK hd (show i + 2 ≤ j by omega) hj with ⟨k, k1, k2, k3⟩ | ⟨l, m, q0, q1, q2, q3⟩
      · have := f4 k (by omega) k2
        omega
      · have := f5 q0 m l q1.2.1 (by have := q1.2.2.1; omega) q2 q1
        omega
    rw [this]
def FLl (N : Nat) (C : Nat → Nat → Nat → Nat) (h : HP) (d len i0 : Nat) : Prop := ∀ d' i' j', d' < 4 → i' < j' → j' ≤ N → (d' < d ∨ d' = d ∧ (j' - i' < len ∨ j' - i' = len ∧ i' < i0)) → h 53 ((33 * d' + i') * 33 + j') = nI (C d' i' j')
theorem let21 {F : Nat} (hF : 600 ≤ F) {w : Nat → Nat} {N d len : Nat} {C : Nat → Nat → Nat → Nat} {k9 : Int32 → Int32 → HP → Option (Int32 × HP)} (hN : N ≤ 32) (hK : ∀ d i, d < 4 → i ≤ N → KC w N C d i) (hbd : ∀ d i j, d < 4 → i ≤ j → j ≤ N → C d i j ≤ 10 * (j - i)) (hd : d < 4) (hl : 1 ≤ len) (hlN : len ≤ N) :
    ∀ (k i n : Nat) (h : HP), i + k = N - len + 1 → k < n → h 40 1 = nI N → (∀ x, x < 32 → h 43 (2 + x) = nI (w x) ∧ w x < 256) → FLl N C h d len i →
      ∃ h', f_X7_letters_21 F k9 n (nI d) (nI len) (nI i) h = k9 (nI d) (nI (len + 1)) h' ∧ FLl N C h' d (len + 1) 0 ∧ ∀ z, z ≠ 53 → h' z = h z := by
  intro k
  induction k with
  | zero =>
    intro i n h hi hn hN1 hw hFL
    obtain ⟨n, rfl⟩ := succ_of hn
    refine ⟨h, ?_, fun d' i' j' h1 h2 h3 h4 => hFL d' i' j' h1 h2 h3 (by omega), fun _ _ => rfl⟩
    rw [f_X7_letters_21, hN1, e_add, if_pos (by rw [e_lt (by omega) (by omega)]; omega), e_add]
  | succ k ih =>
    intro i n h hi hn hN1 hw hFL
    obtain ⟨n, rfl⟩ := succ_of hn
    obtain ⟨h', f1, f2, f3⟩ := ih (i + 1) n (up h 53 ((33 * d + i) * 33 + (i + len)) (nI (C d i (i + len)))) (by omega) (by omega) (by rw [up_c (by decide)]; exact hN1) (fun x hx => by rw [up_c (by decide)]; exact hw x hx) (fun d' i' j' h1 h2 h3 h4 => by
      rw [up_at]
      by_cases z : d' = d ∧ i' = i ∧ j' = i + len
      · obtain ⟨rfl, rfl, rfl⟩ := z
        rw [if_pos ⟨rfl, rfl⟩]
      · rw [if_neg (by omega)]
        exact hFL d' i' j' h1 h2 h3 (by omega))
    refine ⟨h', ?_, f2, fun z hz => by rw [f3 z hz, up_c hz]⟩
    rw [f_X7_letters_21, hN1, e_add, if_neg (by rw [e_lt (by omega) (by omega)]; omega)]
    unfold f_X7_cell
    rw [ob_eq, fewest_n hF hN hK hbd hd (by omega) (by omega) hw (fun i' j' h1 h2 h3 => hFL d i' j' hd h1 h2 (by omega)) (fun h0 i' j' h1 h2 => hFL (d - 1) i' j' (by omega) h1 h2 (by omega)), ob_eq, e_mul, e_add, e_mul, e_add, if_pos (inb_t (by omega) (by decide)), e_ix (by omega), e_add, f1]
theorem let9 {F : Nat} (hF : 600 ≤ F) {w : Nat → Nat} {N d : Nat} {C : Nat → Nat → Nat → Nat} {k2 : Int32 → HP → Option (Int32 × HP)} (hN : N ≤ 32) (hK : ∀ d i, d < 4 → i ≤ N → KC w N C d i) (hbd : ∀ d i j, d < 4 → i ≤ j → j ≤ N → C d i j ≤ 10 * (j - i)) (hd : d < 4) :
    ∀ (k len n : Nat) (h : HP), len + k = N + 1 → k < n → 1 ≤ len → h 40 1 = nI N → (∀ x, x < 32 → h 43 (2 + x) = nI (w x) ∧ w x < 256) → FLl N C h d len 0 →
      ∃ h', f_X7_letters_9 F k2 n (nI d) (nI len) h = k2 (nI (d + 1)) h' ∧ FLl N C h' (d + 1) 1 0 ∧ ∀ z, z ≠ 53 → h' z = h z := by
  intro k
  induction k with
  | zero =>
    intro len n h hlen hn hl hN1 hw hFL
    obtain ⟨n, rfl⟩ := succ_of hn
    refine ⟨h, ?_, fun d' i' j' h1 h2 h3 h4 => hFL d' i' j' h1 h2 h3 (by omega), fun _ _ => rfl⟩
    rw [f_X7_letters_9, hN1, if_pos (by rw [e_lt (by omega) (by omega)]; omega), e_add]
  | succ k ih =>
    intro len n h hlen hn hl hN1 hw hFL
    obtain ⟨n, rfl⟩ := succ_of hn
    obtain ⟨h1, a1, a2, a3⟩ := let21 hF (k9 := f_X7_letters_9 F k2 n) hN hK hbd hd hl (by omega) (N - len + 1) 0 F h (by omega) (by omega) hN1 hw hFL
    obtain ⟨h', f1, f2, f3⟩ := ih (len + 1) n h1 (by omega) (by omega) (by omega) (by rw [a3 40 (by decide)]; exact hN1) (fun x hx => by rw [a3 43 (by decide)]; exact hw x hx) a2
    refine ⟨h', ?_, f2, fun z hz => by rw [f3 z hz, a3 z hz]⟩
    rw [f_X7_letters_9, hN1, if_neg (by rw [e_lt (by omega) (by omega)]; omega), a1, f1]
theorem let2 {F : Nat} (hF : 600 ≤ F) {w : Nat → Nat} {N : Nat} {C : Nat → Nat → Nat → Nat} (hN1 : 1 ≤ N) (hN : N ≤ 32) (hK : ∀ d i, d < 4 → i ≤ N → KC w N C d i) (hbd : ∀ d i j, d < 4 → i ≤ j → j ≤ N → C d i j ≤ 10 * (j - i)) :
    ∀ (k d n : Nat) (h : HP), d + k = 4 → k < n → h 40 1 = nI N → (∀ x, x < 32 → h 43 (2 + x) = nI (w x) ∧ w x < 256) → FLl N C h d 1 0 →
      ∃ h', f_X7_letters_2 F n (nI d) h = some (nI (C 3 0 N), h') ∧ ∀ z, z ≠ 53 → h' z = h z := by
  intro k
  induction k with
  | zero =>
    intro d n h hd hn h40 hw hFL
    obtain ⟨n, rfl⟩ := succ_of hn
    refine ⟨h, ?_, fun _ _ => rfl⟩
    rw [f_X7_letters_2, if_pos (by rw [e_le (by omega) (by omega)]; omega), h40]
    unfold f_X7_cell
    rw [ob_eq, e_mul, e_add, e_mul, e_add, if_pos (inb_t (by omega) (by decide)), e_ix (by omega)]
    rw [hFL 3 0 N (by omega) (by omega) (Nat.le_refl _) (by omega)]
  | succ k ih =>
    intro d n h hd hn h40 hw hFL
    obtain ⟨n, rfl⟩ := succ_of hn
    obtain ⟨h1, a1, a2, a3⟩ := let9 hF (k2 := f_X7_letters_2 F n) hN hK hbd (show d < 4 by omega) N 1 F h (by omega) (by omega) (by omega) h40 hw hFL
    obtain ⟨h', f1, f2⟩ := ih (d + 1) n h1 (by omega) (by omega) (by rw [a3 40 (by decide)]; exact h40) (fun x hx => by rw [a3 43 (by decide)]; exact hw x hx) a2
    refine ⟨h', ?_, fun z hz => by rw [f2 z hz, a3 z hz]⟩
    rw [f_X7_letters_2, if_neg (by rw [e_le (by omega) (by omega)]; omega), a1, f1]
theorem op_letters {F c : Nat} (hF : 600 ≤ F) {tw : TW} {h : HP} (i : INV c tw h) : Step (f_X6_letters F tw) (f_X7_letters F) c tw h := by
  have i0 := i
  obtain ⟨hK, B, N, R, T, M, ⟨hB1, hB8, hN2, hN32, hR6, hTM⟩, hC, hM, hS, hD, -⟩ := i
  have hKc := hK.c
  have hp43 : ∀ r, r < 32 → h 43 (2 + r) = nI (pv h r) ∧ pv h r < 256 := fun r hr => ⟨(pv_of hB8 hS hr).1, (pv_of hB8 hS hr).2.2⟩
  have hp15 : ∀ r, r < 32 → h 15 r = nI (pv h r) ∧ pv h r < 256 := fun r hr => by rw [pin_of hD hr]; exact hp43 r hr
  obtain ⟨h1, C, a1, a2, a3, a4⟩ := fewX_n hF hN32 hp15
  obtain ⟨h2, b1, b2⟩ := let2 hF (show 1 ≤ N by omega) hN32 a4 a3 4 0 F h1 (by omega) (by omega) (by rw [a2 40 (by decide)]; exact hM.2.1) (fun x hx => by rw [a2 43 (by decide)]; exact hp43 x hx) (fun d' i' j' h1 h2 h3 h4 => by omega)
  have e : ∀ z, z < 32 ∨ 35 < z → z ≠ 53 → h2 z = h z := fun z h1 h2 => by rw [b2 z h2, a2 z h1]
  refine ⟨nI (C 3 0 N), h1, h2, ?_, b1, (i0.ess ⟨fun k hk => ?_, fun j hj => e _ (by omega) (by omega), by rw [e 0 (by decide) (by decide)], by rw [e 1 (by decide) (by decide)], by rw [e 39 (by decide) (by decide)], by rw [e 39 (by decide) (by decide)], by rw [e 39 (by decide) (by decide)], by rw [e 39 (by decide) (by decide)]⟩).mono (Nat.le_succ c)⟩
  · unfold f_X6_letters
    rw [hC.2.1, a1, ob_eq]
  · have : ∀ k, k ∈ essL → (k < 32 ∨ 35 < k) ∧ k ≠ 53 := by decide
    exact e k (this k hk).1 (this k hk).2
