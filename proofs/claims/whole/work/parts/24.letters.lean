/-! ===== letters: the class fills its rows ===== -/
def Lof (p : Nat) : Nat := if 2 ≤ popc p then popc p + 2 else 1
theorem Lof_le (p : Nat) : Lof p ≤ 10 := by
  unfold Lof
  have := popc_le p
  split <;> omega
theorem Lof_X {F p : Nat} (hp : p < 256) (h : HP) : f_X3_lettersOf F (nI p) h = some (nI (Lof p), h) := by
  have := popc_le p
  unfold f_X3_lettersOf Lof
  rw [bc_spec F hp, ob_eq, i_le (by decide) (by omega), e_add]
  by_cases g : 2 ≤ popc p
  · rw [if_pos g, if_pos g]
  · rw [if_neg g, if_neg g]
/-- w from i on is a part of l rows, m times -/
def rep (w : Nat → Nat) (i l m : Nat) : Prop := 1 ≤ l ∧ 2 ≤ m ∧ m ≤ 9 ∧ ∀ x, i ≤ x → x + l < i + m * l → w x = w (x + l)
def cand (w : Nat → Nat) (d i l m j : Nat) : Prop := 0 < d ∧ rep w i l m ∧ i + m * l ≤ j
def cval (C : Nat → Nat → Nat → Nat) (d i l m j : Nat) : Nat := 3 + C (d - 1) i (i + l) + C d (i + m * l) j
def KC (w : Nat → Nat) (N : Nat) (C : Nat → Nat → Nat → Nat) (d i : Nat) : Prop :=
  C d i i = 0 ∧ ∀ j, i < j → j ≤ N → C d i j ≤ Lof (w i) + C d (i + 1) j ∧ (∀ l m, cand w d i l m j → C d i j ≤ cval C d i l m j) ∧ (C d i j = Lof (w i) + C d (i + 1) j ∨ ∃ l m, cand w d i l m j ∧ C d i j = cval C d i l m j)
theorem KC.congr {w : Nat → Nat} {N d i : Nat} {C C' : Nat → Nat → Nat → Nat} (h : KC w N C d i) (e1 : ∀ j, i ≤ j → j ≤ N → C' (d - 1) i j = C (d - 1) i j) (e2 : ∀ i' j, i ≤ i' → i' ≤ j → j ≤ N → C' d i' j = C d i' j) (hi : i ≤ N) : KC w N C' d i := by
  have ev : ∀ l m j, cand w d i l m j → j ≤ N → cval C' d i l m j = cval C d i l m j := fun l m j hc hj => by
    obtain ⟨_, ⟨h1, h2, h3, _⟩, h4⟩ := hc
    have := Nat.mul_le_mul_right l h2
    unfold cval
    rw [e1 (i + l) (by omega) (by omega), e2 (i + m * l) j (by omega) h4 hj]
  refine ⟨by rw [e2 i i (Nat.le_refl _) (Nat.le_refl _) hi]; exact h.1, fun j hj hjN => ?_⟩
  obtain ⟨a, b, c⟩ := h.2 j hj hjN
  rw [e2 i j (Nat.le_refl _) (by omega) hjN, e2 (i + 1) j (by omega) (by omega) hjN]
  refine ⟨a, fun l m hc => by rw [ev l m j hc hjN]; exact b l m hc, ?_⟩
  rcases c with c | ⟨l, m, hc, c⟩
  · exact Or.inl c
  · exact Or.inr ⟨l, m, hc, by rw [ev l m j hc hjN]; exact c⟩
/-- only row i of table c may have changed -/
def RF (c i N : Nat) (h h' : HP) : Prop := ∀ z y, (z ≠ c ∨ y ≤ 33 * i + i ∨ 33 * i + N < y) → h' z y = h z y
theorem RF.cell {c i N : Nat} {h h' : HP} (r : RF c i N h h') {z : Nat} (hz : z ≠ c) : h' z = h z := funext fun y => r z y (Or.inl hz)
theorem RF.trans {c i N : Nat} {h h' h'' : HP} (r : RF c i N h h') (s : RF c i N h' h'') : RF c i N h h'' := fun z y q => by rw [s z y q, r z y q]
theorem RF.refl (c i N : Nat) (h : HP) : RF c i N h h := fun _ _ _ => rfl
theorem RF.up {c i N j : Nat} (h : HP) (x : Int32) (hj : i < j) (hjN : j ≤ N) : RF c i N h (up h c (33 * i + j) x) := fun z y q => by
  rw [up_at, if_neg]
  rintro ⟨rfl, rfl⟩
  omega
theorem bwp {F c i e N cost : Nat} {f : Nat → Nat} (hL : ln c = 1089) (hN : N ≤ 32) (hie : i < e) (hco : cost < 1000) (hf : ∀ j, j ≤ N → f j < 1000) :
    ∀ (k j n : Nat) (v : Nat → Nat) (h : HP), j + k = N + 1 → k < n → e ≤ j → (∀ j, e ≤ j → j ≤ N → h c (33 * e + j) = nI (f j)) → (∀ j, i < j → j ≤ N → h c (33 * i + j) = nI (v j) ∧ v j < 1000) →
      ∃ h', f_X3_beginWithPart_3 F c (nI i) (nI e) (nI cost) (nI N) n (nI j) h = some h' ∧ (∀ j', i < j' → j' ≤ N → h' c (33 * i + j') = nI (if j ≤ j' ∧ cost + f j' < v j' then cost + f j' else v j')) ∧ RF c i N h h' := by
  intro k
  induction k with
  | zero =>
    intro j n v h hj hn hej he hv
    obtain ⟨n, rfl⟩ := succ_of hn
    refine ⟨h, ?_, fun j' h1 h2 => by rw [if_neg (by omega)]; exact (hv j' h1 h2).1, RF.refl _ _ _ _⟩
    rw [f_X3_beginWithPart_3, if_pos (by rw [e_lt (by omega) (by omega)]; omega)]
  | succ k ih =>
    intro j n v h hj hn hej he hv
    obtain ⟨n, rfl⟩ := succ_of hn
    have hfj := hf j (by omega)
    have hej2 := he j hej (by omega)
    obtain ⟨hvj, hvb⟩ := hv j (by omega) (by omega)
    rw [f_X3_beginWithPart_3, if_neg (by rw [e_lt (by omega) (by omega)]; omega), e_mul, e_add, e_mul, e_add, show e * 33 + j = 33 * e + j by omega, show i * 33 + j = 33 * i + j by omega, if_pos (inb_t (by omega) (by omega)), if_pos (inb_t (by omega) (by omega)), e_ix (by omega), e_ix (by omega), hej2, hvj, e_add, i_le (by omega) (by omega), e_add]
    by_cases g : v j ≤ cost + f j
    · rw [if_pos g]
      obtain ⟨h', f1, f2, f3⟩ := ih (j + 1) n v h (by omega) (by omega) (by omega) he hv
      refine ⟨h', f1, fun j' h1 h2 => ?_, f3⟩
      rw [f2 j' h1 h2]
      by_cases z : j' = j
      · rw [z, if_neg (by omega), if_neg (by omega)]
      · by_cases y : j + 1 ≤ j' ∧ cost + f j' < v j'
        · rw [if_pos y, if_pos (by omega)]
        · rw [if_neg y, if_neg (by omega)]
    · rw [if_neg g]
      obtain ⟨h', f1, f2, f3⟩ := ih (j + 1) n (updN v j (cost + f j)) (up h c (33 * i + j) (nI (cost + f j))) (by omega) (by omega) (by omega) (fun j' h1 h2 => by rw [up_n (by omega)]; exact he j' h1 h2) (fun j' h1 h2 => by
        unfold updN
        by_cases z : j' = j
        · rw [if_pos z, z, up_s]; exact ⟨rfl, by omega⟩
        · rw [if_neg z, up_n (by omega)]; exact hv j' h1 h2)
      refine ⟨h', f1, fun j' h1 h2 => ?_, (RF.up h _ (by omega) (by omega)).trans f3⟩
      rw [f2 j' h1 h2]
      unfold updN
      by_cases z : j' = j
      · rw [z, if_neg (by omega), if_pos rfl, if_pos (by omega)]
      · rw [if_neg z]
        by_cases y : j + 1 ≤ j' ∧ cost + f j' < v j'
        · rw [if_pos y, if_pos (by omega)]
        · rw [if_neg y, if_neg (by omega)]
/-- how often a part is told -/
theorem told_n {F : Nat} (hF : 600 ≤ F) {i l N : Nat} {w : Nat → Nat} {h : HP} (hl : 1 ≤ l) (hi : i + 2 * l ≤ N) (hN : N ≤ 32) (hw : ∀ x, x < 32 → h 15 x = nI (w x) ∧ w x < 256) :
    ∃ T, 1 ≤ T ∧ T ≤ 9 ∧ (∀ m, 2 ≤ m → (m ≤ T ↔ rep w i l m ∧ i + m * l ≤ N)) ∧ f_X3_timesTold F (nI i) (nI l) 15 (nI N) h = some (nI T, h) := by
  let lim := min (N - i - l) (8 * l)
  have fin : ∀ x, x ≤ lim → (∀ y, y < x → w (i + y) = w (i + y + l)) → (x = lim ∨ w (i + x) ≠ w (i + x + l)) → 1 ≤ 1 + x / l ∧ 1 + x / l ≤ 9 ∧ (∀ m, 2 ≤ m → (m ≤ 1 + x / l ↔ rep w i l m ∧ i + m * l ≤ N)) := by
    intro x hx hy hz
    have h1 : x ≤ N - i - l := Nat.le_trans hx (Nat.min_le_left _ _)
    have h2 : x ≤ 8 * l := Nat.le_trans hx (Nat.min_le_right _ _)
    have hd : x / l ≤ 8 := by
      have := Nat.div_le_div_right (c := l) h2
      rw [Nat.mul_div_cancel _ (by omega)] at this
      exact this
    have hdm : x / l * l ≤ x := Nat.div_mul_le_self x l
    have hlast : ∀ m, (m - 1) * l ≤ x → m - 1 ≤ x / l := fun m hm => (Nat.le_div_iff_mul_le (show 0 < l by omega)).mpr hm
    generalize x / l = q at hd hdm hlast ⊢
    refine ⟨by omega, by omega, fun m hm => ⟨fun hmT => ?_, fun hr => ?_⟩⟩
    · have hm1 : (m - 1) * l ≤ q * l := Nat.mul_le_mul_right l (by omega)
      have hml : m * l = (m - 1) * l + l := by
        obtain ⟨q, rfl⟩ : ∃ q, m = q + 1 := ⟨m - 1, by omega⟩
        rw [Nat.succ_mul]; rfl
      refine ⟨⟨hl, hm, by omega, fun y hy1 hy2 => ?_⟩, by omega⟩
      have := hy (y - i) (by omega)
      rw [show i + (y - i) = y by omega] at this
      exact this
    · obtain ⟨⟨_, _, hm9, hp⟩, hN2⟩ := hr
      have hml : m * l = (m - 1) * l + l := by
        obtain ⟨q, rfl⟩ : ∃ q, m = q + 1 := ⟨m - 1, by omega⟩
        rw [Nat.succ_mul]; rfl
      have hm8 : (m - 1) * l ≤ 8 * l := Nat.mul_le_mul_right l (by omega)
      have hxm : (m - 1) * l ≤ x := by
        rcases hz with hz | hz
        · rw [hz]
          exact Nat.le_min.mpr ⟨by omega, hm8⟩
        · rcases Nat.lt_or_ge x ((m - 1) * l) with q | q
          · exact absurd (hp (i + x) (by omega) (by omega)) hz
          · exact q
      have := hlast m hxm
      omega
  have e48 : ∀ x, x < 1000 → f_X3_timesTold_48 F (nI i) (nI l) 15 (nI N) (nI x) h = some (nI (1 + x / l), h) := fun x hx => by
    unfold f_X3_timesTold_48
    rw [if_neg (by rw [e_le (by omega) (by decide)]; omega), if_pos (by rw [Ne, e_eq (by omega) (by decide)]; omega), pk_div (by rw [e31]; omega) (by omega) (by rw [e31]; omega), e_add]
  have hlim : lim ≤ 32 := Nat.le_trans (Nat.min_le_left _ _) (by omega)
  have hlim2 : lim ≤ N - i - l := Nat.min_le_left _ _
  have lp : ∀ (k x n : Nat), x + k = lim → k < n → (∀ y, y < x → w (i + y) = w (i + y + l)) → ∃ T, 1 ≤ T ∧ T ≤ 9 ∧ (∀ m, 2 ≤ m → (m ≤ T ↔ rep w i l m ∧ i + m * l ≤ N)) ∧ f_X3_timesTold_18 F (nI i) (nI l) 15 (nI N) n (nI x) (nI lim) h = some (nI T, h) := by
    intro k
    induction k with
    | zero =>
      intro x n hx hn hy
      obtain ⟨n, rfl⟩ := succ_of hn
      obtain ⟨a, b, c⟩ := fin x (by omega) hy (Or.inl (by omega))
      refine ⟨1 + x / l, a, b, c, ?_⟩
      rw [f_X3_timesTold_18, if_pos (by rw [e_le (by omega) (by omega)]; omega), e48 x (by omega)]
    | succ k ih =>
      intro x n hx hn hy
      obtain ⟨n, rfl⟩ := succ_of hn
      obtain ⟨q1, q2⟩ := hw (i + x) (by omega)
      obtain ⟨q3, q4⟩ := hw (i + x + l) (by omega)
      have e : f_X3_timesTold_18 F (nI i) (nI l) 15 (nI N) (n + 1) (nI x) (nI lim) h = if w (i + x) = w (i + x + l) then f_X3_timesTold_18 F (nI i) (nI l) 15 (nI N) n (nI (x + 1)) (nI lim) h else f_X3_timesTold_48 F (nI i) (nI l) 15 (nI N) (nI x) h := by
        rw [f_X3_timesTold_18, if_neg (by rw [e_le (by omega) (by omega)]; omega), e_add, e_add, if_pos (inb_t (show i + x < ln 15 by show i + x < 32; omega) (by decide)), if_pos (inb_t (show i + x + l < ln 15 by show i + x + l < 32; omega) (by decide)), e_ix (by omega), e_ix (by omega), q1, q3, i_eq (by omega) (by omega), e_add]
      rw [e]
      by_cases g : w (i + x) = w (i + x + l)
      · rw [if_pos g]
        exact ih (x + 1) n (by omega) (by omega) (fun y hy1 => by
          by_cases z : y = x
          · rw [z]; exact g
          · exact hy y (by omega))
      · rw [if_neg g]
        obtain ⟨a, b, c⟩ := fin x (by omega) hy (Or.inr g)
        exact ⟨1 + x / l, a, b, c, e48 x (by omega)⟩
  obtain ⟨T, t1, t2, t3, t4⟩ := lp lim 0 F (by omega) (by omega) (fun y hy => by omega)
  refine ⟨T, t1, t2, t3, ?_⟩
  unfold f_X3_timesTold
  rw [e_sub (by omega), e_sub (by omega), e_mul, min_n F (by omega) (by omega), ob_eq]
  exact t4
