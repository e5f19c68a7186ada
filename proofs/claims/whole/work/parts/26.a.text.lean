/-! ===== the text: what both read ===== -/
def TXX (n : Nat) (t : Nat → Nat) (h : HP) : Prop := n ≤ 200 ∧ h 1 1 = nI n ∧ ∀ j, j < n → h 2 j = nI (t j) ∧ 32 ≤ t j ∧ t j ≤ 126
def TXM (n : Nat) (t : Nat → Nat) (g : HP) : Prop := n ≤ 200 ∧ g 39 10 = nI n ∧ ∀ j, j < n → g 46 j = nI (t j) ∧ 32 ≤ t j ∧ t j ≤ 126
def chr (n : Nat) (t : Nat → Nat) (q : Nat) : Nat := if q < n then t q else 0
def hIr (n : Nat) (t : Nat → Nat) (q : Nat) : Int32 := if q < n then nI (t q) else -1
/-- only the place has changed -/
def PFx (h h' : HP) : Prop := (∀ z, z ≠ 1 → h' z = h z) ∧ ∀ j, j ≠ 2 → h' 1 j = h 1 j
def PFm (g g' : HP) : Prop := (∀ z, z ≠ 39 → g' z = g z) ∧ ∀ j, j ≠ 14 → g' 39 j = g 39 j
theorem PFx.refl (h : HP) : PFx h h := ⟨fun _ _ => rfl, fun _ _ => rfl⟩
theorem PFm.refl (h : HP) : PFm h h := ⟨fun _ _ => rfl, fun _ _ => rfl⟩
theorem PFx.trans {h h' h'' : HP} (a : PFx h h') (b : PFx h' h'') : PFx h h'' := ⟨fun z hz => by rw [b.1 z hz, a.1 z hz], fun j hj => by rw [b.2 j hj, a.2 j hj]⟩
theorem PFm.trans {h h' h'' : HP} (a : PFm h h') (b : PFm h' h'') : PFm h h'' := ⟨fun z hz => by rw [b.1 z hz, a.1 z hz], fun j hj => by rw [b.2 j hj, a.2 j hj]⟩
theorem PFx.up (h : HP) (x : Int32) : PFx h (up h 1 2 x) := ⟨fun z hz => up_c hz, fun j hj => up_n hj⟩
theorem PFm.up (h : HP) (x : Int32) : PFm h (up h 39 14 x) := ⟨fun z hz => up_c hz, fun j hj => up_n hj⟩
theorem TXX.pf {n : Nat} {t : Nat → Nat} {h h' : HP} (x : TXX n t h) (p : PFx h h') : TXX n t h' := by
  unfold TXX
  rw [p.2 1 (by decide), p.1 2 (by decide)]
  exact x
theorem TXM.pf {n : Nat} {t : Nat → Nat} {h h' : HP} (x : TXM n t h) (p : PFm h h') : TXM n t h' := by
  unfold TXM
  rw [p.2 10 (by decide), p.1 46 (by decide)]
  exact x
theorem chr_le {n : Nat} {t : Nat → Nat} {h : HP} (x : TXX n t h) (q : Nat) : chr n t q ≤ 126 := by
  unfold chr
  split
  · exact (x.2.2 q (by assumption)).2.2
  · decide
theorem chr_lt {n : Nat} {t : Nat → Nat} {q : Nat} (h : chr n t q ≠ 0) : q < n := by
  unfold chr at h
  by_cases z : q < n
  · exact z
  · rw [if_neg z] at h; exact absurd rfl h
theorem peek_n (F : Nat) {n : Nat} {t : Nat → Nat} {h : HP} {q : Nat} (x : TXX n t h) (hq : h 1 2 = nI q) (hq2 : q < 1000) : f_X4_peek F h = some (nI (chr n t q), h) := by
  obtain ⟨x1, x2, x3⟩ := x
  unfold f_X4_peek chr
  rw [hq, x2, if_neg (by rw [e_lt (by omega) (by decide)]; omega)]
  by_cases z : q < n
  · rw [if_neg (by rw [e_le (by omega) (by omega)]; omega), if_pos (inb_t (by omega) (by decide)), e_ix (by omega), if_pos z, (x3 q z).1]
  · rw [if_pos (by rw [e_le (by omega) (by omega)]; omega), if_neg z]
theorem here_n (F : Nat) {n : Nat} {t : Nat → Nat} {g : HP} {q : Nat} (x : TXM n t g) (hq : g 39 14 = nI q) (hq2 : q < 1000) : f_X7_here F g = some (hIr n t q, g) := by
  obtain ⟨x1, x2, x3⟩ := x
  unfold f_X7_here hIr
  rw [hq, x2]
  by_cases z : q < n
  · rw [if_neg (by rw [e_le (by omega) (by omega)]; omega), if_pos (inb_t (by omega) (by decide)), e_ix (by omega), if_pos z, (x3 q z).1]
  · rw [if_pos (by rw [e_le (by omega) (by omega)]; omega), if_neg z]
theorem m1_ne {a : Nat} (h : a < 2147483648) : ¬ (-1 : Int32) = nI a := fun e => by
  have := congrArg Int32.toInt e
  rw [nI_toInt (by rw [e31]; exact h)] at this
  have e2 : (-1 : Int32).toInt = -1 := by decide
  omega
theorem hIr_eq {α : Type} {n : Nat} {t : Nat → Nat} {q a : Nat} (ht : ∀ j, j < n → t j ≤ 126) (h1 : 1 ≤ a) (h2 : a < 1000) (x y : α) : (if hIr n t q = nI a then x else y) = if chr n t q = a then x else y := by
  unfold hIr chr
  by_cases z : q < n
  · have := ht q z
    rw [if_pos z, if_pos z]
    exact i_eq (by omega) (by omega) x y
  · rw [if_neg z, if_neg z, if_neg (m1_ne (by omega)), if_neg (by omega)]
theorem hIr_in (F : Nat) {n : Nat} {t : Nat → Nat} {q a b : Nat} (ht : ∀ j, j < n → t j ≤ 126) (h1 : 1 ≤ a) (h2 : a < 1000) (h3 : b < 1000) (g : HP) : f_X7_in F (hIr n t q).toInt64 (lN a) (lN b) g = some (if a ≤ chr n t q ∧ chr n t q ≤ b then nI 1 else nI 0, g) := by
  rw [l64 (show a < 2147483648 by omega), l64 (show b < 2147483648 by omega), in_spec]
  unfold hIr chr
  by_cases z : q < n
  · have := ht q z
    rw [if_pos z, if_pos z]
    by_cases y : a ≤ t q ∧ t q ≤ b
    · rw [if_pos y, if_pos (by rw [e_le (by omega) (by omega), e_le (by omega) (by omega)]; exact y)]
    · rw [if_neg y, if_neg (by rw [e_le (by omega) (by omega), e_le (by omega) (by omega)]; exact y)]
  · rw [if_neg z, if_neg z, if_neg (fun w => m1_nle (by omega) w.1), if_neg (by omega)]
/-- the class: one letter taken -/
theorem accept_n (F : Nat) {n : Nat} {t : Nat → Nat} {h : HP} {q c : Nat} (x : TXX n t h) (hq : h 1 2 = nI q) (hq2 : q < 1000) (hc : c < 1000) : f_X4_accept F (nI c) h = if chr n t q = c then some (nI 1, up h 1 2 (nI (q + 1))) else some (nI 0, h) := by
  have := chr_le x q
  unfold f_X4_accept
  rw [peek_n F x hq hq2, ob_eq, i_eq (by omega) (by omega), hq, e_add]
theorem sub48 {c a : Nat} (hc : c < 1000) (ha : a < 1000) : (nI c - nI a < nI 0) ↔ c < a := by
  constructor
  · intro h
    rcases Nat.lt_or_ge c a with q | q
    · exact q
    · rw [e_sub q, e_lt (by omega) (by decide)] at h; omega
  · intro h
    exact Int32.not_le.mp (nsub_neg h (by omega))
def isd (c : Nat) : Prop := 48 ≤ c ∧ c ≤ 57
theorem figure_n (F : Nat) {n : Nat} {t : Nat → Nat} {h : HP} {q : Nat} (x : TXX n t h) (hq : h 1 2 = nI q) (hq2 : q < 1000) : (isd (chr n t q) ∧ f_X4_readFigure F h = some (nI (chr n t q - 48), up h 1 2 (nI (q + 1)))) ∨ (¬ isd (chr n t q) ∧ f_X4_readFigure F h = some (-1, h)) := by
  have := chr_le x q
  unfold f_X4_readFigure
  rw [peek_n F x hq hq2, ob_eq]
  by_cases z : chr n t q < 48
  · rw [if_pos ((sub48 (by omega) (by decide)).mpr z)]
    exact Or.inr ⟨fun w => by unfold isd at w; omega, rfl⟩
  · rw [if_neg (fun w => z ((sub48 (by omega) (by decide)).mp w)), e_sub (by omega)]
    by_cases y : chr n t q ≤ 57
    · rw [if_pos (by rw [e_le (by omega) (by decide)]; omega), hq, e_add]
      exact Or.inl ⟨⟨by omega, y⟩, rfl⟩
    · rw [if_neg (by rw [e_le (by omega) (by decide)]; omega)]
      exact Or.inr ⟨fun w => y w.2, rfl⟩
/-- a number of one or two figures -/
def num (n : Nat) (t : Nat → Nat) (q v q' : Nat) : Prop := isd (chr n t q) ∧ ¬ isd (chr n t q') ∧ (q' = q + 1 ∧ v = chr n t q - 48 ∨ q' = q + 2 ∧ isd (chr n t (q + 1)) ∧ v = 10 * (chr n t q - 48) + (chr n t (q + 1) - 48))
theorem num_lt {n : Nat} {t : Nat → Nat} {q v q' : Nat} (h : num n t q v q') : v < 100 ∧ q' ≤ n ∧ q < q' ∧ q' ≤ q + 2 := by
  obtain ⟨h1, h2, h3⟩ := h
  have := chr_lt (n := n) (t := t) (q := q) (by unfold isd at h1; omega)
  rcases h3 with ⟨e1, e2⟩ | ⟨e1, e2, e3⟩
  · unfold isd at h1; omega
  · have := chr_lt (n := n) (t := t) (q := q + 1) (by unfold isd at e2; omega)
    unfold isd at h1 e2; omega
theorem number_n (F : Nat) {n : Nat} {t : Nat → Nat} {h : HP} {q : Nat} (x : TXX n t h) (hq : h 1 2 = nI q) (hq2 : q < 900) : ∃ r h' q', f_X4_readNumber F h = some (r, h') ∧ h' 1 2 = nI q' ∧ PFx h h' ∧ q' ≤ q + 2 ∧ ((∃ v, num n t q v q' ∧ r = nI v) ∨ (r = -1 ∧ ∀ v q2, ¬ num n t q v q2) ∨ (isd (chr n t q') ∧ ∀ v q2, ¬ num n t q v q2)) := by
  unfold f_X4_readNumber
  rcases figure_n F x hq (by omega) with ⟨d, e⟩ | ⟨d, e⟩
  · have hd := d
    unfold isd at hd
    rw [e, ob_eq, if_pos (by rw [e_le (by decide) (by omega)]; omega)]
    have p1 := PFx.up h (nI (q + 1))
    have x1 := x.pf p1
    have hq1 : (up h 1 2 (nI (q + 1))) 1 2 = nI (q + 1) := up_s
    rcases figure_n F x1 hq1 (by omega) with ⟨d2, e2⟩ | ⟨d2, e2⟩
    · have hd2 := d2
      unfold isd at hd2
      rw [e2, ob_eq, if_pos (by rw [e_le (by decide) (by omega)]; omega), e_mul, e_add]
      refine ⟨_, _, q + 2, rfl, up_s, p1.trans (PFx.up _ _), Nat.le_refl _, ?_⟩
      by_cases d3 : isd (chr n t (q + 2))
      · refine Or.inr (Or.inr ⟨d3, fun v q2 hn => ?_⟩)
        obtain ⟨n1, n2, n3⟩ := hn
        rcases n3 with ⟨n4, _⟩ | ⟨n4, _⟩
        · rw [n4] at n2; exact n2 d2
        · rw [n4] at n2; exact n2 d3
      · refine Or.inl ⟨10 * (chr n t q - 48) + (chr n t (q + 1) - 48), ⟨d, d3, Or.inr ⟨rfl, d2, rfl⟩⟩, ?_⟩
        congr 1; omega
    · rw [e2, ob_eq, if_neg (by decide)]
      exact ⟨_, _, q + 1, rfl, up_s, p1, by omega, Or.inl ⟨chr n t q - 48, ⟨d, d2, Or.inl ⟨rfl, rfl⟩⟩, rfl⟩⟩
  · rw [e, ob_eq, if_neg (by decide)]
    exact ⟨_, _, q, rfl, hq, PFx.refl _, by omega, Or.inr (Or.inl ⟨rfl, fun v q2 hn => d hn.1⟩)⟩
