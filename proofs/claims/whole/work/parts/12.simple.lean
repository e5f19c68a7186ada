/-! ===== the plain calls ===== -/
def Same (fX fM : HP → Option (Int32 × HP)) (h : HP) : Prop := ∃ r, fX h = some (r, h) ∧ fM h = some (r, h)
theorem X6_isRow_t (F : Nat) {tw : TW} {N j : Nat} {h : HP} (hN : h tw.1 4 = nI N) (hb : N ≤ 32) (hj : j < N) : f_X6_isRow F tw (nI j) h = some (nI 1, h) := by
  unfold f_X6_isRow
  rw [hN, if_neg (by rw [e_lt (by omega) (by decide)]; omega), if_neg (by rw [e_le (by omega) (by omega)]; omega)]
theorem X6_isRow_f (F : Nat) {tw : TW} {N : Nat} {x : Int32} {h : HP} (hN : h tw.1 4 = nI N) (hx : x < nI 0 ∨ nI N ≤ x) : f_X6_isRow F tw x h = some (nI 0, h) := by
  unfold f_X6_isRow
  rw [hN]
  by_cases g : x < nI 0
  · rw [if_pos g]
  · rw [if_neg g, if_pos (hx.resolve_left g)]
theorem X6_isBell_t (F : Nat) {tw : TW} {B j : Nat} {h : HP} (hB : h tw.1 0 = nI B) (hb : B ≤ 8) (hj : j < B) : f_X6_isBell F tw (nI j) h = some (nI 1, h) := by
  unfold f_X6_isBell
  rw [hB, if_neg (by rw [e_lt (by omega) (by decide)]; omega), if_neg (by rw [e_le (by omega) (by omega)]; omega)]
theorem X6_isBell_f (F : Nat) {tw : TW} {B : Nat} {x : Int32} {h : HP} (hB : h tw.1 0 = nI B) (hx : x < nI 0 ∨ nI B ≤ x) : f_X6_isBell F tw x h = some (nI 0, h) := by
  unfold f_X6_isBell
  rw [hB]
  by_cases g : x < nI 0
  · rw [if_pos g]
  · rw [if_neg g, if_pos (hx.resolve_left g)]
theorem X6_isSet_t (F : Nat) {tw : TW} {B j : Nat} {h : HP} (hB : h tw.1 0 = nI B) (hb : B ≤ 8) (hj : j < 2 ^ B) : f_X6_isSet F tw (nI j) h = some (nI 1, h) := by
  have h256 := p2le hb
  unfold f_X6_isSet f_X5_everyBell
  rw [if_neg (by rw [e_lt (by omega) (by decide)]; omega), ob_eq, hB, e_one (by omega), e_sub (by omega), if_neg (by rw [e_lt (by omega) (by omega)]; omega)]
theorem X6_isSet_f (F : Nat) {tw : TW} {B : Nat} {x : Int32} {h : HP} (hB : h tw.1 0 = nI B) (hb : B ≤ 8) (hx : x < nI 0 ∨ nI (2 ^ B) ≤ x) : f_X6_isSet F tw x h = some (nI 0, h) := by
  have h256 := p2le hb
  have hp : 0 < 2 ^ B := Nat.pow_pos (by decide)
  unfold f_X6_isSet f_X5_everyBell
  by_cases g : x < nI 0
  · rw [if_pos g]
  · rw [if_neg g, ob_eq, hB, e_one (by omega), e_sub (by omega)]
    have h1 := hx.resolve_left g
    rw [Int32.le_iff_toInt_le, nI_toInt (by rw [e31]; omega)] at h1
    rw [if_pos (by rw [Int32.lt_iff_toInt_lt, nI_toInt (by rw [e31]; omega)]; omega)]
theorem in_t {F : Nat} {j a b : Nat} (h : HP) (hj : a ≤ j) (hb : j ≤ b) (hbb : b < 2147483648) : f_X7_in F (nI j).toInt64 (nI a).toInt64 (nI b).toInt64 h = some (nI 1, h) := by
  rw [in_spec, if_pos ⟨by rw [e_le (by omega) (by omega)]; exact hj, by rw [e_le (by omega) (by omega)]; exact hb⟩]
theorem in_f {F : Nat} {x : Int32} {n : Nat} (h : HP) (h0 : 0 < n) (hn : n < 2147483648) (hx : x < nI 0 ∨ nI n ≤ x) : f_X7_in F x.toInt64 (nI 0).toInt64 (nI (n - 1)).toInt64 h = some (nI 0, h) := by
  rw [in_spec, if_neg]
  rintro ⟨a, b⟩
  rw [Int32.le_iff_toInt_le, nI_toInt (by decide)] at a
  rw [Int32.le_iff_toInt_le, nI_toInt (by rw [e31]; omega)] at b
  rcases hx with g | g
  · rw [Int32.lt_iff_toInt_lt, nI_toInt (by decide)] at g
    omega
  · rw [Int32.le_iff_toInt_le, nI_toInt (by rw [e31]; omega)] at g
    omega
theorem guard01 {α : Type} {v : Int32} (hv : v = nI 0 ∨ v = nI 1) (a : Option α) : (if v = nI 0 ∨ v = nI 1 then a else none) = a := if_pos hv
theorem X7_isRow_t (F : Nat) {N j : Nat} {h : HP} (hN : h 40 1 = nI N) (hb : N ≤ 32) (hj : j < N) : f_X7_isRow F (nI j) h = some (nI 1, h) := by
  unfold f_X7_isRow
  rw [hN, e_sub (by omega), l64 (by decide), in_t h (by omega) (by omega) (by omega), ob_eq, guard01 (Or.inr rfl)]
theorem X7_isRow_f (F : Nat) {N : Nat} {x : Int32} {h : HP} (hN : h 40 1 = nI N) (h0 : 0 < N) (hb : N ≤ 32) (hx : x < nI 0 ∨ nI N ≤ x) : f_X7_isRow F x h = some (nI 0, h) := by
  unfold f_X7_isRow
  rw [hN, e_sub (by omega), l64 (by decide), in_f h h0 (by omega) hx, ob_eq, guard01 (Or.inl rfl)]
theorem X7_isBell_t (F : Nat) {B j : Nat} {h : HP} (hB : h 40 0 = nI B) (hb : B ≤ 8) (hj : j < B) : f_X7_isBell F (nI j) h = some (nI 1, h) := by
  unfold f_X7_isBell
  rw [hB, e_sub (by omega), l64 (by decide), in_t h (by omega) (by omega) (by omega), ob_eq, guard01 (Or.inr rfl)]
theorem X7_isBell_f (F : Nat) {B : Nat} {x : Int32} {h : HP} (hB : h 40 0 = nI B) (h0 : 0 < B) (hb : B ≤ 8) (hx : x < nI 0 ∨ nI B ≤ x) : f_X7_isBell F x h = some (nI 0, h) := by
  unfold f_X7_isBell
  rw [hB, e_sub (by omega), l64 (by decide), in_f h h0 (by omega) hx, ob_eq, guard01 (Or.inl rfl)]
theorem X7_isSet_t (F : Nat) {B j : Nat} {h : HP} (hB : h 40 0 = nI B) (hb : B ≤ 8) (hj : j < 2 ^ B) : f_X7_isSet F (nI j) h = some (nI 1, h) := by
  have h256 := p2le hb
  unfold f_X7_isSet
  rw [hB, e_one (by omega), e_sub (by omega), l64 (by decide), in_t h (by omega) (by omega) (by omega), ob_eq, guard01 (Or.inr rfl)]
theorem X7_isSet_f (F : Nat) {B : Nat} {x : Int32} {h : HP} (hB : h 40 0 = nI B) (hb : B ≤ 8) (hx : x < nI 0 ∨ nI (2 ^ B) ≤ x) : f_X7_isSet F x h = some (nI 0, h) := by
  have h256 := p2le hb
  have hp : 0 < 2 ^ B := Nat.pow_pos (by decide)
  unfold f_X7_isSet
  rw [hB, e_one (by omega), e_sub (by omega), l64 (by decide), in_f h hp (by omega) hx, ob_eq, guard01 (Or.inl rfl)]
theorem n10 : ¬ nI 1 = nI 0 := by decide
/-- pins -/
theorem op_pins {F c : Nat} {tw : TW} {h : HP} (i : INV c tw h) (x : Int32) : Same (f_X6_pins F tw x) (f_X7_pins F x) h := by
  obtain ⟨-, B, N, R, T, M, hT, hC, hM, hS, hD, -⟩ := i
  have hN1 := hC.2.1
  have hN2 := hM.2.1
  rcases cas x (n := N) (by have := hT.2.2.2.1; omega) with ⟨j, hj, rfl⟩ | hx
  · have hb := hT.2.2.2.1
    refine ⟨h 15 j, ?_, ?_⟩
    · unfold f_X6_pins
      rw [X6_isRow_t F hN1 hb hj, ob_eq, if_neg n10, if_pos (inb_t (by omega) (by decide)), e_ix (by omega)]
    · unfold f_X7_pins
      rw [X7_isRow_t F hN2 hb hj, ob_eq, if_neg n10, e_add, if_pos (inb_t (by omega) (by decide)), e_ix (by omega), pin_of hD (by omega)]
  · refine ⟨-1, ?_, ?_⟩
    · unfold f_X6_pins
      rw [X6_isRow_f F hN1 hx, ob_eq, if_pos rfl]
    · unfold f_X7_pins
      rw [X7_isRow_f F hN2 (by have := hT.2.2.1; omega) hT.2.2.2.1 hx, ob_eq, if_pos rfl]
theorem has_n (F : Nat) {s i : Nat} (hs : s < 256) (hi : i < 8) (h : HP) : f_X7_has F (nI s) (nI i) h = some (nI (bn s i), h) := by
  unfold f_X7_has
  have := bn_lt s i
  rw [e_bit (by omega) (by omega)]
  rcases (show bn s i = 0 ∨ bn s i = 1 by omega) with e | e <;> rw [e]
  · rw [if_neg (by decide)]
  · rw [if_pos rfl]
/-- pins of a bell, rows from i on -/
theorem X6_pinsOfBell_loop {F : Nat} {tw : TW} {N b : Nat} {h : HP} {p : Nat → Nat} (hN : h tw.1 4 = nI N) (hb : N ≤ 32) (hb8 : b < 8) (hp : ∀ r, r < 32 → h 15 r = nI (p r) ∧ p r < 256) :
    ∀ (k i n acc : Nat), i + k = N → k < n → f_X6_pinsOfBell_4 F tw (nI b) n (nI acc) (nI i) h = some (nI (acc + sg (fun r => bn (p r) b) i k), h) := by
  intro k
  induction k with
  | zero =>
    intro i n acc hi hn
    obtain ⟨n, rfl⟩ : ∃ m, n = m + 1 := ⟨n - 1, by omega⟩
    rw [f_X6_pinsOfBell_4, hN, if_pos (by rw [e_le (by omega) (by omega)]; omega)]
    rfl
  | succ k ih =>
    intro i n acc hi hn
    obtain ⟨n, rfl⟩ : ∃ m, n = m + 1 := ⟨n - 1, by omega⟩
    obtain ⟨q1, q2⟩ := hp i (by omega)
    rw [f_X6_pinsOfBell_4, hN, if_neg (by rw [e_le (by omega) (by omega)]; omega), if_pos (inb_t (by omega) (by decide)), e_ix (by omega), q1, e_bit (by omega) (by omega), e_add, e_add, ih (i + 1) n _ (by omega) (by omega), Nat.add_assoc]
    rfl
theorem X7_bell_loop {F : Nat} {N b : Nat} {x2 : Int32} {h : HP} {p : Nat → Nat} (hN : h 40 1 = nI N) (hb : N ≤ 32) (hb8 : b < 8) (hp : ∀ r, r < 32 → h 43 (2 + r) = nI (p r) ∧ p r < 256) :
    ∀ (k i n acc : Nat), i + k = N → k < n → f_X7_bell_15 F (nI b) x2 n (nI acc) (nI i) h = f_X7_bell_15 F (nI b) x2 1 (nI (acc + sg (fun r => bn (p r) b) i k)) (nI N) h := by
  intro k
  induction k with
  | zero =>
    intro i n acc hi hn
    obtain ⟨n, rfl⟩ : ∃ m, n = m + 1 := ⟨n - 1, by omega⟩
    obtain rfl : i = N := by omega
    rw [f_X7_bell_15, f_X7_bell_15, hN, if_pos (Int32.le_refl (nI i)), if_pos (Int32.le_refl (nI i))]
    rfl
  | succ k ih =>
    intro i n acc hi hn
    obtain ⟨n, rfl⟩ : ∃ m, n = m + 1 := ⟨n - 1, by omega⟩
    obtain ⟨q1, q2⟩ := hp i (by omega)
    rw [f_X7_bell_15, hN, if_neg (by rw [e_le (by omega) (by omega)]; omega), e_add, if_pos (inb_t (by omega) (by decide)), e_ix (by omega), q1, has_n F q2 hb8, ob_eq]
    have hbn := bn_lt (p i) b
    have e : (if nI (bn (p i) b) = nI 0 then nI 0 else nI 1) = nI (bn (p i) b) := by
      rcases (show bn (p i) b = 0 ∨ bn (p i) b = 1 by omega) with e | e <;> rw [e]
      · rw [if_pos rfl]
      · rw [if_neg n10]
    rw [e, e_add, e_add, ih (i + 1) n _ (by omega) (by omega), Nat.add_assoc]
    rfl
theorem op_bell {F c : Nat} (hF : 600 ≤ F) {tw : TW} {h : HP} (i : INV c tw h) (x y : Int32) : Same (f_X6_bell F tw x y) (f_X7_bell F x y) h := by
  obtain ⟨-, B, N, R, T, M, hT, hC, hM, hS, hD, -⟩ := i
  obtain ⟨hB1, hB8, hN2, hN32, hR6, hTM⟩ := hT
  rcases cas x (n := B) (by omega) with ⟨b, hb, rfl⟩ | hx
  · have hp15 : ∀ r, r < 32 → h 15 r = nI (pv h r) ∧ pv h r < 256 := fun r hr => by
      rw [pin_of hD hr]
      exact ⟨(pv_of hB8 hS hr).1, (pv_of hB8 hS hr).2.2⟩
    have hp43 : ∀ r, r < 32 → h 43 (2 + r) = nI (pv h r) ∧ pv h r < 256 := fun r hr => ⟨(pv_of hB8 hS hr).1, (pv_of hB8 hS hr).2.2⟩
    unfold Same f_X6_bell f_X7_bell
    rw [X6_isBell_t F hC.1 hB8 hb, X7_isBell_t F hM.1 hB8 hb, ob_eq, ob_eq, if_neg n10, if_neg n10, X7_bell_loop hM.2.1 hN32 (by omega) hp43 N 0 F 0 (by omega) (by omega), Nat.zero_add, f_X7_bell_15, hM.2.1, if_pos (Int32.le_refl (nI N))]
    by_cases g0 : y = nI 0
    · rw [if_pos g0, if_pos g0, if_pos (inb_t (by omega) (by decide)), e_ix (by omega), e_add, if_pos (inb_t (by omega) (by decide)), e_ix (by omega), (hC.2.2.2 b hb).1, (hM.2.2.2 b hb).1]
      exact ⟨_, rfl, rfl⟩
    rw [if_neg g0, if_neg g0]
    by_cases g1 : y = nI 1
    · rw [if_pos g1, if_pos g1, if_pos (inb_t (by omega) (by decide)), e_ix (by omega), e_add, if_pos (inb_t (by omega) (by decide)), e_ix (by omega), (hC.2.2.2 b hb).2.1, (hM.2.2.2 b hb).2]
      exact ⟨_, rfl, rfl⟩
    rw [if_neg g1, if_neg g1]
    by_cases g2 : y = nI 2
    · rw [if_pos g2, if_pos g2]
      unfold f_X6_pinsOfBell
      rw [X6_pinsOfBell_loop hC.2.1 hN32 (by omega) hp15 N 0 F 0 (by omega) (by omega), ob_eq, Nat.zero_add]
      exact ⟨_, rfl, rfl⟩
    rw [if_neg g2, if_neg g2]
    have q : ∀ j, 50 ≤ j → j < 66 → dv h 14 j = h 43 j := fun j a b => hD.1 j b (Or.inr a)
    by_cases g3 : y = nI 3
    · rw [if_pos g3, if_pos g3, if_pos (inb_t (by omega) (by decide)), e_ix (by omega), e_add, if_pos (inb_t (by omega) (by decide)), e_ix (by omega)]
      have := q (50 + b) (by omega) (by omega)
      unfold dv at this
      rw [if_neg (by omega), if_neg (by omega), if_neg (by omega), if_neg (by omega), if_pos (by omega), show 50 + b - 50 = b by omega] at this
      rw [← this]
      exact ⟨_, rfl, rfl⟩
    rw [if_neg g3, if_neg g3]
    by_cases g4 : y = nI 4
    · rw [if_pos g4, if_pos g4, if_pos (inb_t (by omega) (by decide)), e_ix (by omega), e_add, if_pos (inb_t (by omega) (by decide)), e_ix (by omega)]
      have := q (58 + b) (by omega) (by omega)
      unfold dv at this
      rw [if_neg (by omega), if_neg (by omega), if_neg (by omega), if_neg (by omega), if_neg (by omega), show 58 + b - 58 = b by omega] at this
      rw [← this]
      exact ⟨_, rfl, rfl⟩
    rw [if_neg g4, if_neg g4]
    exact ⟨_, rfl, rfl⟩
  · refine ⟨-1, ?_, ?_⟩
    · unfold f_X6_bell
      rw [X6_isBell_f F hC.1 hx, ob_eq, if_pos rfl]
    · unfold f_X7_bell
      rw [X7_isBell_f F hM.1 (by omega) hB8 hx, ob_eq, if_pos rfl]
/-- all pins -/
theorem X6_allPins_loop {F : Nat} {tw : TW} {N : Nat} {h : HP} {p : Nat → Nat} (hN : h tw.1 4 = nI N) (hb : N ≤ 32) (hp : ∀ r, r < 32 → h 15 r = nI (p r) ∧ p r < 256) :
    ∀ (k i n acc : Nat), i + k = N → k < n → f_X6_allPins_4 F tw n (nI acc) (nI i) h = some (nI (acc + sg (fun r => popc (p r)) i k), h) := by
  intro k
  induction k with
  | zero =>
    intro i n acc hi hn
    obtain ⟨n, rfl⟩ : ∃ m, n = m + 1 := ⟨n - 1, by omega⟩
    rw [f_X6_allPins_4, hN, if_pos (by rw [e_le (by omega) (by omega)]; omega)]
    rfl
  | succ k ih =>
    intro i n acc hi hn
    obtain ⟨n, rfl⟩ : ∃ m, n = m + 1 := ⟨n - 1, by omega⟩
    obtain ⟨q1, q2⟩ := hp i (by omega)
    rw [f_X6_allPins_4, hN, if_neg (by rw [e_le (by omega) (by omega)]; omega), if_pos (inb_t (by omega) (by decide)), e_ix (by omega), q1, bc_spec F q2, ob_eq, e_add, e_add, ih (i + 1) n _ (by omega) (by omega), Nat.add_assoc]
    rfl
theorem X7_count_loop {F : Nat} (hF : 600 ≤ F) {N : Nat} {x : Int32} {h : HP} {p : Nat → Nat} (hN : h 40 1 = nI N) (hb : N ≤ 32) (hp : ∀ r, r < 32 → h 43 (2 + r) = nI (p r) ∧ p r < 256) :
    ∀ (k i n acc : Nat), i + k = N → k < n → f_X7_count_4 F x n (nI acc) (nI i) h = f_X7_count_4 F x 1 (nI (acc + sg (fun r => popc (p r)) i k)) (nI N) h := by
  intro k
  induction k with
  | zero =>
    intro i n acc hi hn
    obtain ⟨n, rfl⟩ : ∃ m, n = m + 1 := ⟨n - 1, by omega⟩
    obtain rfl : i = N := by omega
    rw [f_X7_count_4, f_X7_count_4, hN, if_pos (Int32.le_refl (nI i)), if_pos (Int32.le_refl (nI i))]
    rfl
  | succ k ih =>
    intro i n acc hi hn
    obtain ⟨n, rfl⟩ : ∃ m, n = m + 1 := ⟨n - 1, by omega⟩
    obtain ⟨q1, q2⟩ := hp i (by omega)
    rw [f_X7_count_4, hN, if_neg (by rw [e_le (by omega) (by omega)]; omega), e_add, if_pos (inb_t (by omega) (by decide)), e_ix (by omega), q1, bits_spec hF q2, ob_eq, e_add, e_add, ih (i + 1) n _ (by omega) (by omega), Nat.add_assoc]
    rfl
theorem op_count {F c : Nat} (hF : 600 ≤ F) {tw : TW} {h : HP} (i : INV c tw h) (x : Int32) : Same (f_X6_count F tw x) (f_X7_count F x) h := by
  obtain ⟨-, B, N, R, T, M, hT, hC, hM, hS, hD, ⟨k1, hU, hU'⟩, ⟨k2, hK, hK'⟩, -, ⟨k3, -, hH1, hH2, -⟩, ⟨n, -, hX1, hX2, -⟩⟩ := i
  obtain ⟨hB1, hB8, hN2, hN32, hR6, hTM⟩ := hT
  have hp15 : ∀ r, r < 32 → h 15 r = nI (pv h r) ∧ pv h r < 256 := fun r hr => by
    rw [pin_of hD hr]
    exact ⟨(pv_of hB8 hS hr).1, (pv_of hB8 hS hr).2.2⟩
  have hp43 : ∀ r, r < 32 → h 43 (2 + r) = nI (pv h r) ∧ pv h r < 256 := fun r hr => ⟨(pv_of hB8 hS hr).1, (pv_of hB8 hS hr).2.2⟩
  unfold Same f_X7_count
  rw [X7_count_loop hF hM.2.1 hN32 hp43 N 0 F 0 (by omega) (by omega), Nat.zero_add, f_X7_count_4, hM.2.1, if_pos (Int32.le_refl (nI N))]
  unfold f_X6_count
  by_cases g0 : x = nI 0
  · subst g0
    rw [if_pos rfl, if_pos rfl, if_pos (inb_t (by decide) (by decide)), e_ix (by decide), hC.1, hM.1]
    exact ⟨_, rfl, rfl⟩
  rw [if_neg g0, if_neg g0]
  by_cases g1 : x = nI 1
  · subst g1
    rw [if_pos rfl, if_pos rfl, if_pos (inb_t (by decide) (by decide)), e_ix (by decide), hC.2.1, hM.2.1]
    exact ⟨_, rfl, rfl⟩
  rw [if_neg g1, if_neg g1]
  by_cases g2 : x = nI 2
  · subst g2
    rw [if_pos rfl, if_pos rfl, if_pos (inb_t (by decide) (by decide)), e_ix (by decide), hC.2.2.1, hM.2.2.1]
    exact ⟨_, rfl, rfl⟩
  rw [if_neg g2, if_neg g2]
  by_cases g3 : x = nI 3
  · rw [if_pos g3, if_pos g3]
    unfold f_X6_allPins
    rw [X6_allPins_loop hC.2.1 hN32 hp15 N 0 F 0 (by omega) (by omega), ob_eq, Nat.zero_add]
    exact ⟨_, rfl, rfl⟩
  rw [if_neg g3, if_neg g3]
  by_cases g4 : x = nI 4
  · rw [if_pos g4, if_pos g4]
    exact ⟨_, rfl, by rw [← hD.1 1 (by decide) (Or.inl (by decide))]; rfl⟩
  rw [if_neg g4, if_neg g4]
  by_cases g5 : x = nI 5
  · rw [if_pos g5, if_pos g5]
    exact ⟨_, rfl, by rw [← hD.1 0 (by decide) (Or.inl (by decide))]; rfl⟩
  rw [if_neg g5, if_neg g5]
  by_cases g6 : x = nI 6
  · rw [if_pos g6, if_pos g6, hH1, hH2]
    exact ⟨_, rfl, rfl⟩
  rw [if_neg g6, if_neg g6]
  by_cases g7 : x = nI 7
  · rw [if_pos g7, if_pos g7, hU.2.2.1, hU']
    exact ⟨_, rfl, rfl⟩
  rw [if_neg g7, if_neg g7]
  by_cases g8 : x = nI 8
  · rw [if_pos g8, if_pos g8, hK.2.2.1, hK']
    exact ⟨_, rfl, rfl⟩
  rw [if_neg g8, if_neg g8]
  by_cases g9 : x = nI 9
  · rw [if_pos g9, if_pos g9, hX1, hX2]
    exact ⟨_, rfl, rfl⟩
  rw [if_neg g9, if_neg g9]
  exact ⟨_, rfl, rfl⟩
