/-! ===== silence, again, changes, stood ===== -/
theorem succ_of {k n : Nat} (h : k < n) : ∃ m, n = m + 1 := ⟨n - 1, by omega⟩
theorem max_n (F : Nat) {a b : Nat} (ha : a < 2147483648) (hb : b < 2147483648) (h : HP) : f_J9_max_7cf53 F (nI a) (nI b) h = some (nI (max a b), h) := by
  unfold f_J9_max_7cf53
  rw [i_lt ha hb]
  by_cases g : a < b
  · rw [if_pos g, Nat.max_eq_right (by omega)]
  · rw [if_neg g, Nat.max_eq_left (by omega)]
theorem min_n (F : Nat) {a b : Nat} (ha : a < 2147483648) (hb : b < 2147483648) (h : HP) : f_J9_min_7cf53 F (nI a) (nI b) h = some (nI (min a b), h) := by
  unfold f_J9_min_7cf53
  rw [i_lt hb ha]
  by_cases g : b < a
  · rw [if_pos g, Nat.min_eq_right (by omega)]
  · rw [if_neg g, Nat.min_eq_left (by omega)]
/-- the most rows without a pin: k more rows from i on -/
def silf (z : Nat → Bool) : Nat → Nat → Nat → Nat → Nat
  | 0, _, m, _ => m
  | k + 1, i, m, w => silf z k (i + 1) (max m (if z i then w + 1 else 0)) (if z i then w + 1 else 0)
theorem X6_silence_loop {F : Nat} {tw : TW} {N : Nat} {h : HP} {p : Nat → Nat} (hN : h tw.1 4 = nI N) (h0 : 0 < N) (hb : N ≤ 32) (hp : ∀ r, r < 32 → h 15 r = nI (p r) ∧ p r < 256) :
    ∀ (k i n m w : Nat), i + k = 2 * N → k < n → m ≤ i → w ≤ i → f_X6_silence_6 F tw n (nI m) (nI w) (nI i) h = some (nI (min (silf (fun j => p (j % N) == 0) k i m w) N), h) := by
  intro k
  induction k with
  | zero =>
    intro i n m w hi hn hm hw
    obtain ⟨n, rfl⟩ := succ_of hn
    rw [f_X6_silence_6, hN, e_mul, if_pos (by rw [e_le (by omega) (by omega)]; omega), min_n F (by omega) (by omega), ob_eq]
    rfl
  | succ k ih =>
    intro i n m w hi hn hm hw
    obtain ⟨n, rfl⟩ := succ_of hn
    have hlt : i % N < N := Nat.mod_lt _ h0
    obtain ⟨q1, q2⟩ := hp (i % N) (by omega)
    rw [f_X6_silence_6, hN, e_mul, if_neg (by rw [e_le (by omega) (by omega)]; omega), rowBehind_n F hN h0 (by omega) (by omega), ob_eq, Nat.zero_add, if_pos (inb_t (by omega) (by decide)), e_ix (by omega), q1]
    by_cases g : p (i % N) = 0
    · rw [if_pos (by rw [g]), e_add, max_n F (by omega) (by omega), ob_eq, e_add, ih (i + 1) n _ _ (by omega) (by omega) (by omega) (by omega)]
      have : silf (fun j => p (j % N) == 0) (k + 1) i m w = silf (fun j => p (j % N) == 0) k (i + 1) (max m (w + 1)) (w + 1) := by
        show silf _ k (i + 1) (max m (if (p (i % N) == 0) = true then w + 1 else 0)) (if (p (i % N) == 0) = true then w + 1 else 0) = _
        rw [if_pos (by rw [g]; rfl)]
      rw [this]
    · rw [if_neg (by rw [e_eq (by omega) (by decide)]; exact g), max_n F (by omega) (by omega), ob_eq, e_add, ih (i + 1) n _ _ (by omega) (by omega) (by omega) (by omega)]
      have : silf (fun j => p (j % N) == 0) (k + 1) i m w = silf (fun j => p (j % N) == 0) k (i + 1) (max m 0) 0 := by
        show silf _ k (i + 1) (max m (if (p (i % N) == 0) = true then w + 1 else 0)) (if (p (i % N) == 0) = true then w + 1 else 0) = _
        rw [if_neg (by simpa using g)]
      rw [this]
theorem X7_silence_loop {F : Nat} {N : Nat} {h : HP} {p : Nat → Nat} (hN : h 40 1 = nI N) (h0 : 0 < N) (hb : N ≤ 32) (hp : ∀ r, r < 32 → h 43 (2 + r) = nI (p r) ∧ p r < 256) :
    ∀ (k i n m w : Nat), i + k = 2 * N → k < n → m ≤ i → w ≤ i → f_X7_silence_6 F n (nI m) (nI w) (nI i) h = some (nI (min (silf (fun j => p (j % N) == 0) k i m w) N), h) := by
  intro k
  induction k with
  | zero =>
    intro i n m w hi hn hm hw
    obtain ⟨n, rfl⟩ := succ_of hn
    rw [f_X7_silence_6, hN, e_mul, if_pos (by rw [e_le (by omega) (by omega)]; omega)]
    show _ = some (nI (min m N), h)
    by_cases g : m ≤ N
    · rw [if_pos (by rw [e_le (by omega) (by omega)]; exact g), Nat.min_eq_left g]
    · rw [if_neg (by rw [e_le (by omega) (by omega)]; exact g), Nat.min_eq_right (by omega)]
  | succ k ih =>
    intro i n m w hi hn hm hw
    obtain ⟨n, rfl⟩ := succ_of hn
    have hlt : i % N < N := Nat.mod_lt _ h0
    obtain ⟨q1, q2⟩ := hp (i % N) (by omega)
    rw [f_X7_silence_6, hN, e_mul, if_neg (by rw [e_le (by omega) (by omega)]; omega), if_pos (by rw [Ne, e_eq (by omega) (by decide)]; omega), jrem_n (by omega) h0 (by omega), e_add, if_pos (inb_t (by omega) (by decide)), e_ix (by omega), q1]
    have emax : ∀ v : Nat, v ≤ i + 1 → (if nI v ≤ nI m then nI m else nI v) = nI (max m v) := by
      intro v hv
      by_cases g : v ≤ m
      · rw [if_pos (by rw [e_le (by omega) (by omega)]; exact g), Nat.max_eq_left g]
      · rw [if_neg (by rw [e_le (by omega) (by omega)]; exact g), Nat.max_eq_right (by omega)]
    by_cases g : p (i % N) = 0
    · have c0 : nI (p (i % N)) = nI 0 := by rw [g]
      simp only [if_pos c0]
      rw [e_add, emax _ (by omega), e_add, ih (i + 1) n _ _ (by omega) (by omega) (by omega) (by omega)]
      have : silf (fun j => p (j % N) == 0) (k + 1) i m w = silf (fun j => p (j % N) == 0) k (i + 1) (max m (w + 1)) (w + 1) := by
        show silf _ k (i + 1) (max m (if (p (i % N) == 0) = true then w + 1 else 0)) (if (p (i % N) == 0) = true then w + 1 else 0) = _
        rw [if_pos (by rw [g]; rfl)]
      rw [this]
    · have c0 : ¬ nI (p (i % N)) = nI 0 := by rw [e_eq (by omega) (by decide)]; exact g
      simp only [if_neg c0]
      rw [emax _ (by omega), e_add, ih (i + 1) n _ _ (by omega) (by omega) (by omega) (by omega)]
      have : silf (fun j => p (j % N) == 0) (k + 1) i m w = silf (fun j => p (j % N) == 0) k (i + 1) (max m 0) 0 := by
        show silf _ k (i + 1) (max m (if (p (i % N) == 0) = true then w + 1 else 0)) (if (p (i % N) == 0) = true then w + 1 else 0) = _
        rw [if_neg (by simpa using g)]
      rw [this]
theorem op_silence {F c : Nat} (hF : 600 ≤ F) {tw : TW} {h : HP} (i : INV c tw h) : Same (f_X6_silence F tw) (f_X7_silence F) h := by
  obtain ⟨-, B, N, R, T, M, ⟨hB1, hB8, hN2, hN32, hR6, hTM⟩, hC, hM, hS, hD, -⟩ := i
  have hp43 : ∀ r, r < 32 → h 43 (2 + r) = nI (pv h r) ∧ pv h r < 256 := fun r hr => ⟨(pv_of hB8 hS hr).1, (pv_of hB8 hS hr).2.2⟩
  have hp15 : ∀ r, r < 32 → h 15 r = nI (pv h r) ∧ pv h r < 256 := fun r hr => by rw [pin_of hD hr]; exact hp43 r hr
  exact ⟨_, X6_silence_loop hC.2.1 (by omega) hN32 hp15 (2 * N) 0 F 0 0 (by omega) (by omega) (by omega) (by omega), X7_silence_loop hM.2.1 (by omega) hN32 hp43 (2 * N) 0 F 0 0 (by omega) (by omega) (by omega) (by omega)⟩
/-- all of i .. i + k - 1 -/
def allr (Q : Nat → Bool) : Nat → Nat → Bool
  | _, 0 => true
  | i, k + 1 => Q i && allr Q (i + 1) k
theorem allr_iff {Q : Nat → Bool} : ∀ {k i : Nat}, allr Q i k = true ↔ ∀ j, i ≤ j → j < i + k → Q j = true := by
  intro k
  induction k with
  | zero => intro i; exact ⟨fun _ j a b => by omega, fun _ => rfl⟩
  | succ k ih =>
    intro i
    show (Q i && allr Q (i + 1) k) = true ↔ _
    rw [Bool.and_eq_true, ih]
    constructor
    · rintro ⟨a, b⟩ j h1 h2
      by_cases e : j = i
      · rw [e]; exact a
      · exact b j (by omega) (by omega)
    · intro a
      exact ⟨a i (by omega) (by omega), fun j h1 h2 => a j (by omega) (by omega)⟩
def bI (b : Bool) : Int32 := if b then nI 1 else nI 0
theorem bI_t : bI true = nI 1 := rfl
theorem bI_f : bI false = nI 0 := rfl
theorem bI_01 (b : Bool) : bI b = nI 0 ∨ bI b = nI 1 := by cases b; exact Or.inl rfl; exact Or.inr rfl
theorem X6_again_in {F : Nat} {tw : TW} {N q : Nat} {h : HP} {p : Nat → Nat} (hN : h tw.1 4 = nI N) (h0 : 0 < N) (hb : N ≤ 32) (hq : q < 100) (hp : ∀ r, r < 32 → h 15 r = nI (p r) ∧ p r < 256) :
    ∀ (k i n : Nat), i + k = N → k < n → f_X6_comesAgainAfter_2 F tw (nI q) n (nI i) h = some (bI (allr (fun r => p r == p ((r + q) % N)) i k), h) := by
  intro k
  induction k with
  | zero =>
    intro i n hi hn
    obtain ⟨n, rfl⟩ := succ_of hn
    rw [f_X6_comesAgainAfter_2, hN, if_pos (by rw [e_le (by omega) (by omega)]; omega)]
    rfl
  | succ k ih =>
    intro i n hi hn
    obtain ⟨n, rfl⟩ := succ_of hn
    have hlt : (i + q) % N < N := Nat.mod_lt _ h0
    obtain ⟨q1, q2⟩ := hp i (by omega)
    obtain ⟨r1, r2⟩ := hp ((i + q) % N) (by omega)
    rw [f_X6_comesAgainAfter_2, hN, if_neg (by rw [e_le (by omega) (by omega)]; omega), if_pos (inb_t (by omega) (by decide)), rowBehind_n F hN h0 (by omega) (by omega), ob_eq, if_pos (inb_t (by omega) (by decide)), e_ix (by omega), e_ix (by omega), q1, r1, i_eq (by omega) (by omega)]
    show _ = some (bI ((p i == p ((i + q) % N)) && allr _ (i + 1) k), h)
    by_cases g : p i = p ((i + q) % N)
    · rw [if_pos g, e_add, ih (i + 1) n (by omega) (by omega), beq_iff_eq.mpr g, Bool.true_and]
    · rw [if_neg g, beq_eq_false_iff_ne.mpr g]
      rfl
theorem X7_again_in {F : Nat} {N q : Nat} {h : HP} {p : Nat → Nat} (hN : h 40 1 = nI N) (h0 : 0 < N) (hb : N ≤ 32) (hq : q < 100) (hp : ∀ r, r < 32 → h 43 (2 + r) = nI (p r) ∧ p r < 256) :
    ∀ (k i n : Nat) (d : Bool), i + k = N → k < n → f_X7_comesAgain_4 F (nI q) n (bI d) (nI i) h = some (bI (d && allr (fun r => p ((r + N - q % N) % N) == p r) i k), h) := by
  intro k
  induction k with
  | zero =>
    intro i n d hi hn
    obtain ⟨n, rfl⟩ := succ_of hn
    rw [f_X7_comesAgain_4, hN, if_pos (by rw [e_le (by omega) (by omega)]; omega), guard01 (bI_01 d)]
    show _ = some (bI (d && true), h)
    rw [Bool.and_true]
  | succ k ih =>
    intro i n d hi hn
    obtain ⟨n, rfl⟩ := succ_of hn
    have hlt : (i + N - q % N) % N < N := Nat.mod_lt _ h0
    have hqm : q % N < N := Nat.mod_lt _ h0
    obtain ⟨q1, q2⟩ := hp i (by omega)
    obtain ⟨r1, r2⟩ := hp ((i + N - q % N) % N) (by omega)
    rw [f_X7_comesAgain_4, hN, if_neg (by rw [e_le (by omega) (by omega)]; omega)]
    cases d with
    | false =>
      rw [bI_f, if_pos rfl, e_add, show nI 0 = bI false from rfl, ih (i + 1) n false (by omega) (by omega)]
      rfl
    | true =>
      rw [bI_t, if_neg n10, if_pos (by rw [Ne, e_eq (by omega) (by decide)]; omega), jrem_n (by omega) h0 (by omega), shifted_n F hN h0 hb (by omega) (by omega), ob_eq, e_add, if_pos (inb_t (by omega) (by decide)), e_ix (by omega), q1, r1, i_eq (by omega) (by omega), e_add]
      show _ = some (bI (true && ((p ((i + N - q % N) % N) == p i) && allr _ (i + 1) k)), h)
      have e : (if p ((i + N - q % N) % N) = p i then nI 1 else nI 0) = bI (p ((i + N - q % N) % N) == p i) := by
        by_cases g : p ((i + N - q % N) % N) = p i
        · rw [if_pos g, beq_iff_eq.mpr g]; rfl
        · rw [if_neg g, beq_eq_false_iff_ne.mpr g]; rfl
      rw [e, ih (i + 1) n _ (by omega) (by omega), Bool.true_and]
theorem mod_back {N r q : Nat} (hr : r < N) (hq : q < N) : ((r + q) % N + N - q) % N = r := by
  by_cases g : r + q < N
  · rw [Nat.mod_eq_of_lt g, show r + q + N - q = r + N by omega, Nat.add_mod_right, Nat.mod_eq_of_lt hr]
  · have : (r + q) % N = r + q - N := by
      rw [Nat.mod_eq_sub_mod (by omega), Nat.mod_eq_of_lt (by omega)]
    rw [this, show r + q - N + N - q = r by omega, Nat.mod_eq_of_lt hr]
theorem mod_forth {N r q : Nat} (hr : r < N) (hq : q < N) : ((r + N - q) % N + q) % N = r := by
  by_cases g : r < q
  · rw [Nat.mod_eq_of_lt (show r + N - q < N by omega), show r + N - q + q = r + N by omega, Nat.add_mod_right, Nat.mod_eq_of_lt hr]
  · have : (r + N - q) % N = r - q := by
      rw [show r + N - q = r - q + N by omega, Nat.add_mod_right, Nat.mod_eq_of_lt (by omega)]
    rw [this, show r - q + q = r by omega, Nat.mod_eq_of_lt hr]
theorem again_same {N q : Nat} {p : Nat → Nat} (h0 : 0 < N) (hq : q < N) : allr (fun r => p ((r + N - q % N) % N) == p r) 0 N = allr (fun r => p r == p ((r + q) % N)) 0 N := by
  rw [Nat.mod_eq_of_lt hq]
  apply Bool.eq_iff_iff.mpr
  rw [allr_iff, allr_iff]
  constructor
  · intro a j _ hj
    have hm : (j + q) % N < N := Nat.mod_lt _ h0
    have := a ((j + q) % N) (Nat.zero_le _) (by omega)
    rw [mod_back (by omega) hq] at this
    exact this
  · intro a j _ hj
    have hm : (j + N - q) % N < N := Nat.mod_lt _ h0
    have := a ((j + N - q) % N) (Nat.zero_le _) (by omega)
    rw [mod_forth (by omega) hq] at this
    exact this
def lst (Q : Nat → Bool) : Nat → Nat → Nat
  | p, 0 => p
  | p, k + 1 => if Q p then p else lst Q (p + 1) k
theorem op_again {F c : Nat} (hF : 600 ≤ F) {tw : TW} {h : HP} (i : INV c tw h) : Same (f_X6_again F tw) (f_X7_again F) h := by
  obtain ⟨-, B, N, R, T, M, ⟨hB1, hB8, hN2, hN32, hR6, hTM⟩, hC, hM, hS, hD, -⟩ := i
  have hp43 : ∀ r, r < 32 → h 43 (2 + r) = nI (pv h r) ∧ pv h r < 256 := fun r hr => ⟨(pv_of hB8 hS hr).1, (pv_of hB8 hS hr).2.2⟩
  have hp15 : ∀ r, r < 32 → h 15 r = nI (pv h r) ∧ pv h r < 256 := fun r hr => by rw [pin_of hD hr]; exact hp43 r hr
  have a1 : ∀ (k i n : Nat), i + k = N → k < n → f_X6_again_2 F tw n (nI i) h = some (nI (lst (fun q => allr (fun r => pv h r == pv h ((r + q) % N)) 0 N) i k), h) := by
    intro k
    induction k with
    | zero =>
      intro i n hi hn
      obtain ⟨n, rfl⟩ := succ_of hn
      rw [f_X6_again_2, hC.2.1, if_pos (by rw [e_le (by omega) (by omega)]; omega)]
      show _ = some (nI i, h)
      rw [show N = i by omega]
    | succ k ih =>
      intro i n hi hn
      obtain ⟨n, rfl⟩ := succ_of hn
      rw [f_X6_again_2, hC.2.1, if_neg (by rw [e_le (by omega) (by omega)]; omega), f_X6_comesAgainAfter, X6_again_in hC.2.1 (by omega) hN32 (by omega) hp15 N 0 F (by omega) (by omega), ob_eq]
      show _ = some (nI (if allr (fun r => pv h r == pv h ((r + i) % N)) 0 N = true then i else lst _ (i + 1) k), h)
      cases hb : allr (fun r => pv h r == pv h ((r + i) % N)) 0 N with
      | true => rw [bI_t, if_neg n10, if_pos rfl]
      | false =>
        rw [bI_f, if_pos rfl, e_add, ih (i + 1) n (by omega) (by omega)]
        simp
  have a2 : ∀ (k i n : Nat), i + k = N → k < n → f_X7_again_2 F n (nI i) h = some (nI (lst (fun q => allr (fun r => pv h r == pv h ((r + q) % N)) 0 N) i k), h) := by
    intro k
    induction k with
    | zero =>
      intro i n hi hn
      obtain ⟨n, rfl⟩ := succ_of hn
      rw [f_X7_again_2, f_X7_comesAgain, show nI 1 = bI true from rfl, X7_again_in hM.2.1 (by omega) hN32 (by omega) hp43 N 0 F true (by omega) (by omega), ob_eq]
      have : allr (fun r => pv h ((r + N - i % N) % N) == pv h r) 0 N = true := by
        rw [allr_iff]
        intro j _ hj
        rw [show i = N by omega, Nat.mod_self, Nat.sub_zero, Nat.add_mod_right, Nat.mod_eq_of_lt (by omega)]
        exact beq_self_eq_true _
      rw [this, Bool.true_and, bI_t, if_neg n10]
      rfl
    | succ k ih =>
      intro i n hi hn
      obtain ⟨n, rfl⟩ := succ_of hn
      rw [f_X7_again_2, f_X7_comesAgain, show nI 1 = bI true from rfl, X7_again_in hM.2.1 (by omega) hN32 (by omega) hp43 N 0 F true (by omega) (by omega), ob_eq, again_same (by omega) (by omega), Bool.true_and]
      show _ = some (nI (if allr (fun r => pv h r == pv h ((r + i) % N)) 0 N = true then i else lst _ (i + 1) k), h)
      cases hb : allr (fun r => pv h r == pv h ((r + i) % N)) 0 N with
      | true => rw [bI_t, if_neg n10, if_pos rfl]
      | false =>
        rw [bI_f, if_pos rfl, show bI true = nI 1 from rfl, e_add, ih (i + 1) n (by omega) (by omega)]
        simp
  exact ⟨_, a1 (N - 1) 1 F (by omega) (by omega), a2 (N - 1) 1 F (by omega) (by omega)⟩
/-- the first of the least: k more from i on -/
def amf (v : Nat → Nat) : Nat → Nat → Nat → Nat → Nat × Nat
  | 0, _, b, l => (b, l)
  | k + 1, i, b, l => amf v k (i + 1) (if l ≤ v i then b else i) (if l ≤ v i then l else v i)
theorem amf_congr {v w : Nat → Nat} : ∀ {k i b l : Nat}, (∀ j, i ≤ j → j < i + k → v j = w j) → amf v k i b l = amf w k i b l := by
  intro k
  induction k with
  | zero => intro i b l _; rfl
  | succ k ih =>
    intro i b l h
    show amf v k (i + 1) (if l ≤ v i then b else i) (if l ≤ v i then l else v i) = amf w k (i + 1) (if l ≤ w i then b else i) (if l ≤ w i then l else w i)
    rw [h i (by omega) (by omega), ih (fun j a c => h j (by omega) (by omega))]
theorem ite_n {c : Prop} [Decidable c] (a b : Nat) : (if c then nI a else nI b) = nI (if c then a else b) := by split <;> rfl
/-- if changed so: how many pins -/
theorem X6_chg_loop {F : Nat} {tw : TW} {N q : Nat} {h : HP} {p w : Nat → Nat} (hN : h tw.1 4 = nI N) (h0 : 0 < N) (hb : N ≤ 32) (hq : q < 100) (hp : ∀ r, r < 32 → h 15 r = nI (p r) ∧ p r < 256) (hw : ∀ r, r < 32 → h 28 r = nI (w r) ∧ w r < 256) :
    ∀ (k i n acc : Nat), i + k = N → k < n → f_X6_changesIfShifted_4 F tw (nI q) n (nI acc) (nI i) h = some (nI (acc + sg (fun r => popc (p r ^^^ w ((r + q) % N))) i k), h) := by
  intro k
  induction k with
  | zero =>
    intro i n acc hi hn
    obtain ⟨n, rfl⟩ := succ_of hn
    rw [f_X6_changesIfShifted_4, hN, if_pos (by rw [e_le (by omega) (by omega)]; omega)]
    rfl
  | succ k ih =>
    intro i n acc hi hn
    obtain ⟨n, rfl⟩ := succ_of hn
    have hlt : (i + q) % N < N := Nat.mod_lt _ h0
    obtain ⟨q1, q2⟩ := hp i (by omega)
    obtain ⟨r1, r2⟩ := hw ((i + q) % N) (by omega)
    have hx : p i ^^^ w ((i + q) % N) < 2 ^ 8 := Nat.xor_lt_two_pow q2 r2
    rw [f_X6_changesIfShifted_4, hN, if_neg (by rw [e_le (by omega) (by omega)]; omega), if_pos (inb_t (by omega) (by decide)), rowBehind_n F hN h0 (by omega) (by omega), ob_eq, if_pos (inb_t (by omega) (by decide)), e_ix (by omega), e_ix (by omega), q1, r1, e_xor, bc_spec F hx, ob_eq, e_add, e_add, ih (i + 1) n _ (by omega) (by omega), Nat.add_assoc]
    rfl
theorem X7_chg_loop {F : Nat} (hF : 600 ≤ F) {N q : Nat} {x1 : Int32} {k17 : Int32 → Int32 → Int32 → HP → Option (Int32 × HP)} {b l : Nat} {h : HP} {p w : Nat → Nat} (hN : h 40 1 = nI N) (h0 : 0 < N) (hb : N ≤ 32) (hq : q < N) (hl : l < 2147483648) (hp : ∀ r, r < 32 → h 43 (2 + r) = nI (p r) ∧ p r < 256) (hw : ∀ r, r < 32 → h 47 r = nI (w r) ∧ w r < 256) :
    ∀ (k i n acc : Nat), i + k = N → k < n → acc + 8 * k < 2147483648 → f_X7_changes_34 F x1 k17 n (nI b) (nI l) (nI q) (nI acc) (nI i) h = k17 (nI (if l ≤ acc + sg (fun r => popc (p ((r + N - q) % N) ^^^ w r)) i k then b else q)) (nI (if l ≤ acc + sg (fun r => popc (p ((r + N - q) % N) ^^^ w r)) i k then l else acc + sg (fun r => popc (p ((r + N - q) % N) ^^^ w r)) i k)) (nI (q + 1)) h := by
  intro k
  induction k with
  | zero =>
    intro i n acc hi hn ha
    obtain ⟨n, rfl⟩ := succ_of hn
    rw [f_X7_changes_34, hN, if_pos (by rw [e_le (by omega) (by omega)]; omega), i_le hl (by omega), i_le hl (by omega), ite_n, ite_n, e_add]
    rfl
  | succ k ih =>
    intro i n acc hi hn ha
    obtain ⟨n, rfl⟩ := succ_of hn
    have hlt : (i + N - q) % N < N := Nat.mod_lt _ h0
    obtain ⟨q1, q2⟩ := hp ((i + N - q) % N) (by omega)
    obtain ⟨r1, r2⟩ := hw i (by omega)
    have hx : p ((i + N - q) % N) ^^^ w i < 2 ^ 8 := Nat.xor_lt_two_pow q2 r2
    have h8 := popc_le (p ((i + N - q) % N) ^^^ w i)
    rw [f_X7_changes_34, hN, if_neg (by rw [e_le (by omega) (by omega)]; omega), shifted_n F hN h0 hb (by omega) (by omega), ob_eq, if_pos (inb_t (by omega) (by decide)), e_ix (by omega), q1, r1, e_xor, bits_spec hF hx, ob_eq, e_add, e_add, ih (i + 1) n _ (by omega) (by omega) (by omega), Nat.add_assoc]
    rfl
theorem op_changes {F c : Nat} (hF : 600 ≤ F) {tw : TW} {h : HP} (i : INV c tw h) (x : Int32) : Same (f_X6_changes F tw x) (f_X7_changes F x) h := by
  obtain ⟨-, B, N, R, T, M, ⟨hB1, hB8, hN2, hN32, hR6, hTM⟩, hC, hM, hS, hD, -, -, hW, -⟩ := i
  have hp43 : ∀ r, r < 32 → h 43 (2 + r) = nI (pv h r) ∧ pv h r < 256 := fun r hr => ⟨(pv_of hB8 hS hr).1, (pv_of hB8 hS hr).2.2⟩
  have hp15 : ∀ r, r < 32 → h 15 r = nI (pv h r) ∧ pv h r < 256 := fun r hr => by rw [pin_of hD hr]; exact hp43 r hr
  have h256 := p2le hB8
  have hw47 : ∀ r, r < 32 → h 47 r = nI (ix (h 47 r)) ∧ ix (h 47 r) < 256 := fun r hr => by
    obtain ⟨-, w, hw, e⟩ := hW r hr
    rw [e, e_ix (by omega)]
    exact ⟨rfl, by omega⟩
  have hw28 : ∀ r, r < 32 → h 28 r = nI (ix (h 47 r)) ∧ ix (h 47 r) < 256 := fun r hr => by rw [(hW r hr).1]; exact hw47 r hr
  let v : Nat → Nat := fun q => sg (fun r => popc (pv h r ^^^ ix (h 47 ((r + q) % N)))) 0 N
  have hv : ∀ q, q < N → sg (fun r => popc (pv h ((r + N - q) % N) ^^^ ix (h 47 r))) 0 N = v q := by
    intro q hq
    rw [← sg_round (fun r => popc (pv h ((r + N - q) % N) ^^^ ix (h 47 r))) hq]
    exact sg_congr (fun j _ hj => by
      show popc (pv h (((j + q) % N + N - q) % N) ^^^ _) = _
      rw [mod_back (by omega) hq])
  have hvl : ∀ q, v q ≤ N * 8 := fun q => sg_le (fun j => popc_le _) N 0
  have m1 : ∀ q, q < N → f_X6_changesIfShifted F tw (nI q) h = some (nI (v q), h) := fun q hq => by
    rw [f_X6_changesIfShifted, X6_chg_loop hC.2.1 (by omega) hN32 (by omega) hp15 hw28 N 0 F 0 (by omega) (by omega), Nat.zero_add]
  rcases cas x (n := 2) (by decide) with ⟨j, hj, rfl⟩ | hx
  · have a1 : ∀ (k i n b l : Nat), i + k = N → k < n → l ≤ N * 8 → f_X6_changes_22 F tw (nI j) n (nI b) (nI l) (nI i) h = some (if j = 0 then nI (amf v k i b l).2 else nI (amf v k i b l).1, h) := by
      intro k
      induction k with
      | zero =>
        intro i n b l hi hn hl
        obtain ⟨n, rfl⟩ := succ_of hn
        rw [f_X6_changes_22, hC.2.1, if_pos (by rw [e_le (by omega) (by omega)]; omega), i_eq (by omega) (by decide)]
        show _ = some (if j = 0 then nI l else nI b, h)
        by_cases g : j = 0
        · rw [if_pos g, if_pos g]
        · rw [if_neg g, if_neg g]
      | succ k ih =>
        intro i n b l hi hn hl
        obtain ⟨n, rfl⟩ := succ_of hn
        have := hvl i
        rw [f_X6_changes_22, hC.2.1, if_neg (by rw [e_le (by omega) (by omega)]; omega), m1 i (by omega), ob_eq, i_le (by omega) (by omega), i_le (by omega) (by omega), ite_n, ite_n, e_add, ih (i + 1) n _ _ (by omega) (by omega) (by split <;> omega)]
        rfl
    have a2 : ∀ (k i n b l : Nat), i + k = N → k < n → l < 2147483648 → f_X7_changes_17 F (nI j) n (nI b) (nI l) (nI i) h = some (if j = 0 then nI (amf v k i b l).2 else nI (amf v k i b l).1, h) := by
      intro k
      induction k with
      | zero =>
        intro i n b l hi hn hl
        obtain ⟨n, rfl⟩ := succ_of hn
        rw [f_X7_changes_17, hM.2.1, if_pos (by rw [e_le (by omega) (by omega)]; omega), i_eq (by omega) (by decide)]
        show _ = some (if j = 0 then nI l else nI b, h)
        by_cases g : j = 0
        · rw [if_pos g, if_pos g]
        · rw [if_neg g, if_neg g]
      | succ k ih =>
        intro i n b l hi hn hl
        obtain ⟨n, rfl⟩ := succ_of hn
        have := hvl i
        rw [f_X7_changes_17, hM.2.1, if_neg (by rw [e_le (by omega) (by omega)]; omega), X7_chg_loop hF hM.2.1 (by omega) hN32 (by omega) hl hp43 hw47 N 0 F 0 (by omega) (by omega) (by omega), Nat.zero_add, hv i (by omega), ih (i + 1) n _ _ (by omega) (by omega) (by split <;> omega)]
        rfl
    refine ⟨if j = 0 then nI (amf v (N - 1) 1 0 (v 0)).2 else nI (amf v (N - 1) 1 0 (v 0)).1, ?_, ?_⟩
    · unfold f_X6_changes
      rw [if_neg (by rw [e_lt (by omega) (by decide)]; omega), if_pos (by rw [e_le (by omega) (by decide)]; omega), m1 0 (by omega), ob_eq, a1 (N - 1) 1 F 0 (v 0) (by omega) (by omega) (hvl 0)]
    · unfold f_X7_changes f_X7_isTwo
      rw [l64 (by decide), l64 (by decide), in_t h (by omega) (by omega) (by decide), ob_eq, guard01 (Or.inr rfl), ob_eq, if_neg n10, a2 N 0 F 0 1000000 (by omega) (by omega) (by decide)]
      have e : amf v N 0 0 1000000 = amf v (N - 1) 1 0 (v 0) := by
        rw [show N = (N - 1) + 1 by omega]
        show amf v (N - 1) 1 (if 1000000 ≤ v 0 then 0 else 0) (if 1000000 ≤ v 0 then 1000000 else v 0) = _
        have := hvl 0
        rw [if_neg (by omega), if_neg (by omega)]
        rfl
      rw [e]
  · refine ⟨-1, ?_, ?_⟩
    · unfold f_X6_changes
      rcases hx with g | g
      · rw [if_pos g]
      · have : ¬ x ≤ nI 1 := by
          rw [Int32.le_iff_toInt_le, nI_toInt (by decide)] at g ⊢
          omega
        have g2 : ¬ x < nI 0 := by
          rw [Int32.le_iff_toInt_le, nI_toInt (by decide)] at g
          rw [Int32.lt_iff_toInt_lt, nI_toInt (by decide)]
          omega
        rw [if_neg g2, if_neg this]
    · unfold f_X7_changes f_X7_isTwo
      rw [l64 (by decide), l64 (by decide), show nI 1 = nI (2 - 1) from rfl, in_f h (by decide) (by decide) hx, ob_eq, guard01 (Or.inl rfl), ob_eq, if_pos rfl]
