/-! ===== numbers, bits, loops ===== -/
theorem e31 : (2 : Nat) ^ 31 = 2147483648 := by decide
theorem e_lt {a b : Nat} (ha : a < 2147483648) (hb : b < 2147483648) : (nI a < nI b) = (a < b) := propext (nI_ltI (by rw [e31]; exact ha) (by rw [e31]; exact hb))
theorem e_le {a b : Nat} (ha : a < 2147483648) (hb : b < 2147483648) : (nI a ≤ nI b) = (a ≤ b) := propext (nI_leI (by rw [e31]; exact ha) (by rw [e31]; exact hb))
theorem e_eq {a b : Nat} (ha : a < 2147483648) (hb : b < 2147483648) : (nI a = nI b) = (a = b) := propext (nI_eq (by rw [e31]; exact ha) (by rw [e31]; exact hb))
theorem e_ix {j : Nat} (h : j < 2147483648) : ix (nI j) = j := nI_clamp (by rw [e31]; exact h)
theorem e_sub {a b : Nat} (h : b ≤ a) : nI a - nI b = nI (a - b) := pk_sub h
theorem e_mul (a b : Nat) : nI a * nI b = nI (a * b) := pk_mul a b
theorem e_add (a b : Nat) : nI a + nI b = nI (a + b) := nI_add a b
theorem e_inb {j L : Nat} (h : j < 2147483648) : inb (nI j) L = decide (j < L) := by
  unfold inb
  have h0 : ¬ nI j < 0 := nI_pos (by rw [e31]; exact h)
  have h1 : (nI j).toNatClampNeg = j := e_ix h
  rw [h1]
  by_cases hj : j < L
  · simp [h0, hj]
  · simp [Nat.le_of_not_lt hj]
theorem inb_t {j L : Nat} (h : j < L) (hL : L < 2147483648) : inb (nI j) L = true := by
  rw [e_inb (Nat.lt_trans h hL)]
  exact decide_eq_true h
theorem ob_eq {α β : Type} (a : α) (h : HP) (k : α → HP → Option β) : ob (some (a, h)) k = k a h := rfl
theorem obv_eq {β : Type} (h : HP) (k : HP → Option β) : obv (some h) k = k h := rfl
theorem ob3_eq {β : Type} (a : Int32) (t : TW) (h : HP) (k : Int32 → TW → HP → Option β) : ob3 (some (a, t, h)) k = k a t h := rfl
theorem up_c {h : HP} {k j q : Nat} {x : Int32} (hq : q ≠ k) : up h k j x q = h q := upc_ne h _ hq
theorem up_s {h : HP} {k j : Nat} {x : Int32} : up h k j x k j = x := by unfold up upc upd; rw [if_pos rfl, if_pos rfl]
theorem up_n {h : HP} {k j i : Nat} {x : Int32} (hi : i ≠ j) : up h k j x k i = h k i := by unfold up upc upd; rw [if_pos rfl, if_neg hi]
theorem up_at (h : HP) (k j : Nat) (x : Int32) (q i : Nat) : up h k j x q i = if q = k ∧ i = j then x else h q i := by
  by_cases hq : q = k
  · subst hq
    by_cases hi : i = j
    · subst hi; rw [up_s, if_pos ⟨rfl, rfl⟩]
    · rw [up_n hi, if_neg (fun z => hi z.2)]
  · rw [up_c hq, if_neg (fun z => hq z.1)]
theorem cpy_at (h : HP) (a x b y n q i : Nat) (hx : x < 2147483648) (hy : y < 2147483648) (hn : n < 2147483648) : cpy h a (nI x) b (nI y) (nI n) q i = if q = b ∧ y ≤ i ∧ i < y + n then h a (x + (i - y)) else h q i := by
  unfold cpy
  rw [show (nI x).toNatClampNeg = x from e_ix hx, show (nI y).toNatClampNeg = y from e_ix hy, show (nI n).toNatClampNeg = n from e_ix hn]
  by_cases hq : q = b
  · subst hq
    rw [upc_same]
    by_cases hi : y ≤ i ∧ i < y + n
    · rw [pk_cpy_in hi.1 hi.2, if_pos ⟨rfl, hi⟩]
    · rw [pk_cpy_out (by omega), if_neg (fun z => hi z.2)]
  · rw [upc_ne h _ hq, if_neg (fun z => hq z.1)]
theorem cpy_c {h : HP} {a b q : Nat} {x y n : Int32} (hq : q ≠ b) : cpy h a x b y n q = h q := upc_ne h _ hq
theorem cpb_t {x y n L0 L1 : Nat} (h0 : x + n ≤ L0) (h1 : y + n ≤ L1) (hL0 : L0 < 2147483648) (hL1 : L1 < 2147483648) : cpb (nI x) (nI y) (nI n) L0 L1 = true := by
  unfold cpb
  have a1 : (nI x).toNatClampNeg = x := e_ix (by omega)
  have a2 : (nI y).toNatClampNeg = y := e_ix (by omega)
  have a3 : (nI n).toNatClampNeg = n := e_ix (by omega)
  rw [a1, a2, a3]
  exact decide_eq_true ⟨nI_pos (by rw [e31]; omega), nI_pos (by rw [e31]; omega), nI_pos (by rw [e31]; omega), h0, h1⟩
/-- a bit -/
def bn (s i : Nat) : Nat := s / 2 ^ i % 2
theorem bn_lt (s i : Nat) : bn s i < 2 := Nat.mod_lt _ (by decide)
theorem e_and (a b : Nat) : nI a &&& nI b = nI (a &&& b) := by
  apply Int32.toBitVec_inj.mp
  show BitVec.ofNat 32 a &&& BitVec.ofNat 32 b = BitVec.ofNat 32 (a &&& b)
  exact (BitVec.ofNat_and).symm
theorem e_or (a b : Nat) : nI a ||| nI b = nI (a ||| b) := by
  apply Int32.toBitVec_inj.mp
  show BitVec.ofNat 32 a ||| BitVec.ofNat 32 b = BitVec.ofNat 32 (a ||| b)
  exact (BitVec.ofNat_or).symm
theorem e_xor (a b : Nat) : nI a ^^^ nI b = nI (a ^^^ b) := by
  apply Int32.toBitVec_inj.mp
  show BitVec.ofNat 32 a ^^^ BitVec.ofNat 32 b = BitVec.ofNat 32 (a ^^^ b)
  exact (BitVec.ofNat_xor).symm
theorem s31 : ∀ n, n < 32 → ((nI n &&& 31).toBitVec.smod 32).toNat = n := by decide +kernel
theorem e_shr {s i : Nat} (hs : s < 2147483648) (hi : i < 32) : jshr (nI s) (nI i) = nI (s / 2 ^ i) := pk_shrN (by rw [e31]; exact hs) _ i (s31 i hi)
theorem e_shl {s i : Nat} (hi : i < 32) (h : s * 2 ^ i < 4294967296) : jshl (nI s) (nI i) = nI (s * 2 ^ i) := pk_shlN _ i (s31 i hi) (by exact h)
theorem e_bit {s i : Nat} (hs : s < 2147483648) (hi : i < 32) : jshr (nI s) (nI i) &&& nI 1 = nI (bn s i) := by
  rw [e_shr hs hi, e_and, Nat.and_one_is_mod]
  rfl
theorem e_one {i : Nat} (hi : i < 31) : jshl (nI 1) (nI i) = nI (2 ^ i) := by
  rw [e_shl (by omega), Nat.one_mul]
  rw [Nat.one_mul]
  have : 2 ^ i ≤ 2 ^ 31 := Nat.pow_le_pow_right (by decide) (by omega)
  omega
/-- how many bits of eight -/
def popc (s : Nat) : Nat := bn s 0 + bn s 1 + bn s 2 + bn s 3 + bn s 4 + bn s 5 + bn s 6 + bn s 7
theorem popc_le (s : Nat) : popc s ≤ 8 := by
  unfold popc
  have h := bn_lt s
  have := h 0; have := h 1; have := h 2; have := h 3; have := h 4; have := h 5; have := h 6; have := h 7
  omega
theorem bc_all : ∀ s, s < 256 → (f_J6_bitCount_0f7a4 0 (nI s) (fun _ _ => 0)).map (fun q => q.1) = some (nI (popc s)) := by decide +kernel
theorem bc_spec (F : Nat) {s : Nat} (hs : s < 256) (h : HP) : f_J6_bitCount_0f7a4 F (nI s) h = some (nI (popc s), h) := by
  have := bc_all s hs
  unfold f_J6_bitCount_0f7a4 at this ⊢
  simp only [Option.map_some, Option.some.injEq] at this
  rw [this]
def bl : Nat → Int32 → Int32 → Option Int32
  | 0, _, _ => none
  | n + 1, a, x => if x = nI 0 then some a else bl n (a + nI 1) (x &&& (x - nI 1))
theorem bl_eq (F : Nat) (x0 : Int32) : ∀ (n : Nat) (a x : Int32) (h : HP), f_X7_bits_4 F x0 n a x h = (bl n a x).map (fun r => (r, h)) := by
  intro n
  induction n with
  | zero => intro a x h; rfl
  | succ n ih =>
    intro a x h
    rw [f_X7_bits_4, bl]
    by_cases hx : x = nI 0
    · rw [if_pos hx, if_pos hx]; rfl
    · rw [if_neg hx, if_neg hx]; exact ih _ _ _
theorem bl_mono : ∀ {n k : Nat} {a x r : Int32}, bl n a x = some r → bl (n + k) a x = some r := by
  intro n
  induction n with
  | zero => intro k a x r h; cases h
  | succ n ih =>
    intro k a x r h
    rw [show n + 1 + k = (n + k) + 1 by omega, bl]
    rw [bl] at h
    by_cases hx : x = nI 0
    · rw [if_pos hx] at h ⊢; exact h
    · rw [if_neg hx] at h ⊢; exact ih h
theorem bl_all : ∀ s, s < 256 → bl 10 (nI 0) (nI s) = some (nI (popc s)) := by decide +kernel
theorem bits_spec {F : Nat} (hF : 600 ≤ F) {s : Nat} (hs : s < 256) (h : HP) : f_X7_bits F (nI s) h = some (nI (popc s), h) := by
  unfold f_X7_bits
  rw [bl_eq]
  have := bl_mono (k := F - 10) (bl_all s hs)
  rw [show 10 + (F - 10) = F by omega] at this
  rw [this]
  rfl
/-- x is one of y .. z -/
theorem in_spec (F : Nat) (x y z : Int32) (h : HP) : f_X7_in F x.toInt64 y.toInt64 z.toInt64 h = some (if y ≤ x ∧ x ≤ z then nI 1 else nI 0, h) := by
  unfold f_X7_in
  have e1 : (lg_cmp x.toInt64 y.toInt64 < nI 0) ↔ ¬ y ≤ x := by
    rw [nI_0, ← Int32.not_le, lg_cmp_ge, Int64.le_iff_toInt_le, Int32.toInt_toInt64, Int32.toInt_toInt64, Int32.le_iff_toInt_le]
  have e2 : (nI 0 < lg_cmp x.toInt64 z.toInt64) ↔ ¬ x ≤ z := by
    rw [nI_0, Int32.le_iff_toInt_le]
    unfold lg_cmp
    have q1 : (x.toInt64 > z.toInt64) ↔ z.toInt < x.toInt := by rw [gt_iff_lt, Int64.lt_iff_toInt_lt, Int32.toInt_toInt64, Int32.toInt_toInt64]
    by_cases g : z.toInt < x.toInt
    · rw [if_pos (q1.mpr g)]
      exact ⟨fun _ => by omega, fun _ => by decide⟩
    · rw [if_neg (fun w => g (q1.mp w))]
      constructor
      · intro w
        split at w
        · exact absurd w (by decide)
        · exact absurd w (by decide)
      · intro w; omega
  by_cases h1 : y ≤ x
  · rw [if_neg (fun w => e1.mp w h1)]
    by_cases h2 : x ≤ z
    · rw [if_neg (fun w => e2.mp w h2), if_pos ⟨h1, h2⟩]
    · rw [if_pos (e2.mpr h2), if_neg (fun w => h2 w.2)]
  · rw [if_pos (e1.mpr h1), if_neg (fun w => h1 w.1)]
theorem l64 {n : Nat} (h : n < 2147483648) : lN n = (nI n).toInt64 := (nI_l (by rw [e31]; exact h)).symm
/-- a number is a place below n, or not -/
theorem cas (x : Int32) {n : Nat} (hn : n < 2147483648) : (∃ j, j < n ∧ x = nI j) ∨ (x < nI 0 ∨ nI n ≤ x) := by
  rcases pk_ix x (n := n) (by rw [e31]; exact hn) with h | h | h
  · exact Or.inr (Or.inl (by rw [nI_0]; exact h))
  · exact Or.inr (Or.inr h)
  · exact Or.inl h
/-- a sum over i .. i + k - 1 -/
def sg (f : Nat → Nat) : Nat → Nat → Nat
  | _, 0 => 0
  | i, k + 1 => f i + sg f (i + 1) k
theorem sg_congr {f g : Nat → Nat} : ∀ {k i : Nat}, (∀ j, i ≤ j → j < i + k → f j = g j) → sg f i k = sg g i k := by
  intro k
  induction k with
  | zero => intro i _; rfl
  | succ k ih =>
    intro i h
    show f i + sg f (i + 1) k = g i + sg g (i + 1) k
    rw [h i (Nat.le_refl _) (by omega), ih (fun j a b => h j (by omega) (by omega))]
theorem sg_le {f : Nat → Nat} {m : Nat} (hf : ∀ j, f j ≤ m) : ∀ (k i : Nat), sg f i k ≤ k * m := by
  intro k
  induction k with
  | zero => intro i; exact Nat.zero_le _
  | succ k ih =>
    intro i
    show f i + sg f (i + 1) k ≤ _
    have := ih (i + 1)
    have := hf i
    rw [Nat.succ_mul]
    omega
theorem sg_add (f g : Nat → Nat) : ∀ (k i : Nat), sg (fun j => f j + g j) i k = sg f i k + sg g i k := by
  intro k
  induction k with
  | zero => intro i; rfl
  | succ k ih =>
    intro i
    show f i + g i + sg (fun j => f j + g j) (i + 1) k = f i + sg f (i + 1) k + (g i + sg g (i + 1) k)
    rw [ih]
    omega
theorem sg_last (f : Nat → Nat) : ∀ (k i : Nat), sg f i (k + 1) = sg f i k + f (i + k) := by
  intro k
  induction k with
  | zero => intro i; show f i + 0 = 0 + f i; omega
  | succ k ih =>
    intro i
    show f i + sg f (i + 1) (k + 1) = f i + sg f (i + 1) k + f (i + (k + 1))
    rw [ih (i + 1), show i + 1 + k = i + (k + 1) by omega]
    omega
theorem sg_shift (f : Nat → Nat) (d : Nat) : ∀ (k i : Nat), sg f (i + d) k = sg (fun j => f (j + d)) i k := by
  intro k
  induction k with
  | zero => intro i; rfl
  | succ k ih =>
    intro i
    show f (i + d) + sg f (i + d + 1) k = f (i + d) + sg (fun j => f (j + d)) (i + 1) k
    rw [show i + d + 1 = i + 1 + d by omega, ih]
theorem sg_split (f : Nat → Nat) (m : Nat) : ∀ (k i : Nat), sg f i (k + m) = sg f i k + sg f (i + k) m := by
  intro k
  induction k with
  | zero => intro i; rw [Nat.zero_add]; show _ = 0 + sg f (i + 0) m; simp
  | succ k ih =>
    intro i
    rw [show k + 1 + m = (k + m) + 1 by omega]
    show f i + sg f (i + 1) (k + m) = f i + sg f (i + 1) k + sg f (i + (k + 1)) m
    rw [ih, show i + 1 + k = i + (k + 1) by omega]
    omega
/-- round: the rows from any one on are all rows -/
theorem sg_round (f : Nat → Nat) {N k : Nat} (hk : k < N) : sg (fun r => f ((r + k) % N)) 0 N = sg f 0 N := by
  have e1 : sg (fun r => f ((r + k) % N)) 0 (N - k) = sg f k (N - k) := by
    have := sg_shift f k (N - k) 0
    rw [Nat.zero_add] at this
    rw [this]
    exact sg_congr (fun j _ b => by rw [Nat.mod_eq_of_lt (by omega)])
  have e2 : sg (fun r => f ((r + k) % N)) (N - k) k = sg f 0 k := by
    have := sg_shift (fun r => f ((r + k) % N)) (N - k) k 0
    rw [Nat.zero_add] at this
    rw [this]
    refine sg_congr (fun j _ b => ?_)
    rw [show j + (N - k) + k = j + N by omega, Nat.add_mod_right, Nat.mod_eq_of_lt (by omega)]
  have a1 := sg_split (fun r => f ((r + k) % N)) k (N - k) 0
  have a2 := sg_split f (N - k) k 0
  rw [show N - k + k = N by omega, Nat.zero_add] at a1
  rw [show k + (N - k) = N by omega, Nat.zero_add] at a2
  rw [a1, a2, e1, e2]
  omega
theorem i_le {α : Type} {a b : Nat} (ha : a < 2147483648) (hb : b < 2147483648) (x y : α) : (if nI a ≤ nI b then x else y) = (if a ≤ b then x else y) := by
  by_cases g : a ≤ b
  · rw [if_pos (by rw [e_le ha hb]; exact g), if_pos g]
  · rw [if_neg (by rw [e_le ha hb]; exact g), if_neg g]
theorem i_lt {α : Type} {a b : Nat} (ha : a < 2147483648) (hb : b < 2147483648) (x y : α) : (if nI a < nI b then x else y) = (if a < b then x else y) := by
  by_cases g : a < b
  · rw [if_pos (by rw [e_lt ha hb]; exact g), if_pos g]
  · rw [if_neg (by rw [e_lt ha hb]; exact g), if_neg g]
theorem i_eq {α : Type} {a b : Nat} (ha : a < 2147483648) (hb : b < 2147483648) (x y : α) : (if nI a = nI b then x else y) = (if a = b then x else y) := by
  by_cases g : a = b
  · rw [if_pos (by rw [e_eq ha hb]; exact g), if_pos g]
  · rw [if_neg (by rw [e_eq ha hb]; exact g), if_neg g]
