/-! ===== harsh, canon ===== -/
theorem sg_zero {f : Nat → Nat} : ∀ {k i : Nat}, (∀ j, i ≤ j → j < i + k → f j = 0) → sg f i k = 0 := by
  intro k i h
  have := sg_congr (f := f) (g := fun _ => 0) h
  rw [this]
  have z : ∀ (k i : Nat), sg (fun _ => 0) i k = 0 := by
    intro k
    induction k with
    | zero => intro i; rfl
    | succ k ih => intro i; show 0 + sg (fun _ => 0) (i + 1) k = 0; rw [ih]
  exact z k i
theorem sg_mul (c : Nat) (f : Nat → Nat) : ∀ (k i : Nat), sg (fun j => c * f j) i k = c * sg f i k := by
  intro k
  induction k with
  | zero => intro i; rfl
  | succ k ih =>
    intro i
    show c * f i + sg (fun j => c * f j) (i + 1) k = c * (f i + sg f (i + 1) k)
    rw [ih, Nat.mul_add]
theorem sg_swap (f : Nat → Nat → Nat) (m i0 : Nat) : ∀ (k i : Nat), sg (fun a => sg (f a) i0 m) i k = sg (fun b => sg (fun a => f a b) i k) i0 m := by
  intro k
  induction k with
  | zero => intro i; exact (sg_zero (fun _ _ _ => rfl)).symm
  | succ k ih =>
    intro i
    show sg (f i) i0 m + sg (fun a => sg (f a) i0 m) (i + 1) k = sg (fun b => f i b + sg (fun a => f a b) (i + 1) k) i0 m
    rw [ih, sg_add]
theorem tdif_symm (a b : Nat) : tdif a b = tdif b a := by
  unfold tdif
  by_cases h1 : a ≤ b
  · by_cases h2 : b ≤ a
    · rw [show a = b by omega]
    · rw [if_pos h1, if_neg h2]
  · rw [if_neg h1, if_pos (by omega)]
theorem ill_symm (a b : Nat) : ill a b = ill b a := by unfold ill; rw [tdif_symm a b]
theorem ill_self (a : Nat) : ill a a = false := by
  unfold ill tdif
  simp
def il (T : Nat → Nat) (a b : Nat) : Nat := if ill (T a) (T b) then 1 else 0
/-- how many of two sets sound ill -/
def II (B : Nat) (T : Nat → Nat) (s o : Nat) : Nat := sg (fun a => sg (fun b => bn s a * (bn o b * il T a b)) 0 B) 0 B
theorem II_symm (B : Nat) (T : Nat → Nat) (s o : Nat) : II B T s o = II B T o s := by
  unfold II
  rw [sg_swap]
  refine sg_congr (fun b _ _ => sg_congr (fun a _ _ => ?_))
  show bn s a * (bn o b * il T a b) = bn o b * (bn s a * il T b a)
  unfold il
  rw [ill_symm (T a) (T b), Nat.mul_left_comm]
theorem II_even (T : Nat → Nat) (s : Nat) : ∀ B, ∃ m, II B T s s = 2 * m := by
  intro B
  induction B with
  | zero => exact ⟨0, rfl⟩
  | succ B ih =>
    obtain ⟨m, hm⟩ := ih
    refine ⟨m + sg (fun a => bn s a * (bn s B * il T a B)) 0 B, ?_⟩
    unfold II at hm ⊢
    rw [sg_last]
    have e1 : sg (fun a => sg (fun b => bn s a * (bn s b * il T a b)) 0 (B + 1)) 0 B = sg (fun a => sg (fun b => bn s a * (bn s b * il T a b)) 0 B) 0 B + sg (fun a => bn s a * (bn s B * il T a B)) 0 B := by
      rw [← sg_add]
      refine sg_congr (fun a _ _ => ?_)
      rw [sg_last, Nat.zero_add]
    have e2 : sg (fun b => bn s (0 + B) * (bn s b * il T (0 + B) b)) 0 (B + 1) = sg (fun a => bn s a * (bn s B * il T a B)) 0 B := by
      rw [sg_last, Nat.zero_add]
      have : il T B B = 0 := by unfold il; rw [ill_self]; rfl
      rw [this, Nat.mul_zero, Nat.mul_zero, Nat.add_zero]
      refine sg_congr (fun a _ _ => ?_)
      unfold il
      rw [ill_symm (T B) (T a), Nat.mul_left_comm]
    rw [e1, e2, hm]
    omega
theorem II_le (B : Nat) (T : Nat → Nat) (s o : Nat) : II B T s o ≤ B * B := by
  unfold II
  have h1 : ∀ a, sg (fun b => bn s a * (bn o b * il T a b)) 0 B ≤ B * 1 := fun a => sg_le (fun b => by
    have h1 := bn_lt s a
    have h2 := bn_lt o b
    have h3 : il T a b ≤ 1 := by unfold il; split <;> omega
    rcases (show bn s a = 0 ∨ bn s a = 1 by omega) with e | e <;> rcases (show bn o b = 0 ∨ bn o b = 1 by omega) with e' | e' <;> rw [e, e'] <;> omega) B 0
  have := sg_le (f := fun a => sg (fun b => bn s a * (bn o b * il T a b)) 0 B) (m := B * 1) h1 B 0
  rw [Nat.mul_one] at this
  exact this
/-- bits put together -/
theorem num_bits (f : Nat → Nat) (hf : ∀ c, f c ≤ 1) : ∀ B, sg (fun c => f c * 2 ^ c) 0 B < 2 ^ B ∧ ∀ c, bn (sg (fun c => f c * 2 ^ c) 0 B) c = if c < B then f c else 0 := by
  intro B
  induction B with
  | zero =>
    refine ⟨(by show 0 < 1; decide), fun c => ?_⟩
    rw [if_neg (by omega)]
    show 0 / 2 ^ c % 2 = 0
    rw [Nat.zero_div]
  | succ B ih =>
    obtain ⟨h1, h2⟩ := ih
    rw [sg_last, Nat.zero_add]
    generalize sg (fun c => f c * 2 ^ c) 0 B = x at h1 h2
    have hfB := hf B
    have hlt : x + f B * 2 ^ B < 2 ^ (B + 1) := by
      rw [Nat.pow_succ]
      rcases (show f B = 0 ∨ f B = 1 by omega) with e | e <;> rw [e] <;> omega
    refine ⟨hlt, fun c => ?_⟩
    by_cases hc : c < B
    · rw [if_pos (by omega), ← (h2 c).trans (if_pos hc)]
      unfold bn
      have e : f B * 2 ^ B = 2 ^ c * (2 * (f B * 2 ^ (B - c - 1))) := by
        rw [show 2 ^ B = 2 ^ c * (2 * 2 ^ (B - c - 1)) by rw [← Nat.pow_succ', ← Nat.pow_add]; congr 1; omega]
        rw [Nat.mul_left_comm, Nat.mul_left_comm (f B) 2]
      rw [e, Nat.add_mul_div_left _ _ (Nat.pow_pos (by decide)), Nat.add_mul_mod_self_left]
    · by_cases hc2 : c = B
      · subst hc2
        rw [if_pos (by omega)]
        unfold bn
        rw [Nat.add_mul_div_right _ _ (Nat.pow_pos (by decide)), Nat.div_eq_of_lt h1, Nat.zero_add]
        omega
      · rw [if_neg (by omega)]
        exact bn_big hlt (by omega)
theorem illm_num (B : Nat) (T : Nat → Nat) (b : Nat) : illm B T b = sg (fun c => il T b c * 2 ^ c) 0 B := by
  unfold illm il
  exact sg_congr (fun c _ _ => by by_cases g : ill (T b) (T c) <;> simp [g])
theorem il_le (T : Nat → Nat) (a b : Nat) : il T a b ≤ 1 := by unfold il; split <;> omega
theorem popc_sg (s : Nat) : popc s = sg (bn s) 0 8 := by
  show _ = bn s 0 + (bn s 1 + (bn s 2 + (bn s 3 + (bn s 4 + (bn s 5 + (bn s 6 + (bn s 7 + 0)))))))
  unfold popc
  omega
theorem popc_ill {B b o : Nat} {T : Nat → Nat} (hB : B ≤ 8) (ho : o < 2 ^ B) : illm B T b &&& o < 256 ∧ popc (illm B T b &&& o) = sg (fun c => bn o c * il T b c) 0 B := by
  have h := num_bits (il T b) (il_le T b) B
  rw [← illm_num] at h
  have h256 := p2le hB
  refine ⟨Nat.lt_of_le_of_lt Nat.and_le_right (by omega), ?_⟩
  rw [popc_sg, show (8 : Nat) = B + (8 - B) by omega, sg_split]
  have z : sg (bn (illm B T b &&& o)) (0 + B) (8 - B) = 0 := sg_zero (fun j a _ => by rw [bn_and, bn_big ho (by omega), Nat.mul_zero])
  rw [z, Nat.add_zero]
  exact sg_congr (fun c _ hc => by rw [bn_and, h.2 c, if_pos (by omega), Nat.mul_comm])
theorem X6_ill_in {F : Nat} {tw : TW} {B r o q : Nat} {T p : Nat → Nat} {k4 : Int32 → Int32 → HP → Option (Int32 × HP)} {h : HP} (hB : h tw.1 0 = nI B) (hb : B ≤ 8) (hr : r < 32) (ho : o < 2 ^ B) (hp : h 15 r = nI (p r) ∧ p r < 256) (hI : ∀ b, b < B → h (tw.1 + 3) b = nI (illm B T b)) :
    ∀ (k b n acc : Nat), b + k = B → k < n → f_X6_illTwos_37 F tw (nI q) k4 n (nI acc) (nI r) (nI o) (nI b) h = k4 (nI (acc + sg (fun a => sg (fun c => bn (p r) a * (bn o c * il T a c)) 0 B) b k)) (nI (r + 1)) h := by
  have h256 := p2le hb
  intro k
  induction k with
  | zero =>
    intro b n acc hi hn
    obtain ⟨n, rfl⟩ := succ_of hn
    rw [f_X6_illTwos_37, hB, if_pos (by rw [e_le (by omega) (by omega)]; omega), e_add]
    rfl
  | succ k ih =>
    intro b n acc hi hn
    obtain ⟨n, rfl⟩ := succ_of hn
    rw [f_X6_illTwos_37, hB, if_neg (by rw [e_le (by omega) (by omega)]; omega)]
    by_cases g0 : o = 0
    · rw [if_pos (by rw [g0]), e_add]
      have : sg (fun a => sg (fun c => bn (p r) a * (bn o c * il T a c)) 0 B) b (k + 1) = 0 := sg_zero (fun a _ _ => sg_zero (fun c _ _ => by
        rw [g0]
        have : bn 0 c = 0 := by unfold bn; rw [Nat.zero_div]
        rw [this, Nat.zero_mul, Nat.mul_zero]))
      rw [this]
      rfl
    · have hbn := bn_lt (p r) b
      rw [if_neg (by rw [e_eq (by omega) (by decide)]; exact g0), if_pos (inb_t (by omega) (by decide)), e_ix (by omega), hp.1, e_bit (by have := hp.2; omega) (by omega), i_eq (by omega) (by decide), e_add]
      have hs : sg (fun a => sg (fun c => bn (p r) a * (bn o c * il T a c)) 0 B) b (k + 1) = bn (p r) b * sg (fun c => bn o c * il T b c) 0 B + sg (fun a => sg (fun c => bn (p r) a * (bn o c * il T a c)) 0 B) (b + 1) k := by
        show sg (fun c => bn (p r) b * (bn o c * il T b c)) 0 B + _ = _
        rw [sg_mul]
      rw [hs]
      obtain ⟨pi1, pi2⟩ := popc_ill (b := b) (T := T) hb ho
      by_cases g : bn (p r) b = 1
      · rw [if_pos g, if_pos (inb_t (by omega) (by decide)), e_ix (by omega), hI b (by omega), e_and, bc_spec F pi1, ob_eq, e_add, ih (b + 1) n _ (by omega) (by omega), pi2, g, Nat.one_mul, Nat.add_assoc]
      · rw [if_neg g, ih (b + 1) n acc (by omega) (by omega), show bn (p r) b = 0 by omega, Nat.zero_mul, Nat.zero_add]
theorem X6_ill_loop {F : Nat} (hF : 600 ≤ F) {tw : TW} {N B q : Nat} {T p : Nat → Nat} {h : HP} (hN : h tw.1 4 = nI N) (h0 : 0 < N) (hb32 : N ≤ 32) (hB : h tw.1 0 = nI B) (hb : B ≤ 8) (hq : q < 100) (hp : ∀ r, r < 32 → h 15 r = nI (p r) ∧ p r < 2 ^ B) (hI : ∀ b, b < B → h (tw.1 + 3) b = nI (illm B T b)) :
    ∀ (k r n acc : Nat), r + k = N → k < n → f_X6_illTwos_4 F tw (nI q) n (nI acc) (nI r) h = some (nI (acc + sg (fun r => II B T (p r) (p ((r + q) % N))) r k), h) := by
  have h256 := p2le hb
  intro k
  induction k with
  | zero =>
    intro r n acc hi hn
    obtain ⟨n, rfl⟩ := succ_of hn
    rw [f_X6_illTwos_4, hN, if_pos (by rw [e_le (by omega) (by omega)]; omega)]
    rfl
  | succ k ih =>
    intro r n acc hi hn
    obtain ⟨n, rfl⟩ := succ_of hn
    have hlt : (r + q) % N < N := Nat.mod_lt _ h0
    obtain ⟨q1, q2⟩ := hp r (by omega)
    obtain ⟨r1, r2⟩ := hp ((r + q) % N) (by omega)
    rw [f_X6_illTwos_4, hN, if_neg (by rw [e_le (by omega) (by omega)]; omega), rowBehind_n F hN h0 (by omega) (by omega), ob_eq, if_pos (inb_t (by omega) (by decide)), e_ix (by omega), r1, X6_ill_in hB hb (by omega) r2 ⟨q1, by omega⟩ hI B 0 F acc (by omega) (by omega), ih (r + 1) n _ (by omega) (by omega), Nat.add_assoc]
    rfl
theorem isIll_n (F : Nat) {B a b : Nat} {T : Nat → Nat} {h : HP} (hb : B ≤ 8) (ha : a < B) (hbB : b < B) (hT : ∀ b, b < B → h 40 (3 + b) = nI (T b) ∧ T b ≤ 40) : f_X7_isIll F (nI a) (nI b) h = some (nI (il T a b), h) := by
  obtain ⟨a1, a2⟩ := hT a ha
  obtain ⟨b1, b2⟩ := hT b hbB
  have e : (if nI 0 ≤ nI (T a) - nI (T b) then nI (T a) - nI (T b) else -(nI (T a) - nI (T b))) = nI (if T b ≤ T a then T a - T b else T b - T a) := by
    by_cases z : T b ≤ T a
    · rw [if_pos z, e_sub z, if_pos (by rw [e_le (by decide) (by omega)]; omega)]
    · rw [if_neg z, if_neg (nsub_neg (by omega) (by omega)), neg_nsub (by omega)]
  have et : (if T b ≤ T a then T a - T b else T b - T a) % 12 = tdif (T a) (T b) := by rw [tdif_symm]; rfl
  have hlt : tdif (T a) (T b) < 12 := Nat.mod_lt _ (by decide)
  unfold f_X7_isIll
  rw [e_add, e_add, if_pos (inb_t (by omega) (by decide)), if_pos (inb_t (by omega) (by decide)), e_ix (by omega), e_ix (by omega), a1, b1, e, jrem_n (by split <;> omega) (by decide) (by decide), et, i_eq (by omega) (by decide), i_eq (by omega) (by decide), i_eq (by omega) (by decide), i_eq (by omega) (by decide), i_eq (by omega) (by decide)]
  unfold il ill
  generalize tdif (T a) (T b) = d at hlt
  by_cases g1 : d = 1
  · rw [if_pos g1, g1]; rfl
  rw [if_neg g1]
  by_cases g2 : d = 2
  · rw [if_pos g2, g2]; rfl
  rw [if_neg g2]
  by_cases g6 : d = 6
  · rw [if_pos g6, g6]; rfl
  rw [if_neg g6]
  by_cases g10 : d = 10
  · rw [if_pos g10, g10]; rfl
  rw [if_neg g10]
  by_cases g11 : d = 11
  · rw [if_pos g11, g11]; rfl
  rw [if_neg g11]
  have : (d == 1 || d == 2 || d == 6 || d == 10 || d == 11) = false := by simp [g1, g2, g6, g10, g11]
  rw [this]
  rfl
theorem X7_illOf_n {F : Nat} (hF : 600 ≤ F) {B s o : Nat} {T : Nat → Nat} {h : HP} (hB : h 40 0 = nI B) (hb : B ≤ 8) (hs : s < 256) (ho : o < 256) (hT : ∀ b, b < B → h 40 (3 + b) = nI (T b) ∧ T b ≤ 40) : f_X7_illOf F (nI s) (nI o) h = some (nI (II B T s o), h) := by
  have inner : ∀ (a : Nat), a < B → ∀ (k5 : Int32 → Int32 → HP → Option (Int32 × HP)) (k b n acc : Nat), b + k = B → k < n → f_X7_illOf_19 F (nI s) (nI o) k5 n (nI acc) (nI a) (nI b) h = k5 (nI (acc + sg (fun b => bn s a * (bn o b * il T a b)) b k)) (nI (a + 1)) h := by
    intro a ha k5 k
    induction k with
    | zero =>
      intro b n acc hi hn
      obtain ⟨n, rfl⟩ := succ_of hn
      rw [f_X7_illOf_19, hB, if_pos (by rw [e_le (by omega) (by omega)]; omega), e_add]
      rfl
    | succ k ih =>
      intro b n acc hi hn
      obtain ⟨n, rfl⟩ := succ_of hn
      have h1 := bn_lt s a
      have h2 := bn_lt o b
      have hs : sg (fun b => bn s a * (bn o b * il T a b)) b (k + 1) = bn s a * (bn o b * il T a b) + sg (fun b => bn s a * (bn o b * il T a b)) (b + 1) k := rfl
      rw [hs, f_X7_illOf_19, hB, if_neg (by rw [e_le (by omega) (by omega)]; omega), has_n F (by omega) (by omega), ob_eq, i_eq (by omega) (by decide), e_add, e_add]
      by_cases g : bn s a = 0
      · rw [if_pos g, ih (b + 1) n _ (by omega) (by omega), g, Nat.zero_mul, Nat.zero_add, Nat.add_zero]
      · rw [if_neg g, has_n F (by omega) (by omega), ob_eq, i_eq (by omega) (by decide)]
        by_cases g2 : bn o b = 0
        · rw [if_pos g2, ih (b + 1) n _ (by omega) (by omega), g2, Nat.zero_mul, Nat.mul_zero, Nat.zero_add, Nat.add_zero]
        · have hil := il_le T a b
          have e : (if nI (il T a b) = nI 0 then nI 0 else nI 1) = nI (il T a b) := by
            rcases (show il T a b = 0 ∨ il T a b = 1 by omega) with e | e <;> rw [e]
            · rw [if_pos rfl]
            · rw [if_neg n10]
          rw [if_neg g2, isIll_n F hb ha (by omega) hT, ob_eq, e, e_add, ih (b + 1) n _ (by omega) (by omega), show bn s a = 1 by omega, show bn o b = 1 by omega, Nat.one_mul, Nat.one_mul, Nat.add_assoc]
  have outer : ∀ (k a n acc : Nat), a + k = B → k < n → f_X7_illOf_5 F (nI s) (nI o) n (nI acc) (nI a) h = some (nI (acc + sg (fun a => sg (fun b => bn s a * (bn o b * il T a b)) 0 B) a k), h) := by
    intro k
    induction k with
    | zero =>
      intro a n acc hi hn
      obtain ⟨n, rfl⟩ := succ_of hn
      rw [f_X7_illOf_5, hB, if_pos (by rw [e_le (by omega) (by omega)]; omega)]
      rfl
    | succ k ih =>
      intro a n acc hi hn
      obtain ⟨n, rfl⟩ := succ_of hn
      rw [f_X7_illOf_5, hB, if_neg (by rw [e_le (by omega) (by omega)]; omega), inner a (by omega) _ B 0 F acc (by omega) (by omega), ih (a + 1) n _ (by omega) (by omega), Nat.add_assoc]
      rfl
  unfold f_X7_illOf
  rw [outer B 0 F 0 (by omega) (by omega), Nat.zero_add]
  rfl
theorem div2_n {a : Nat} (ha : a < 2147483648) : nI a / nI 2 = nI (a / 2) := pk_div (by rw [e31]; exact ha) (by decide) (by decide)
theorem op_harsh {F c : Nat} (hF : 600 ≤ F) {tw : TW} {h : HP} (i : INV c tw h) : Same (f_X6_harsh F tw) (f_X7_harsh F) h := by
  obtain ⟨-, B, N, R, T, M, ⟨hB1, hB8, hN2, hN32, hR6, hTM⟩, hC, hM, hS, hD, -⟩ := i
  have h256 := p2le hB8
  have hp43 : ∀ r, r < 32 → h 43 (2 + r) = nI (pv h r) ∧ pv h r < 2 ^ B := fun r hr => ⟨(pv_of hB8 hS hr).1, (pv_of hB8 hS hr).2.1⟩
  have hp15 : ∀ r, r < 32 → h 15 r = nI (pv h r) ∧ pv h r < 2 ^ B := fun r hr => by rw [pin_of hD hr]; exact hp43 r hr
  have a2 : ∀ (k r n acc : Nat), r + k = N → k < n → f_X7_harsh_4 F n (nI acc) (nI r) h = some (nI (acc + sg (fun r => II B T (pv h r) (pv h r) / 2) r k), h) := by
    intro k
    induction k with
    | zero =>
      intro r n acc hi hn
      obtain ⟨n, rfl⟩ := succ_of hn
      rw [f_X7_harsh_4, hM.2.1, if_pos (by rw [e_le (by omega) (by omega)]; omega)]
      rfl
    | succ k ih =>
      intro r n acc hi hn
      obtain ⟨n, rfl⟩ := succ_of hn
      obtain ⟨q1, q2⟩ := hp43 r (by omega)
      have hle := II_le B T (pv h r) (pv h r)
      have hBB : B * B ≤ 8 * 8 := Nat.mul_le_mul hB8 hB8
      rw [f_X7_harsh_4, hM.2.1, if_neg (by rw [e_le (by omega) (by omega)]; omega), e_add, if_pos (inb_t (by omega) (by decide)), e_ix (by omega), q1, X7_illOf_n hF hM.1 hB8 (by omega) (by omega) (fun b hb => ⟨(hM.2.2.2 b hb).1, (hTM b hb).1⟩), ob_eq, div2_n (by omega), e_add, e_add, ih (r + 1) n _ (by omega) (by omega), Nat.add_assoc]
      rfl
  have hev : sg (fun r => II B T (pv h r) (pv h ((r + 0) % N))) 0 N = 2 * sg (fun r => II B T (pv h r) (pv h r) / 2) 0 N := by
    rw [← sg_mul]
    refine sg_congr (fun r _ hr => ?_)
    rw [Nat.add_zero, Nat.mod_eq_of_lt (by omega)]
    obtain ⟨m, hm⟩ := II_even T (pv h r) B
    rw [hm]
    omega
  have hle : sg (fun r => II B T (pv h r) (pv h r) / 2) 0 N ≤ N * 64 := sg_le (fun r => by
    have := II_le B T (pv h r) (pv h r)
    have hBB : B * B ≤ 8 * 8 := Nat.mul_le_mul hB8 hB8
    omega) N 0
  refine ⟨nI (sg (fun r => II B T (pv h r) (pv h r) / 2) 0 N), ?_, ?_⟩
  · unfold f_X6_harsh f_X6_illTwos
    rw [X6_ill_loop hF hC.2.1 (by omega) hN32 hC.1 hB8 (by decide) hp15 (fun b hb => (hC.2.2.2 b hb).2.2) N 0 F 0 (by omega) (by omega), ob_eq, Nat.zero_add, hev, div2_n (by omega), Nat.mul_div_cancel_left _ (by decide)]
  · unfold f_X7_harsh
    rw [a2 N 0 F 0 (by omega) (by omega), Nat.zero_add]
theorem op_canon {F c : Nat} (hF : 600 ≤ F) {tw : TW} {h : HP} (i : INV c tw h) (x : Int32) : Same (f_X6_canon F tw x) (f_X7_canon F x) h := by
  obtain ⟨-, B, N, R, T, M, ⟨hB1, hB8, hN2, hN32, hR6, hTM⟩, hC, hM, hS, hD, -⟩ := i
  have h256 := p2le hB8
  have hp43 : ∀ r, r < 32 → h 43 (2 + r) = nI (pv h r) ∧ pv h r < 2 ^ B := fun r hr => ⟨(pv_of hB8 hS hr).1, (pv_of hB8 hS hr).2.1⟩
  have hp15 : ∀ r, r < 32 → h 15 r = nI (pv h r) ∧ pv h r < 2 ^ B := fun r hr => by rw [pin_of hD hr]; exact hp43 r hr
  have hBB : B * B ≤ 8 * 8 := Nat.mul_le_mul hB8 hB8
  have hIle : ∀ s o, II B T s o ≤ 64 := fun s o => by have := II_le B T s o; omega
  let v : Nat → Nat := fun q => sg (fun r => II B T (pv h r) (pv h ((r + q) % N))) 0 N
  have hv : ∀ q, q < N → sg (fun r => II B T (pv h r) (pv h ((r + N - q) % N))) 0 N = v q := by
    intro q hq
    rw [← sg_round (fun r => II B T (pv h r) (pv h ((r + N - q) % N))) hq]
    exact sg_congr (fun j _ hj => by
      show II B T (pv h ((j + q) % N)) (pv h (((j + q) % N + N - q) % N)) = _
      rw [mod_back (by omega) hq, II_symm])
  have hvl : ∀ q, v q ≤ N * 64 := fun q => sg_le (fun j => hIle _ _) N 0
  have m1 : ∀ q, q < N → f_X6_illTwos F tw (nI q) h = some (nI (v q), h) := fun q hq => by
    rw [f_X6_illTwos, X6_ill_loop hF hC.2.1 (by omega) hN32 hC.1 hB8 (by omega) hp15 (fun b hb => (hC.2.2.2 b hb).2.2) N 0 F 0 (by omega) (by omega), Nat.zero_add]
  have inner : ∀ (x1 : Int32) (k17 : Int32 → Int32 → Int32 → HP → Option (Int32 × HP)) (b l q : Nat), q < N → l < 2147483648 → ∀ (k r n acc : Nat), r + k = N → k < n → acc + 64 * k < 2147483648 →
      f_X7_canon_34 F x1 k17 n (nI b) (nI l) (nI q) (nI acc) (nI r) h = k17 (nI (if l ≤ acc + sg (fun r => II B T (pv h r) (pv h ((r + N - q) % N))) r k then b else q)) (nI (if l ≤ acc + sg (fun r => II B T (pv h r) (pv h ((r + N - q) % N))) r k then l else acc + sg (fun r => II B T (pv h r) (pv h ((r + N - q) % N))) r k)) (nI (q + 1)) h := by
    intro x1 k17 b l q hq hl k
    induction k with
    | zero =>
      intro r n acc hi hn ha
      obtain ⟨n, rfl⟩ := succ_of hn
      rw [f_X7_canon_34, hM.2.1, if_pos (by rw [e_le (by omega) (by omega)]; omega), i_le hl (by omega), i_le hl (by omega), ite_n, ite_n, e_add]
      rfl
    | succ k ih =>
      intro r n acc hi hn ha
      obtain ⟨n, rfl⟩ := succ_of hn
      have hlt : (r + N - q) % N < N := Nat.mod_lt _ (by omega)
      obtain ⟨q1, q2⟩ := hp43 ((r + N - q) % N) (by omega)
      obtain ⟨r1, r2⟩ := hp43 r (by omega)
      have h8 := hIle (pv h r) (pv h ((r + N - q) % N))
      rw [f_X7_canon_34, hM.2.1, if_neg (by rw [e_le (by omega) (by omega)]; omega), e_add, if_pos (inb_t (by omega) (by decide)), e_ix (by omega), shifted_n F hM.2.1 (by omega) hN32 (by omega) (by omega), ob_eq, q1, r1, X7_illOf_n hF hM.1 hB8 (by omega) (by omega) (fun b hb => ⟨(hM.2.2.2 b hb).1, (hTM b hb).1⟩), ob_eq, e_add, e_add, ih (r + 1) n _ (by omega) (by omega) (by omega), Nat.add_assoc]
      rfl
  rcases cas x (n := 2) (by decide) with ⟨j, hj, rfl⟩ | hx
  · have a1 : ∀ (k i n b l : Nat), i + k = N → k < n → l ≤ N * 64 → f_X6_canon_22 F tw (nI j) n (nI b) (nI l) (nI i) h = some (if j = 0 then nI (amf v k i b l).1 else nI (amf v k i b l).2, h) := by
      intro k
      induction k with
      | zero =>
        intro i n b l hi hn hl
        obtain ⟨n, rfl⟩ := succ_of hn
        rw [f_X6_canon_22, hC.2.1, if_pos (by rw [e_le (by omega) (by omega)]; omega), i_eq (by omega) (by decide)]
        show _ = some (if j = 0 then nI b else nI l, h)
        by_cases g : j = 0
        · rw [if_pos g, if_pos g]
        · rw [if_neg g, if_neg g]
      | succ k ih =>
        intro i n b l hi hn hl
        obtain ⟨n, rfl⟩ := succ_of hn
        have := hvl i
        rw [f_X6_canon_22, hC.2.1, if_neg (by rw [e_le (by omega) (by omega)]; omega), m1 i (by omega), ob_eq, i_le (by omega) (by omega), i_le (by omega) (by omega), ite_n, ite_n, e_add, ih (i + 1) n _ _ (by omega) (by omega) (by split <;> omega)]
        rfl
    have a2 : ∀ (k i n b l : Nat), i + k = N → k < n → l < 2147483648 → f_X7_canon_17 F (nI j) n (nI b) (nI l) (nI i) h = some (if j = 0 then nI (amf v k i b l).1 else nI (amf v k i b l).2, h) := by
      intro k
      induction k with
      | zero =>
        intro i n b l hi hn hl
        obtain ⟨n, rfl⟩ := succ_of hn
        rw [f_X7_canon_17, hM.2.1, if_pos (by rw [e_le (by omega) (by omega)]; omega), i_eq (by omega) (by decide)]
        show _ = some (if j = 0 then nI b else nI l, h)
        by_cases g : j = 0
        · rw [if_pos g, if_pos g]
        · rw [if_neg g, if_neg g]
      | succ k ih =>
        intro i n b l hi hn hl
        obtain ⟨n, rfl⟩ := succ_of hn
        have := hvl i
        rw [f_X7_canon_17, hM.2.1, if_neg (by rw [e_le (by omega) (by omega)]; omega), inner (nI j) _ b l i (by omega) hl N 0 F 0 (by omega) (by omega) (by omega), Nat.zero_add, hv i (by omega), ih (i + 1) n _ _ (by omega) (by omega) (by split <;> omega)]
        rfl
    refine ⟨if j = 0 then nI (amf v (N - 2) 2 1 (v 1)).1 else nI (amf v (N - 2) 2 1 (v 1)).2, ?_, ?_⟩
    · unfold f_X6_canon
      rw [if_neg (by rw [e_lt (by omega) (by decide)]; omega), if_pos (by rw [e_le (by omega) (by decide)]; omega), m1 1 (by omega), ob_eq, a1 (N - 2) 2 F 1 (v 1) (by omega) (by omega) (hvl 1)]
    · unfold f_X7_canon f_X7_isTwo
      rw [l64 (by decide), l64 (by decide), in_t h (by omega) (by omega) (by decide), ob_eq, guard01 (Or.inr rfl), ob_eq, if_neg n10, a2 (N - 1) 1 F 0 1000000 (by omega) (by omega) (by decide)]
      have e : amf v (N - 1) 1 0 1000000 = amf v (N - 2) 2 1 (v 1) := by
        rw [show N - 1 = (N - 2) + 1 by omega]
        show amf v (N - 2) 2 (if 1000000 ≤ v 1 then 0 else 1) (if 1000000 ≤ v 1 then 1000000 else v 1) = _
        have := hvl 1
        rw [if_neg (by omega), if_neg (by omega)]
      rw [e]
  · refine ⟨-1, ?_, ?_⟩
    · unfold f_X6_canon
      rcases hx with g | g
      · rw [if_pos g]
      · obtain ⟨g1, g2⟩ := not_below (by decide) (by decide) g
        rw [if_neg g1, if_neg g2]
    · unfold f_X7_canon f_X7_isTwo
      rw [l64 (by decide), l64 (by decide), show nI 1 = nI (2 - 1) from rfl, in_f h (by decide) (by decide) hx, ob_eq, guard01 (Or.inl rfl), ob_eq, if_pos rfl]
