/-! ===== ringers: the reference ===== -/
theorem m1_all : (-1 : Int32) = nI 4294967295 := by decide
def sdf (s t : Nat) : Nat := s &&& (t ^^^ 4294967295)
theorem sdf_I (s t : Nat) : nI s &&& (nI t ^^^ (-1)) = nI (sdf s t) := by
  rw [m1_all, e_xor, e_and]
  rfl
theorem sdf_b {s t i : Nat} (hs : s < 256) : bn (sdf s t) i = if bn t i = 1 then 0 else bn s i := by
  unfold sdf
  rw [bn_and]
  rcases Nat.lt_or_ge i 8 with q | q
  · have e : bn (t ^^^ 4294967295) i = if bn t i = 1 then 0 else 1 := by
      rw [bn_tb, bn_tb, Nat.testBit_xor, show (4294967295 : Nat) = 2 ^ 32 - 1 from rfl, Nat.testBit_two_pow_sub_one, decide_eq_true (show i < 32 by omega)]
      cases t.testBit i <;> rfl
    rw [e]
    split
    · rw [Nat.mul_zero]
    · rw [Nat.mul_one]
  · rw [bn_big (n := 8) hs q, Nat.zero_mul]
    split <;> rfl
theorem full_b (B b : Nat) : bn (2 ^ B - 1) b = 1 ↔ b < B := by
  rw [bn_tb, Nat.testBit_two_pow_sub_one]
  by_cases h : b < B
  · rw [decide_eq_true h]; exact ⟨fun _ => h, fun _ => rfl⟩
  · rw [decide_eq_false h]; exact ⟨fun e => absurd e (by decide), fun e => absurd e h⟩
def sub (t s : Nat) : Prop := ∀ i, bn t i = 1 → bn s i = 1
theorem bn_half (a i : Nat) : bn a (i + 1) = bn (a / 2) i := by
  unfold bn
  rw [Nat.pow_succ, Nat.mul_comm, Nat.div_div_eq_div_mul]
theorem bn_lo (a : Nat) : bn a 0 = a % 2 := by
  unfold bn
  rw [Nat.pow_zero, Nat.div_one]
theorem sub_half {t s : Nat} (h : sub t s) : sub (t / 2) (s / 2) := fun i hi => by
  rw [← bn_half] at hi ⊢
  exact h (i + 1) hi
theorem and_lo (a b : Nat) : (a &&& b) % 2 = a % 2 * (b % 2) := by
  rw [← bn_lo, bn_and, bn_lo, bn_lo]
theorem and_hi (a b : Nat) : (a &&& b) / 2 = (a / 2) &&& (b / 2) := by
  apply eq_bits
  intro i
  rw [← bn_half, bn_and, bn_and, bn_half, bn_half]
theorem and_self_sub {t s : Nat} (h : sub t s) : t &&& s = t := by
  apply eq_bits
  intro i
  rw [bn_and]
  have := bn_lt t i
  by_cases z : bn t i = 1
  · rw [h i z, z]
  · rw [show bn t i = 0 by omega, Nat.zero_mul]
theorem sub_next : ∀ (n x t s : Nat), x < n → sub x s → sub t s → t < x → t ≤ (x - 1) &&& s := by
  intro n
  induction n with
  | zero => intro x t s h; omega
  | succ n ih =>
    intro x t s hn hx ht htx
    have e1 := and_lo (x - 1) s
    have e2 := and_hi (x - 1) s
    have l0 : t % 2 = 1 → s % 2 = 1 := fun e => by
      have := ht 0 (by rw [bn_lo]; exact e)
      rw [bn_lo] at this
      exact this
    by_cases z : x % 2 = 1
    · have hs : s % 2 = 1 := by
        have := hx 0 (by rw [bn_lo]; exact z)
        rw [bn_lo] at this
        exact this
      have e3 : (x - 1) / 2 = x / 2 := by omega
      rw [e3, and_self_sub (sub_half hx)] at e2
      omega
    · have e3 : (x - 1) / 2 = x / 2 - 1 := by omega
      have e4 : (x - 1) % 2 = 1 := by omega
      rw [e3] at e2
      rw [e4, Nat.one_mul] at e1
      have := ih (x / 2) (t / 2) (s / 2) (by omega) (sub_half hx) (sub_half ht) (by omega)
      omega
def ColS (K : Nat → Nat → Prop) (s k : Nat) : Prop := ∃ col : Nat → Nat, (∀ b, bn s b = 1 → col b < k) ∧ ∀ b c, bn s b = 1 → bn s c = 1 → K b c → col b ≠ col c
def opt (K : Nat → Nat → Prop) (s v : Nat) : Prop := ColS K s v ∧ ∀ k, ColS K s k → v ≤ k
def ind (K : Nat → Nat → Prop) (s : Nat) : Prop := ∀ b c, bn s b = 1 → bn s c = 1 → ¬ K b c
theorem col_up {K : Nat → Nat → Prop} {s t v : Nat} (hs : s < 256) (ht : ind K t) (hc : ColS K (sdf s t) v) : ColS K s (v + 1) := by
  obtain ⟨col, c1, c2⟩ := hc
  have key : ∀ b, bn s b = 1 → ¬ bn t b = 1 → bn (sdf s t) b = 1 := fun b h1 h2 => by rw [sdf_b hs, if_neg h2]; exact h1
  refine ⟨fun b => if bn t b = 1 then v else col b, fun b hb => ?_, fun b c hb hc hK => ?_⟩
  · dsimp only
    by_cases z : bn t b = 1
    · rw [if_pos z]; omega
    · rw [if_neg z]; have := c1 b (key b hb z); omega
  · dsimp only
    by_cases z : bn t b = 1
    · by_cases y : bn t c = 1
      · exact absurd hK (ht b c z y)
      · rw [if_pos z, if_neg y]; have := c1 c (key c hc y); omega
    · by_cases y : bn t c = 1
      · rw [if_neg z, if_pos y]; have := c1 b (key b hb z); omega
      · rw [if_neg z, if_neg y]; exact c2 b c (key b hb z) (key c hc y) hK
theorem bit_ex {s : Nat} (h : s ≠ 0) : ∃ b, bn s b = 1 := by
  apply Classical.byContradiction
  intro q
  apply h
  apply eq_bits
  intro i
  rw [bn_zero]
  have := bn_lt s i
  have : ¬ bn s i = 1 := fun e => q ⟨i, e⟩
  omega
theorem col_down {K : Nat → Nat → Prop} {s k : Nat} (hs : s < 256) (h0 : s ≠ 0) (hc : ColS K s k) : 1 ≤ k ∧ ∃ t, t ≠ 0 ∧ t < 256 ∧ sub t s ∧ ind K t ∧ ColS K (sdf s t) (k - 1) := by
  obtain ⟨col, c1, c2⟩ := hc
  obtain ⟨b0, hb0⟩ := bit_ex h0
  have hk := c1 b0 hb0
  obtain ⟨n1, n2⟩ := num_bits (fun c => if bn s c = 1 ∧ col c = col b0 then 1 else 0) (fun c => by split <;> omega) 8
  generalize sg (fun c => (if bn s c = 1 ∧ col c = col b0 then 1 else 0) * 2 ^ c) 0 8 = t at n1 n2
  have tb : ∀ c, bn t c = 1 ↔ bn s c = 1 ∧ col c = col b0 := fun c => by
    rw [n2 c]
    by_cases q : c < 8
    · rw [if_pos q]
      by_cases z : bn s c = 1 ∧ col c = col b0
      · rw [if_pos z]; exact ⟨fun _ => z, fun _ => rfl⟩
      · rw [if_neg z]; exact ⟨fun e => absurd e (by decide), fun e => absurd e z⟩
    · rw [if_neg q]
      refine ⟨fun e => absurd e (by decide), fun e => ?_⟩
      have := bn_big (n := 8) hs (show 8 ≤ c by omega)
      omega
  refine ⟨by omega, t, fun e => ?_, n1, fun i hi => ((tb i).mp hi).1, fun b c hb hc hK => ?_, fun b => if col b = k - 1 then col b0 else col b, fun b hb => ?_, fun b c hb hc hK => ?_⟩
  · have := (tb b0).mpr ⟨hb0, rfl⟩
    rw [e, bn_zero] at this
    exact absurd this (by decide)
  · obtain ⟨x1, x2⟩ := (tb b).mp hb
    obtain ⟨y1, y2⟩ := (tb c).mp hc
    exact c2 b c x1 y1 hK (by rw [x2, y2])
  · rw [sdf_b hs] at hb
    by_cases z : bn t b = 1
    · rw [if_pos z] at hb; exact absurd hb (by decide)
    · rw [if_neg z] at hb
      have h1 := c1 b hb
      have h2 : col b ≠ col b0 := fun e => z ((tb b).mpr ⟨hb, e⟩)
      dsimp only
      by_cases y : col b = k - 1
      · rw [if_pos y]; omega
      · rw [if_neg y]; omega
  · rw [sdf_b hs] at hb hc
    by_cases z : bn t b = 1
    · rw [if_pos z] at hb; exact absurd hb (by decide)
    by_cases z' : bn t c = 1
    · rw [if_pos z'] at hc; exact absurd hc (by decide)
    rw [if_neg z] at hb
    rw [if_neg z'] at hc
    have h2 : col b ≠ col b0 := fun e => z ((tb b).mpr ⟨hb, e⟩)
    have h3 : col c ≠ col b0 := fun e => z' ((tb c).mpr ⟨hc, e⟩)
    have h4 := c2 b c hb hc hK
    dsimp only
    by_cases y : col b = k - 1
    · by_cases y' : col c = k - 1
      · omega
      · rw [if_pos y, if_neg y']; exact Ne.symm h3
    · by_cases y' : col c = k - 1
      · rw [if_neg y, if_pos y']; exact h2
      · rw [if_neg y, if_neg y']; exact h4
theorem popc_two : ∀ x, x < 256 → (2 ≤ popc x ↔ ∃ b, b < 8 ∧ ∃ c, c < 8 ∧ b ≠ c ∧ bn x b = 1 ∧ bn x c = 1) := by decide +kernel
theorem areOne_n {F : Nat} (hF : 600 ≤ F) {N s : Nat} {p : Nat → Nat} {h : HP} (hN : N ≤ 32) (hs : s < 256) (h40 : h 40 1 = nI N) (hp : ∀ r, r < 32 → h 43 (2 + r) = nI (p r) ∧ p r < 256) :
    ∃ o, o ≤ 1 ∧ f_X7_areOne F (nI s) h = some (nI o, h) ∧ (o = 1 ↔ ind (clsh p N) s) := by
  have lp : ∀ (k r n o : Nat), r + k = N → k < n → o ≤ 1 → (o = 1 ↔ ∀ r', r' < r → popc (s &&& p r') < 2) → ∃ o', o' ≤ 1 ∧ f_X7_areOne_4 F (nI s) n (nI o) (nI r) h = some (nI o', h) ∧ (o' = 1 ↔ ∀ r', r' < N → popc (s &&& p r') < 2) := by
    intro k
    induction k with
    | zero =>
      intro r n o hr hn ho hor
      obtain ⟨n, rfl⟩ := succ_of hn
      refine ⟨o, ho, ?_, by rw [← show r = N by omega]; exact hor⟩
      rw [f_X7_areOne_4, h40, if_pos (by rw [e_le (by omega) (by omega)]; omega), guard01]
      rcases (show o = 0 ∨ o = 1 by omega) with z | z
      · exact Or.inl (by rw [z])
      · exact Or.inr (by rw [z])
    | succ k ih =>
      intro r n o hr hn ho hor
      obtain ⟨n, rfl⟩ := succ_of hn
      rw [f_X7_areOne_4, h40, if_neg (by rw [e_le (by omega) (by omega)]; omega), i_eq (by omega) (by decide), e_add, e_add]
      by_cases z : o = 0
      · rw [if_pos z]
        refine ih (r + 1) n 0 (by omega) (by omega) (by decide) ⟨fun q => absurd q (by decide), fun q => ?_⟩
        have := hor.mpr (fun r' hr' => q r' (by omega))
        omega
      · have hlt : s &&& p r < 256 := Nat.lt_of_le_of_lt Nat.and_le_left hs
        have hpc := popc_le (s &&& p r)
        rw [if_neg z, if_pos (inb_t (by omega) (by decide)), e_ix (by omega), (hp r (by omega)).1, e_and, bits_spec hF hlt, ob_eq, i_le (by decide) (by omega), ite_n]
        refine ih (r + 1) n (if 2 ≤ popc (s &&& p r) then 0 else 1) (by omega) (by omega) (by split <;> decide) ⟨fun q r' hr' => ?_, fun q => by rw [if_neg (by have := q r (by omega); omega)]⟩
        by_cases g : 2 ≤ popc (s &&& p r)
        · rw [if_pos g] at q; exact absurd q (by decide)
        · by_cases y : r' = r
          · rw [y]; omega
          · exact hor.mp (by omega) r' (by omega)
  obtain ⟨o, o1, o2, o3⟩ := lp N 0 F 1 (by omega) (by omega) (Nat.le_refl _) ⟨fun _ r' hr' => by omega, fun _ => rfl⟩
  refine ⟨o, o1, o2, o3.trans ⟨fun q b c hb hc hK => ?_, fun q r hr => ?_⟩⟩
  · obtain ⟨w1, r, w2, w3, w4⟩ := hK
    have hlt : s &&& p r < 256 := Nat.lt_of_le_of_lt Nat.and_le_left hs
    have hb8 : b < 8 := by
      rcases Nat.lt_or_ge b 8 with y | y
      · exact y
      · rw [bn_big (n := 8) hs y] at hb; exact absurd hb (by decide)
    have hc8 : c < 8 := by
      rcases Nat.lt_or_ge c 8 with y | y
      · exact y
      · rw [bn_big (n := 8) hs y] at hc; exact absurd hc (by decide)
    have := (popc_two _ hlt).mpr ⟨b, hb8, c, hc8, w1, by rw [bn_and, hb, w3], by rw [bn_and, hc, w4]⟩
    have := q r w2
    omega
  · have hlt : s &&& p r < 256 := Nat.lt_of_le_of_lt Nat.and_le_left hs
    rcases Nat.lt_or_ge (popc (s &&& p r)) 2 with y | y
    · exact y
    · exfalso
      obtain ⟨b, _, c, _, w1, w2, w3⟩ := (popc_two _ hlt).mp y
      rw [bn_and] at w2 w3
      have := bn_lt s b; have := bn_lt s c; have := bn_lt (p r) b; have := bn_lt (p r) c
      have a1 : bn s b = 1 := by rcases bn01 s b with e | e; (rw [e, Nat.zero_mul] at w2; omega); exact e
      have a2 : bn s c = 1 := by rcases bn01 s c with e | e; (rw [e, Nat.zero_mul] at w3; omega); exact e
      rw [a1, Nat.one_mul] at w2
      rw [a2, Nat.one_mul] at w3
      exact q b c a1 a2 ⟨w1, r, hr, w2, w3⟩
theorem sdf_lt {s t : Nat} (hs : s < 256) (ht : t ≠ 0) (hst : sub t s) : sdf s t < s := by
  have h1 : sdf s t ≤ s := Nat.and_le_left
  rcases Nat.lt_or_ge (sdf s t) s with q | q
  · exact q
  · have e : sdf s t = s := by omega
    obtain ⟨b, hb⟩ := bit_ex ht
    have h2 := hst b hb
    have h3 := sdf_b (t := t) (i := b) hs
    rw [e, if_pos hb] at h3
    omega
theorem sdf_self {s : Nat} (hs : s < 256) : sdf s s = 0 := by
  apply eq_bits
  intro i
  rw [sdf_b hs, bn_zero]
  have := bn_lt s i
  split <;> omega
theorem rg39 {F : Nat} {N s fl : Nat} {p W o : Nat → Nat} {k13 : Int32 → Int32 → HP → Option (Int32 × HP)} (hs0 : 0 < s) (hs : s < 256) (hW0 : W 0 = 0) (hW : ∀ x, x < s → opt (clsh p N) x (W x)) (hW8 : ∀ x, x < s → W x ≤ 8) (ho : ∀ x, 0 < x → x ≤ s → o x ≤ 1 ∧ (o x = 1 ↔ ind (clsh p N) x)) :
    ∀ (n t v : Nat) (h : HP), t < n → sub t s → t ≤ s → (∀ x, 0 < x → x < s → h 54 x = nI (W x)) → (∀ x, 0 < x → x ≤ s → h 55 x = nI (o x)) → h 54 s = nI v → v ≤ 1000000 → (v = 1000000 ∨ ColS (clsh p N) s v) → (∀ t', t' ≠ 0 → t' < 256 → sub t' s → t < t' → ind (clsh p N) t' → v ≤ 1 + W (sdf s t')) →
      ∃ h' v', f_X7_ringers_39 F k13 n (nI fl) (nI s) (nI t) h = k13 (nI fl) (nI (s + 1)) h' ∧ (∀ z, z ≠ 54 → h' z = h z) ∧ (∀ x, x ≠ s → h' 54 x = h 54 x) ∧ h' 54 s = nI v' ∧ v' ≤ 1000000 ∧ (v' = 1000000 ∨ ColS (clsh p N) s v') ∧ ∀ t', t' ≠ 0 → t' < 256 → sub t' s → ind (clsh p N) t' → v' ≤ 1 + W (sdf s t') := by
  intro n
  induction n with
  | zero => intro t v h ht; omega
  | succ n ih =>
    intro t v h htn hts hle h54 h55 hv hv6 hcol hall
    rw [f_X7_ringers_39]
    by_cases z : t = 0
    · refine ⟨h, v, ?_, fun _ _ => rfl, fun _ _ => rfl, hv, hv6, hcol, fun t' h1 h2 h3 h4 => hall t' h1 h2 h3 (by omega) h4⟩
      rw [if_pos (by rw [z]; exact Int32.le_refl _), e_add]
    · obtain ⟨o1, o2⟩ := ho t (by omega) hle
      have nx : ((nI t - nI 1) &&& nI s) = nI ((t - 1) &&& s) := by rw [e_sub (by omega), e_and]
      have hnt : (t - 1) &&& s ≤ t - 1 := Nat.and_le_left
      have hns : sub ((t - 1) &&& s) s := fun i hi => by
        rw [bn_and] at hi
        rcases bn01 s i with e | e
        · rw [e, Nat.mul_zero] at hi; omega
        · exact e
      have go : ∀ y, y ≤ 1000000 → (y = 1000000 ∨ ColS (clsh p N) s y) → (ind (clsh p N) t → y ≤ 1 + W (sdf s t)) →
          ∃ h' v', f_X7_ringers_78 F (f_X7_ringers_39 F k13 n) (nI fl) (nI s) (nI t) (nI y) h = k13 (nI fl) (nI (s + 1)) h' ∧ (∀ z, z ≠ 54 → h' z = h z) ∧ (∀ x, x ≠ s → h' 54 x = h 54 x) ∧ h' 54 s = nI v' ∧ v' ≤ 1000000 ∧ (v' = 1000000 ∨ ColS (clsh p N) s v') ∧ ∀ t', t' ≠ 0 → t' < 256 → sub t' s → ind (clsh p N) t' → v' ≤ 1 + W (sdf s t') := by
        intro y hy hyc hyt
        obtain ⟨h', v', f1, f2, f3, f4⟩ := ih ((t - 1) &&& s) (if v ≤ y then v else y) (up h 54 s (nI (if v ≤ y then v else y))) (by omega) hns (by omega) (fun x h1 h2 => by rw [up_n (by omega)]; exact h54 x h1 h2) (fun x h1 h2 => by rw [up_c (by decide)]; exact h55 x h1 h2) up_s (by split <;> omega) (by
          by_cases q : v ≤ y
          · rw [if_pos q]; exact hcol
          · rw [if_neg q]; exact hyc) (fun t' h1 h2 h3 h4 h5 => by
          have hmin : (if v ≤ y then v else y) ≤ v ∧ (if v ≤ y then v else y) ≤ y := by split <;> omega
          by_cases q : t' = t
          · rw [q] at h5 ⊢
            have := hyt h5
            omega
          · have hgt : t < t' := by
              rcases Nat.lt_or_ge t' t with w | w
              · have := sub_next (t + 1) t t' s (by omega) hts h3 w
                omega
              · omega
            have := hall t' h1 h2 h3 hgt h5
            omega)
        refine ⟨h', v', ?_, fun z hz => by rw [f2 z hz, up_c hz], fun x hx => by rw [f3 x hx, up_n hx], f4⟩
        unfold f_X7_ringers_78
        rw [if_pos (inb_t hs (by decide)), e_ix (by omega), hv, i_le (by omega) (by omega), ite_n, nx, f1]
      rw [if_neg (by rw [e_le (by omega) (by decide)]; omega), if_pos (inb_t (by omega) (by decide)), e_ix (by omega), h55 t (by omega) hle, i_eq (by omega) (by decide)]
      by_cases q : o t = 0
      · rw [if_pos q]
        exact go 1000000 (Nat.le_refl _) (Or.inl rfl) (fun hi => by have := o2.mpr hi; omega)
      · have hit : ind (clsh p N) t := o2.mp (by omega)
        rw [if_neg q]
        by_cases y : t = s
        · rw [if_pos (by rw [y])]
          unfold f_X7_ringers_72
          rw [e_add]
          have es : sdf s t = 0 := by rw [y]; exact sdf_self hs
          refine go (1 + 0) (by omega) (Or.inr ?_) (fun _ => by omega)
          have := hW 0 hs0
          rw [hW0] at this
          have h2 := col_up hs hit (by rw [es]; exact this.1)
          exact h2
        · have hlt := sdf_lt hs z hts
          have hne : sdf s t ≠ 0 := fun e => by
            apply y
            apply eq_bits
            intro i
            have e1 := sdf_b (t := t) (i := i) hs
            rw [e, bn_zero] at e1
            by_cases w : bn t i = 1
            · rw [w, hts i w]
            · rw [if_neg w] at e1
              have := bn_lt t i
              omega
          rw [if_neg (by rw [e_eq (by omega) (by omega)]; exact y), sdf_I, if_pos (inb_t (by omega) (by decide)), e_ix (by omega), h54 (sdf s t) (by omega) hlt]
          unfold f_X7_ringers_72
          rw [e_add]
          have h8 := hW8 (sdf s t) hlt
          refine go (1 + W (sdf s t)) (by omega) (Or.inr ?_) (fun _ => Nat.le_refl _)
          have := col_up hs hit (hW (sdf s t) hlt).1
          rw [Nat.add_comm] at this
          exact this
theorem ColS_eight {p : Nat → Nat} {N s : Nat} (hs : s < 256) : ColS (clsh p N) s 8 := by
  refine ⟨fun b => b, fun b hb => ?_, fun b c hb hc hK => hK.1⟩
  rcases Nat.lt_or_ge b 8 with q | q
  · exact q
  · rw [bn_big (n := 8) hs q] at hb; exact absurd hb (by decide)
theorem rg13 {F : Nat} (hF : 600 ≤ F) {N fl : Nat} {p : Nat → Nat} (hN : N ≤ 32) (hfl0 : 0 < fl) (hfl : fl < 256) :
    ∀ (k s n : Nat) (W o : Nat → Nat) (h : HP), s + k = fl + 1 → k < n → 0 < s → h 40 1 = nI N → (∀ r, r < 32 → h 43 (2 + r) = nI (p r) ∧ p r < 256) → W 0 = 0 → (∀ x, x < s → opt (clsh p N) x (W x)) → (∀ x, 0 < x → x < s → h 54 x = nI (W x)) → (∀ x, 0 < x → x < s → h 55 x = nI (o x) ∧ o x ≤ 1 ∧ (o x = 1 ↔ ind (clsh p N) x)) →
      ∃ h' v, f_X7_ringers_13 F n (nI fl) (nI s) h = some (nI v, h') ∧ opt (clsh p N) fl v ∧ ∀ z, z ≠ 54 → z ≠ 55 → h' z = h z := by
  intro k
  induction k with
  | zero =>
    intro s n W o h hs hn hs0 h40 hp hW0 hW h54 h55
    obtain ⟨n, rfl⟩ := succ_of hn
    refine ⟨h, W fl, ?_, hW fl (by omega), fun _ _ _ => rfl⟩
    rw [f_X7_ringers_13, if_pos (by rw [e_lt (by omega) (by omega)]; omega), if_pos (inb_t hfl (by decide)), e_ix (by omega), h54 fl hfl0 (by omega)]
  | succ k ih =>
    intro s n W o h hs hn hs0 h40 hp hW0 hW h54 h55
    obtain ⟨n, rfl⟩ := succ_of hn
    obtain ⟨os, o1, o2, o3⟩ := areOne_n hF (s := s) hN (by omega) h40 hp
    let h1 : HP := up (up h 55 s (nI os)) 54 s (nI 1000000)
    have f1 : ∀ z, z ≠ 54 → z ≠ 55 → h1 z = h z := fun z z1 z2 => by show (up (up h 55 _ _) 54 _ _) z = _; rw [up_c z1, up_c z2]
    have a54 : ∀ x, x ≠ s → h1 54 x = h 54 x := fun x hx => by show (up (up h 55 _ _) 54 _ _) 54 x = _; rw [up_n hx, up_c (by decide)]
    have a55 : ∀ x, h1 55 x = if x = s then nI os else h 55 x := fun x => by
      show (up (up h 55 _ _) 54 _ _) 55 x = _
      rw [up_c (by decide)]
      by_cases z : x = s
      · rw [if_pos z, z, up_s]
      · rw [if_neg z, up_n z]
    have hW8 : ∀ x, x < s → W x ≤ 8 := fun x hx => (hW x hx).2 8 (ColS_eight (by omega))
    obtain ⟨h2, v, b1, b2, b3, b4, b5, b6, b7⟩ := rg39 (F := F) (fl := fl) (p := p) (N := N) (W := W) (o := updN o s os) (k13 := f_X7_ringers_13 F n) hs0 (show s < 256 by omega) hW0 hW hW8 (fun x h1 h2 => by
      unfold updN
      by_cases z : x = s
      · rw [if_pos z, z]; exact ⟨o1, o3⟩
      · rw [if_neg z]; exact (h55 x h1 (by omega)).2) F s 1000000 h1 (by omega) (fun i hi => hi) (Nat.le_refl _) (fun x h1 h2 => by rw [a54 x (by omega)]; exact h54 x h1 h2) (fun x h1 h2 => by
      rw [a55 x]
      unfold updN
      by_cases z : x = s
      · rw [if_pos z, if_pos z]
      · rw [if_neg z, if_neg z]; exact (h55 x h1 (by omega)).1) up_s (Nat.le_refl _) (Or.inl rfl) (fun t' h1 h2 h3 h4 => by
        exfalso
        have e := and_self_sub h3
        have : t' ≤ s := by rw [← e]; exact Nat.and_le_right
        omega)
    have hopt : opt (clsh p N) s v := by
      have hmin : ∀ k, ColS (clsh p N) s k → v ≤ k := fun k hk => by
        obtain ⟨q1, t, q2, q3, q4, q5, q6⟩ := col_down (show s < 256 by omega) (by omega) hk
        have q7 := b7 t q2 q3 q4 q5
        have q8 := (hW (sdf s t) (sdf_lt (by omega) q2 q4)).2 (k - 1) q6
        omega
      have h8 := hmin 8 (ColS_eight (by omega))
      rcases b6 with b6 | b6
      · omega
      · exact ⟨b6, hmin⟩
    obtain ⟨h', v', c1, c2, c3⟩ := ih (s + 1) n (updN W s v) (updN o s os) h2 (by omega) (by omega) (by omega) (by rw [b2 40 (by decide), f1 40 (by decide) (by decide)]; exact h40) (fun r hr => by rw [b2 43 (by decide), f1 43 (by decide) (by decide)]; exact hp r hr) (by unfold updN; rw [if_neg (by omega)]; exact hW0) (fun x hx => by
      unfold updN
      by_cases z : x = s
      · rw [if_pos z, z]; exact hopt
      · rw [if_neg z]; exact hW x (by omega)) (fun x h1 h2 => by
      unfold updN
      by_cases z : x = s
      · rw [if_pos z, z]; exact b4
      · rw [if_neg z, b3 x z, a54 x z]; exact h54 x h1 (by omega)) (fun x h1 h2 => by
      rw [b2 55 (by decide), a55 x]
      unfold updN
      by_cases z : x = s
      · rw [if_pos z, if_pos z, z]; exact ⟨rfl, o1, o3⟩
      · rw [if_neg z, if_neg z]; exact h55 x h1 (by omega))
    refine ⟨h', v', ?_, c2, fun z z1 z2 => by rw [c3 z z1 z2, b2 z z1, f1 z z1 z2]⟩
    rw [f_X7_ringers_13, if_neg (by rw [e_lt (by omega) (by omega)]; omega), o2, ob_eq, if_pos (inb_t (by omega) (by decide)), guard01 (by rcases (show os = 0 ∨ os = 1 by omega) with z | z <;> rw [z] <;> first | exact Or.inl rfl | exact Or.inr rfl), e_ix (by omega), show up (up h 55 s (nI os)) 54 s (nI 1000000) = h1 from rfl, b1, c1]
theorem op_ringers {F c : Nat} (hF : 600 ≤ F) {tw : TW} {h : HP} (i : INV c tw h) : Step (f_X6_ringers F tw) (f_X7_ringers F) c tw h := by
  have i0 := i
  obtain ⟨hK, B, N, R, T, M, ⟨hB1, hB8, hN2, hN32, hR6, hTM⟩, hC, hM, hS, hD, -⟩ := i
  have hKc := hK.c
  have h256 := p2le hB8
  have h1p : 2 ≤ 2 ^ B := by
    have := Nat.pow_le_pow_right (show 0 < 2 by decide) hB1
    exact this
  have hp43 : ∀ r, r < 32 → h 43 (2 + r) = nI (pv h r) ∧ pv h r < 2 ^ B := fun r hr => ⟨(pv_of hB8 hS hr).1, (pv_of hB8 hS hr).2.1⟩
  have hp15 : ∀ r, r < 32 → h 15 r = nI (pv h r) ∧ pv h r < 2 ^ B := fun r hr => by rw [pin_of hD hr]; exact hp43 r hr
  obtain ⟨h1, f, a1, a2, a3, a4, a5⟩ := peopleX_n hF (N := N) hKc hB8 hN32 hC.1 hC.2.1 hp15
  obtain ⟨h2, v, b1, b2, b3⟩ := rg13 hF (fl := 2 ^ B - 1) (N := N) (p := pv h) hN32 (by omega) (by omega) (2 ^ B - 1) 1 F (fun _ => 0) (fun _ => 0) h1 (by omega) (by omega) (by decide) (by rw [a2 40 (by decide) (by decide) (by decide)]; exact hM.2.1) (fun r hr => by rw [a2 43 (by decide) (by decide) (by decide)]; exact ⟨(hp43 r hr).1, by have := (hp43 r hr).2; omega⟩) rfl (fun x hx => by
    rw [show x = 0 by omega]
    exact ⟨⟨fun _ => 0, fun b hb => by rw [bn_zero] at hb; exact absurd hb (by decide), fun b c hb => by rw [bn_zero] at hb; exact absurd hb (by decide)⟩, fun _ _ => Nat.zero_le _⟩) (fun x h1 h2 => by omega) (fun x h1 h2 => by omega)
  have e : ∀ z, z ≠ 36 → z ≠ 37 → z ≠ 38 → z ≠ 54 → z ≠ 55 → h2 z = h z := fun z z1 z2 z3 z4 z5 => by rw [b3 z z4 z5, a2 z z1 z2 z3]
  have hfv : f = v := by
    have u1 : ∃ col, PrC (clsh (pv h) N) B f col := by
      rcases a4 with a4 | a4
      · exact ⟨fun c => c, fun c hc => by rw [a4]; exact hc, fun c c' _ _ hK => hK.1⟩
      · exact a4
    obtain ⟨col, u2, u3⟩ := u1
    have u4 := b2.2 f ⟨col, fun b hb => u2 b ((full_b B b).mp hb), fun b c hb hc hK => u3 b c ((full_b B b).mp hb) ((full_b B c).mp hc) hK⟩
    obtain ⟨⟨col2, w1, w2⟩, _⟩ := b2
    have u5 := a5 v col2 ⟨fun c hc => w1 c ((full_b B c).mpr hc), fun c c' hc hc' hK => w2 c c' ((full_b B c).mpr hc) ((full_b B c').mpr hc') hK⟩
    omega
  refine ⟨nI f, h1, h2, ?_, ?_, (i0.ess ⟨fun k hk => ?_, fun j hj => e _ (by omega) (by omega) (by omega) (by omega) (by omega), by rw [e 0 (by decide) (by decide) (by decide) (by decide) (by decide)], by rw [e 1 (by decide) (by decide) (by decide) (by decide) (by decide)], by rw [e 39 (by decide) (by decide) (by decide) (by decide) (by decide)], by rw [e 39 (by decide) (by decide) (by decide) (by decide) (by decide)], by rw [e 39 (by decide) (by decide) (by decide) (by decide) (by decide)], by rw [e 39 (by decide) (by decide) (by decide) (by decide) (by decide)]⟩).mono (Nat.le_succ c)⟩
  · unfold f_X6_ringers
    rw [a1, ob_eq]
  · unfold f_X7_ringers
    rw [a2 40 (by decide) (by decide) (by decide), hM.1, e_one (by omega), e_sub (by omega), b1, hfv]
  · have : ∀ k, k ∈ essL → k ≠ 36 ∧ k ≠ 37 ∧ k ≠ 38 ∧ k ≠ 54 ∧ k ≠ 55 := by decide
    obtain ⟨q1, q2, q3, q4, q5⟩ := this k hk
    exact e k q1 q2 q3 q4 q5
