/-! ===== octaves, melody, harsh, canon ===== -/
theorem bn_tb (s i : Nat) : bn s i = (s.testBit i).toNat := by
  unfold bn
  rw [Nat.testBit_eq_decide_div_mod_eq]
  have := Nat.mod_lt (s / 2 ^ i) (show 2 > 0 by decide)
  by_cases g : s / 2 ^ i % 2 = 1
  · rw [decide_eq_true g, g]; rfl
  · rw [decide_eq_false g]
    show s / 2 ^ i % 2 = 0
    omega
theorem bn_or (a b i : Nat) : bn (a ||| b) i = max (bn a i) (bn b i) := by
  rw [bn_tb, bn_tb, bn_tb, Nat.testBit_or]
  cases a.testBit i <;> cases b.testBit i <;> rfl
theorem bn_and (a b i : Nat) : bn (a &&& b) i = bn a i * bn b i := by
  rw [bn_tb, bn_tb, bn_tb, Nat.testBit_and]
  cases a.testBit i <;> cases b.testBit i <;> rfl
theorem bn_pow (j i : Nat) : bn (2 ^ j) i = if i = j then 1 else 0 := by
  rw [bn_tb, Nat.testBit_two_pow]
  by_cases g : i = j
  · rw [if_pos g, decide_eq_true g.symm]; rfl
  · rw [if_neg g, decide_eq_false (fun z => g z.symm)]; rfl
theorem bn_big {s n i : Nat} (h : s < 2 ^ n) (hi : n ≤ i) : bn s i = 0 := by
  unfold bn
  rw [Nat.div_eq_of_lt (Nat.lt_of_lt_of_le h (Nat.pow_le_pow_right (by decide) hi))]
/-- how many of the bells from b on have the tone -/
def tcn (T : Nat → Nat) (t : Nat) (b k : Nat) : Nat := sg (fun j => if T j % 12 = t then 1 else 0) b k
theorem X6_oct_loop {F : Nat} {tw : TW} {B : Nat} {T : Nat → Nat} {h : HP} (hB : h tw.1 0 = nI B) (hb : B ≤ 8) (hT : ∀ b, b < B → h (tw.1 + 1) b = nI (T b) ∧ T b ≤ 40) :
    ∀ (k b n o m : Nat) (c : Nat → Nat), b + k = B → k < n → o < 4096 → m < 4096 → (∀ t, t < 12 → bn o t = (if c t = 0 then 0 else 1) ∧ bn m t = if c t ≤ 1 then 0 else 1) →
      f_X6_octaves_6 F tw n (nI o) (nI m) (nI b) h = some (nI (sg (fun t => if c t + tcn T t b k ≤ 1 then 0 else 1) 0 12), h) := by
  intro k
  induction k with
  | zero =>
    intro b n o m c hi hn ho hm hc
    obtain ⟨n, rfl⟩ := succ_of hn
    rw [f_X6_octaves_6, hB, if_pos (by rw [e_le (by omega) (by omega)]; omega), bc12_spec F hm, ob_eq]
    have : popc12 m = sg (fun t => if c t + tcn T t b 0 ≤ 1 then 0 else 1) 0 12 := sg_congr (fun t _ ht => by
      rw [(hc t (by omega)).2]
      rfl)
    rw [this]
  | succ k ih =>
    intro b n o m c hi hn ho hm hc
    obtain ⟨n, rfl⟩ := succ_of hn
    obtain ⟨t1, t2⟩ := hT b (by omega)
    have hlt : T b % 12 < 12 := Nat.mod_lt _ (by decide)
    have hpw : 2 ^ (T b % 12) < 2 ^ 12 := Nat.pow_lt_pow_right (by decide) hlt
    have hor : o ||| 2 ^ (T b % 12) < 2 ^ 12 := Nat.or_lt_two_pow ho hpw
    have hmr : m ||| (o &&& 2 ^ (T b % 12)) < 2 ^ 12 := Nat.or_lt_two_pow hm (Nat.and_lt_two_pow _ hpw)
    rw [f_X6_octaves_6, hB, if_neg (by rw [e_le (by omega) (by omega)]; omega), if_pos (inb_t (by omega) (by decide)), e_ix (by omega), t1, jrem_n (by omega) (by decide) (by decide), e_one (by omega), e_or, e_and, e_or, e_add, ih (b + 1) n _ _ (fun t => c t + if T b % 12 = t then 1 else 0) (by omega) (by omega) hor hmr ?_]
    · congr 2
      refine congrArg nI (sg_congr (fun t _ _ => ?_))
      show (if c t + (if T b % 12 = t then 1 else 0) + tcn T t (b + 1) k ≤ 1 then 0 else 1) = if c t + ((if T b % 12 = t then 1 else 0) + tcn T t (b + 1) k) ≤ 1 then 0 else 1
      rw [Nat.add_assoc]
    · intro t ht
      obtain ⟨c1, c2⟩ := hc t ht
      rw [bn_or, bn_or, bn_and, bn_pow, c1, c2]
      by_cases g : T b % 12 = t
      · have g' : t = T b % 12 := g.symm
        simp only [if_pos g, if_pos g', Nat.mul_one]
        constructor <;> (repeat' split) <;> first | omega | (simp; omega) | simp
      · have g' : ¬ t = T b % 12 := fun z => g z.symm
        simp only [if_neg g, if_neg g', Nat.mul_zero, Nat.add_zero, Nat.max_zero]
        exact ⟨trivial, trivial⟩
theorem X7_oct_in {F : Nat} {B t : Nat} {x1 : Int32} {k4 : Int32 → Int32 → HP → Option (Int32 × HP)} {T : Nat → Nat} {h : HP} (hB : h 40 0 = nI B) (hb : B ≤ 8) (ht : t < 12) (hT : ∀ b, b < B → h 40 (3 + b) = nI (T b) ∧ T b ≤ 40) :
    ∀ (k b n acc : Nat), b + k = B → k < n → acc + k < 100 → f_X7_octaves_15 F k4 n x1 (nI t) (nI acc) (nI b) h = k4 (x1 + (if acc + tcn T t b k ≤ 1 then nI 0 else nI 1)) (nI (t + 1)) h := by
  intro k
  induction k with
  | zero =>
    intro b n acc hi hn ha
    obtain ⟨n, rfl⟩ := succ_of hn
    rw [f_X7_octaves_15, hB, if_pos (by rw [e_le (by omega) (by omega)]; omega), i_le (by omega) (by decide), e_add]
    rfl
  | succ k ih =>
    intro b n acc hi hn ha
    obtain ⟨n, rfl⟩ := succ_of hn
    obtain ⟨t1, t2⟩ := hT b (by omega)
    have hlt : T b % 12 < 12 := Nat.mod_lt _ (by decide)
    rw [f_X7_octaves_15, hB, if_neg (by rw [e_le (by omega) (by omega)]; omega), e_add, if_pos (inb_t (by omega) (by decide)), e_ix (by omega), t1, jrem_n (by omega) (by decide) (by decide), i_eq (by omega) (by omega), ite_n, e_add, e_add, ih (b + 1) n _ (by omega) (by omega) (by split <;> omega), Nat.add_assoc]
    rfl
theorem op_octaves {F c : Nat} (hF : 600 ≤ F) {tw : TW} {h : HP} (i : INV c tw h) : Same (f_X6_octaves F tw) (f_X7_octaves F) h := by
  obtain ⟨-, B, N, R, T, M, ⟨hB1, hB8, hN2, hN32, hR6, hTM⟩, hC, hM, -⟩ := i
  have a2 : ∀ (k t n acc : Nat), t + k = 12 → k < n → f_X7_octaves_4 F n (nI acc) (nI t) h = some (nI (acc + sg (fun t => if tcn T t 0 B ≤ 1 then 0 else 1) t k), h) := by
    intro k
    induction k with
    | zero =>
      intro t n acc hi hn
      obtain ⟨n, rfl⟩ := succ_of hn
      rw [f_X7_octaves_4, if_pos (by rw [e_le (by decide) (by omega)]; omega)]
      rfl
    | succ k ih =>
      intro t n acc hi hn
      obtain ⟨n, rfl⟩ := succ_of hn
      rw [f_X7_octaves_4, if_neg (by rw [e_le (by decide) (by omega)]; omega), X7_oct_in hM.1 hB8 (by omega) (fun b hb => ⟨(hM.2.2.2 b hb).1, (hTM b hb).1⟩) B 0 F 0 (by omega) (by omega) (by omega), Nat.zero_add, ite_n, e_add, ih (t + 1) n _ (by omega) (by omega), Nat.add_assoc]
      rfl
  refine ⟨nI (sg (fun t => if tcn T t 0 B ≤ 1 then 0 else 1) 0 12), ?_, ?_⟩
  · unfold f_X6_octaves
    rw [X6_oct_loop hC.1 hB8 (fun b hb => ⟨(hC.2.2.2 b hb).1, (hTM b hb).1⟩) B 0 F 0 0 (fun _ => 0) (by omega) (by omega) (by decide) (by decide) (fun t _ => by unfold bn; simp)]
    simp only [Nat.zero_add]
  · unfold f_X7_octaves
    rw [a2 12 0 F 0 (by omega) (by omega), Nat.zero_add]
/-- the highest tone of a set: bells from b on -/
def mxo (o : Option Nat) (t : Nat) : Nat := match o with
  | none => t
  | some v => max v t
def hif (T : Nat → Nat) (s : Nat) : Nat → Nat → Option Nat → Option Nat
  | 0, _, o => o
  | k + 1, b, o => hif T s k (b + 1) (if bn s b = 1 then some (mxo o (T b)) else o)
def oN (d : Int32) (o : Option Nat) : Int32 := match o with
  | none => d
  | some v => nI v
theorem m4_lt {a : Nat} (h : a < 2147483648) : (-4 : Int32) < nI a := by
  rw [Int32.lt_iff_toInt_lt, nI_toInt (by rw [e31]; exact h)]
  have : (-4 : Int32).toInt = -4 := by decide
  omega
theorem m4_ne {a : Nat} (h : a < 2147483648) : ¬ nI a = -4 := fun e => by
  have := m4_lt h
  rw [e] at this
  exact absurd this (by decide)
theorem m1_nle {a : Nat} (h : a < 2147483648) : ¬ nI a ≤ (-1 : Int32) := by
  rw [Int32.le_iff_toInt_le, nI_toInt (by rw [e31]; exact h)]
  have : (-1 : Int32).toInt = -1 := by decide
  omega
def oB (o : Option Nat) : Prop := ∀ v, o = some v → v ≤ 40
theorem hif_B {T : Nat → Nat} {s B : Nat} (hT : ∀ b, b < B → T b ≤ 40) : ∀ (k b : Nat) (o : Option Nat), b + k = B → oB o → oB (hif T s k b o) := by
  intro k
  induction k with
  | zero => intro b o _ ho; exact ho
  | succ k ih =>
    intro b o hb ho
    refine ih (b + 1) _ (by omega) ?_
    split
    · intro v hv
      have := hT b (by omega)
      cases o with
      | none => cases hv; exact this
      | some w => cases hv; have := ho w rfl; exact Nat.max_le.mpr ⟨this, by omega⟩
    · exact ho
theorem X5_high_loop {F : Nat} {t B s : Nat} {T : Nat → Nat} {h : HP} (hB : h t 0 = nI B) (hb : B ≤ 8) (hs : s < 256) (hT : ∀ b, b < B → h (t + 1) b = nI (T b) ∧ T b ≤ 40) :
    ∀ (k b n : Nat) (o : Option Nat), b + k = B → k < n → oB o → f_X5_highestTone_5 F t (nI s) n (oN (-4) o) (nI b) h = some (oN (-4) (hif T s k b o), h) := by
  intro k
  induction k with
  | zero =>
    intro b n o hi hn ho
    obtain ⟨n, rfl⟩ := succ_of hn
    rw [f_X5_highestTone_5, hB, if_pos (by rw [e_le (by omega) (by omega)]; omega)]
    rfl
  | succ k ih =>
    intro b n o hi hn ho
    obtain ⟨n, rfl⟩ := succ_of hn
    obtain ⟨t1, t2⟩ := hT b (by omega)
    have hbn := bn_lt s b
    rw [f_X5_highestTone_5, hB, if_neg (by rw [e_le (by omega) (by omega)]; omega), e_bit (by omega) (by omega), i_eq (by omega) (by decide), e_add]
    show _ = some (oN (-4) (hif T s k (b + 1) (if bn s b = 1 then some (mxo o (T b)) else o)), h)
    by_cases g : bn s b = 1
    · rw [if_pos g, if_pos (inb_t (by omega) (by decide)), e_ix (by omega), t1, if_pos g]
      cases o with
      | none =>
        unfold f_J9_max_7cf53
        rw [if_pos (show oN (-4) none < nI (T b) from m4_lt (by omega)), ob_eq]
        exact ih (b + 1) n (some (T b)) (by omega) (by omega) (fun v hv => by cases hv; exact t2)
      | some w =>
        have hw := ho w rfl
        rw [show oN (-4) (some w) = nI w from rfl, max_n F (by omega) (by omega), ob_eq]
        exact ih (b + 1) n (some (max w (T b))) (by omega) (by omega) (fun v hv => by cases hv; exact Nat.max_le.mpr ⟨hw, t2⟩)
    · rw [if_neg g, if_neg g]
      exact ih (b + 1) n o (by omega) (by omega) ho
/-- one row of the melody: rises, falls, the most, the tone ahead -/
def mst (o : Option Nat) (q : Nat × Nat × Nat × Option Nat) : Nat × Nat × Nat × Option Nat := match o with
  | none => q
  | some v => match q.2.2.2 with
    | none => (q.1, q.2.1, q.2.2.1, some v)
    | some a => (q.1 + (if v ≤ a then 0 else 1), q.2.1 + (if a ≤ v then 0 else 1), max q.2.2.1 (if a ≤ v then v - a else a - v), some v)
def mlf (H : Nat → Option Nat) : Nat → Nat → Nat × Nat × Nat × Option Nat → Nat × Nat × Nat × Option Nat
  | 0, _, q => q
  | k + 1, r, q => mlf H k (r + 1) (mst (H r) q)
theorem nsub_neg {v a : Nat} (h : v < a) (ha : a < 1073741824) : ¬ nI 0 ≤ nI v - nI a := by
  have := pk_sneg (a := v) (b := a) (by omega) h
  rw [nI_0]
  rw [Int32.lt_iff_toInt_lt] at this
  rw [Int32.le_iff_toInt_le]
  omega
theorem neg_nsub {v a : Nat} (h : v ≤ a) : -(nI v - nI a) = nI (a - v) := by
  rw [← e_sub h]
  exact Int32.neg_sub
theorem abs_n (F : Nat) {v a : Nat} (hv : v < 1073741824) (ha : a < 1073741824) (h : HP) : f_J9_abs_0f7a4 F (nI v - nI a) h = some (nI (if a ≤ v then v - a else a - v), h) := by
  unfold f_J9_abs_0f7a4
  by_cases g : a ≤ v
  · rw [e_sub g, if_pos (by rw [e_le (by decide) (by omega)]; omega), if_pos g]
  · rw [if_neg (nsub_neg (by omega) ha), if_neg g, neg_nsub (by omega)]
theorem X6_mel_loop {F : Nat} (hF : 600 ≤ F) {tw : TW} {N B j : Nat} {T p : Nat → Nat} {h : HP} (hj : j < 3) (hN : h tw.1 4 = nI N) (hb32 : N ≤ 32) (hB : h tw.1 0 = nI B) (hb : B ≤ 8) (hT : ∀ b, b < B → h (tw.1 + 1) b = nI (T b) ∧ T b ≤ 40) (hp : ∀ r, r < 32 → h 15 r = nI (p r) ∧ p r < 256) :
    ∀ (k r n : Nat) (q : Nat × Nat × Nat × Option Nat), r + k = N → k < n → q.1 + k ≤ 100 → q.2.1 + k ≤ 100 → q.2.2.1 ≤ 40 → oB q.2.2.2 →
      f_X6_melody_25 F tw (nI j) n (nI q.1) (nI q.2.1) (nI q.2.2.1) (oN (-4) q.2.2.2) (nI r) h = some (nI (if j = 0 then (mlf (fun r => hif T (p r) B 0 none) k r q).1 else if j = 1 then (mlf (fun r => hif T (p r) B 0 none) k r q).2.1 else (mlf (fun r => hif T (p r) B 0 none) k r q).2.2.1), h) := by
  intro k
  induction k with
  | zero =>
    intro r n q hi hn h1 h2 h3 h4
    obtain ⟨n, rfl⟩ := succ_of hn
    rw [f_X6_melody_25, hN, if_pos (by rw [e_le (by omega) (by omega)]; omega), i_eq (by omega) (by decide), i_eq (by omega) (by decide)]
    show _ = some (nI (if j = 0 then q.1 else if j = 1 then q.2.1 else q.2.2.1), h)
    by_cases g0 : j = 0
    · rw [if_pos g0, if_pos g0]
    · rw [if_neg g0, if_neg g0]
      by_cases g1 : j = 1
      · rw [if_pos g1, if_pos g1]
      · rw [if_neg g1, if_neg g1]
  | succ k ih =>
    intro r n q hi hn h1 h2 h3 h4
    obtain ⟨n, rfl⟩ := succ_of hn
    obtain ⟨p1, p2⟩ := hp r (by omega)
    have hob := hif_B (s := p r) (fun b hb => (hT b hb).2) B 0 none (by omega) (fun v hv => by cases hv)
    rw [f_X6_melody_25, hN, if_neg (by rw [e_le (by omega) (by omega)]; omega), if_pos (inb_t (by omega) (by decide)), e_ix (by omega), p1, f_X5_highestTone, show (-4 : Int32) = oN (-4) none from rfl, X5_high_loop hB hb p2 hT B 0 F none (by omega) (by omega) (fun v hv => by cases hv), ob_eq, show oN (-4) none = (-4 : Int32) from rfl]
    have hm : mlf (fun r => hif T (p r) B 0 none) (k + 1) r q = mlf (fun r => hif T (p r) B 0 none) k (r + 1) (mst (hif T (p r) B 0 none) q) := rfl
    rw [hm]
    cases ho : hif T (p r) B 0 none with
    | none =>
      rw [show oN (-4) none = (-4 : Int32) from rfl, if_pos rfl, f_X6_melody_115, if_pos rfl, e_add]
      exact ih (r + 1) n q (by omega) (by omega) (by omega) (by omega) h3 h4
    | some v =>
      have hv := hob v ho
      rw [show oN (-4) (some v) = nI v from rfl, if_neg (m4_ne (by omega))]
      cases ha : q.2.2.2 with
      | none =>
        rw [show oN (-4) none = (-4 : Int32) from rfl, if_pos rfl, f_X6_melody_115, if_neg (m4_ne (by omega)), e_add]
        have hs : mst (some v) q = (q.1, q.2.1, q.2.2.1, some v) := by show (match q.2.2.2 with | none => _ | some a => _) = _; rw [ha]
        rw [hs]
        exact ih (r + 1) n (q.1, q.2.1, q.2.2.1, some v) (by omega) (by omega) (by show q.1 + k ≤ 100; omega) (by show q.2.1 + k ≤ 100; omega) h3 (fun w hw => by cases hw; exact hv)
      | some a =>
        have hA := h4 a ha
        rw [show oN (-4) (some a) = nI a from rfl, if_neg (m4_ne (by omega)), abs_n F (by omega) (by omega), ob_eq, max_n F (by omega) (by split <;> omega), ob_eq, i_le (by omega) (by omega), i_le (by omega) (by omega), ite_n, ite_n, e_add, e_add, f_X6_melody_115, if_neg (m4_ne (by omega)), e_add]
        have hs : mst (some v) q = (q.1 + (if v ≤ a then 0 else 1), q.2.1 + (if a ≤ v then 0 else 1), max q.2.2.1 (if a ≤ v then v - a else a - v), some v) := by show (match q.2.2.2 with | none => _ | some a => _) = _; rw [ha]
        rw [hs]
        refine ih (r + 1) n (q.1 + (if v ≤ a then 0 else 1), q.2.1 + (if a ≤ v then 0 else 1), max q.2.2.1 (if a ≤ v then v - a else a - v), some v) (by omega) (by omega) ?_ ?_ ?_ (fun w hw => by cases hw; exact hv)
        · show q.1 + (if v ≤ a then 0 else 1) + k ≤ 100
          split <;> omega
        · show q.2.1 + (if a ≤ v then 0 else 1) + k ≤ 100
          split <;> omega
        · show max q.2.2.1 (if a ≤ v then v - a else a - v) ≤ 40
          refine Nat.max_le.mpr ⟨h3, ?_⟩
          split <;> omega
theorem X7_mel_loop {F : Nat} (hF : 600 ≤ F) {N B j : Nat} {T p : Nat → Nat} {h : HP} (hj : j < 3) (hN : h 40 1 = nI N) (hb32 : N ≤ 32) (hB : h 40 0 = nI B) (hb : B ≤ 8) (hT : ∀ b, b < B → h 40 (3 + b) = nI (T b) ∧ T b ≤ 40) (hp : ∀ r, r < 32 → h 43 (2 + r) = nI (p r) ∧ p r < 256) :
    ∀ (k r n : Nat) (q : Nat × Nat × Nat × Option Nat), r + k = N → k < n → q.1 + k ≤ 100 → q.2.1 + k ≤ 100 → q.2.2.1 ≤ 40 → oB q.2.2.2 →
      f_X7_melody_27 F (nI j) n (nI q.1) (nI q.2.1) (nI q.2.2.1) (oN (-1) q.2.2.2) (nI r) h = some (nI (if j = 0 then (mlf (fun r => hif T (p r) B 0 none) k r q).1 else if j = 1 then (mlf (fun r => hif T (p r) B 0 none) k r q).2.1 else (mlf (fun r => hif T (p r) B 0 none) k r q).2.2.1), h) := by
  have m1lt : ((-1 : Int32) < nI 0) := by decide
  have inner : ∀ (r : Nat), r < 32 → ∀ (k27 : Int32 → Int32 → Int32 → Int32 → Int32 → HP → Option (Int32 × HP)) (x2 x3 x4 x5 : Int32) (k b n : Nat) (o : Option Nat), b + k = B → k < n → oB o →
      f_X7_melody_44 F (nI j) k27 n x2 x3 x4 x5 (nI r) (oN (-1) o) (nI b) h = f_X7_melody_44 F (nI j) k27 1 x2 x3 x4 x5 (nI r) (oN (-1) (hif T (p r) k b o)) (nI B) h := by
    intro r hr k27 x2 x3 x4 x5 k
    obtain ⟨p1, p2⟩ := hp r hr
    induction k with
    | zero =>
      intro b n o hi hn ho
      obtain ⟨n, rfl⟩ := succ_of hn
      obtain rfl : b = B := by omega
      rw [f_X7_melody_44, f_X7_melody_44, hB, if_pos (Int32.le_refl (nI b)), if_pos (Int32.le_refl (nI b))]
      rfl
    | succ k ih =>
      intro b n o hi hn ho
      obtain ⟨n, rfl⟩ := succ_of hn
      obtain ⟨t1, t2⟩ := hT b (by omega)
      have hbn := bn_lt (p r) b
      have hh : hif T (p r) (k + 1) b o = hif T (p r) k (b + 1) (if bn (p r) b = 1 then some (mxo o (T b)) else o) := rfl
      rw [hh, f_X7_melody_44, hB, if_neg (by rw [e_le (by omega) (by omega)]; omega), e_add, if_pos (inb_t (by omega) (by decide)), e_ix (by omega), p1, has_n F p2 (by omega), ob_eq, i_eq (by omega) (by decide), e_add]
      by_cases g : bn (p r) b = 1
      · rw [if_neg (show ¬ bn (p r) b = 0 by omega), if_pos g, e_add, if_pos (inb_t (by omega) (by decide)), e_ix (by omega), t1]
        cases o with
        | none =>
          rw [show oN (-1) none = (-1 : Int32) from rfl, if_neg (m1_nle (by omega))]
          exact ih (b + 1) n (some (T b)) (by omega) (by omega) (fun v hv => by cases hv; exact t2)
        | some w =>
          have hw := ho w rfl
          rw [show oN (-1) (some w) = nI w from rfl, i_le (by omega) (by omega), ite_n]
          have em : (if T b ≤ w then w else T b) = max w (T b) := by
            by_cases z : T b ≤ w
            · rw [if_pos z, Nat.max_eq_left z]
            · rw [if_neg z, Nat.max_eq_right (by omega)]
          rw [em]
          exact ih (b + 1) n (some (max w (T b))) (by omega) (by omega) (fun v hv => by cases hv; exact Nat.max_le.mpr ⟨hw, t2⟩)
      · rw [if_pos (show bn (p r) b = 0 by omega), if_neg g]
        exact ih (b + 1) n o (by omega) (by omega) ho
  intro k
  induction k with
  | zero =>
    intro r n q hi hn h1 h2 h3 h4
    obtain ⟨n, rfl⟩ := succ_of hn
    rw [f_X7_melody_27, hN, if_pos (by rw [e_le (by omega) (by omega)]; omega), i_eq (by omega) (by decide), i_eq (by omega) (by decide)]
    show _ = some (nI (if j = 0 then q.1 else if j = 1 then q.2.1 else q.2.2.1), h)
    by_cases g0 : j = 0
    · rw [if_pos g0, if_pos g0]
    · rw [if_neg g0, if_neg g0]
      by_cases g1 : j = 1
      · rw [if_pos g1, if_pos g1]
      · rw [if_neg g1, if_neg g1]
  | succ k ih =>
    intro r n q hi hn h1 h2 h3 h4
    obtain ⟨n, rfl⟩ := succ_of hn
    obtain ⟨p1, p2⟩ := hp r (by omega)
    have hob := hif_B (s := p r) (fun b hb => (hT b hb).2) B 0 none (by omega) (fun v hv => by cases hv)
    have hm : mlf (fun r => hif T (p r) B 0 none) (k + 1) r q = mlf (fun r => hif T (p r) B 0 none) k (r + 1) (mst (hif T (p r) B 0 none) q) := rfl
    have hin := inner r (by omega) (f_X7_melody_27 F (nI j) n) (nI q.1) (nI q.2.1) (nI q.2.2.1) (oN (-1) q.2.2.2) B 0 F none (by omega) (by omega) (fun v hv => by cases hv)
    rw [show oN (-1) none = (-1 : Int32) from rfl] at hin
    rw [f_X7_melody_27, hN, if_neg (by rw [e_le (by omega) (by omega)]; omega), hin, hm, f_X7_melody_44, hB, if_pos (Int32.le_refl (nI B))]
    cases ho : hif T (p r) B 0 none with
    | none =>
      rw [show oN (-1) none = (-1 : Int32) from rfl, if_pos m1lt, e_add]
      exact ih (r + 1) n q (by omega) (by omega) (by omega) (by omega) h3 h4
    | some v =>
      have hv := hob v ho
      rw [show oN (-1) (some v) = nI v from rfl, if_neg (by rw [e_lt (by omega) (by decide)]; omega), e_add]
      cases ha : q.2.2.2 with
      | none =>
        have c0 : ¬ nI 0 ≤ oN (-1) none := by decide
        have z1 : nI 0 ≤ nI 0 := Int32.le_refl _
        have z2 : nI 0 ≤ nI q.2.2.1 := by rw [e_le (by decide) (by omega)]; omega
        simp only [if_neg c0, if_pos z1, if_pos z2]
        rw [e_add, e_add]
        have hs : mst (some v) q = (q.1, q.2.1, q.2.2.1, some v) := by show (match q.2.2.2 with | none => _ | some a => _) = _; rw [ha]
        rw [hs]
        exact ih (r + 1) n (q.1, q.2.1, q.2.2.1, some v) (by omega) (by omega) (by show q.1 + k ≤ 100; omega) (by show q.2.1 + k ≤ 100; omega) h3 (fun w hw => by cases hw; exact hv)
      | some a =>
        have hA := h4 a ha
        have c0 : nI 0 ≤ oN (-1) (some a) := by show nI 0 ≤ nI a; rw [e_le (by decide) (by omega)]; omega
        simp only [if_pos c0]
        rw [show oN (-1) (some a) = nI a from rfl]
        have hs : mst (some v) q = (q.1 + (if v ≤ a then 0 else 1), q.2.1 + (if a ≤ v then 0 else 1), max q.2.2.1 (if a ≤ v then v - a else a - v), some v) := by show (match q.2.2.2 with | none => _ | some a => _) = _; rw [ha]
        rw [hs]
        have e1 : (if nI v - nI a ≤ nI 0 then nI 0 else nI 1) = nI (if v ≤ a then 0 else 1) := by
          by_cases z : v ≤ a
          · rw [if_pos z]
            by_cases y : v = a
            · rw [y, e_sub (Nat.le_refl _), Nat.sub_self, if_pos (Int32.le_refl _)]
            · have := pk_sneg (a := v) (b := a) (by omega) (by omega)
              rw [Int32.lt_iff_toInt_lt] at this
              rw [if_pos (by rw [Int32.le_iff_toInt_le, nI_0]; omega)]
          · rw [if_neg z, e_sub (by omega), if_neg (by rw [e_le (by omega) (by decide)]; omega)]
        have e2 : (if nI 0 ≤ nI v - nI a then nI 0 else nI 1) = nI (if a ≤ v then 0 else 1) := by
          by_cases z : a ≤ v
          · rw [if_pos z, e_sub z, if_pos (by rw [e_le (by decide) (by omega)]; omega)]
          · rw [if_neg z, if_neg (nsub_neg (by omega) (by omega))]
        have e3 : (if nI 0 ≤ nI v - nI a then nI v - nI a else -(nI v - nI a)) = nI (if a ≤ v then v - a else a - v) := by
          by_cases z : a ≤ v
          · rw [if_pos z, e_sub z, if_pos (by rw [e_le (by decide) (by omega)]; omega)]
          · rw [if_neg z, if_neg (nsub_neg (by omega) (by omega)), neg_nsub (by omega)]
        have hd : (if a ≤ v then v - a else a - v) ≤ 40 := by split <;> omega
        have e4 : (if nI (if a ≤ v then v - a else a - v) ≤ nI q.2.2.1 then nI q.2.2.1 else nI (if a ≤ v then v - a else a - v)) = nI (max q.2.2.1 (if a ≤ v then v - a else a - v)) := by
          generalize (if a ≤ v then v - a else a - v) = w at hd
          rw [i_le (by omega) (by omega), ite_n]
          by_cases z : w ≤ q.2.2.1
          · rw [if_pos z, Nat.max_eq_left z]
          · rw [if_neg z, Nat.max_eq_right (by omega)]
        rw [e1, e2, e3, e4, e_add, e_add]
        refine ih (r + 1) n (q.1 + (if v ≤ a then 0 else 1), q.2.1 + (if a ≤ v then 0 else 1), max q.2.2.1 (if a ≤ v then v - a else a - v), some v) (by omega) (by omega) ?_ ?_ ?_ (fun w hw => by cases hw; exact hv)
        · show q.1 + (if v ≤ a then 0 else 1) + k ≤ 100
          split <;> omega
        · show q.2.1 + (if a ≤ v then 0 else 1) + k ≤ 100
          split <;> omega
        · exact Nat.max_le.mpr ⟨h3, hd⟩
theorem not_below {x : Int32} {n : Nat} (h0 : 0 < n) (hn : n < 2147483648) (g : nI n ≤ x) : ¬ x < nI 0 ∧ ¬ x ≤ nI (n - 1) := by
  rw [Int32.le_iff_toInt_le, nI_toInt (by rw [e31]; omega)] at g
  constructor
  · rw [Int32.lt_iff_toInt_lt, nI_toInt (by decide)]; omega
  · rw [Int32.le_iff_toInt_le, nI_toInt (by rw [e31]; omega)]; omega
theorem op_melody {F c : Nat} (hF : 600 ≤ F) {tw : TW} {h : HP} (i : INV c tw h) (x : Int32) : Same (f_X6_melody F tw x) (f_X7_melody F x) h := by
  obtain ⟨-, B, N, R, T, M, ⟨hB1, hB8, hN2, hN32, hR6, hTM⟩, hC, hM, hS, hD, -⟩ := i
  have hp43 : ∀ r, r < 32 → h 43 (2 + r) = nI (pv h r) ∧ pv h r < 256 := fun r hr => ⟨(pv_of hB8 hS hr).1, (pv_of hB8 hS hr).2.2⟩
  have hp15 : ∀ r, r < 32 → h 15 r = nI (pv h r) ∧ pv h r < 256 := fun r hr => by rw [pin_of hD hr]; exact hp43 r hr
  rcases cas x (n := 3) (by decide) with ⟨j, hj, rfl⟩ | hx
  · have a1 := X6_mel_loop hF hj hC.2.1 hN32 hC.1 hB8 (fun b hb => ⟨(hC.2.2.2 b hb).1, (hTM b hb).1⟩) hp15 N 0 F (0, 0, 0, none) (by omega) (by omega) (by show 0 + N ≤ 100; omega) (by show 0 + N ≤ 100; omega) (by decide) (fun v hv => by cases hv)
    have a2 := X7_mel_loop hF hj hM.2.1 hN32 hM.1 hB8 (fun b hb => ⟨(hM.2.2.2 b hb).1, (hTM b hb).1⟩) hp43 N 0 F (0, 0, 0, none) (by omega) (by omega) (by show 0 + N ≤ 100; omega) (by show 0 + N ≤ 100; omega) (by decide) (fun v hv => by cases hv)
    refine ⟨_, Eq.trans ?_ a1, Eq.trans ?_ a2⟩
    · unfold f_X6_melody
      rw [if_neg (by rw [e_lt (by omega) (by decide)]; omega), if_pos (by rw [e_le (by omega) (by decide)]; omega)]
      rfl
    · unfold f_X7_melody
      rw [l64 (by decide), l64 (by decide), in_t h (by omega) (by omega) (by decide), ob_eq, if_neg n10]
      rfl
  · refine ⟨-1, ?_, ?_⟩
    · unfold f_X6_melody
      rcases hx with g | g
      · rw [if_pos g]
      · obtain ⟨g1, g2⟩ := not_below (by decide) (by decide) g
        rw [if_neg g1, if_neg g2]
    · unfold f_X7_melody
      rw [l64 (by decide), l64 (by decide), show nI 2 = nI (3 - 1) from rfl, in_f h (by decide) (by decide) hx, ob_eq, if_pos rfl]
