/-! ===== ringers: colourings ===== -/
theorem pig : ∀ (k u : Nat) (f : Nat → Nat), (∀ g, g < u → f g < k) → (∀ g g', g < u → g' < u → f g = f g' → g = g') → u ≤ k := by
  intro k
  induction k with
  | zero =>
    intro u f h1 h2
    rcases Nat.lt_or_ge 0 u with q | q
    · have := h1 0 q; omega
    · exact q
  | succ k ih =>
    intro u f h1 h2
    rcases Nat.lt_or_ge 0 u with q | q
    · have : u - 1 ≤ k := ih (u - 1) (fun g => if f g = k then f (u - 1) else f g) (fun g hg => by
        have a := h1 g (by omega)
        have b := h1 (u - 1) (by omega)
        by_cases z : f g = k
        · rw [if_pos z]
          have : f (u - 1) ≠ k := fun e => by
            have := h2 g (u - 1) (by omega) (by omega) (by rw [z, e])
            omega
          omega
        · rw [if_neg z]; omega) (fun g g' hg hg' e => by
        by_cases z : f g = k
        · by_cases z' : f g' = k
          · exact h2 g g' (by omega) (by omega) (by rw [z, z'])
          · rw [if_pos z, if_neg z'] at e
            have := h2 (u - 1) g' (by omega) (by omega) e
            omega
        · by_cases z' : f g' = k
          · rw [if_neg z, if_pos z'] at e
            have := h2 g (u - 1) (by omega) (by omega) e
            omega
          · rw [if_neg z, if_neg z'] at e
            exact h2 g g' (by omega) (by omega) e)
      omega
    · omega
theorem bn_1 {s i : Nat} (h : ¬ bn s i = 0) : bn s i = 1 := by have := bn_lt s i; omega
theorem eq_bits {a b : Nat} (h : ∀ i, bn a i = bn b i) : a = b := by
  apply Nat.eq_of_testBit_eq
  intro i
  have := h i
  rw [bn_tb, bn_tb] at this
  cases ha : a.testBit i <;> cases hb : b.testBit i <;> rw [ha, hb] at this <;> first | rfl | exact absurd this (by decide)
theorem bn_zero (i : Nat) : bn 0 i = 0 := by unfold bn; rw [Nat.zero_div]
theorem and_zero {a b : Nat} : a &&& b = 0 ↔ ∀ c, ¬ (bn a c = 1 ∧ bn b c = 1) := by
  constructor
  · intro h c hc
    have : bn (a &&& b) c = 1 := by rw [bn_and, hc.1, hc.2]
    rw [h, bn_zero] at this
    exact absurd this (by decide)
  · intro h
    apply eq_bits
    intro i
    rw [bn_zero, bn_and]
    by_cases z : bn a i = 1
    · have : bn b i = 0 := by
        have := bn_lt b i
        have := h i
        omega
      rw [this]; rfl
    · have : bn a i = 0 := by have := bn_lt a i; omega
      rw [this, Nat.zero_mul]
theorem bits_lt {a n : Nat} (h : ∀ i, n ≤ i → bn a i = 0) : a < 2 ^ n := by
  rcases Nat.lt_or_ge a (2 ^ n) with q | q
  · exact q
  · obtain ⟨i, h1, h2⟩ := Nat.exists_ge_and_testBit_of_ge_two_pow q
    have := h i h1
    rw [bn_tb, h2] at this
    exact absurd this (by decide)
theorem clear_I : ∀ b, b < 8 → ∀ a, a < 256 → nI a &&& (nI (2 ^ b) ^^^ (-1)) = nI (a &&& (255 ^^^ 2 ^ b)) := by decide +kernel
theorem clear_m : ∀ b, b < 8 → ∀ c, c < 8 → bn (255 ^^^ 2 ^ b) c = if c = b then 0 else 1 := by decide +kernel
theorem clear_b {a b c : Nat} (ha : a < 256) (hb : b < 8) : bn (a &&& (255 ^^^ 2 ^ b)) c = if c = b then 0 else bn a c := by
  rw [bn_and]
  rcases Nat.lt_or_ge c 8 with q | q
  · rw [clear_m b hb c q]
    split
    · rw [Nat.mul_zero]
    · rw [Nat.mul_one]
  · rw [bn_big (n := 8) ha q, Nat.zero_mul]
    split <;> rfl
theorem clear_or {a b : Nat} (ha : a < 256) (hb : b < 8) (h : bn a b = 0) : (a ||| 2 ^ b) &&& (255 ^^^ 2 ^ b) = a := by
  have h2 : 2 ^ b < 2 ^ 8 := Nat.pow_lt_pow_right (by decide) (by omega)
  apply eq_bits
  intro i
  rw [clear_b (Nat.or_lt_two_pow (n := 8) ha h2) hb]
  by_cases z : i = b
  · rw [if_pos z, z, h]
  · rw [if_neg z, bn_or, bn_pow, if_neg z]
    omega
/-- a colouring of the bells below B with k colours -/
def PrC (K : Nat → Nat → Prop) (B k : Nat) (col : Nat → Nat) : Prop := (∀ c, c < B → col c < k) ∧ ∀ c c', c < B → c' < B → K c c' → col c ≠ col c'
def Emb (b u k : Nat) (ro col st : Nat → Nat) : Prop := (∀ g, g < u → st g < k) ∧ (∀ g g', g < u → g' < u → st g = st g' → g = g') ∧ ∀ c, c < b → st (ro c) = col c
def SGp (K : Nat → Nat → Prop) (b u : Nat) (G ro : Nat → Nat) : Prop := (∀ c, c < b → ro c < u) ∧ (∀ g, g < 8 → G g < 256 ∧ ∀ c, bn (G g) c = 1 ↔ c < b ∧ ro c = g) ∧ ∀ c c', c < b → c' < b → K c c' → ro c ≠ ro c'
def PEp (K : Nat → Nat → Prop) (B : Nat) (cl : Nat → Nat) (b u f : Nat) (G ro : Nat → Nat) (h : HP) : Prop := b ≤ B ∧ u ≤ b ∧ f ≤ 8 ∧ SGp K b u G ro ∧ h 36 2 = nI B ∧ h 36 3 = nI f ∧ (∀ b, b < B → h 37 b = nI (cl b)) ∧ ∀ g, g < 8 → h 38 g = nI (G g)
def POp (K : Nat → Nat → Prop) (B f : Nat) (G : Nat → Nat) (h : HP) (cmp : Nat → Prop) (res : Option HP) : Prop := ∃ h' f', res = some h' ∧ h' 36 3 = nI f' ∧ h' 36 2 = h 36 2 ∧ (∀ g, g < 8 → h' 38 g = nI (G g)) ∧ (∀ z, z ≠ 36 → z ≠ 38 → h' z = h z) ∧ f' ≤ f ∧ (f' = f ∨ ∃ col, PrC K B f' col) ∧ cmp f'
theorem part31 {F : Nat} {K : Nat → Nat → Prop} {B b u : Nat} {cl G ro : Nat → Nat} {kr : Int32 → Int32 → HP → Option HP} (hB : B ≤ 8) (hb : b < B) (hub : u ≤ b) (hcl : ∀ b, b < B → cl b < 256 ∧ ∀ c, bn (cl b) c = 1 ↔ c < B ∧ K b c) (hsym : ∀ c c', K c c' → K c' c) (hirr : ∀ c, ¬ K c c) (hS : SGp K b u G ro)
    (hkr : ∀ (u' f' : Nat) (G' ro' : Nat → Nat) (h : HP), PEp K B cl (b + 1) u' f' G' ro' h → POp K B f' G' h (fun f'' => ∀ k col st, PrC K B k col → Emb (b + 1) u' k ro' col st → f'' ≤ k) (kr (nI (b + 1)) (nI u') h)) :
    ∀ (k g n f : Nat) (h : HP), g + k = u + 1 → k < n → PEp K B cl b u f G ro h →
      POp K B f G h (fun f' => ∀ k col st y, PrC K B k col → Emb b u k ro col st → g ≤ y → (y < u ∧ st y = col b ∨ y = u ∧ ∀ g, g < u → st g ≠ col b) → f' ≤ k) (f_X1_partFrom_31 F kr (nI b) (nI u) n (nI g) h) := by
  intro k
  induction k with
  | zero =>
    intro g n f h hg hn hP
    obtain ⟨n, rfl⟩ := succ_of hn
    obtain ⟨p1, p2, p3, p4, p5, p6, p7, p8⟩ := hP
    refine ⟨h, f, ?_, p6, rfl, p8, fun _ _ _ => rfl, Nat.le_refl _, Or.inl rfl, fun k col st y _ _ h1 h2 => by omega⟩
    rw [f_X1_partFrom_31, if_pos (by rw [e_lt (by omega) (by omega)]; omega)]
  | succ k ih =>
    intro g n f h hg hn hP
    obtain ⟨n, rfl⟩ := succ_of hn
    obtain ⟨p1, p2, p3, p4, p5, p6, p7, p8⟩ := hP
    have hg8 : g < 8 := by omega
    obtain ⟨s1, s2, s3⟩ := hS
    obtain ⟨gb, gbits⟩ := s2 g hg8
    obtain ⟨cb, cbits⟩ := hcl b hb
    have hand : nI (G g) &&& nI (cl b) = nI (G g &&& cl b) := e_and _ _
    have hlt : G g &&& cl b < 256 := Nat.lt_of_le_of_lt Nat.and_le_left gb
    rw [f_X1_partFrom_31, if_neg (by rw [e_lt (by omega) (by omega)]; omega), if_neg (by rw [e_le (by omega) (by omega)]; omega), if_pos (inb_t (by omega) (by decide)), if_pos (inb_t (by omega) (by decide)), e_ix (by omega), e_ix (by omega), p8 g hg8, p7 b hb, hand, i_eq (by omega) (by decide), e_add, e_add, e_one (by omega), e_or]
    by_cases t : G g &&& cl b = 0
    · rw [if_pos t]
      have tt := and_zero.mp t
      have gb0 : bn (G g) b = 0 := by
        have := bn_lt (G g) b
        have := mt (gbits b).mp (by omega)
        omega
      have h2b : 2 ^ b < 2 ^ 8 := Nat.pow_lt_pow_right (by decide) (by omega)
      have gor : G g ||| 2 ^ b < 256 := Nat.or_lt_two_pow (n := 8) gb h2b
      have hS' : SGp K (b + 1) (max u (g + 1)) (updN G g (G g ||| 2 ^ b)) (updN ro b g) := by
        refine ⟨fun c hc => ?_, fun g' hg' => ?_, fun c c' hc hc' hK => ?_⟩
        · unfold updN
          by_cases z : c = b
          · rw [if_pos z]; omega
          · rw [if_neg z]; have := s1 c (by omega); omega
        · unfold updN
          by_cases z : g' = g
          · rw [if_pos z]
            refine ⟨gor, fun c => ?_⟩
            rw [bn_or, bn_pow]
            have := gbits c
            have := bn_lt (G g) c
            by_cases y : c = b
            · rw [if_pos y, if_pos y]; omega
            · rw [if_neg y, if_neg y]; omega
          · rw [if_neg z]
            refine ⟨(s2 g' hg').1, fun c => ?_⟩
            have := (s2 g' hg').2 c
            by_cases y : c = b
            · rw [if_pos y]; omega
            · rw [if_neg y]; omega
        · unfold updN
          by_cases z : c = b
          · by_cases y : c' = b
            · rw [z, y] at hK; exact absurd hK (hirr b)
            · rw [if_pos z, if_neg y]
              intro e
              rw [z] at hK
              exact tt c' ⟨(gbits c').mpr ⟨by omega, e.symm⟩, (cbits c').mpr ⟨by omega, hK⟩⟩
          · by_cases y : c' = b
            · rw [if_neg z, if_pos y]
              intro e
              rw [y] at hK
              exact tt c ⟨(gbits c).mpr ⟨by omega, e⟩, (cbits c).mpr ⟨by omega, hsym _ _ hK⟩⟩
            · rw [if_neg z, if_neg y]
              exact s3 c c' (by omega) (by omega) hK
      let h1 : HP := up h 38 g (nI (G g ||| 2 ^ b))
      have f1 : ∀ z, z ≠ 38 → h1 z = h z := fun z hz => up_c hz
      obtain ⟨h2, f2, a1, a2, a3, a4, a5, a6, a7, a8⟩ := hkr (max u (g + 1)) f (updN G g (G g ||| 2 ^ b)) (updN ro b g) h1 ⟨hb, by omega, p3, hS', by rw [f1 36 (by decide)]; exact p5, by rw [f1 36 (by decide)]; exact p6, fun b' hb' => by rw [f1 37 (by decide)]; exact p7 b' hb', fun g' hg' => by
        unfold updN
        by_cases z : g' = g
        · rw [if_pos z, z]; exact up_s
        · rw [if_neg z]
          show (up h 38 g _) 38 g' = _
          rw [up_n z]; exact p8 g' hg'⟩
      have hcl2 : h2 38 g &&& (nI (2 ^ b) ^^^ (-1)) = nI (G g) := by
        rw [a4 g hg8, show updN G g (G g ||| 2 ^ b) g = G g ||| 2 ^ b by unfold updN; rw [if_pos rfl], clear_I b (by omega) _ gor, clear_or gb (by omega) gb0]
      obtain ⟨h3, f3, b1, b2, b3, b4, b5, b6, b7, b8⟩ := ih (g + 1) n f2 (up h2 38 g (nI (G g))) (by omega) (by omega) ⟨p1, p2, by omega, ⟨s1, s2, s3⟩, by rw [up_c (by decide), a3, f1 36 (by decide)]; exact p5, by rw [up_c (by decide)]; exact a2, fun b' hb' => by rw [up_c (by decide), a5 37 (by decide) (by decide), f1 37 (by decide)]; exact p7 b' hb', fun g' hg' => by
        by_cases z : g' = g
        · rw [z, up_s]
        · rw [up_n z, a4 g' hg']
          unfold updN
          rw [if_neg z]⟩
      refine ⟨h3, f3, ?_, b2, by rw [b3, up_c (by decide), a3, f1 36 (by decide)], b4, fun z z1 z2 => by rw [b5 z z1 z2, up_c z2, a5 z z1 z2, f1 z z2], by omega, ?_, fun k col st y c1 c2 c3 c4 => ?_⟩
      · rw [max_n F (by omega) (by omega), ob_eq, a1, obv_eq, hcl2, b1]
      · rcases b7 with b7 | b7
        · rw [b7]; exact a7
        · exact Or.inr b7
      · by_cases z : y = g
        · have : f2 ≤ k := by
            rcases c4 with ⟨c4, c5⟩ | ⟨c4, c5⟩
            · refine a8 k col st c1 ?_
              rw [show max u (g + 1) = u by omega]
              refine ⟨c2.1, c2.2.1, fun c hc => ?_⟩
              unfold updN
              by_cases w : c = b
              · rw [if_pos w, w, ← z]; exact c5
              · rw [if_neg w]; exact c2.2.2 c (by omega)
            · refine a8 k col (updN st u (col b)) c1 ?_
              rw [show max u (g + 1) = u + 1 by omega]
              refine ⟨fun g' hg' => ?_, fun g1 g2 h1 h2 e => ?_, fun c hc => ?_⟩
              · unfold updN
                by_cases w : g' = u
                · rw [if_pos w]; exact c1.1 b hb
                · rw [if_neg w]; exact c2.1 g' (by omega)
              · unfold updN at e
                by_cases w1 : g1 = u
                · by_cases w2 : g2 = u
                  · rw [w1, w2]
                  · rw [if_pos w1, if_neg w2] at e
                    exact absurd e.symm (c5 g2 (by omega))
                · by_cases w2 : g2 = u
                  · rw [if_neg w1, if_pos w2] at e
                    exact absurd e (c5 g1 (by omega))
                  · rw [if_neg w1, if_neg w2] at e
                    exact c2.2.1 g1 g2 (by omega) (by omega) e
              · unfold updN
                by_cases w : c = b
                · rw [if_pos w, if_pos (by omega), w]
                · rw [if_neg w]
                  have := s1 c (by omega)
                  rw [if_neg (by omega)]; exact c2.2.2 c (by omega)
          omega
        · exact b8 k col st y c1 c2 (by omega) c4
    · rw [if_neg t]
      obtain ⟨h3, f3, b1, b2, b3, b4, b5, b6, b7, b8⟩ := ih (g + 1) n f h (by omega) (by omega) ⟨p1, p2, p3, p4, p5, p6, p7, p8⟩
      refine ⟨h3, f3, b1, b2, b3, b4, b5, b6, b7, fun k col st y c1 c2 c3 c4 => ?_⟩
      by_cases z : y = g
      · exfalso
        apply t
        rw [and_zero]
        intro c ⟨d1, d2⟩
        obtain ⟨d3, d4⟩ := (gbits c).mp d1
        obtain ⟨d5, d6⟩ := (cbits c).mp d2
        rcases c4 with ⟨c4, c5⟩ | ⟨c4, c5⟩
        · have e1 := c2.2.2 c d3
          rw [d4, ← z, c5] at e1
          exact c1.2 b c hb d5 d6 e1
        · have := s1 c d3
          omega
      · exact b8 k col st y c1 c2 (by omega) c4
theorem part_n {F : Nat} (hF : 600 ≤ F) {K : Nat → Nat → Prop} {B : Nat} {cl : Nat → Nat} (hB : B ≤ 8) (hcl : ∀ b, b < B → cl b < 256 ∧ ∀ c, bn (cl b) c = 1 ↔ c < B ∧ K b c) (hsym : ∀ c c', K c c' → K c' c) (hirr : ∀ c, ¬ K c c) :
    ∀ (dd b u f : Nat) (G ro : Nat → Nat) (h : HP), B - b < dd → PEp K B cl b u f G ro h → POp K B f G h (fun f'' => ∀ k col st, PrC K B k col → Emb b u k ro col st → f'' ≤ k) (f_X1_partFrom F dd (nI b) (nI u) h) := by
  intro dd
  induction dd with
  | zero => intro b u f G ro h hd hP; omega
  | succ dd ih =>
    intro b u f G ro h hd hP
    have hP0 := hP
    obtain ⟨p1, p2, p3, p4, p5, p6, p7, p8⟩ := hP
    rw [f_X1_partFrom, p6, p5]
    by_cases g1 : u < f
    · rw [if_pos (by rw [e_lt (by omega) (by omega)]; exact g1)]
      by_cases g2 : B ≤ b
      · rw [if_pos (by rw [e_le (by omega) (by omega)]; exact g2)]
        have hbB : b = B := by omega
        subst hbB
        refine ⟨up h 36 3 (nI u), u, rfl, up_s, up_n (by decide), fun g hg => by rw [up_c (by decide)]; exact p8 g hg, fun z z1 z2 => up_c z1, by omega, Or.inr ⟨ro, p4.1, p4.2.2⟩, fun k col st c1 c2 => pig k u st c2.1 c2.2.1⟩
      · rw [if_neg (by rw [e_le (by omega) (by omega)]; exact g2), if_pos (by rw [e_lt (by omega) (by omega)]; omega)]
        obtain ⟨h', f', a1, a2, a3, a4, a5, a6, a7, a8⟩ := part31 (F := F) (kr := f_X1_partFrom F dd) hB (show b < B by omega) p2 hcl hsym hirr p4 (fun u' f' G' ro' h hP' => ih (b + 1) u' f' G' ro' h (by omega) hP') (u + 1) 0 F f h (by omega) (by omega) hP0
        refine ⟨h', f', a1, a2, a3, a4, a5, a6, a7, fun k col st c1 c2 => ?_⟩
        by_cases z : ∃ y, y < u ∧ st y = col b
        · obtain ⟨y, y1, y2⟩ := z
          exact a8 k col st y c1 c2 (Nat.zero_le _) (Or.inl ⟨y1, y2⟩)
        · exact a8 k col st u c1 c2 (Nat.zero_le _) (Or.inr ⟨rfl, fun g hg e => z ⟨g, hg, e⟩⟩)
    · rw [if_neg (by rw [e_lt (by omega) (by omega)]; exact g1)]
      refine ⟨h, f, rfl, p6, rfl, p8, fun _ _ _ => rfl, Nat.le_refl _, Or.inl rfl, fun k col st c1 c2 => ?_⟩
      have := pig k u st c2.1 c2.2.1
      omega
