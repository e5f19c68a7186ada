/-! ===== ringers: the class ===== -/
theorem fill_n {F : Nat} (hF : 600 ≤ F) {r : Nat} (x : Int32) (hL : ln r ≤ 500) (h : HP) : ∃ h', f_J7_fill_53178 F r x h = some h' ∧ (∀ j, j < ln r → h' r j = x) ∧ (∀ j, ln r ≤ j → h' r j = h r j) ∧ ∀ z, z ≠ r → h' z = h z := by
  have lp : ∀ (k i n : Nat) (h : HP), i + k = ln r → k < n → ∃ h', f_J7_fill_53178_5 F r x n (nI i) (nI (ln r)) h = some h' ∧ (∀ j, i ≤ j → j < ln r → h' r j = x) ∧ (∀ j, (j < i ∨ ln r ≤ j) → h' r j = h r j) ∧ ∀ z, z ≠ r → h' z = h z := by
    intro k
    induction k with
    | zero =>
      intro i n h hi hn
      obtain ⟨n, rfl⟩ := succ_of hn
      refine ⟨h, ?_, fun j h1 h2 => by omega, fun _ _ => rfl, fun _ _ => rfl⟩
      rw [f_J7_fill_53178_5, if_pos (by rw [e_le (by omega) (by omega)]; omega)]
    | succ k ih =>
      intro i n h hi hn
      obtain ⟨n, rfl⟩ := succ_of hn
      obtain ⟨h', f1, f2, f3, f4⟩ := ih (i + 1) n (up h r i x) (by omega) (by omega)
      refine ⟨h', ?_, fun j h1 h2 => ?_, fun j hj => by rw [f3 j (by omega), up_n (by omega)], fun z hz => by rw [f4 z hz, up_c hz]⟩
      · rw [f_J7_fill_53178_5, if_neg (by rw [e_le (by omega) (by omega)]; omega), if_pos (inb_t (by omega) (by omega)), e_ix (by omega), e_add, f1]
      · by_cases z : j = i
        · rw [z, f3 i (by omega), up_s]
        · exact f2 j (by omega) h2
  obtain ⟨h', f1, f2, f3, f4⟩ := lp (ln r) 0 F h (by omega) (by omega)
  exact ⟨h', f1, fun j hj => f2 j (Nat.zero_le _) hj, fun j hj => f3 j (Or.inr hj), f4⟩
/-- two bells that some row rings together -/
def clsh (p : Nat → Nat) (N b c : Nat) : Prop := b ≠ c ∧ ∃ r, r < N ∧ bn (p r) b = 1 ∧ bn (p r) c = 1
theorem clsh_sym {p : Nat → Nat} {N b c : Nat} (h : clsh p N b c) : clsh p N c b := by
  obtain ⟨h1, r, h2, h3, h4⟩ := h
  exact ⟨Ne.symm h1, r, h2, h4, h3⟩
/-- the clashes of the rows below r, and of row r for bells below b -/
def ClI (p : Nat → Nat) (r b0 : Nat) (cl : Nat → Nat) : Prop := ∀ b, b < 8 → cl b < 256 ∧ ∀ c, bn (cl b) c = 1 ↔ clsh p (if b < b0 then r + 1 else r) b c
theorem cl45 {F : Nat} {B r : Nat} {tw : TW} {p : Nat → Nat} {k34 : Int32 → HP → Option (Int32 × HP)} (hB : B ≤ 8) (hr : r < 32) :
    ∀ (k b n : Nat) (cl : Nat → Nat) (h : HP), b + k = B → k < n → h 36 2 = nI B → (∀ r, r < 32 → h 15 r = nI (p r) ∧ p r < 2 ^ B) → (∀ b, b < B → h 37 b = nI (cl b)) → ClI p r b cl →
      ∃ h' cl', f_X1_fewestPeople_45 F 15 tw.1 k34 n (nI r) (nI b) h = k34 (nI (r + 1)) h' ∧ (∀ b, b < B → h' 37 b = nI (cl' b)) ∧ ClI p (r + 1) 0 cl' ∧ ∀ z, z ≠ 37 → h' z = h z := by
  have h256 := p2le hB
  intro k
  induction k with
  | zero =>
    intro b n cl h hb hn h36 hp hcl hI
    obtain ⟨n, rfl⟩ := succ_of hn
    refine ⟨h, cl, ?_, hcl, fun b' hb' => ?_, fun _ _ => rfl⟩
    · rw [f_X1_fewestPeople_45, h36, if_pos (by rw [e_le (by omega) (by omega)]; omega), e_add]
    · obtain ⟨i1, i2⟩ := hI b' hb'
      refine ⟨i1, fun c => ?_⟩
      rw [if_neg (Nat.not_lt_zero _), i2 c]
      by_cases z : b' < b
      · rw [if_pos z]
      · rw [if_neg z]
        have hpr := (hp r hr).2
        have z2 : bn (p r) b' = 0 := bn_big hpr (by omega)
        unfold clsh
        refine ⟨fun ⟨q1, r', q2, q3⟩ => ⟨q1, r', by omega, q3⟩, fun ⟨q1, r', q2, q3⟩ => ⟨q1, r', ?_, q3⟩⟩
        by_cases y : r' = r
        · rw [y, z2] at q3; exact absurd q3.1 (by decide)
        · omega
  | succ k ih =>
    intro b n cl h hb hn h36 hp hcl hI
    obtain ⟨n, rfl⟩ := succ_of hn
    obtain ⟨q1, q2⟩ := hp r hr
    have hbn := bn_lt (p r) b
    rw [f_X1_fewestPeople_45, h36, if_neg (by rw [e_le (by omega) (by omega)]; omega), if_pos (inb_t (show r < ln 15 by exact hr) (by decide)), e_ix (by omega), q1, e_bit (by omega) (by omega), i_eq (by omega) (by decide), e_add]
    obtain ⟨i1, i2⟩ := hI b (by omega)
    by_cases g : bn (p r) b = 1
    · have hcp : cl b ||| (p r &&& (255 ^^^ 2 ^ b)) < 256 := Nat.or_lt_two_pow (n := 8) i1 (Nat.lt_of_le_of_lt Nat.and_le_left (by omega))
      rw [if_pos g, if_pos (inb_t (by omega) (by decide)), e_ix (by omega), hcl b (by omega), e_one (by omega), clear_I b (by omega) _ (by omega), e_or]
      obtain ⟨h', cl', f1, f2, f3, f4⟩ := ih (b + 1) n (updN cl b (cl b ||| (p r &&& (255 ^^^ 2 ^ b)))) (up h 37 b (nI (cl b ||| (p r &&& (255 ^^^ 2 ^ b))))) (by omega) (by omega) (by rw [up_c (by decide)]; exact h36) (fun r' hr' => by rw [up_c (by decide)]; exact hp r' hr') (fun b' hb' => by
        unfold updN
        by_cases z : b' = b
        · rw [if_pos z, z, up_s]
        · rw [if_neg z, up_n z]; exact hcl b' hb') (fun b' hb' => by
        unfold updN
        by_cases z : b' = b
        · rw [if_pos z, z, if_pos (by omega)]
          refine ⟨hcp, fun c => ?_⟩
          have hi := i2 c
          rw [if_neg (Nat.lt_irrefl _)] at hi
          rw [bn_or, clear_b (by omega) (by omega)]
          have hc1 := bn_lt (cl b) c
          have hc2 := bn_lt (p r) c
          unfold clsh at hi ⊢
          constructor
          · intro e
            by_cases y : c = b
            · rw [if_pos y] at e
              obtain ⟨w1, _⟩ := hi.mp (by omega)
              exact absurd y.symm w1
            · rw [if_neg y] at e
              rcases (show bn (cl b) c = 1 ∨ bn (p r) c = 1 by omega) with w | w
              · obtain ⟨w1, r', w2, w3⟩ := hi.mp w
                exact ⟨w1, r', by omega, w3⟩
              · exact ⟨Ne.symm y, r, by omega, g, w⟩
          · intro ⟨w1, r', w2, w3, w4⟩
            rw [if_neg (Ne.symm w1)]
            by_cases y : r' = r
            · rw [y] at w4; omega
            · have := hi.mpr ⟨w1, r', by omega, w3, w4⟩
              omega
        · rw [if_neg z]
          have := hI b' hb'
          by_cases y : b' < b
          · rw [if_pos y] at this; rw [if_pos (by omega)]; exact this
          · rw [if_neg y] at this; rw [if_neg (by omega)]; exact this)
      exact ⟨h', cl', f1, f2, f3, fun z hz => by rw [f4 z hz, up_c hz]⟩
    · rw [if_neg g]
      refine ih (b + 1) n cl h (by omega) (by omega) h36 hp hcl (fun b' hb' => ?_)
      obtain ⟨j1, j2⟩ := hI b' hb'
      refine ⟨j1, fun c => ?_⟩
      have hj := j2 c
      by_cases z : b' = b
      · rw [z] at hj ⊢
        rw [if_neg (Nat.lt_irrefl _)] at hj
        rw [if_pos (by omega), hj]
        unfold clsh
        refine ⟨fun ⟨w1, r', w2, w3⟩ => ⟨w1, r', by omega, w3⟩, fun ⟨w1, r', w2, w3⟩ => ⟨w1, r', ?_, w3⟩⟩
        by_cases y : r' = r
        · rw [y] at w3; exact absurd w3.1 g
        · omega
      · by_cases y : b' < b
        · rw [if_pos y] at hj; rw [if_pos (by omega)]; exact hj
        · rw [if_neg y] at hj; rw [if_neg (by omega)]; exact hj
theorem cl34 {F : Nat} (hF : 600 ≤ F) {B N : Nat} {tw : TW} {p : Nat → Nat} (ht : tw.1 = 4 ∨ tw.1 = 9) (hB : B ≤ 8) (hN : N ≤ 32) :
    ∀ (k r n : Nat) (cl : Nat → Nat) (h : HP), r + k = N → k < n → h tw.1 4 = nI N → h 36 2 = nI B → h 36 3 = nI B → (∀ g, g < 8 → h 38 g = nI 0) → (∀ r, r < 32 → h 15 r = nI (p r) ∧ p r < 2 ^ B) → (∀ b, b < B → h 37 b = nI (cl b)) → ClI p r 0 cl →
      ∃ h' f, f_X1_fewestPeople_34 F 15 tw.1 n (nI r) h = some (nI f, h') ∧ (∀ z, z ≠ 36 → z ≠ 37 → z ≠ 38 → h' z = h z) ∧ f ≤ B ∧ (f = B ∨ ∃ col, PrC (clsh p N) B f col) ∧ ∀ k col, PrC (clsh p N) B k col → f ≤ k := by
  intro k
  induction k with
  | zero =>
    intro r n cl h hr hn hN4 h36 h363 h38 hp hcl hI
    obtain ⟨n, rfl⟩ := succ_of hn
    have hrN : r = N := by omega
    subst hrN
    have h256 := p2le hB
    have hcl2 : ∀ b, b < B → cl b < 256 ∧ ∀ c, bn (cl b) c = 1 ↔ c < B ∧ clsh p r b c := fun b hb => by
      obtain ⟨i1, i2⟩ := hI b (by omega)
      refine ⟨i1, fun c => ?_⟩
      have := i2 c
      rw [if_neg (Nat.not_lt_zero _)] at this
      rw [this]
      refine ⟨fun w => ⟨?_, w⟩, fun w => w.2⟩
      obtain ⟨w1, r', w2, w3, w4⟩ := w
      rcases Nat.lt_or_ge c B with q | q
      · exact q
      · rw [bn_big (hp r' (by omega)).2 q] at w4; exact absurd w4 (by decide)
    obtain ⟨h', f, a1, a2, a3, a4, a5, a6, a7, a8⟩ := part_n hF (K := clsh p r) hB hcl2 (fun c c' => clsh_sym) (fun c hc => hc.1 rfl) 12 0 0 B (fun _ => 0) (fun _ => 0) h (by omega) ⟨Nat.zero_le _, Nat.le_refl _, hB, ⟨fun c hc => by omega, fun g hg => ⟨(show 0 < 256 by decide), fun c => ⟨fun e => by rw [bn_zero] at e; exact absurd e (by decide), fun e => absurd e.1 (Nat.not_lt_zero _)⟩⟩, fun c c' hc => by omega⟩, h36, h363, hcl, h38⟩
    refine ⟨h', f, ?_, fun z z1 z2 z3 => a5 z z1 z3, a6, a7, fun k col c1 => a8 k col (fun _ => 0) c1 ⟨fun g hg => by omega, fun g g' hg => by omega, fun c hc => by omega⟩⟩
    rw [f_X1_fewestPeople_34, hN4, if_pos (by rw [e_le (by omega) (by omega)]; omega), a1, obv_eq, a2]
  | succ k ih =>
    intro r n cl h hr hn hN4 h36 h363 h38 hp hcl hI
    obtain ⟨n, rfl⟩ := succ_of hn
    obtain ⟨h1, cl1, a1, a2, a3, a4⟩ := cl45 (F := F) (tw := tw) (k34 := f_X1_fewestPeople_34 F 15 tw.1 n) hB (show r < 32 by omega) B 0 F cl h (by omega) (by omega) h36 hp hcl hI
    obtain ⟨h', f, f1, f2, f3⟩ := ih (r + 1) n cl1 h1 (by omega) (by omega) (by rw [a4 tw.1 (by omega)]; exact hN4) (by rw [a4 36 (by decide)]; exact h36) (by rw [a4 36 (by decide)]; exact h363) (fun g hg => by rw [a4 38 (by decide)]; exact h38 g hg) (fun r' hr' => by rw [a4 15 (by decide)]; exact hp r' hr') a2 a3
    refine ⟨h', f, ?_, fun z z1 z2 z3 => by rw [f2 z z1 z2 z3, a4 z z2], f3⟩
    rw [f_X1_fewestPeople_34, hN4, if_neg (by rw [e_le (by omega) (by omega)]; omega), a1, f1]
theorem peopleX_n {F : Nat} (hF : 600 ≤ F) {B N : Nat} {tw : TW} {p : Nat → Nat} {h : HP} (ht : tw.1 = 4 ∨ tw.1 = 9) (hB : B ≤ 8) (hN : N ≤ 32) (hB0 : h tw.1 0 = nI B) (hN4 : h tw.1 4 = nI N) (hp : ∀ r, r < 32 → h 15 r = nI (p r) ∧ p r < 2 ^ B) :
    ∃ h' f, f_X1_fewestPeople F 15 tw.1 h = some (nI f, h') ∧ (∀ z, z ≠ 36 → z ≠ 37 → z ≠ 38 → h' z = h z) ∧ f ≤ B ∧ (f = B ∨ ∃ col, PrC (clsh p N) B f col) ∧ ∀ k col, PrC (clsh p N) B k col → f ≤ k := by
  let h0 : HP := up (up h 36 2 (nI B)) 36 3 (nI B)
  have f0 : ∀ z, z ≠ 36 → h0 z = h z := fun z hz => by show (up (up h 36 _ _) 36 _ _) z = _; rw [up_c hz, up_c hz]
  have e2 : h0 36 2 = nI B := by show (up (up h 36 _ _) 36 _ _) 36 2 = _; rw [up_n (by decide), up_s]
  have e3 : h0 36 3 = nI B := up_s
  obtain ⟨h1, a1, a2, -, a3⟩ := fill_n hF (r := 37) (nI 0) (by decide) h0
  obtain ⟨h2, b1, b2, -, b3⟩ := fill_n hF (r := 38) (nI 0) (by decide) h1
  have c0 : ∀ z, z ≠ 36 → z ≠ 37 → z ≠ 38 → h2 z = h z := fun z z1 z2 z3 => by rw [b3 z z3, a3 z z2, f0 z z1]
  have c36 : h2 36 = h0 36 := by rw [b3 36 (by decide), a3 36 (by decide)]
  obtain ⟨h', f, f1, f2, f3⟩ := cl34 hF (p := p) (N := N) ht hB hN N 0 F (fun _ => 0) h2 (by omega) (by omega) (by rw [c0 tw.1 (by omega) (by omega) (by omega)]; exact hN4) (by rw [c36]; exact e2) (by rw [c36]; exact e3) (fun g hg => b2 g hg) (fun r hr => by rw [c0 15 (by decide) (by decide) (by decide)]; exact hp r hr) (fun b hb => by rw [b3 37 (by decide)]; exact a2 b (by show b < 8; omega)) (fun b hb => ⟨(show 0 < 256 by decide), fun c => ⟨fun e => by rw [bn_zero] at e; exact absurd e (by decide), fun e => by
    rw [if_neg (Nat.not_lt_zero _)] at e
    obtain ⟨_, r, w, _⟩ := e
    omega⟩⟩)
  refine ⟨h', f, ?_, fun z z1 z2 z3 => by rw [f2 z z1 z2 z3, c0 z z1 z2 z3], f3⟩
  unfold f_X1_fewestPeople
  rw [hB0, up_s, show up (up h 36 2 (nI B)) 36 3 (nI B) = h0 from rfl, a1, obv_eq, b1, obv_eq, f1]
