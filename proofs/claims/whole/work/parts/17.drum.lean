/-! ===== a drum, as both hold it ===== -/
/-- the latest row, rows turned, sets, when each hammer rang, how often bells rang, were missed -/
abbrev ADr : Type := Nat × Nat × (Nat → Nat) × (Nat → Option Nat) × (Nat → Int32) × (Nat → Int32)
def rdy (R : Nat) : Option Nat → Int32
  | none => nI 0
  | some g => nI (g + R + 2)
def rgI : Option Nat → Int32
  | none => -1000
  | some g => nI g
def CD (R d : Nat) (h : HP) (a : ADr) : Prop := h d 4 = nI a.1 ∧ h d 5 = nI a.2.1 ∧ (∀ r, r < 32 → h (d + 1) r = nI (a.2.2.1 r)) ∧ (∀ j, j < 16 → h (d + 2) j = rdy R (a.2.2.2.1 j)) ∧ ∀ b, b < 8 → h (d + 3) b = a.2.2.2.2.1 b ∧ h (d + 4) b = a.2.2.2.2.2 b
def MD (t : Nat) (h : HP) (a : ADr) : Prop := h t 0 = nI a.1 ∧ h t 1 = nI a.2.1 ∧ (∀ r, r < 32 → h t (2 + r) = nI (a.2.2.1 r)) ∧ (∀ j, j < 16 → h t (34 + j) = rgI (a.2.2.2.1 j)) ∧ ∀ b, b < 8 → h t (50 + b) = a.2.2.2.2.1 b ∧ h t (58 + b) = a.2.2.2.2.2 b
def AOK (B N c : Nat) (a : ADr) : Prop := a.1 ≤ N ∧ a.2.1 ≤ c ∧ (∀ j, j < 16 → ∀ g, a.2.2.2.1 j = some g → g < a.2.1) ∧ ∀ r, r < 32 → a.2.2.1 r < 2 ^ B
theorem m1000 {g : Nat} (h : g < 2147483648) : ¬ nI g = -1000 := fun e => by
  have := congrArg Int32.toInt e
  rw [nI_toInt (by rw [e31]; exact h)] at this
  have e2 : (-1000 : Int32).toInt = -1000 := by decide
  omega
theorem dv0 (h : HP) (d : Nat) : dv h d 0 = h d 4 := rfl
theorem dv1 (h : HP) (d : Nat) : dv h d 1 = h d 5 := rfl
theorem dv2 (h : HP) (d : Nat) {r : Nat} (hr : r < 32) : dv h d (2 + r) = h (d + 1) r := by
  unfold dv
  rw [if_neg (by omega), if_neg (by omega), if_pos (by omega), show 2 + r - 2 = r by omega]
theorem dv34 (h : HP) (d : Nat) {r : Nat} (hr : r < 16) : dv h d (34 + r) = h (d + 2) r := by
  unfold dv
  rw [if_neg (by omega), if_neg (by omega), if_neg (by omega), if_pos (by omega), show 34 + r - 34 = r by omega]
theorem dv50 (h : HP) (d : Nat) {r : Nat} (hr : r < 8) : dv h d (50 + r) = h (d + 3) r := by
  unfold dv
  rw [if_neg (by omega), if_neg (by omega), if_neg (by omega), if_neg (by omega), if_pos (by omega), show 50 + r - 50 = r by omega]
theorem dv58 (h : HP) (d : Nat) {r : Nat} (hr : r < 8) : dv h d (58 + r) = h (d + 4) r := by
  unfold dv
  rw [if_neg (by omega), if_neg (by omega), if_neg (by omega), if_neg (by omega), if_neg (by omega), show 58 + r - 58 = r by omega]
theorem toAD {R B N c d t : Nat} {h : HP} (hB : B ≤ 8) (hc : c < 1000000) (hs : SOK B N c (h t)) (hd : CS R (dv h d) (h t)) : ∃ a, CD R d h a ∧ MD t h a ∧ AOK B N c a := by
  obtain ⟨⟨la, hla, e0⟩, ⟨tu, htu, e1, hrg⟩, hp⟩ := hs
  have h256 := p2le hB
  let p : Nat → Nat := fun r => ix (h t (2 + r))
  let rg : Nat → Option Nat := fun j => if h t (34 + j) = -1000 then none else some (ix (h t (34 + j)))
  have hp' : ∀ r, r < 32 → h t (2 + r) = nI (p r) ∧ p r < 2 ^ B := fun r hr => by
    obtain ⟨q, hq, e⟩ := hp r hr
    have : p r = q := by show ix (h t (2 + r)) = q; rw [e]; exact e_ix (by omega)
    rw [this]; exact ⟨e, hq⟩
  have hrg' : ∀ j, j < 16 → h t (34 + j) = rgI (rg j) ∧ ∀ g, rg j = some g → g < tu := fun j hj => by
    rcases hrg j hj with e | ⟨g, hg, e⟩
    · have : rg j = none := if_pos e
      rw [this]; exact ⟨e, fun g hg => by cases hg⟩
    · have : rg j = some g := by
        show (if h t (34 + j) = -1000 then none else some (ix (h t (34 + j)))) = some g
        rw [e, if_neg (m1000 (by omega)), e_ix (by omega)]
      rw [this]; exact ⟨e, fun g' hg' => by cases hg'; exact hg⟩
  refine ⟨(la, tu, p, rg, fun b => h t (50 + b), fun b => h t (58 + b)), ⟨?_, ?_, ?_, ?_, ?_⟩, ⟨e0, e1, fun r hr => (hp' r hr).1, fun j hj => (hrg' j hj).1, fun b _ => ⟨rfl, rfl⟩⟩, hla, htu, fun j hj => (hrg' j hj).2, fun r hr => (hp' r hr).2⟩
  · rw [← dv0 h d, hd.1 0 (by decide) (Or.inl (by decide))]; exact e0
  · rw [← dv1 h d, hd.1 1 (by decide) (Or.inl (by decide))]; exact e1
  · intro r hr
    rw [← dv2 h d hr, hd.1 (2 + r) (by omega) (Or.inl (by omega))]; exact (hp' r hr).1
  · intro j hj
    rw [← dv34 h d hj]
    rcases hd.2 j hj with ⟨a1, a2⟩ | ⟨g, hg, a1, a2⟩
    · have : rg j = none := if_pos a1
      show _ = rdy R (rg j)
      rw [this]; exact a2
    · have : rg j = some g := by
        show (if h t (34 + j) = -1000 then none else some (ix (h t (34 + j)))) = some g
        rw [a1, if_neg (m1000 (by omega)), e_ix (by omega)]
      show _ = rdy R (rg j)
      rw [this]; exact a2
  · intro b hb
    exact ⟨by rw [← dv50 h d hb]; exact hd.1 (50 + b) (by omega) (Or.inr (by omega)), by rw [← dv58 h d hb]; exact hd.1 (58 + b) (by omega) (Or.inr (by omega))⟩
theorem ofAD {R B N c d t : Nat} {h : HP} {a : ADr} (hc : c < 1000000) (hC : CD R d h a) (hM : MD t h a) (hA : AOK B N c a) : SOK B N c (h t) ∧ CS R (dv h d) (h t) := by
  obtain ⟨la, tu, p, rg, ru, mi⟩ := a
  obtain ⟨c0, c1, c2, c3, c4⟩ := hC
  obtain ⟨m0, m1, m2, m3, m4⟩ := hM
  obtain ⟨a0, a1, a2, a3⟩ := hA
  refine ⟨⟨⟨la, a0, m0⟩, ⟨tu, a1, m1, fun j hj => ?_⟩, fun r hr => ⟨p r, a3 r hr, m2 r hr⟩⟩, fun j hj hj2 => ?_, fun j hj => ?_⟩
  · have := m3 j hj
    have ha2 := a2 j hj
    dsimp only at this ha2
    cases hr : rg j with
    | none => rw [hr] at this; exact Or.inl this
    | some g => rw [hr] at this; exact Or.inr ⟨g, ha2 g hr, this⟩
  · rcases (show j = 0 ∨ j = 1 ∨ (∃ r, r < 32 ∧ j = 2 + r) ∨ (∃ b, b < 8 ∧ j = 50 + b) ∨ ∃ b, b < 8 ∧ j = 58 + b from by
      by_cases z0 : j = 0
      · exact Or.inl z0
      by_cases z1 : j = 1
      · exact Or.inr (Or.inl z1)
      by_cases z2 : j < 34
      · exact Or.inr (Or.inr (Or.inl ⟨j - 2, by omega, by omega⟩))
      by_cases z3 : j < 58
      · exact Or.inr (Or.inr (Or.inr (Or.inl ⟨j - 50, by omega, by omega⟩)))
      · exact Or.inr (Or.inr (Or.inr (Or.inr ⟨j - 58, by omega, by omega⟩)))) with rfl | rfl | ⟨r, hr, rfl⟩ | ⟨b, hb, rfl⟩ | ⟨b, hb, rfl⟩
    · rw [dv0, c0, m0]
    · rw [dv1, c1, m1]
    · rw [dv2 h d hr, c2 r hr, m2 r hr]
    · rw [dv50 h d hb, (c4 b hb).1, (m4 b hb).1]
    · rw [dv58 h d hb, (c4 b hb).2, (m4 b hb).2]
  · rw [dv34 h d hj, c3 j hj, m3 j hj]
    have ha2 := a2 j hj
    dsimp only at ha2 a1 ⊢
    cases hr : rg j with
    | none => exact Or.inl ⟨rfl, rfl⟩
    | some g => have := ha2 g hr; exact Or.inr ⟨g, by omega, rfl, rfl⟩
/-- a hammer that is free -/
def frh (R tu : Nat) : Option Nat → Bool
  | none => true
  | some g => decide (R < tu - g)
/-- the first free hammer of a bell -/
def fhm (R tu : Nat) (rg : Nat → Option Nat) (b M : Nat) : Option Nat := if frh R tu (rg (2 * b)) then some 0 else if M = 2 ∧ frh R tu (rg (2 * b + 1)) = true then some 1 else none
abbrev BSt : Type := (Nat → Option Nat) × (Nat → Int32) × (Nat → Int32) × Nat
def updO (f : Nat → Option Nat) (k : Nat) (x : Option Nat) : Nat → Option Nat := fun j => if j = k then x else f j
/-- a bell whose pin comes -/
def bst (R tu : Nat) (M : Nat → Nat) (b : Nat) (q : BSt) : BSt := match fhm R tu q.1 b (M b) with
  | none => (q.1, q.2.1, upd q.2.2.1 b (q.2.2.1 b + nI 1), q.2.2.2)
  | some f => (updO q.1 (2 * b + f) (some tu), upd q.2.1 b (q.2.1 b + nI 1), q.2.2.1, q.2.2.2 ||| 2 ^ b)
/-- the bells from b on, k of them -/
def bsf (R tu : Nat) (M : Nat → Nat) (s : Nat) : Nat → Nat → BSt → BSt
  | 0, _, q => q
  | k + 1, b, q => bsf R tu M s k (b + 1) (if bn s b = 0 then q else bst R tu M b q)
/-- a row comes -/
def rowA (B R : Nat) (M : Nat → Nat) (row : Nat) (a : ADr) : Nat × ADr :=
  let q := bsf R a.2.1 M (a.2.2.1 row) B 0 (a.2.2.2.1, a.2.2.2.2.1, a.2.2.2.2.2, 0)
  (q.2.2.2, (row, a.2.1 + 1, a.2.2.1, q.1, q.2.1, q.2.2.1))
/-- hammers and counts, as the class has them; as the reference has them -/
def CB (R d : Nat) (h : HP) (q : BSt) : Prop := (∀ j, j < 16 → h (d + 2) j = rdy R (q.1 j)) ∧ ∀ b, b < 8 → h (d + 3) b = q.2.1 b ∧ h (d + 4) b = q.2.2.1 b
def MB (t : Nat) (h : HP) (q : BSt) : Prop := (∀ j, j < 16 → h t (34 + j) = rgI (q.1 j)) ∧ ∀ b, b < 8 → h t (50 + b) = q.2.1 b ∧ h t (58 + b) = q.2.2.1 b
def GB (tu : Nat) (q : BSt) : Prop := ∀ j, j < 16 → ∀ g, q.1 j = some g → g ≤ tu
theorem rdy_nlt {R tu : Nat} {o : Option Nat} (hg : ∀ g, o = some g → g ≤ tu) (hR : R ≤ 6) (ht : tu < 1000000) : (nI (tu + 1) < rdy R o) ↔ ¬ frh R tu o = true := by
  cases o with
  | none =>
    show nI (tu + 1) < nI 0 ↔ ¬ true = true
    rw [e_lt (by omega) (by decide)]
    exact ⟨fun z => by omega, fun z => absurd rfl z⟩
  | some g =>
    have := hg g rfl
    show nI (tu + 1) < nI (g + R + 2) ↔ ¬ decide (R < tu - g) = true
    rw [e_lt (by omega) (by omega), decide_eq_true_iff]
    omega
theorem rg_le {R tu : Nat} {o : Option Nat} (hg : ∀ g, o = some g → g ≤ tu) (hR : R ≤ 6) (ht : tu < 1000000) : (nI tu - rgI o ≤ nI R) ↔ ¬ frh R tu o = true := by
  cases o with
  | none =>
    show nI tu - (-1000) ≤ nI R ↔ ¬ true = true
    have e : nI tu - (-1000) = nI (tu + 1000) := by
      rw [show (-1000 : Int32) = -(nI 1000) from rfl, Int32.sub_neg, e_add]
    rw [e, e_le (by omega) (by omega)]
    exact ⟨fun z => by omega, fun z => absurd rfl z⟩
  | some g =>
    have := hg g rfl
    show nI tu - nI g ≤ nI R ↔ ¬ decide (R < tu - g) = true
    rw [e_sub (by omega), e_le (by omega) (by omega), decide_eq_true_iff]
    omega
theorem fhm_lt {R tu b M f : Nat} {rg : Nat → Option Nat} (h : fhm R tu rg b M = some f) : f < 2 := by
  unfold fhm at h
  split at h
  · cases h; decide
  · split at h
    · cases h; decide
    · cases h
theorem X0_strike_n {F : Nat} (hF : 600 ≤ F) {R d t b tu M : Nat} {rg : Nat → Option Nat} {h : HP} (hb : b < 8) (hR : R ≤ 6) (ht : tu < 1000000) (hM : 1 ≤ M ∧ M ≤ 2) (eM : h (t + 2) b = nI M) (eR : h t 5 = nI R) (eT : h d 5 = nI (tu + 1)) (hr : ∀ j, j < 16 → h (d + 2) j = rdy R (rg j)) (hg : ∀ j, j < 16 → ∀ g, rg j = some g → g ≤ tu) :
    f_X0_strike F d (nI b) t h = match fhm R tu rg b M with
      | none => some (nI 0, h)
      | some f => some (nI 1, up h (d + 2) (2 * b + f) (nI (tu + R + 2))) := by
  have e0 := rdy_nlt (hg (2 * b) (by omega)) hR ht
  have e1 := rdy_nlt (hg (2 * b + 1) (by omega)) hR ht
  obtain ⟨F, rfl⟩ : ∃ G, F = G + 3 := ⟨F - 3, by omega⟩
  unfold f_X0_strike
  rw [e_mul, f_X0_strike_7, if_pos (inb_t (by omega) (by decide)), e_ix (by omega), eM, e_add, if_neg (by rw [e_le (by omega) (by omega)]; omega), if_pos (inb_t (by omega) (by decide)), e_ix (by omega), eT, show b * 2 = 2 * b by omega, hr (2 * b) (by omega), eR]
  unfold fhm
  by_cases g0 : frh R tu (rg (2 * b)) = true
  · rw [if_neg (fun z => e0.mp z g0), if_pos g0, e_add, e_add, show tu + 1 + R + 1 = tu + R + 2 by omega]
    rfl
  · rw [if_pos (e0.mpr g0), if_neg g0, e_add, f_X0_strike_7, if_pos (inb_t (by omega) (by decide)), e_ix (by omega), eM, e_add]
    rcases (show M = 1 ∨ M = 2 by omega) with rfl | rfl
    · rw [if_pos (by rw [e_le (by omega) (by omega)]; omega), if_neg (fun z => absurd z.1 (by decide))]
    · rw [if_neg (by rw [e_le (by omega) (by omega)]; omega), if_pos (inb_t (by omega) (by decide)), e_ix (by omega), eT, hr (2 * b + 1) (by omega), eR]
      by_cases g1 : frh R tu (rg (2 * b + 1)) = true
      · rw [if_neg (fun z => e1.mp z g1), if_pos ⟨rfl, g1⟩, e_add, e_add, show tu + 1 + R + 1 = tu + R + 2 by omega]
      · rw [if_pos (e1.mpr g1), if_neg (fun z => g1 z.2), e_add, f_X0_strike_7, if_pos (inb_t (by omega) (by decide)), e_ix (by omega), eM, e_add, if_pos (by rw [e_le (by omega) (by omega)]; omega)]
theorem bn01 (s b : Nat) : bn s b = 0 ∨ bn s b = 1 := by have := bn_lt s b; omega
theorem GB_step {R tu b : Nat} {M : Nat → Nat} {q : BSt} (h : GB tu q) : GB tu (bst R tu M b q) := by
  unfold bst
  cases hf : fhm R tu q.1 b (M b) with
  | none => exact h
  | some f =>
    intro j hj g hg
    unfold updO at hg
    dsimp only at hg
    by_cases z : j = 2 * b + f
    · rw [if_pos z] at hg; cases hg; exact Nat.le_refl _
    · rw [if_neg z] at hg; exact h j hj g hg
/-- the class: a row comes -/
theorem X0_ring_loop {F : Nat} (hF : 600 ≤ F) {R d t B tu row s : Nat} {M : Nat → Nat} (hd : d + 5 ≤ t ∨ t + 5 ≤ d) (hB : B ≤ 8) (hR : R ≤ 6) (ht : tu < 1000000) (hrow : row < 32) (hs : s < 256) (hM : ∀ b, b < B → 1 ≤ M b ∧ M b ≤ 2) :
    ∀ (k b n : Nat) (q : BSt) (h : HP), b + k = B → k < n → h t 0 = nI B → h t 5 = nI R → (∀ b, b < B → h (t + 2) b = nI (M b)) → h d 5 = nI (tu + 1) → h (d + 1) row = nI s → CB R d h q → GB tu q → q.2.2.2 < 256 →
      ∃ h', f_X0_ringRow_32 F d (nI row) t n (nI q.2.2.2) (nI b) h = some (nI (bsf R tu M s k b q).2.2.2, h') ∧ CB R d h' (bsf R tu M s k b q) ∧ (∀ z, z ≠ d + 2 → z ≠ d + 3 → z ≠ d + 4 → h' z = h z) := by
  intro k
  induction k with
  | zero =>
    intro b n q h hi hn hB0 hR5 hM2 hT5 hp hC hG hq
    obtain ⟨n, rfl⟩ := succ_of hn
    refine ⟨h, ?_, hC, fun _ _ _ _ => rfl⟩
    rw [f_X0_ringRow_32, hB0, if_pos (by rw [e_le (by omega) (by omega)]; omega)]
    rfl
  | succ k ih =>
    intro b n q h hi hn hB0 hR5 hM2 hT5 hp hC hG hq
    obtain ⟨n, rfl⟩ := succ_of hn
    have hbn := bn_lt s b
    have hstep : f_X0_ringRow_32 F d (nI row) t (n + 1) (nI q.2.2.2) (nI b) h = if bn s b = 0 then f_X0_ringRow_32 F d (nI row) t n (nI q.2.2.2) (nI (b + 1)) h else
        ob (f_X0_strike F d (nI b) t h) (fun v8 h6 => if v8 = nI 0 then f_X0_ringRow_32 F d (nI row) t n (nI q.2.2.2) (nI (b + 1)) (up h6 (d + 4) b ((h6 (d + 4) b) + (nI 1))) else f_X0_ringRow_32 F d (nI row) t n (nI q.2.2.2 ||| jshl (nI 1) (nI b)) (nI (b + 1)) (up h6 (d + 3) b ((h6 (d + 3) b) + (nI 1)))) := by
      rw [f_X0_ringRow_32, hB0, if_neg (by rw [e_le (by omega) (by omega)]; omega), if_pos (inb_t (by omega) (by decide)), e_ix (by omega), hp, e_bit (by omega) (by omega), i_eq (by omega) (by decide), e_add]
      simp only [inb_t (show b < 8 by omega) (by decide), if_true, e_ix (show b < 2147483648 by omega)]
    rw [hstep]
    have hbs : bsf R tu M s (k + 1) b q = bsf R tu M s k (b + 1) (if bn s b = 0 then q else bst R tu M b q) := rfl
    rw [hbs]
    by_cases g : bn s b = 0
    · rw [if_pos g, if_pos g]
      exact ih (b + 1) n q h (by omega) (by omega) hB0 hR5 hM2 hT5 hp hC hG hq
    · rw [if_neg g, if_neg g, X0_strike_n hF (by omega) hR ht (hM b (by omega)) (hM2 b (by omega)) hR5 hT5 hC.1 hG]
      have hG' := GB_step (R := R) (b := b) (M := M) hG
      unfold bst at hG' ⊢
      cases hf : fhm R tu q.1 b (M b) with
      | none =>
        rw [hf] at hG'
        dsimp only at hG' ⊢
        rw [ob_eq, if_pos rfl]
        have fr : ∀ z, z ≠ d + 4 → (up h (d + 4) b (h (d + 4) b + nI 1)) z = h z := fun z hz => up_c hz
        obtain ⟨h', e1, e2, e3⟩ := ih (b + 1) n (q.1, q.2.1, upd q.2.2.1 b (q.2.2.1 b + nI 1), q.2.2.2) (up h (d + 4) b (h (d + 4) b + nI 1)) (by omega) (by omega) (by rw [fr t (by omega)]; exact hB0) (by rw [fr t (by omega)]; exact hR5) (fun b' hb' => by rw [fr (t + 2) (by omega)]; exact hM2 b' hb') (by rw [fr d (by omega)]; exact hT5) (by rw [fr (d + 1) (by omega)]; exact hp) ⟨fun j hj => by rw [fr (d + 2) (by omega)]; exact hC.1 j hj, fun b' hb' => ⟨by rw [fr (d + 3) (by omega)]; exact (hC.2 b' hb').1, by
            unfold upd
            dsimp only
            by_cases z : b' = b
            · rw [if_pos z, z, up_s, (hC.2 b (by omega)).2]
            · rw [if_neg z, up_n z]; exact (hC.2 b' hb').2⟩⟩ hG' hq
        exact ⟨h', e1, e2, fun z a1 a2 a3 => by rw [e3 z a1 a2 a3, fr z a3]⟩
      | some f =>
        have hf2 := fhm_lt hf
        rw [hf] at hG'
        dsimp only at hG' ⊢
        rw [ob_eq, if_neg n10, e_one (by omega), e_or]
        have fr : ∀ z, z ≠ d + 2 → z ≠ d + 3 → (up (up h (d + 2) (2 * b + f) (nI (tu + R + 2))) (d + 3) b ((up h (d + 2) (2 * b + f) (nI (tu + R + 2))) (d + 3) b + nI 1)) z = h z := fun z hz hz2 => by rw [up_c hz2, up_c hz]
        have hor : q.2.2.2 ||| 2 ^ b < 2 ^ 8 := Nat.or_lt_two_pow hq (Nat.pow_lt_pow_right (by decide) (by omega))
        obtain ⟨h', e1, e2, e3⟩ := ih (b + 1) n (updO q.1 (2 * b + f) (some tu), upd q.2.1 b (q.2.1 b + nI 1), q.2.2.1, q.2.2.2 ||| 2 ^ b) (up (up h (d + 2) (2 * b + f) (nI (tu + R + 2))) (d + 3) b ((up h (d + 2) (2 * b + f) (nI (tu + R + 2))) (d + 3) b + nI 1)) (by omega) (by omega) (by rw [fr t (by omega) (by omega)]; exact hB0) (by rw [fr t (by omega) (by omega)]; exact hR5) (fun b' hb' => by rw [fr (t + 2) (by omega) (by omega)]; exact hM2 b' hb') (by rw [fr d (by omega) (by omega)]; exact hT5) (by rw [fr (d + 1) (by omega) (by omega)]; exact hp) ⟨fun j hj => by
            rw [up_c (show d + 2 ≠ d + 3 by omega)]
            unfold updO
            dsimp only
            by_cases z : j = 2 * b + f
            · rw [if_pos z, z, up_s]
              rfl
            · rw [if_neg z, up_n z]; exact hC.1 j hj, fun b' hb' => ⟨by
            unfold upd
            dsimp only
            by_cases z : b' = b
            · rw [if_pos z, z, up_s, up_c (by omega), (hC.2 b (by omega)).1]
            · rw [if_neg z, up_n z, up_c (by omega)]; exact (hC.2 b' hb').1, by rw [fr (d + 4) (by omega) (by omega)]; exact (hC.2 b' hb').2⟩⟩ hG' hor
        exact ⟨h', e1, e2, fun z a1 a2 a3 => by rw [e3 z a1 a2 a3, fr z a1 a2]⟩
theorem bsf_G {R tu s : Nat} {M : Nat → Nat} : ∀ (k b : Nat) (q : BSt), GB tu q → GB tu (bsf R tu M s k b q) := by
  intro k
  induction k with
  | zero => intro b q h; exact h
  | succ k ih =>
    intro b q h
    refine ih (b + 1) _ ?_
    split
    · exact h
    · exact GB_step h
theorem bsf_set {R tu s : Nat} {M : Nat → Nat} {B : Nat} : ∀ (k b : Nat) (q : BSt), b + k = B → q.2.2.2 < 2 ^ B → (bsf R tu M s k b q).2.2.2 < 2 ^ B := by
  intro k
  induction k with
  | zero => intro b q _ h; exact h
  | succ k ih =>
    intro b q hb h
    refine ih (b + 1) _ (by omega) ?_
    split
    · exact h
    · unfold bst
      cases fhm R tu q.1 b (M b) with
      | none => exact h
      | some f => exact Nat.or_lt_two_pow h (Nat.pow_lt_pow_right (by decide) (by omega))
theorem AOK_row {B N c R row : Nat} {M : Nat → Nat} {a : ADr} (h : AOK B N c a) (hr : row ≤ N) : AOK B N (c + 1) (rowA B R M row a).2 := by
  obtain ⟨h1, h2, h3, h4⟩ := h
  refine ⟨hr, Nat.succ_le_succ h2, fun j hj g hg => ?_, h4⟩
  have : GB a.2.1 (a.2.2.2.1, a.2.2.2.2.1, a.2.2.2.2.2, 0) := fun j hj g hg => Nat.le_of_lt (h3 j hj g hg)
  have := bsf_G (R := R) (s := a.2.2.1 row) (M := M) B 0 _ this j hj g hg
  exact Nat.lt_succ_of_le this
theorem X0_ringRow_n {F : Nat} (hF : 600 ≤ F) {R d t B N c row : Nat} {M : Nat → Nat} {a : ADr} {h : HP} (hd : d + 5 ≤ t ∨ t + 5 ≤ d) (hB : B ≤ 8) (hR : R ≤ 6) (hc : c < 1000000) (hrow : row < 32) (hM : ∀ b, b < B → 1 ≤ M b ∧ M b ≤ 2) (hB0 : h t 0 = nI B) (hR5 : h t 5 = nI R) (hM2 : ∀ b, b < B → h (t + 2) b = nI (M b)) (hC : CD R d h a) (hA : AOK B N c a) :
    ∃ h', f_X0_ringRow F d (nI row) t h = some (nI (rowA B R M row a).1, h') ∧ CD R d h' (rowA B R M row a).2 ∧ ∀ z, z ≠ d → z ≠ d + 2 → z ≠ d + 3 → z ≠ d + 4 → h' z = h z := by
  obtain ⟨c0, c1, c2, c3, c4⟩ := hC
  obtain ⟨a0, a1, a2, a3⟩ := hA
  have h256 := p2le hB
  have hpr := a3 row hrow
  let h0 : HP := up (up h d 4 (nI row)) d 5 (nI (a.2.1 + 1))
  have fr : ∀ z, z ≠ d → h0 z = h z := fun z hz => by show (up (up h d 4 _) d 5 _) z = _; rw [up_c hz, up_c hz]
  have e5 : h0 d 5 = nI (a.2.1 + 1) := up_s
  have e4 : h0 d 4 = nI row := by show (up (up h d 4 _) d 5 _) d 4 = _; rw [up_n (by decide), up_s]
  obtain ⟨h', e1, e2, e3⟩ := X0_ring_loop hF (t := t) hd hB hR (show a.2.1 < 1000000 by omega) hrow (show a.2.2.1 row < 256 by omega) hM B 0 F (a.2.2.2.1, a.2.2.2.2.1, a.2.2.2.2.2, 0) h0 (by omega) (by omega) (by rw [fr t (by omega)]; exact hB0) (by rw [fr t (by omega)]; exact hR5) (fun b hb => by rw [fr (t + 2) (by omega)]; exact hM2 b hb) e5 (by rw [fr (d + 1) (by omega)]; exact c2 row hrow) ⟨fun j hj => by rw [fr (d + 2) (by omega)]; exact c3 j hj, fun b hb => by rw [fr (d + 3) (by omega), fr (d + 4) (by omega)]; exact c4 b hb⟩ (fun j hj g hg => Nat.le_of_lt (a2 j hj g hg)) (by show 0 < 256; decide)
  refine ⟨h', ?_, ⟨?_, ?_, ?_, e2.1, e2.2⟩, fun z z0 z1 z2 z3 => by rw [e3 z z1 z2 z3, fr z z0]⟩
  · unfold f_X0_ringRow
    rw [if_neg (by rw [e_lt (by omega) (by decide)]; omega), if_pos (by rw [e_lt (by omega) (by decide)]; omega), show (up h d 4 (nI row)) d 5 = nI a.2.1 by rw [up_n (by decide)]; exact c1, e_add]
    exact e1
  · rw [e3 d (by omega) (by omega) (by omega)]; exact e4
  · rw [e3 d (by omega) (by omega) (by omega)]; exact e5
  · intro r hr
    rw [e3 (d + 1) (by omega) (by omega) (by omega), fr (d + 1) (by omega)]; exact c2 r hr
