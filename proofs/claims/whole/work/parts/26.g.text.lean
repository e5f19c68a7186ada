/-! ===== the text: chords ===== -/
theorem letter_n (F : Nat) {n : Nat} {t : Nat → Nat} {h : HP} {q B : Nat} (x : TXX n t h) (hq : h 1 2 = nI q) (hq2 : q < 1000) (hB : B ≤ 8) : f_X4_readBellLetter F (nI B) h = some (if 97 ≤ chr n t q ∧ chr n t q ≤ 96 + B then nI (chr n t q - 97) else -1, up h 1 2 (nI (q + 1))) := by
  have := chr_le x q
  unfold f_X4_readBellLetter
  rw [peek_n F x hq hq2, ob_eq, hq, e_add]
  by_cases z : chr n t q < 97
  · rw [if_pos ((sub48 (by omega) (by decide)).mpr z), if_neg (by omega)]
  · rw [if_neg (fun w => z ((sub48 (by omega) (by decide)).mp w)), e_sub (by omega), i_le (by omega) (by omega)]
    by_cases y : chr n t q ≤ 96 + B
    · rw [if_neg (by omega), if_pos (show 97 ≤ chr n t q ∧ chr n t q ≤ 96 + B by omega)]
    · rw [if_pos (by omega), if_neg (by omega)]
theorem bellHere_n (F : Nat) {n : Nat} {t : Nat → Nat} {g : HP} {q B : Nat} (y : TXM n t g) (gq : g 39 14 = nI q) (hq2 : q < 1000) (hB : B ≤ 8) (gB : g 41 0 = nI B) : f_X7_isBellHere F g = some (if 97 ≤ chr n t q ∧ chr n t q ≤ 96 + B then nI 1 else nI 0, g) := by
  unfold f_X7_isBellHere
  rw [here_n F y gq hq2, ob_eq, gB, e_add, ← l64 (show 96 + B < 2147483648 by omega), hIr_in F y.tb (by decide) (by decide) (by omega), ob_eq, if_pos (by split; exact Or.inr rfl; exact Or.inl rfl)]
def lastI (lp : Nat) : Int32 := if lp = 0 then -1 else nI (lp - 1)
theorem lastI_lt {lp b : Nat} (hl : lp ≤ 8) (hb : b < 100) : (lastI lp < nI b) = (lp ≤ b) := by
  unfold lastI
  apply propext
  by_cases z : lp = 0
  · rw [if_pos z]
    exact ⟨fun _ => by omega, fun _ => Int32.not_le.mp (m1_nle (by omega))⟩
  · rw [if_neg z, e_lt (by omega) (by omega)]
    omega
/-- the bells of a chord so far: S, of i letters, the last of them lp - 1 -/
def CH (B S i lp : Nat) : Prop := S < 2 ^ lp ∧ lp ≤ B ∧ i ≤ lp ∧ (lp = 0 ∨ 2 ^ (lp - 1) ≤ S)
theorem CH.shr {B S i lp b : Nat} (c : CH B S i lp) : (S / 2 ^ b = 0) = (lp ≤ b) := by
  obtain ⟨c1, c2, c3, c4⟩ := c
  have hp : 0 < 2 ^ b := Nat.two_pow_pos b
  apply propext
  constructor
  · intro h
    have hlt : S < 2 ^ b := by
      rcases Nat.lt_or_ge S (2 ^ b) with z | z
      · exact z
      · have := Nat.div_pos z hp; omega
    rcases c4 with z | z
    · omega
    · have : 2 ^ (lp - 1) < 2 ^ b := Nat.lt_of_le_of_lt z hlt
      have := (Nat.pow_lt_pow_iff_right (by decide)).mp this
      omega
  · intro h
    exact Nat.div_eq_of_lt (Nat.lt_of_lt_of_le c1 (Nat.pow_le_pow_right (by decide) h))
theorem set91_n (F : Nat) {n : Nat} {t : Nat → Nat} {h : HP} {q S : Nat} {x1 : Int32} (x : TXX n t h) (hq : h 1 2 = nI q) (hq2 : q < 1000) (hS : S < 256) : f_X4_readSet_91 F x1 (nI S) h = if chr n t q = 93 then (if 2 ≤ popc S then some (nI S, up h 1 2 (nI (q + 1))) else some (-1, up h 1 2 (nI (q + 1)))) else some (-1, h) := by
  have := popc_le S
  unfold f_X4_readSet_91
  rw [accept_n F x hq hq2 (by decide)]
  by_cases z : chr n t q = 93
  · rw [if_pos z, if_pos z, ob_eq, if_neg n1n0, bc_spec F hS, ob_eq, i_lt (by omega) (by decide)]
    by_cases y : 2 ≤ popc S
    · rw [if_neg (by omega), if_pos y]
    · rw [if_pos (by omega), if_neg y]
  · rw [if_neg z, if_neg z, ob_eq, if_pos rfl]
def ChOk (n B q : Nat) (cx cm : Option (Int32 × HP)) (h g : HP) : Prop := ∃ w h' g' q', 0 < w ∧ w < 2 ^ B ∧ cx = some (nI w, h') ∧ cm = some (nI w, g') ∧ PFx h h' ∧ PFm g g' ∧ h' 1 2 = nI q' ∧ g' 39 14 = nI q' ∧ q < q' ∧ q' ≤ n
def ChNo (cx cm : Option (Int32 × HP)) (h g : HP) : Prop := ∃ h' g', cx = some (-1, h') ∧ cm = some (-1, g') ∧ PFx h h' ∧ PFm g g'
theorem chord_sim {F : Nat} (hF : 600 ≤ F) {n : Nat} {t : Nat → Nat} {B : Nat} (hB : B ≤ 8) :
    ∀ (k q S i lp m m2 : Nat) (h g : HP), q + k = n → k < m → k < m2 → CH B S i lp → TXX n t h → TXM n t g → h 1 2 = nI q → g 39 14 = nI q → g 41 0 = nI B →
      ChOk n B q (f_X4_readSet_42 F (nI B) m (nI S) (nI i) h) (f_X7_chord_4 F m2 (nI S) (lastI lp) g) h g ∨ ChNo (f_X4_readSet_42 F (nI B) m (nI S) (nI i) h) (f_X7_chord_4 F m2 (nI S) (lastI lp) g) h g := by
  intro k
  induction k with
  | zero =>
    intro q S i lp m m2 h g hk hm hm2 c x y hq gq gB
    obtain ⟨m, rfl⟩ := succ_of hm
    obtain ⟨m2, rfl⟩ := succ_of hm2
    have hn := x.1
    have hc : chr n t q = 0 := by unfold chr; rw [if_neg (by omega)]
    have h8 := Nat.pow_le_pow_right (show 0 < 2 by decide) (show lp ≤ 8 from Nat.le_trans c.2.1 hB)
    have hS : S < 256 := Nat.lt_of_lt_of_le c.1 h8
    have hi : i ≤ 8 := Nat.le_trans c.2.2.1 (Nat.le_trans c.2.1 hB)
    refine Or.inr ?_
    have eM : f_X7_chord_4 F (m2 + 1) (nI S) (lastI lp) g = some (-1, g) := by
      rw [f_X7_chord_4, bellHere_n F y gq (by omega) hB gB, hc, if_neg (by omega), ob_eq, if_pos rfl, here_n F y gq (by omega), ob_eq, hIr_eq y.tb (by decide) (by decide), hc, if_neg (by decide)]
    by_cases z : i = 8
    · exact ⟨h, g, by rw [f_X4_readSet_42, if_pos (by rw [e_le (by decide) (by omega)]; omega), set91_n F x hq (by omega) hS, hc, if_neg (by decide)], eM, PFx.refl _, PFm.refl _⟩
    · exact ⟨_, g, by rw [f_X4_readSet_42, if_neg (by rw [e_le (by decide) (by omega)]; omega), peek_n F x hq (by omega), hc, ob_eq, if_neg (by decide), letter_n F x hq (by omega) hB, hc, if_neg (by omega), ob_eq, if_pos (by decide)], eM, PFx.up _ _, PFm.refl _⟩
  | succ k ih =>
    intro q S i lp m m2 h g hk hm hm2 c x y hq gq gB
    obtain ⟨m, rfl⟩ := succ_of hm
    obtain ⟨m2, rfl⟩ := succ_of hm2
    have hn := x.1
    have h8 := Nat.pow_le_pow_right (show 0 < 2 by decide) (show lp ≤ 8 from Nat.le_trans c.2.1 hB)
    have hS : S < 256 := Nat.lt_of_lt_of_le c.1 h8
    have hi : i ≤ 8 := Nat.le_trans c.2.2.1 (Nat.le_trans c.2.1 hB)
    have hlpB := c.2.1
    have hilp := c.2.2.1
    have hcl := chr_le x q
    by_cases c93 : chr n t q = 93
    · have eX : f_X4_readSet_42 F (nI B) (m + 1) (nI S) (nI i) h = f_X4_readSet_91 F (nI B) (nI S) h := by
        rw [f_X4_readSet_42, peek_n F x hq (by omega), c93, ob_eq, if_pos (show nI 93 = nI 93 from rfl)]
        split <;> rfl
      have eM : f_X7_chord_4 F (m2 + 1) (nI S) (lastI lp) g = if 2 ≤ popc S then some (nI S, up g 39 14 (nI (q + 1))) else some (-1, g) := by
        have := popc_le S
        rw [f_X7_chord_4, bellHere_n F y gq (by omega) hB gB, c93, if_neg (by omega), ob_eq, if_pos rfl, here_n F y gq (by omega), ob_eq, hIr_eq y.tb (by decide) (by decide), c93, if_pos rfl, bits_spec hF hS, ob_eq, i_le (by decide) (by omega), gq, e_add]
      rw [eX, eM, set91_n F x hq (by omega) hS, if_pos c93]
      by_cases z : 2 ≤ popc S
      · rw [if_pos z, if_pos z]
        have hS0 : 0 < S := by
          rcases Nat.eq_zero_or_pos S with e | e
          · rw [e] at z; exact absurd z (by decide)
          · exact e
        have hSB : S < 2 ^ B := Nat.lt_of_lt_of_le c.1 (Nat.pow_le_pow_right (by decide) hlpB)
        exact Or.inl ⟨S, _, _, q + 1, hS0, hSB, rfl, rfl, PFx.up _ _, PFm.up _ _, up_s, up_s, by omega, by omega⟩
      · rw [if_neg z, if_neg z]
        exact Or.inr ⟨_, _, rfl, rfl, PFx.up _ _, PFm.refl _⟩
    · by_cases bl : 97 ≤ chr n t q ∧ chr n t q ≤ 96 + B
      · have eM : f_X7_chord_4 F (m2 + 1) (nI S) (lastI lp) g = if lp ≤ chr n t q - 97 then f_X7_chord_4 F m2 (nI (S ||| 2 ^ (chr n t q - 97))) (nI (chr n t q - 97)) (up g 39 14 (nI (q + 1))) else some (-1, g) := by
          rw [f_X7_chord_4, bellHere_n F y gq (by omega) hB gB, if_pos bl, ob_eq, if_neg n1n0, here_n F y gq (by omega), ob_eq, hIr_c rfl (by omega), e_sub (by omega), gq, e_add, e_one (by omega), e_or]
          by_cases z : lp ≤ chr n t q - 97
          · rw [if_pos z, if_pos (by rw [lastI_lt (by omega) (by omega)]; exact z)]
          · rw [if_neg z, if_neg (by rw [lastI_lt (by omega) (by omega)]; exact z)]
        by_cases z8 : i = 8
        · rw [eM, if_neg (by omega), f_X4_readSet_42, if_pos (by rw [e_le (by decide) (by omega)]; omega), set91_n F x hq (by omega) hS, if_neg c93]
          exact Or.inr ⟨_, _, rfl, rfl, PFx.refl _, PFm.refl _⟩
        · have eX : f_X4_readSet_42 F (nI B) (m + 1) (nI S) (nI i) h = if lp ≤ chr n t q - 97 then f_X4_readSet_42 F (nI B) m (nI (S ||| 2 ^ (chr n t q - 97))) (nI (i + 1)) (up h 1 2 (nI (q + 1))) else some (-1, up h 1 2 (nI (q + 1))) := by
            have hSd : S / 2 ^ (chr n t q - 97) < 2147483648 := Nat.lt_of_le_of_lt (Nat.div_le_self _ _) (by omega)
            rw [f_X4_readSet_42, if_neg (by rw [e_le (by decide) (by omega)]; omega), peek_n F x hq (by omega), ob_eq, i_eq (by omega) (by decide), if_neg c93, letter_n F x hq (by omega) hB, if_pos bl, ob_eq, if_neg (by rw [e_lt (by omega) (by decide)]; omega), e_shr (by omega) (by omega), i_eq hSd (by decide), e_one (by omega), e_or, e_add]
            by_cases z : lp ≤ chr n t q - 97
            · rw [if_pos z, if_pos (by rw [c.shr]; exact z)]
            · rw [if_neg z, if_neg (by rw [c.shr]; exact z)]
          rw [eX, eM]
          by_cases z : lp ≤ chr n t q - 97
          · rw [if_pos z, if_pos z]
            have hSb : S < 2 ^ (chr n t q - 97) := Nat.lt_of_lt_of_le c.1 (Nat.pow_le_pow_right (by decide) z)
            have c' : CH B (S ||| 2 ^ (chr n t q - 97)) (i + 1) (chr n t q - 97 + 1) := by
              rw [or_pow hSb]
              refine ⟨by rw [Nat.pow_succ]; omega, by omega, by omega, Or.inr ?_⟩
              rw [Nat.add_sub_cancel]; omega
            have el : lastI (chr n t q - 97 + 1) = nI (chr n t q - 97) := by unfold lastI; rw [if_neg (by omega), Nat.add_sub_cancel]
            have px := PFx.up h (nI (q + 1))
            have pm := PFm.up g (nI (q + 1))
            rcases ih (q + 1) _ (i + 1) _ m m2 (up h 1 2 (nI (q + 1))) (up g 39 14 (nI (q + 1))) (by omega) (by omega) (by omega) c' (x.pf px) (y.pf pm) up_s up_s (by rw [up_c (by decide)]; exact gB) with ⟨w, h', g', q', a1, a2, a3, a4, a5, a6, a7, a8, a9, a10⟩ | ⟨h', g', a3, a4, a5, a6⟩
            · rw [el] at a4
              exact Or.inl ⟨w, h', g', q', a1, a2, a3, a4, px.trans a5, pm.trans a6, a7, a8, by omega, a10⟩
            · rw [el] at a4
              exact Or.inr ⟨h', g', a3, a4, px.trans a5, pm.trans a6⟩
          · rw [if_neg z, if_neg z]
            exact Or.inr ⟨_, _, rfl, rfl, PFx.up _ _, PFm.refl _⟩
      · have eM : f_X7_chord_4 F (m2 + 1) (nI S) (lastI lp) g = some (-1, g) := by
          rw [f_X7_chord_4, bellHere_n F y gq (by omega) hB gB, if_neg bl, ob_eq, if_pos rfl, here_n F y gq (by omega), ob_eq, hIr_eq y.tb (by decide) (by decide), if_neg c93]
        refine Or.inr ?_
        by_cases z8 : i = 8
        · exact ⟨h, g, by rw [f_X4_readSet_42, if_pos (by rw [e_le (by decide) (by omega)]; omega), set91_n F x hq (by omega) hS, if_neg c93], eM, PFx.refl _, PFm.refl _⟩
        · exact ⟨_, g, by rw [f_X4_readSet_42, if_neg (by rw [e_le (by decide) (by omega)]; omega), peek_n F x hq (by omega), ob_eq, i_eq (by omega) (by decide), if_neg c93, letter_n F x hq (by omega) hB, if_neg bl, ob_eq, if_pos (by decide)], eM, PFx.up _ _, PFm.refl _⟩
