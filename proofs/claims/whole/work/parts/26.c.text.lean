/-! ===== the text: what is told so far ===== -/
/-- bells, rows, rest, tones, hammers, is there a tune, its rows, the sets -/
abbrev PSt : Type := Nat × Nat × Nat × (Nat → Nat) × (Nat → Nat) × Nat × Nat × (Nat → Nat)
def XSt (d : Nat) (h : HP) (s : PSt) : Prop := h d 0 = nI s.1 ∧ h d 4 = nI s.2.1 ∧ h d 5 = nI s.2.2.1 ∧ (∀ b, b < s.1 → h (d + 1) b = nI (s.2.2.2.1 b) ∧ h (d + 2) b = nI (s.2.2.2.2.1 b) ∧ h (d + 3) b = nI (illm s.1 s.2.2.2.1 b)) ∧ h d 6 = nI s.2.2.2.2.2.1 ∧ h d 7 = nI s.2.2.2.2.2.2.1 ∧ ∀ r, r < s.2.2.2.2.2.2.1 → h (d + 4) r = nI (s.2.2.2.2.2.2.2 r)
def MSt (g : HP) (s : PSt) : Prop := g 41 0 = nI s.1 ∧ g 41 1 = nI s.2.1 ∧ g 41 2 = nI s.2.2.1 ∧ (∀ b, b < s.1 → g 41 (3 + b) = nI (s.2.2.2.1 b) ∧ g 41 (11 + b) = nI (s.2.2.2.2.1 b)) ∧ g 39 15 = nI s.2.2.2.2.2.1 ∧ g 39 3 = nI s.2.2.2.2.2.2.1 ∧ ∀ r, r < s.2.2.2.2.2.2.1 → g 42 r = nI (s.2.2.2.2.2.2.2 r)
def POK (s : PSt) : Prop := s.1 ≤ 8 ∧ 2 ≤ s.2.1 ∧ s.2.1 ≤ 32 ∧ s.2.2.1 ≤ 6 ∧ (∀ b, b < s.1 → s.2.2.2.1 b ≤ 40 ∧ 1 ≤ s.2.2.2.2.1 b ∧ s.2.2.2.2.1 b ≤ 2) ∧ s.2.2.2.2.2.1 ≤ 1 ∧ s.2.2.2.2.2.2.1 ≤ 32 ∧ ∀ r, r < s.2.2.2.2.2.2.1 → s.2.2.2.2.2.2.2 r < 2 ^ s.1
def FXt (d : Nat) (h h' : HP) : Prop := (∀ z, z ≠ 1 → z ≠ 3 → (z < d ∨ d + 4 < z) → h' z = h z) ∧ ∀ j, j ≠ 2 → h' 1 j = h 1 j
def FMt (g g' : HP) : Prop := (∀ z, z ≠ 39 → z ≠ 41 → z ≠ 42 → z ≠ 49 → z ≠ 50 → g' z = g z) ∧ ∀ j, j ≠ 3 → j ≠ 14 → j ≠ 15 → g' 39 j = g 39 j
theorem FXt.refl (d : Nat) (h : HP) : FXt d h h := ⟨fun _ _ _ _ => rfl, fun _ _ => rfl⟩
theorem FMt.refl (h : HP) : FMt h h := ⟨fun _ _ _ _ _ _ => rfl, fun _ _ _ _ => rfl⟩
theorem FXt.trans {d : Nat} {h h' h'' : HP} (a : FXt d h h') (b : FXt d h' h'') : FXt d h h'' := ⟨fun z h1 h2 h3 => by rw [b.1 z h1 h2 h3, a.1 z h1 h2 h3], fun j hj => by rw [b.2 j hj, a.2 j hj]⟩
theorem FMt.trans {h h' h'' : HP} (a : FMt h h') (b : FMt h' h'') : FMt h h'' := ⟨fun z h1 h2 h3 h4 h5 => by rw [b.1 z h1 h2 h3 h4 h5, a.1 z h1 h2 h3 h4 h5], fun j h1 h2 h3 => by rw [b.2 j h1 h2 h3, a.2 j h1 h2 h3]⟩
theorem PFx.f {h h' : HP} (d : Nat) (p : PFx h h') : FXt d h h' := ⟨fun z h1 _ _ => p.1 z h1, p.2⟩
theorem PFm.f {h h' : HP} (p : PFm h h') : FMt h h' := ⟨fun z h1 _ _ _ _ => p.1 z h1, fun j _ h2 _ => p.2 j h2⟩
theorem PFt.f {h h' : HP} (p : PFt h h') : FMt h h' := ⟨fun z h1 _ _ h4 _ => p.1 z h1 h4, fun j _ h2 _ => p.2 j h2⟩
def TDc (d : Nat) : Prop := d = 4 ∨ d = 9
theorem TXX.f {n d : Nat} {t : Nat → Nat} {h h' : HP} (hd : TDc d) (x : TXX n t h) (p : FXt d h h') : TXX n t h' := by
  unfold TXX
  unfold TDc at hd
  rw [p.2 1 (by decide), p.1 2 (by decide) (by decide) (by omega)]
  exact x
theorem TXM.f {n : Nat} {t : Nat → Nat} {h h' : HP} (x : TXM n t h) (p : FMt h h') : TXM n t h' := by
  unfold TXM
  rw [p.2 10 (by decide) (by decide) (by decide), p.1 46 (by decide) (by decide) (by decide) (by decide) (by decide)]
  exact x
theorem XSt.pf {d : Nat} {h h' : HP} {s : PSt} (hd : TDc d) (x : XSt d h s) (p : PFx h h') : XSt d h' s := by
  unfold TDc at hd
  unfold XSt
  rw [p.1 d (by omega), p.1 (d + 1) (by omega), p.1 (d + 2) (by omega), p.1 (d + 3) (by omega), p.1 (d + 4) (by omega)]
  exact x
theorem MSt.pt {h h' : HP} {s : PSt} (x : MSt h s) (p : PFt h h') : MSt h' s := by
  unfold MSt
  rw [p.1 41 (by decide) (by decide), p.1 42 (by decide) (by decide), p.2 15 (by decide), p.2 3 (by decide)]
  exact x
theorem MSt.pf {h h' : HP} {s : PSt} (x : MSt h s) (p : PFm h h') : MSt h' s := x.pt p.t
/-! a bell comes -/
theorem ill_bits : ∀ x, x < 12 → bn 3142 x = if x = 1 ∨ x = 2 ∨ x = 6 ∨ x = 10 ∨ x = 11 then 1 else 0 := by decide +kernel
theorem ill_test (a b : Nat) : (bn 3142 ((if a ≤ b then b - a else a - b) % 12) = 1) = (ill b a = true) := by
  have e : (if a ≤ b then b - a else a - b) % 12 = tdif b a := by
    rw [tdif_symm]
    rfl
  have hlt : tdif b a < 12 := Nat.mod_lt _ (by decide)
  rw [e, ill_bits _ hlt]
  unfold ill
  apply propext
  simp only [Bool.or_eq_true, beq_iff_eq]
  by_cases z : tdif b a = 1 ∨ tdif b a = 2 ∨ tdif b a = 6 ∨ tdif b a = 10 ∨ tdif b a = 11
  · rw [if_pos z]; omega
  · rw [if_neg z]; omega
def ilv (v : Nat) (T : Nat → Nat) (c : Nat) : Nat := sg (fun c => if ill v (T c) then 2 ^ c else 0) 0 c
theorem ilv_lt (v : Nat) (T : Nat → Nat) : ∀ c, ilv v T c < 2 ^ c := by
  intro c
  induction c with
  | zero => exact Nat.zero_lt_one
  | succ c ih =>
    have e : ilv v T (c + 1) = ilv v T c + (if ill v (T c) then 2 ^ c else 0) := by
      have := sg_last (fun c => if ill v (T c) then 2 ^ c else 0) c 0
      rw [Nat.zero_add] at this
      exact this
    rw [e, Nat.pow_succ]
    split <;> omega
theorem ilv_succ (v : Nat) (T : Nat → Nat) (c : Nat) : ilv v T (c + 1) = ilv v T c + (if ill v (T c) then 2 ^ c else 0) := by
  have := sg_last (fun c => if ill v (T c) then 2 ^ c else 0) c 0
  rw [Nat.zero_add] at this
  exact this
theorem illm_ilv (B : Nat) (T : Nat → Nat) (b : Nat) : illm B T b = ilv (T b) T B := rfl
theorem or_pow {a c : Nat} (h : a < 2 ^ c) : a ||| 2 ^ c = a + 2 ^ c := by
  have := Nat.two_pow_add_eq_or_of_lt h 1
  rw [Nat.mul_one] at this
  rw [Nat.or_comm, ← this, Nat.add_comm]
theorem ilv_congr {v : Nat} {T T' : Nat → Nat} : ∀ {c : Nat}, (∀ j, j < c → T j = T' j) → ilv v T c = ilv v T' c := fun {c} h => sg_congr (fun j _ hj => by rw [h j (by omega)])
theorem bell63 {F : Nat} {d B v : Nat} {x2 : Int32} {T : Nat → Nat} (hB : B < 8) (hv : v ≤ 40) (hT : ∀ b, b < B → T b ≤ 40) :
    ∀ (k c m : Nat) (h : HP), c + k = B → k < m → h d 0 = nI B → (∀ b, b < B → h (d + 1) b = nI (T b)) → (∀ b, b < c → h (d + 3) b = nI (illm B T b + (if ill (T b) v then 2 ^ B else 0))) → (∀ b, c ≤ b → b < B → h (d + 3) b = nI (illm B T b)) → h (d + 3) B = nI (ilv v T c) →
      ∃ h', f_X5_addBell_63 F d (nI v) x2 m (nI c) h = some (nI 1, h') ∧ h' d 0 = nI (B + 1) ∧ (∀ j, j ≠ 0 → h' d j = h d j) ∧ (∀ b, b < B → h' (d + 3) b = nI (illm B T b + (if ill (T b) v then 2 ^ B else 0))) ∧ h' (d + 3) B = nI (ilv v T B) ∧ ∀ z, z ≠ d → z ≠ d + 3 → h' z = h z := by
  have h2B : 2 ^ B < 2 ^ 8 := Nat.pow_lt_pow_right (by decide) hB
  intro k
  induction k with
  | zero =>
    intro c m h hc hm h0 hT1 hI1 hI2 hI3
    obtain ⟨m, rfl⟩ := succ_of hm
    have hcB : c = B := by omega
    subst hcB
    refine ⟨up h d 0 (nI (c + 1)), ?_, up_s, fun j hj => up_n hj, fun b hb => by rw [up_c (by omega)]; exact hI1 b hb, by rw [up_c (by omega)]; exact hI3, fun z h1 _ => up_c h1⟩
    rw [f_X5_addBell_63, h0, if_pos (by rw [e_le (by omega) (by omega)]; omega), e_add]
  | succ k ih =>
    intro c m h hc hm h0 hT1 hI1 hI2 hI3
    obtain ⟨m, rfl⟩ := succ_of hm
    have hTc := hT c (by omega)
    have hlt : (if v ≤ T c then T c - v else v - T c) % 12 < 12 := Nat.mod_lt _ (by decide)
    have hab : (if v ≤ T c then T c - v else v - T c) ≤ 40 := by split <;> omega
    have hic : ilv v T c < 2 ^ c := ilv_lt v T c
    have hilm : illm B T c < 2 ^ B := by rw [illm_ilv]; exact ilv_lt _ _ _
    have h2c : 2 ^ c < 2 ^ B := Nat.pow_lt_pow_right (by decide) (by omega)
    have hbn := bn_lt 3142 ((if v ≤ T c then T c - v else v - T c) % 12)
    rw [f_X5_addBell_63, h0, if_neg (by rw [e_le (by omega) (by omega)]; omega), if_pos (inb_t (show c < 8 by omega) (by decide)), e_ix (by omega), hT1 c (by omega), abs_n F (by omega) (by omega), ob_eq, jrem_n (by omega) (by decide) (by decide), e_bit (by decide) (by omega), i_eq (by omega) (by decide), h0, e_one (by omega), e_one (by omega), hI2 c (Nat.le_refl _) (by omega), up_c (show d ≠ d + 3 by omega), h0, e_add, e_or]
    by_cases z : ill (T c) v = true
    · rw [if_pos (by rw [ill_test]; exact z), if_pos (inb_t hB (by decide)), e_ix (by omega), up_n (show B ≠ c by omega), hI3, e_or, or_pow hic, or_pow hilm]
      obtain ⟨h', f1, f2, f3, f4, f5, f6⟩ := ih (c + 1) m (up (up h (d + 3) c (nI (illm B T c + 2 ^ B))) (d + 3) B (nI (ilv v T c + 2 ^ c))) (by omega) (by omega) (by rw [up_c (by omega), up_c (by omega)]; exact h0) (fun b hb => by rw [up_c (by omega), up_c (by omega)]; exact hT1 b hb) (fun b hb => by
        rw [up_n (by omega)]
        by_cases y : b = c
        · rw [y, up_s, if_pos z]
        · rw [up_n y]; exact hI1 b (by omega)) (fun b h1 h2 => by rw [up_n (by omega), up_n (by omega)]; exact hI2 b (by omega) h2) (by rw [up_s, ilv_succ, if_pos (by rw [ill_symm]; exact z)])
      exact ⟨h', f1, f2, fun j hj => by rw [f3 j hj, up_c (by omega), up_c (by omega)], f4, f5, fun q h1 h2 => by rw [f6 q h1 h2, up_c h2, up_c h2]⟩
    · rw [if_neg (by rw [ill_test]; exact z)]
      exact ih (c + 1) m h (by omega) (by omega) h0 hT1 (fun b hb => by
        by_cases y : b = c
        · rw [y, if_neg z, Nat.add_zero]; exact hI2 c (Nat.le_refl _) (by omega)
        · exact hI1 b (by omega)) (fun b h1 h2 => hI2 b (by omega) h2) (by rw [ilv_succ, if_neg (by rw [ill_symm]; exact z), Nat.add_zero]; exact hI3)
theorem addBell_no (F : Nat) {d B : Nat} {x1 x2 : Int32} {h : HP} (h0 : h d 0 = nI B) (hB : B ≤ 8) (hb : ¬ (B < 8 ∧ nI 0 ≤ x1 ∧ x1 ≤ nI 40 ∧ nI 1 ≤ x2 ∧ x2 ≤ nI 2)) : f_X5_addBell F d x1 x2 h = some (nI 0, h) := by
  unfold f_X5_addBell
  rw [h0]
  by_cases g0 : B < 8
  · rw [if_neg (by rw [e_le (by decide) (by omega)]; omega)]
    by_cases g1 : nI 0 ≤ x1
    · rw [if_neg (Int32.not_lt.mpr g1)]
      by_cases g2 : x1 ≤ nI 40
      · rw [if_neg (Int32.not_lt.mpr g2)]
        by_cases g3 : nI 1 ≤ x2
        · rw [if_neg (Int32.not_lt.mpr g3), if_neg (fun g4 => hb ⟨g0, g1, g2, g3, g4⟩)]
        · rw [if_pos (Int32.not_le.mp g3)]
      · rw [if_pos (Int32.not_le.mp g2)]
    · rw [if_pos (Int32.not_le.mp g1)]
  · rw [if_pos (by rw [e_le (by decide) (by omega)]; omega)]
theorem addBell_n {F : Nat} (hF : 600 ≤ F) {d v w : Nat} {h : HP} {s : PSt} (x : XSt d h s) (hP : POK s) (hB : s.1 < 8) (hv : v ≤ 40) (hw1 : 1 ≤ w) (hw : w ≤ 2) :
    ∃ h', f_X5_addBell F d (nI v) (nI w) h = some (nI 1, h') ∧ XSt d h' (s.1 + 1, s.2.1, s.2.2.1, updN s.2.2.2.1 s.1 v, updN s.2.2.2.2.1 s.1 w, s.2.2.2.2.2) ∧ ∀ z, z < d ∨ d + 3 < z → h' z = h z := by
  obtain ⟨B, N, R, T, M, ht, K, ws⟩ := s
  obtain ⟨x0, x4, x5, xb, x6, x7, xr⟩ := x
  obtain ⟨p0, p1, p2, p3, p4, p5⟩ := hP
  dsimp only at x0 x4 x5 xb x6 x7 xr p0 p1 p2 p3 p4 p5 hB ⊢
  let h1 : HP := up h (d + 1) B (nI v)
  let h2 : HP := up h1 (d + 2) B (nI w)
  let h3 : HP := up h2 (d + 3) B (nI 0)
  have f1 : ∀ z, z ≠ d + 1 → h1 z = h z := fun z hz => up_c hz
  have f2 : ∀ z, z ≠ d + 2 → h2 z = h1 z := fun z hz => up_c hz
  have f3 : ∀ z, z ≠ d + 3 → h3 z = h2 z := fun z hz => up_c hz
  have e1 : h1 d 0 = nI B := by rw [f1 d (by omega)]; exact x0
  have e2 : h2 d 0 = nI B := by rw [f2 d (by omega)]; exact e1
  have e3 : h3 d = h d := by rw [f3 d (by omega), f2 d (by omega), f1 d (by omega)]
  obtain ⟨h', a1, a2, a3, a4, a5, a6⟩ := bell63 (F := F) (d := d) (x2 := nI w) (T := T) hB hv (fun b hb => (p4 b hb).1) B 0 F h3 (by omega) (by omega) (by rw [e3]; exact x0) (fun b hb => by
    rw [f3 (d + 1) (by omega), f2 (d + 1) (by omega)]
    show (up h (d + 1) B _) (d + 1) b = _
    rw [up_n (by omega)]; exact (xb b hb).1) (fun b hb => by omega) (fun b _ hb => by
    show (up h2 (d + 3) B _) (d + 3) b = _
    rw [up_n (by omega), f2 (d + 3) (by omega), f1 (d + 3) (by omega)]; exact (xb b hb).2.2) up_s
  refine ⟨h', ?_, ⟨a2, ?_, ?_, fun b hb => ⟨?_, ?_, ?_⟩, ?_, ?_, fun r hr => ?_⟩, fun z hz => ?_⟩
  · unfold f_X5_addBell
    rw [x0, if_neg (by rw [e_le (by decide) (by omega)]; omega), if_neg (by rw [e_lt (by omega) (by decide)]; omega), if_neg (by rw [e_lt (by decide) (by omega)]; omega), if_neg (by rw [e_lt (by omega) (by decide)]; omega), if_pos (by rw [e_le (by omega) (by decide)]; omega), if_pos (inb_t hB (by decide)), e_ix (by omega), show up h (d + 1) B (nI v) = h1 from rfl, e1, if_pos (inb_t hB (by decide)), e_ix (by omega), show up h1 (d + 2) B (nI w) = h2 from rfl, e2, if_pos (inb_t hB (by decide)), e_ix (by omega), show up h2 (d + 3) B (nI 0) = h3 from rfl, a1]
  · rw [a3 4 (by decide), e3]; exact x4
  · rw [a3 5 (by decide), e3]; exact x5
  · rw [a6 (d + 1) (by omega) (by omega), f3 (d + 1) (by omega), f2 (d + 1) (by omega)]
    show (up h (d + 1) B _) (d + 1) b = nI (updN T B v b)
    unfold updN
    by_cases z : b = B
    · rw [if_pos z, z, up_s]
    · rw [if_neg z, up_n z]; exact (xb b (by omega)).1
  · rw [a6 (d + 2) (by omega) (by omega), f3 (d + 2) (by omega)]
    show (up h1 (d + 2) B _) (d + 2) b = nI (updN M B w b)
    unfold updN
    by_cases z : b = B
    · rw [if_pos z, z, up_s]
    · rw [if_neg z, up_n z, f1 (d + 2) (by omega)]; exact (xb b (by omega)).2.1
  · show h' (d + 3) b = nI (illm (B + 1) (updN T B v) b)
    rw [illm_ilv, ilv_succ, show updN T B v B = v by unfold updN; rw [if_pos rfl], ilv_congr (T := updN T B v) (T' := T) (fun j hj => by unfold updN; rw [if_neg (by omega)])]
    by_cases z : b = B
    · rw [z, show updN T B v B = v by unfold updN; rw [if_pos rfl], if_neg (by rw [ill_self]; decide), Nat.add_zero]; exact a5
    · rw [show updN T B v b = T b by unfold updN; rw [if_neg z]]; exact a4 b (by omega)
  · rw [a3 6 (by decide), e3]; exact x6
  · rw [a3 7 (by decide), e3]; exact x7
  · rw [a6 (d + 4) (by omega) (by omega), f3 (d + 4) (by omega), f2 (d + 4) (by omega), f1 (d + 4) (by omega)]; exact xr r hr
  · rw [a6 z (by omega) (by omega), f3 z (by omega), f2 z (by omega), f1 z (by omega)]
