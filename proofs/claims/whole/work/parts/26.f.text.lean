/-! ===== the text: rows of a tune ===== -/
def sK (s : PSt) (K : Nat) (ws : Nat → Nat) : PSt := (s.1, s.2.1, s.2.2.1, s.2.2.2.1, s.2.2.2.2.1, s.2.2.2.2.2.1, K, ws)
def PRx (d : Nat) (h h' : HP) : Prop := ∀ z, z ≠ d → z ≠ d + 4 → h' z = h z
def PRm (g g' : HP) : Prop := (∀ z, z ≠ 39 → z ≠ 42 → g' z = g z) ∧ ∀ j, j ≠ 3 → g' 39 j = g 39 j
theorem PRx.refl (d : Nat) (h : HP) : PRx d h h := fun _ _ _ => rfl
theorem PRm.refl (h : HP) : PRm h h := ⟨fun _ _ _ => rfl, fun _ _ => rfl⟩
theorem PRx.trans {d : Nat} {h h' h'' : HP} (a : PRx d h h') (b : PRx d h' h'') : PRx d h h'' := fun z h1 h2 => by rw [b z h1 h2, a z h1 h2]
theorem PRm.trans {h h' h'' : HP} (a : PRm h h') (b : PRm h' h'') : PRm h h'' := ⟨fun z h1 h2 => by rw [b.1 z h1 h2, a.1 z h1 h2], fun j hj => by rw [b.2 j hj, a.2 j hj]⟩
theorem PRx.f {d : Nat} {h h' : HP} (hd : TDc d) (p : PRx d h h') : FXt d h h' := FXt.low hd (fun z hz => p z (by omega) (by omega))
theorem PRm.f {h h' : HP} (p : PRm h h') : FMt h h' := ⟨fun z h1 _ h3 _ _ => p.1 z h1 h3, fun j h1 _ _ => p.2 j h1⟩
theorem XSt.ws {d K : Nat} {ws ws' : Nat → Nat} {h : HP} {s : PSt} (x : XSt d h (sK s K ws)) (e : ∀ r, r < K → ws' r = ws r) : XSt d h (sK s K ws') := by
  obtain ⟨x0, x4, x5, xb, x6, x7, xr⟩ := x
  exact ⟨x0, x4, x5, xb, x6, x7, fun r hr => by
    have := xr r hr
    rw [this]
    exact congrArg nI (e r hr).symm⟩
theorem MSt.ws {K : Nat} {ws ws' : Nat → Nat} {h : HP} {s : PSt} (x : MSt h (sK s K ws)) (e : ∀ r, r < K → ws' r = ws r) : MSt h (sK s K ws') := by
  obtain ⟨x0, x4, x5, xb, x6, x7, xr⟩ := x
  exact ⟨x0, x4, x5, xb, x6, x7, fun r hr => by
    have := xr r hr
    rw [this]
    exact congrArg nI (e r hr).symm⟩
theorem addRow_n (F : Nat) {d K w : Nat} {ws ws' : Nat → Nat} {h : HP} {s : PSt} (x : XSt d h (sK s K ws)) (hK : K < 32) (e : ∀ r, r < K → ws' r = ws r) (eK : ws' K = w) :
    ∃ h', f_X5_addRow F d (nI w) h = some (nI 1, h') ∧ XSt d h' (sK s (K + 1) ws') ∧ PRx d h h' := by
  obtain ⟨B, N, R, T, M, ht, K0, ws0⟩ := s
  obtain ⟨x0, x4, x5, xb, x6, x7, xr⟩ := x
  dsimp only [sK] at x0 x4 x5 xb x6 x7 xr ⊢
  refine ⟨_, by
    unfold f_X5_addRow
    rw [x7, if_pos (by rw [e_lt (by omega) (by decide)]; exact hK), if_pos (inb_t hK (by decide)), e_ix (by omega), up_c (by omega), x7, e_add], ⟨?_, ?_, ?_, fun b hb => ?_, ?_, ?_, fun r hr => ?_⟩, fun z h1 h2 => by rw [up_c h1, up_c h2]⟩
  · rw [up_n (by decide), up_c (by omega)]; exact x0
  · rw [up_n (by decide), up_c (by omega)]; exact x4
  · rw [up_n (by decide), up_c (by omega)]; exact x5
  · rw [up_c (by omega), up_c (by omega), up_c (by omega), up_c (by omega), up_c (by omega), up_c (by omega)]; exact xb b hb
  · rw [up_n (by decide), up_c (by omega)]; exact x6
  · rw [up_s]
  · dsimp only at hr ⊢
    rw [up_c (by omega)]
    by_cases z : r = K
    · rw [z, up_s, eK]
    · rw [up_n z, xr r (by omega), e r (by omega)]
theorem addRow_no (F : Nat) {d K : Nat} {ws : Nat → Nat} {x1 : Int32} {h : HP} {s : PSt} (x : XSt d h (sK s K ws)) (hK : 32 ≤ K) (hK2 : K < 1000) : f_X5_addRow F d x1 h = some (nI 0, h) := by
  have x7 : h d 7 = nI K := x.2.2.2.2.2.1
  unfold f_X5_addRow
  rw [x7, if_neg (by rw [e_lt (by omega) (by decide)]; omega)]
theorem mput_n (F : Nat) {K w : Nat} {ws ws' : Nat → Nat} {g : HP} {s : PSt} (x : MSt g (sK s K ws)) (hK : K < 32) (e : ∀ r, r < K → ws' r = ws r) (eK : ws' K = w) :
    ∃ g', f_X7_put F (nI w) g = some (nI 1, g') ∧ MSt g' (sK s (K + 1) ws') ∧ PRm g g' := by
  obtain ⟨B, N, R, T, M, ht, K0, ws0⟩ := s
  obtain ⟨x0, x4, x5, xb, x6, x7, xr⟩ := x
  dsimp only [sK] at x0 x4 x5 xb x6 x7 xr ⊢
  refine ⟨_, by
    unfold f_X7_put
    rw [x7, if_neg (by rw [e_eq (by omega) (by decide)]; omega), if_pos (inb_t hK (by decide)), e_ix (by omega), up_c (by decide), x7, e_add], ⟨?_, ?_, ?_, fun b hb => ?_, ?_, ?_, fun r hr => ?_⟩, fun z h1 h2 => by rw [up_c h1, up_c h2], fun j hj => by rw [up_n hj, up_c (by decide)]⟩
  · rw [up_c (by decide), up_c (by decide)]; exact x0
  · rw [up_c (by decide), up_c (by decide)]; exact x4
  · rw [up_c (by decide), up_c (by decide)]; exact x5
  · rw [up_c (by decide), up_c (by decide)]; exact xb b hb
  · rw [up_n (by decide), up_c (by decide)]; exact x6
  · rw [up_s]
  · dsimp only at hr ⊢
    rw [up_c (by decide)]
    by_cases z : r = K
    · rw [z, up_s, eK]
    · rw [up_n z, xr r (by omega), e r (by omega)]
theorem mput_no (F : Nat) {K : Nat} {ws : Nat → Nat} {x1 : Int32} {g : HP} {s : PSt} (x : MSt g (sK s K ws)) (hK : K = 32) : f_X7_put F x1 g = some (nI 0, g) := by
  have x7 : g 39 3 = nI K := x.2.2.2.2.2.1
  unfold f_X7_put
  rw [x7, hK, if_pos rfl]
/-- rows f .. f + L - 1 again and again behind -/
def wsA (f L : Nat) (ws : Nat → Nat) (r : Nat) : Nat := if r < f + L then ws r else ws (f + (r - (f + L)) % L)
theorem wsA_per {f L : Nat} (ws : Nat → Nat) (i : Nat) : wsA f L ws (f + i) = wsA f L ws (f + L + i) := by
  unfold wsA
  rw [if_neg (show ¬ f + L + i < f + L by omega), show f + L + i - (f + L) = i by omega]
  by_cases z : i < L
  · rw [if_pos (by omega), Nat.mod_eq_of_lt z]
  · rw [if_neg (by omega), show f + i - (f + L) = i - L by omega, Nat.mod_eq_sub_mod (show i ≥ L by omega)]
theorem wsA_lo {f L : Nat} {ws : Nat → Nat} {r : Nat} (h : r < f + L) : wsA f L ws r = ws r := if_pos h
theorem again31 {F d f L T : Nat} {ws : Nat → Nat} {s : PSt} (hL : 0 < L) (hT : 1 ≤ T) (hb : f + L + L * (T - 1) ≤ 32) :
    ∀ (k i m : Nat) (h : HP), i + k = L * (T - 1) → k < m → XSt d h (sK s (f + L + i) (wsA f L ws)) → ∃ h', f_X5_tellAgain_31 F d (nI f) (nI T) m (nI L) (nI i) h = some (nI 1, h') ∧ XSt d h' (sK s (f + L + L * (T - 1)) (wsA f L ws)) ∧ PRx d h h' := by
  intro k
  induction k with
  | zero =>
    intro i m h hi hm x
    obtain ⟨m, rfl⟩ := succ_of hm
    refine ⟨h, ?_, ?_, PRx.refl _ _⟩
    · rw [f_X5_tellAgain_31, e_sub hT, e_mul, if_pos (by rw [e_le (by omega) (by omega)]; omega)]
    · rw [show L * (T - 1) = i by omega]; exact x
  | succ k ih =>
    intro i m h hi hm x
    obtain ⟨m, rfl⟩ := succ_of hm
    have xr : h (d + 4) (f + i) = nI (wsA f L ws (f + i)) := x.2.2.2.2.2.2 (f + i) (show f + i < f + L + i by omega)
    obtain ⟨h1, a1, a2, a3⟩ := addRow_n F (ws' := wsA f L ws) x (by omega) (fun _ _ => rfl) (wsA_per ws i).symm
    obtain ⟨h', b1, b2, b3⟩ := ih (i + 1) m h1 (by omega) (by omega) (by rw [← Nat.add_assoc]; exact a2)
    refine ⟨h', ?_, b2, a3.trans b3⟩
    rw [f_X5_tellAgain_31, e_sub hT, e_mul, if_neg (by rw [e_le (by omega) (by omega)]; omega), e_add, if_pos (inb_t (by omega) (by decide)), e_ix (by omega), xr, a1, ob_eq, e_add, b1]
theorem tellAgain_n {F d f L T : Nat} (hF : 600 ≤ F) {ws : Nat → Nat} {h : HP} {s : PSt} (hL : 0 < L) (hT : 1 ≤ T) (hT2 : T < 100) (hKb : f + L ≤ 32) (x : XSt d h (sK s (f + L) ws)) :
    (f + L + L * (T - 1) ≤ 32 ∧ ∃ h', f_X5_tellAgain F d (nI f) (nI T) h = some (nI 1, h') ∧ XSt d h' (sK s (f + L + L * (T - 1)) (wsA f L ws)) ∧ PRx d h h') ∨ (¬ f + L + L * (T - 1) ≤ 32 ∧ f_X5_tellAgain F d (nI f) (nI T) h = some (nI 0, h)) := by
  have x7 : h d 7 = nI (f + L) := x.2.2.2.2.2.1
  have hle : L * T ≤ 32 * 100 := Nat.mul_le_mul (by omega) (by omega)
  have hLT : L * T = L + L * (T - 1) := by
    obtain ⟨k, rfl⟩ : ∃ k, T = k + 1 := ⟨T - 1, by omega⟩
    rw [Nat.mul_succ, Nat.add_sub_cancel]; omega
  unfold f_X5_tellAgain
  rw [x7, if_neg (by rw [e_lt (by omega) (by decide)]; omega), e_sub (by omega), show f + L - f = L by omega, if_neg (by rw [e_lt (by omega) (by decide)]; omega), e_mul, e_add]
  by_cases z : f + L + L * (T - 1) ≤ 32
  · rw [if_pos (by rw [e_le (by omega) (by decide)]; omega)]
    obtain ⟨h', a1, a2, a3⟩ := again31 (F := F) (ws := ws) hL hT z (L * (T - 1)) 0 F h (by omega) (by omega) (x.ws (fun r hr => wsA_lo hr))
    exact Or.inl ⟨z, h', a1, a2, a3⟩
  · rw [if_neg (by rw [e_le (by omega) (by decide)]; omega)]
    exact Or.inr ⟨z, rfl⟩
theorem again17 {F f L a : Nat} {x2 : Int32} {k8 : Int32 → Int32 → HP → Option (Int32 × HP)} {ws : Nat → Nat} {s : PSt} (hL : 0 < L) (hK : f + L ≤ 32) (ha : a < 1000) :
    ∀ (k i m : Nat) (g : HP), i + k = L → k < m → f + L + (a * L + i) ≤ 32 → MSt g (sK s (f + L + (a * L + i)) (wsA f L ws)) →
      (f + L + (a + 1) * L ≤ 32 ∧ ∃ g', f_X7_tellsAgain_17 F (nI f) x2 k8 m (nI (f + L)) (nI (a + 1)) (nI (f + i)) g = k8 (nI (f + L)) (nI (a + 2)) g' ∧ MSt g' (sK s (f + L + (a + 1) * L) (wsA f L ws)) ∧ PRm g g') ∨ (¬ f + L + (a + 1) * L ≤ 32 ∧ ∃ g', f_X7_tellsAgain_17 F (nI f) x2 k8 m (nI (f + L)) (nI (a + 1)) (nI (f + i)) g = some (nI 0, g') ∧ PRm g g') := by
  have hs : (a + 1) * L = a * L + L := Nat.succ_mul a L
  intro k
  induction k with
  | zero =>
    intro i m g hi hm hb x
    obtain ⟨m, rfl⟩ := succ_of hm
    have hiL : i = L := by omega
    subst hiL
    refine Or.inl ⟨by omega, g, ?_, by rw [hs]; exact x, PRm.refl _⟩
    rw [f_X7_tellsAgain_17, if_pos (by rw [e_le (by omega) (by omega)]; exact Nat.le_refl _), e_add]
  | succ k ih =>
    intro i m g hi hm hb x
    obtain ⟨m, rfl⟩ := succ_of hm
    have xr : g 42 (f + i) = nI (wsA f L ws (f + i)) := x.2.2.2.2.2.2 (f + i) (show f + i < f + L + (a * L + i) by omega)
    rw [f_X7_tellsAgain_17, if_neg (by rw [e_le (by omega) (by omega)]; omega), if_pos (inb_t (by omega) (by decide)), e_ix (by omega), xr]
    by_cases z : f + L + (a * L + i) = 32
    · rw [mput_no F x z, ob_eq, if_pos rfl]
      exact Or.inr ⟨by omega, g, rfl, PRm.refl _⟩
    · have ev : wsA f L ws (f + L + (a * L + i)) = wsA f L ws (f + i) := by
        unfold wsA
        rw [if_neg (by omega), show f + L + (a * L + i) - (f + L) = a * L + i by omega, if_pos (show f + i < f + L by omega), Nat.mul_comm, Nat.mul_add_mod, Nat.mod_eq_of_lt (by omega)]
      obtain ⟨g1, a1, a2, a3⟩ := mput_n F (ws' := wsA f L ws) x (by omega) (fun _ _ => rfl) ev
      rw [a1, ob_eq, if_neg n1n0, e_add]
      rcases ih (i + 1) m g1 (by omega) (by omega) (by omega) (by rw [show f + L + (a * L + (i + 1)) = f + L + (a * L + i) + 1 by omega]; exact a2) with ⟨b0, g', b1, b2, b3⟩ | ⟨b0, g', b1, b3⟩
      · exact Or.inl ⟨b0, g', b1, b2, a3.trans b3⟩
      · exact Or.inr ⟨b0, g', b1, a3.trans b3⟩
theorem again8 {F f L T : Nat} (hF : 600 ≤ F) {ws : Nat → Nat} {s : PSt} (hL : 0 < L) (hK : f + L ≤ 32) (hT : T < 100) :
    ∀ (k a m : Nat) (g : HP), a + 1 + k = T → k < m → f + L + a * L ≤ 32 → MSt g (sK s (f + L + a * L) (wsA f L ws)) →
      (f + L + (T - 1) * L ≤ 32 ∧ ∃ g', f_X7_tellsAgain_8 F (nI f) (nI T) m (nI (f + L)) (nI (a + 1)) g = some (nI 1, g') ∧ MSt g' (sK s (f + L + (T - 1) * L) (wsA f L ws)) ∧ PRm g g') ∨ (¬ f + L + (T - 1) * L ≤ 32 ∧ ∃ g', f_X7_tellsAgain_8 F (nI f) (nI T) m (nI (f + L)) (nI (a + 1)) g = some (nI 0, g') ∧ PRm g g') := by
  intro k
  induction k with
  | zero =>
    intro a m g hi hm hb x
    obtain ⟨m, rfl⟩ := succ_of hm
    have : T - 1 = a := by omega
    rw [this]
    refine Or.inl ⟨hb, g, ?_, x, PRm.refl _⟩
    rw [f_X7_tellsAgain_8, if_pos (by rw [e_le (by omega) (by omega)]; omega)]
  | succ k ih =>
    intro a m g hi hm hb x
    obtain ⟨m, rfl⟩ := succ_of hm
    rw [f_X7_tellsAgain_8, if_neg (by rw [e_le (by omega) (by omega)]; omega)]
    rcases again17 (F := F) (x2 := nI T) (k8 := f_X7_tellsAgain_8 F (nI f) (nI T) m) (ws := ws) (s := s) hL hK (show a < 1000 by omega) L 0 F g (by omega) (by omega) hb x with ⟨b0, g1, b1, b2, b3⟩ | ⟨b0, g1, b1, b3⟩
    · rw [show f + 0 = f from rfl] at b1
      rw [b1]
      rcases ih (a + 1) m g1 (by omega) (by omega) b0 b2 with ⟨c0, g', c1, c2, c3⟩ | ⟨c0, g', c1, c3⟩
      · exact Or.inl ⟨c0, g', c1, c2, b3.trans c3⟩
      · exact Or.inr ⟨c0, g', c1, b3.trans c3⟩
    · rw [show f + 0 = f from rfl] at b1
      rw [b1]
      have : (a + 1) * L ≤ (T - 1) * L := Nat.mul_le_mul_right L (by omega)
      exact Or.inr ⟨by omega, g1, rfl, b3⟩
theorem tellsAgain_n {F f L T : Nat} (hF : 600 ≤ F) {ws : Nat → Nat} {g : HP} {s : PSt} (hL : 0 < L) (hT : 1 ≤ T) (hT2 : T < 100) (hK : f + L ≤ 32) (x : MSt g (sK s (f + L) ws)) :
    (f + L + L * (T - 1) ≤ 32 ∧ ∃ g', f_X7_tellsAgain F (nI f) (nI T) g = some (nI 1, g') ∧ MSt g' (sK s (f + L + L * (T - 1)) (wsA f L ws)) ∧ PRm g g') ∨ (¬ f + L + L * (T - 1) ≤ 32 ∧ ∃ g', f_X7_tellsAgain F (nI f) (nI T) g = some (nI 0, g') ∧ PRm g g') := by
  have x7 : g 39 3 = nI (f + L) := x.2.2.2.2.2.1
  unfold f_X7_tellsAgain
  rw [x7, Nat.mul_comm]
  exact again8 hF hL hK hT2 (T - 1) 0 F g (by omega) (by omega) (by omega) (by rw [Nat.zero_mul]; exact x.ws (fun r hr => wsA_lo (by omega)))
