/-! ===== the text: all items ===== -/
def TOk (n : Nat) (t : Nat → Nat) (cx cm : Option (Int32 × HP)) (d q : Nat) (h g : HP) : Prop := ∃ h' g' q' s', cx = some (nI 1, h') ∧ cm = some (nI 1, g') ∧ XSt d h' s' ∧ MSt g' s' ∧ POK s' ∧ h' 1 2 = nI q' ∧ chr n t q' = 59 ∧ g' 39 14 = nI (q' + 1) ∧ q ≤ q' ∧ FXt d h h' ∧ FMt g g'
theorem tune_loop {F : Nat} (hF : 600 ≤ F) {n : Nat} {t : Nat → Nat} {d : Nat} (hd : TDc d) :
    ∀ (k q o i m m2 : Nat) (h g : HP) (s : PSt), n ≤ q + k → k < m → k < m2 → i + 1 ≤ q → TXX n t h → TXM n t g → TI n d q o h g s →
      TOk n t (f_X4_readTune_18 F d m (nI o) (nI i) h) (f_X7_takesTune_16 F m2 (nI o) g) d q h g ∨ TNo (f_X4_readTune_18 F d m (nI o) (nI i) h) (f_X7_takesTune_16 F m2 (nI o) g) d h g := by
  intro k
  induction k with
  | zero =>
    intro q o i m m2 h g s hk hm hm2 hi x y p
    obtain ⟨m, rfl⟩ := succ_of hm
    obtain ⟨m2, rfl⟩ := succ_of hm2
    have hn := x.1
    have hqn := p.2.2.2.2.2.1
    have hc : chr n t q = 0 := by unfold chr; rw [if_neg (by omega)]
    rcases tune_step hF (m := m) (m2 := m2) hd x y p (show i < 200 by omega) (by omega) with ⟨h1, g1, o1, q1, s1, a1, a2, a3, a4, a5, a6⟩ | a
    · have := a3.2.2.2.2.2.1
      omega
    · exact Or.inr a
  | succ k ih =>
    intro q o i m m2 h g s hk hm hm2 hi x y p
    obtain ⟨m, rfl⟩ := succ_of hm
    obtain ⟨m2, rfl⟩ := succ_of hm2
    have hn := x.1
    have hqn := p.2.2.2.2.2.1
    by_cases hc : chr n t q = 59
    · obtain ⟨p1, p2, p3, hq, gq, p6, p7, p8⟩ := p
      have hK := p3.2.2.2.2.2.2.1
      have hd7 : h d 7 = nI s.2.2.2.2.2.2.1 := p1.2.2.2.2.2.1
      have g3 : g 39 3 = nI s.2.2.2.2.2.2.1 := p2.2.2.2.2.2.1
      have pm := PFm.up g (nI (q + 1))
      have ex : f_X4_readTune_18 F d (m + 1) (nI o) (nI i) h = if o = 0 then (if s.2.2.2.2.2.2.1 ≤ 0 then some (nI 0, h) else some (nI 1, h)) else some (nI 0, h) := by
        rw [f_X4_readTune_18, if_neg (by rw [e_le (by decide) (by omega)]; omega), peek_n F x hq (by omega), hc, ob_eq, if_pos rfl]
        unfold f_X4_readTune_149
        rw [hd7, i_eq (by omega) (by decide), i_le (by omega) (by decide)]
      have em : f_X7_takesTune_16 F (m2 + 1) (nI o) g = if o = 0 then (if s.2.2.2.2.2.2.1 ≤ 0 then some (nI 0, up g 39 14 (nI (q + 1))) else some (nI 1, up g 39 14 (nI (q + 1)))) else some (nI 0, up g 39 14 (nI (q + 1))) := by
        rw [f_X7_takesTune_16, here_n F y gq (by omega), hIr_c hc (by decide), ob_eq, if_pos rfl, gq, e_add, up_n (show 3 ≠ 14 by decide), g3, i_eq (by omega) (by decide), i_le (by omega) (by decide)]
      rw [ex, em]
      by_cases z : o = 0
      · rw [if_pos z, if_pos z]
        by_cases z2 : s.2.2.2.2.2.2.1 ≤ 0
        · rw [if_pos z2, if_pos z2]
          exact Or.inr ⟨_, _, rfl, rfl, FXt.refl _ _, pm.f⟩
        · rw [if_neg z2, if_neg z2]
          exact Or.inl ⟨h, _, q, s, rfl, rfl, p1, p2.pf pm, p3, hq, hc, up_s, Nat.le_refl _, FXt.refl _ _, pm.f⟩
      · rw [if_neg z, if_neg z]
        exact Or.inr ⟨_, _, rfl, rfl, FXt.refl _ _, pm.f⟩
    · rcases tune_step hF (m := m) (m2 := m2) hd x y p (show i < 200 by omega) hc with ⟨h1, g1, o1, q1, s1, a1, a2, a3, a4, a5, a6⟩ | a
      · rw [a1, a2]
        rcases ih q1 o1 (i + 1) m m2 h1 g1 s1 (by omega) (by omega) (by omega) (by omega) (x.f hd a5) (y.f a6) a3 with ⟨h', g', q', s', b1, b2, b3, b4, b5, b6, b7, b8, b9, b10, b11⟩ | ⟨h', g', b1, b2, b3, b4⟩
        · exact Or.inl ⟨h', g', q', s', b1, b2, b3, b4, b5, b6, b7, b8, by omega, a5.trans b10, a6.trans b11⟩
        · exact Or.inr ⟨h', g', b1, b2, a5.trans b3, a6.trans b4⟩
      · exact Or.inr a
theorem item_t {F : Nat} (hF : 600 ≤ F) {n : Nat} {t : Nat → Nat} {d q : Nat} {h g : HP} {s : PSt} (hd : TDc d) (x : TXX n t h) (y : TXM n t g) (xs : XSt d h s) (ms : MSt g s) (hP : POK s) (hq : h 1 2 = nI q) (gq : g 39 14 = nI q) (hc : chr n t q = 116) : ItOk F n t d q h g ∨ ItNo F d h g := by
  have hqn : q < n := chr_pos hc (by decide)
  have hn := x.1
  have px := PFx.up h (nI (q + 1))
  have pm := PFm.up g (nI (q + 1))
  have hd' := hd
  unfold TDc at hd'
  have eX : f_X4_readItem F d h = ob (f_X4_readTune F d (up h 1 2 (nI (q + 1)))) (fun v7 h5 => if v7 = nI 0 ∨ v7 = nI 1 then some (v7, h5) else none) := by
    unfold f_X4_readItem
    rw [peek_n F x hq (by omega), hc, ob_eq, if_neg (by decide), if_neg (by decide), if_neg (by decide), if_pos rfl, hq, e_add]
  have eM : f_X7_takesItem F g = ob (f_X7_takesTune F (up g 39 14 (nI (q + 1)))) (fun v7 h5 => if v7 = nI 0 ∨ v7 = nI 1 then some (v7, h5) else none) := by
    unfold f_X7_takesItem
    rw [here_n F y gq (by omega), hIr_c hc (by decide), ob_eq, if_neg (by decide), if_neg (by decide), if_neg (by decide), if_pos rfl, gq, e_add]
  obtain ⟨B, N, R, T, M, ht, K, ws⟩ := s
  have p5 : ht ≤ 1 := hP.2.2.2.2.2.1
  have xs1 := xs.pf hd px
  have ms1 := ms.pf pm
  have x6 : (up h 1 2 (nI (q + 1))) d 6 = nI ht := xs1.2.2.2.2.1
  have m6 : (up g 39 14 (nI (q + 1))) 39 15 = nI ht := ms1.2.2.2.2.1
  unfold f_X4_readTune at eX
  unfold f_X7_takesTune at eM
  rw [x6, i_eq (by omega) (by decide)] at eX
  rw [m6, i_eq (by omega) (by decide)] at eM
  by_cases z : ht = 0
  · rw [if_pos z] at eX eM
    have fx : FXt d h (up (up h 1 2 (nI (q + 1))) d 6 (nI 1)) := (px.f d).trans (FXt.low hd (fun z hz => up_c (by omega)))
    have fm : FMt g (up (up g 39 14 (nI (q + 1))) 39 15 (nI 1)) := pm.f.trans ⟨fun z h1 _ _ _ _ => up_c h1, fun j _ _ h3 => up_n h3⟩
    have xs2 : XSt d (up (up h 1 2 (nI (q + 1))) d 6 (nI 1)) (B, N, R, T, M, 1, K, ws) := by
      obtain ⟨x0, x4, x5, xb, _, x7, xr⟩ := xs1
      dsimp only at x0 x4 x5 xb x7 xr
      exact ⟨by rw [up_n (by decide)]; exact x0, by rw [up_n (by decide)]; exact x4, by rw [up_n (by decide)]; exact x5, fun b hb => by rw [up_c (show d + 1 ≠ d by omega), up_c (show d + 2 ≠ d by omega), up_c (show d + 3 ≠ d by omega)]; exact xb b hb, up_s, by rw [up_n (by decide)]; exact x7, by rw [up_c (by omega)]; exact xr⟩
    have ms2 : MSt (up (up g 39 14 (nI (q + 1))) 39 15 (nI 1)) (B, N, R, T, M, 1, K, ws) := by
      obtain ⟨x0, x4, x5, xb, _, x7, xr⟩ := ms1
      dsimp only at x0 x4 x5 xb x7 xr
      exact ⟨by rw [up_c (by decide)]; exact x0, by rw [up_c (by decide)]; exact x4, by rw [up_c (by decide)]; exact x5, fun b hb => by rw [up_c (by decide)]; exact xb b hb, up_s, by rw [up_n (by decide)]; exact x7, by rw [up_c (by decide)]; exact xr⟩
    have hP2 : POK (B, N, R, T, M, 1, K, ws) := by
      obtain ⟨p0, p1, p2, p3, p4, _, p6, p7⟩ := hP
      exact ⟨p0, p1, p2, p3, p4, Nat.le_refl 1, p6, p7⟩
    rcases tune_loop hF hd (n - (q + 1)) (q + 1) 0 0 F F _ _ _ (by omega) (by omega) (by omega) (by omega) (x.f hd fx) (y.f fm) ⟨xs2, ms2, hP2, by rw [up_c (by omega), up_s], by rw [up_n (by decide), up_s], by omega, by omega, fun j hj => absurd hj (Nat.not_lt_zero _)⟩ with ⟨h', g', q', s', b1, b2, b3, b4, b5, b6, b7, b8, b9, b10, b11⟩ | ⟨h', g', b1, b2, b3, b4⟩
    · have hlt := chr_pos b7 (by decide)
      rw [b1, ob_eq, if_pos (Or.inr rfl)] at eX
      rw [b2, ob_eq, if_pos (Or.inr rfl)] at eM
      have fx' := fx.trans b10
      exact Or.inl ⟨_, g', q' + 1, s', end_ok n1n0 eX (x.f hd fx') b6 (by omega) b7, eM, b3.pf hd (PFx.up _ _), b4, b5, up_s, b8, by omega, by omega, fx'.trans ((PFx.up _ _).f d), fm.trans b11⟩
    · rw [b1, ob_eq, if_pos (Or.inl rfl)] at eX
      rw [b2, ob_eq, if_pos (Or.inl rfl)] at eM
      exact Or.inr ⟨h', g', end_0 eX, eM, fx.trans b3, fm.trans b4⟩
  · rw [if_neg z, ob_eq, if_pos (Or.inl rfl)] at eX eM
    exact Or.inr ⟨_, _, end_0 eX, eM, px.f d, pm.f⟩
theorem item_any {F : Nat} (hF : 600 ≤ F) {n : Nat} {t : Nat → Nat} {d q : Nat} {h g : HP} {s : PSt} (hd : TDc d) (x : TXX n t h) (y : TXM n t g) (xs : XSt d h s) (ms : MSt g s) (hP : POK s) (hq : h 1 2 = nI q) (gq : g 39 14 = nI q) (hqn : q < n) : ItOk F n t d q h g ∨ ItNo F d h g := by
  have hn := x.1
  have hcl := chr_le x q
  by_cases c1 : chr n t q = 98
  · exact item_b hF hd x y xs ms hP hq gq c1
  by_cases c2 : chr n t q = 110
  · exact item_n hF hd x y xs ms hP hq gq c2
  by_cases c3 : chr n t q = 114
  · exact item_r hF hd x y xs ms hP hq gq c3
  by_cases c4 : chr n t q = 116
  · exact item_t hF hd x y xs ms hP hq gq c4
  have eX : f_X4_readItem F d h = some (nI 0, up h 1 2 (nI (q + 1))) := by
    unfold f_X4_readItem
    rw [peek_n F x hq (by omega), ob_eq, i_eq (by omega) (by decide), i_eq (by omega) (by decide), i_eq (by omega) (by decide), i_eq (by omega) (by decide), if_neg c1, if_neg c2, if_neg c3, if_neg c4, hq, e_add]
  have eM : f_X7_takesItem F g = some (nI 0, up g 39 14 (nI (q + 1))) := by
    unfold f_X7_takesItem
    rw [here_n F y gq (by omega), ob_eq, hIr_eq y.tb (by decide) (by decide), hIr_eq y.tb (by decide) (by decide), hIr_eq y.tb (by decide) (by decide), hIr_eq y.tb (by decide) (by decide), if_neg c1, if_neg c2, if_neg c3, if_neg c4, gq, e_add]
  exact Or.inr ⟨_, _, end_0 eX, eM, (PFx.up _ _).f d, (PFm.up _ _).f⟩
def RdOk (cx cm : Option (Int32 × HP)) (d : Nat) (h g : HP) : Prop := ∃ h' g' s', cx = some (-4, h') ∧ cm = some (-4, g') ∧ XSt d h' s' ∧ MSt g' s' ∧ POK s' ∧ FXt d h h' ∧ FMt g g'
def RdNo (cx cm : Option (Int32 × HP)) (d : Nat) (h g : HP) : Prop := ∃ r h' g', r < 200 ∧ cx = some (nI r, h') ∧ cm = some (nI r, g') ∧ FXt d h h' ∧ FMt g g'
theorem read_loop {F : Nat} (hF : 600 ≤ F) {n : Nat} {t : Nat → Nat} {d : Nat} (hd : TDc d) :
    ∀ (k q i m m2 : Nat) (h g : HP) (s : PSt), n ≤ q + k → k < m → k < m2 → i ≤ q → q ≤ n → TXX n t h → TXM n t g → XSt d h s → MSt g s → POK s → h 1 2 = nI q → g 39 14 = nI q →
      RdOk (f_X4_readInto_11 F d m (nI i) h) (f_X7_fault_9 F m2 g) d h g ∨ RdNo (f_X4_readInto_11 F d m (nI i) h) (f_X7_fault_9 F m2 g) d h g := by
  intro k
  induction k with
  | zero =>
    intro q i m m2 h g s hk hm hm2 hi hqn x y xs ms hP hq gq
    obtain ⟨m, rfl⟩ := succ_of hm
    obtain ⟨m2, rfl⟩ := succ_of hm2
    have hn := x.1
    have e1 : f_X4_readInto_11 F d (m + 1) (nI i) h = some (-4, h) := by
      rw [f_X4_readInto_11, x.2.1, hq, if_pos (show nI n ≤ nI q by rw [e_le (by omega) (by omega)]; omega)]
      split <;> rfl
    have e2 : f_X7_fault_9 F (m2 + 1) g = some (-4, g) := by
      rw [f_X7_fault_9, y.2.1, gq, if_pos (show nI n ≤ nI q by rw [e_le (by omega) (by omega)]; omega)]
    exact Or.inl ⟨h, g, s, e1, e2, xs, ms, hP, FXt.refl _ _, FMt.refl _⟩
  | succ k ih =>
    intro q i m m2 h g s hk hm hm2 hi hqn x y xs ms hP hq gq
    obtain ⟨m, rfl⟩ := succ_of hm
    obtain ⟨m2, rfl⟩ := succ_of hm2
    have hn := x.1
    by_cases z : q < n
    · have e1 : f_X4_readInto_11 F d (m + 1) (nI i) h = cIt F d h (fun h9 => f_X4_readInto_11 F d m (nI (i + 1)) h9) := by
        rw [f_X4_readInto_11, x.2.1, if_neg (show ¬ nI 200 ≤ nI i by rw [e_le (by omega) (by omega)]; omega), hq, if_neg (show ¬ nI n ≤ nI q by rw [e_le (by omega) (by omega)]; omega), e_add]
        unfold cIt
        rw [hq]
      have e2 : f_X7_fault_9 F (m2 + 1) g = ob (f_X7_takesItem F g) (fun v6 h4 => if v6 = nI 0 then some (nI q, h4) else f_X7_fault_9 F m2 h4) := by
        rw [f_X7_fault_9, y.2.1, gq, if_neg (show ¬ nI n ≤ nI q by rw [e_le (by omega) (by omega)]; omega)]
      rw [e1, e2]
      rcases item_any hF hd x y xs ms hP hq gq z with ⟨h', g', q', s', a1, a2, a3, a4, a5, a6, a7, a8, a9, a10, a11⟩ | ⟨h', g', a1, a2, a3, a4⟩
      · rw [a1, a2, ob_eq, if_neg n1n0]
        rcases ih q' (i + 1) m m2 h' g' s' (by omega) (by omega) (by omega) (by omega) a9 (x.f hd a10) (y.f a11) a3 a4 a5 a6 a7 with ⟨h2, g2, s2, b1, b2, b3, b4, b5, b6, b7⟩ | ⟨r, h2, g2, b0, b1, b2, b3, b4⟩
        · exact Or.inl ⟨h2, g2, s2, b1, b2, b3, b4, b5, a10.trans b6, a11.trans b7⟩
        · exact Or.inr ⟨r, h2, g2, b0, b1, b2, a10.trans b3, a11.trans b4⟩
      · rw [a1, a2, ob_eq, if_pos rfl, hq]
        exact Or.inr ⟨q, h', g', by omega, rfl, rfl, a3, a4⟩
    · exact ih q i (m + 1) (m2 + 1) h g s (by omega) (by omega) (by omega) hi hqn x y xs ms hP hq gq
theorem clean_loop (F : Nat) : ∀ (k i m : Nat) (g : HP), i + k = 19 → k < m → ∃ g', f_X7_clean_2 F m (nI i) g = some g' ∧ g' 41 1 = nI 16 ∧ g' 41 2 = nI 1 ∧ g' 39 3 = nI 0 ∧ g' 39 15 = nI 0 ∧ (0 < i → g' 41 0 = g 41 0) ∧ (i = 0 → g' 41 0 = nI 0) ∧ FMt g g' := by
  intro k
  induction k with
  | zero =>
    intro i m g hi hm
    obtain ⟨m, rfl⟩ := succ_of hm
    refine ⟨_, by rw [f_X7_clean_2, if_pos (by rw [e_le (by decide) (by omega)]; omega)], ?_, ?_, ?_, ?_, fun _ => ?_, fun _ => by omega, ?_⟩
    · rw [up_c (by decide), up_c (by decide), up_n (by decide), up_s]
    · rw [up_c (by decide), up_c (by decide), up_s]
    · rw [up_n (by decide), up_s]
    · rw [up_s]
    · rw [up_c (by decide), up_c (by decide), up_n (by decide), up_n (by decide)]
    · exact ⟨fun z h1 h2 _ _ _ => by rw [up_c h1, up_c h1, up_c h2, up_c h2], fun j h1 _ h3 => by rw [up_n h3, up_n h1, up_c (by decide), up_c (by decide)]⟩
  | succ k ih =>
    intro i m g hi hm
    obtain ⟨m, rfl⟩ := succ_of hm
    obtain ⟨g', a1, a2, a3, a4, a5, a6, a7, a8⟩ := ih (i + 1) m (up g 41 i (nI 0)) (by omega) (by omega)
    refine ⟨g', by rw [f_X7_clean_2, if_neg (by rw [e_le (by decide) (by omega)]; omega), if_pos (inb_t (by omega) (by decide)), e_ix (by omega), e_add, a1], a2, a3, a4, a5, fun h0 => ?_, fun h0 => ?_, ?_⟩
    · rw [a6 (by omega), up_n (by omega)]
    · rw [a6 (by omega), h0, up_s]
    · exact FMt.trans ⟨fun z _ h2 _ _ _ => up_c h2, fun j _ _ _ => by rw [up_c (by decide)]⟩ a8
theorem read_sim {F : Nat} (hF : 600 ≤ F) {n : Nat} {t : Nat → Nat} {d : Nat} {h g : HP} (hd : TDc d) (x : TXX n t h) (y : TXM n t g) :
    RdOk (f_X4_readInto F d h) (f_X7_fault F g) d h g ∨ RdNo (f_X4_readInto F d h) (f_X7_fault F g) d h g := by
  have hn := x.1
  have hd' := hd
  unfold TDc at hd'
  obtain ⟨g1, a1, a2, a3, a4, a5, _, a7, a8⟩ := clean_loop F 19 0 F g (by omega) (by omega)
  unfold f_X4_readInto f_X5_clear f_X7_fault f_X7_clean
  rw [obv_eq, a1, obv_eq]
  have pm := PFm.up g1 (nI 0)
  have fm := a8.trans pm.f
  have fx : FXt d h (up (up (up (up (up (up h d 0 (nI 0)) d 4 (nI 16)) d 5 (nI 1)) d 6 (nI 0)) d 7 (nI 0)) 1 2 (nI 0)) := ⟨fun z h1 _ h3 => by rw [up_c h1, up_c (by omega), up_c (by omega), up_c (by omega), up_c (by omega), up_c (by omega)], fun j hj => by rw [up_n hj, up_c (by omega), up_c (by omega), up_c (by omega), up_c (by omega), up_c (by omega)]⟩
  have hx : XSt d (up (up (up (up (up (up h d 0 (nI 0)) d 4 (nI 16)) d 5 (nI 1)) d 6 (nI 0)) d 7 (nI 0)) 1 2 (nI 0)) (0, 16, 1, fun _ => 0, fun _ => 0, 0, 0, fun _ => 0) := by
    refine ⟨?_, ?_, ?_, fun b hb => absurd hb (Nat.not_lt_zero _), ?_, ?_, fun b hb => absurd hb (Nat.not_lt_zero _)⟩
    · rw [up_c (by omega), up_n (by decide), up_n (by decide), up_n (by decide), up_n (by decide), up_s]
    · rw [up_c (by omega), up_n (by decide), up_n (by decide), up_n (by decide), up_s]
    · rw [up_c (by omega), up_n (by decide), up_n (by decide), up_s]
    · rw [up_c (by omega), up_n (by decide), up_s]
    · rw [up_c (by omega), up_s]
  have hm : MSt (up g1 39 14 (nI 0)) (0, 16, 1, fun _ => 0, fun _ => 0, 0, 0, fun _ => 0) := by
    refine MSt.pf ?_ pm
    exact ⟨a7 rfl, a2, a3, fun b hb => absurd hb (Nat.not_lt_zero _), a5, a4, fun b hb => absurd hb (Nat.not_lt_zero _)⟩
  have hP : POK (0, 16, 1, fun _ => 0, fun _ => 0, 0, 0, fun _ => 0) := ⟨by decide, by decide, by decide, by decide, fun b hb => absurd hb (Nat.not_lt_zero _), by decide, by decide, fun b hb => absurd hb (Nat.not_lt_zero _)⟩
  rcases read_loop hF hd n 0 0 F F _ _ _ (by omega) (by omega) (by omega) (Nat.le_refl _) (Nat.zero_le _) (x.f hd fx) (y.f fm) hx hm hP up_s up_s with ⟨h2, g2, s2, b1, b2, b3, b4, b5, b6, b7⟩ | ⟨r, h2, g2, b0, b1, b2, b3, b4⟩
  · exact Or.inl ⟨h2, g2, s2, b1, b2, b3, b4, b5, fx.trans b6, fm.trans b7⟩
  · exact Or.inr ⟨r, h2, g2, b0, b1, b2, fx.trans b3, fm.trans b4⟩
