/-! ===== fault, lay ===== -/
theorem layTold_n {F : Nat} (hF : 600 ≤ F) {tw : TW} {h : HP} {s : PSt} (hd : TDc tw.2) (x : XSt tw.2 h s) (p : POK s) :
    ∃ h', f_X6_layTold F tw h = some h' ∧ (∀ j, j < 66 → dv h' 14 j = if j = 0 then nI s.2.1 else if 2 ≤ j ∧ j < 34 ∧ j - 2 < s.2.2.2.2.2.2.1 then nI (s.2.2.2.2.2.2.2 (j - 2)) else nI 0) ∧ (∀ r, r < 32 → h' 28 r = nI 0) ∧ h' 0 9 = nI 0 ∧ h' 24 3 = nI 0 ∧ h' 26 3 = nI 0 ∧ (∀ j, j ≠ 3 → h' 24 j = h 24 j) ∧ (∀ j, j ≠ 3 → h' 26 j = h 26 j) ∧ (∀ j, j ≠ 9 → h' 0 j = h 0 j) ∧ ∀ z, z ≠ 0 → z ≠ 24 → z ≠ 26 → z ≠ 28 → (z < 14 ∨ 18 < z) → h' z = h z := by
  obtain ⟨B, N, R, T, M, ht, K, ws⟩ := s
  obtain ⟨x0, x4, x5, xb, x6, x7, xr⟩ := x
  obtain ⟨p0, p1, p2, p3, p4, p5, p6, p7⟩ := p
  dsimp only at x0 x4 x5 xb x6 x7 xr p0 p1 p2 p3 p4 p5 p6 p7 ⊢
  have hd' := hd
  unfold TDc at hd'
  obtain ⟨h1, a1, a2, _, a3⟩ := fill_n hF (r := 15) (nI 0) (by decide) h
  have hc7 : h1 tw.2 7 = nI K := by rw [a3 tw.2 (by omega)]; exact x7
  obtain ⟨h4, b1, b2, _, b3⟩ := fill_n hF (r := 16) (nI 0) (by decide) (cpy h1 (tw.2 + 4) (nI 0) 15 (nI 0) (nI K))
  obtain ⟨h6, c1, c2, _, c3⟩ := fill_n hF (r := 17) (nI 0) (by decide) h4
  obtain ⟨h8, d1, d2, _, d3⟩ := fill_n hF (r := 18) (nI 0) (by decide) h6
  have f8 : ∀ z, z < 14 ∨ 18 < z → h8 z = h z := fun z hz => by
    rw [d3 z (by omega), c3 z (by omega), b3 z (by omega), cpy_c (by omega), a3 z (by omega)]
  have f814 : h8 14 = h 14 := by rw [d3 14 (by decide), c3 14 (by decide), b3 14 (by decide), cpy_c (by decide), a3 14 (by decide)]
  have h84 : h8 tw.2 4 = nI N := by rw [f8 tw.2 (by omega)]; exact x4
  have eS : f_X0_startWith F 14 tw.2 h = some (up (up h8 14 4 (nI N)) 14 5 (nI 0)) := by
    unfold f_X0_startWith
    rw [a1, obv_eq, hc7, if_pos (cpb_t (by omega) (by omega) (by decide) (by decide)), b1, obv_eq, c1, obv_eq, d1, obv_eq, h84]
  obtain ⟨h10, e1, e2, _, e3⟩ := fill_n hF (r := 28) (nI 0) (by decide) (up (up h8 14 4 (nI N)) 14 5 (nI 0))
  refine ⟨up (up (up h10 0 9 (nI 0)) 24 3 (nI 0)) 26 3 (nI 0), ?_, ?_, ?_, ?_, ?_, ?_, ?_, ?_, ?_, ?_⟩
  · unfold f_X6_layTold f_X2_clear
    rw [eS, obv_eq, e1, obv_eq, obv_eq, obv_eq]
  · refine dv_of ?_ ?_ (fun r hr => ?_) (fun r hr => ?_) (fun r hr => ?_) (fun r hr => ?_)
    · rw [up_c (by decide), up_c (by decide), up_c (by decide), e3 14 (by decide), up_n (by decide), up_s, if_pos rfl]
    · rw [up_c (by decide), up_c (by decide), up_c (by decide), e3 14 (by decide), up_s, if_neg (by decide), if_neg (by omega)]
    · rw [up_c (by decide), up_c (by decide), up_c (by decide), e3 15 (by decide), up_c (by decide), up_c (by decide), d3 15 (by decide), c3 15 (by decide), b3 15 (by decide), cpA h1 (tw.2 + 4) 0 15 0 K r (by omega) (by omega) (by omega), if_neg (show ¬ 2 + r = 0 by omega), show 2 + r - 2 = r by omega]
      by_cases z : r < K
      · rw [if_pos (show 0 ≤ r ∧ r < 0 + K by omega), if_pos (show 2 ≤ 2 + r ∧ 2 + r < 34 ∧ r < K by omega), show 0 + (r - 0) = r by omega, a3 (tw.2 + 4) (by omega)]
        exact xr r z
      · rw [if_neg (show ¬ (0 ≤ r ∧ r < 0 + K) by omega), if_neg (show ¬ (2 ≤ 2 + r ∧ 2 + r < 34 ∧ r < K) by omega), a2 r (by rw [show ln 15 = 32 from rfl]; exact hr)]
    · rw [up_c (by decide), up_c (by decide), up_c (by decide), e3 16 (by decide), up_c (by decide), up_c (by decide), d3 16 (by decide), c3 16 (by decide), b2 r (by rw [show ln 16 = 16 from rfl]; exact hr), if_neg (by omega), if_neg (by omega)]
    · rw [up_c (by decide), up_c (by decide), up_c (by decide), e3 17 (by decide), up_c (by decide), up_c (by decide), d3 17 (by decide), c2 r (by rw [show ln 17 = 8 from rfl]; exact hr), if_neg (by omega), if_neg (by omega)]
    · rw [up_c (by decide), up_c (by decide), up_c (by decide), e3 18 (by decide), up_c (by decide), up_c (by decide), d2 r (by rw [show ln 18 = 8 from rfl]; exact hr), if_neg (by omega), if_neg (by omega)]
  · intro r hr
    rw [up_c (by decide), up_c (by decide), up_c (by decide)]
    exact e2 r (by rw [show ln 28 = 32 from rfl]; exact hr)
  · rw [up_c (by decide), up_c (by decide), up_s]
  · rw [up_c (by decide), up_s]
  · rw [up_s]
  · intro j hj
    rw [up_c (by decide), up_n hj, up_c (by decide), e3 24 (by decide), up_c (by decide), up_c (by decide), f8 24 (by decide)]
  · intro j hj
    rw [up_n hj, up_c (by decide), up_c (by decide), e3 26 (by decide), up_c (by decide), up_c (by decide), f8 26 (by decide)]
  · intro j hj
    rw [up_c (by decide), up_c (by decide), up_n hj, e3 0 (by decide), up_c (by decide), up_c (by decide), f8 0 (by decide)]
  · intro z z0 z24 z26 z28 zz
    rw [up_c z26, up_c z24, up_c z0, e3 z z28, up_c (by omega), up_c (by omega), f8 z zz]
theorem begins79 (F : Nat) {K : Nat} (hK : K ≤ 32) : ∀ (k i m : Nat) (g : HP), i + k = 32 → k < m → g 39 3 = nI K → ∃ g', f_X7_begins_79 F m (nI i) g = some g' ∧ (∀ r, i ≤ r → r < 32 → g' 43 (2 + r) = (if r < K then g 42 r else nI 0) ∧ g' 47 r = nI 0) ∧ (∀ j, j < 2 + i ∨ 34 ≤ j → g' 43 j = g 43 j) ∧ (∀ r, r < i → g' 47 r = g 47 r) ∧ g' 39 13 = nI 0 ∧ g' 39 6 = nI 0 ∧ g' 39 8 = nI 0 ∧ (∀ j, j ≠ 13 → j ≠ 6 → j ≠ 8 → g' 39 j = g 39 j) ∧ ∀ z, z ≠ 39 → z ≠ 43 → z ≠ 47 → g' z = g z := by
  intro k
  induction k with
  | zero =>
    intro i m g hi hm h3
    obtain ⟨m, rfl⟩ := succ_of hm
    refine ⟨_, by rw [f_X7_begins_79, if_pos (by rw [e_le (by decide) (by omega)]; omega)], fun r h1 h2 => by omega, fun j _ => by rw [up_c (by decide), up_c (by decide), up_c (by decide)], fun r _ => by rw [up_c (by decide), up_c (by decide), up_c (by decide)], by rw [up_n (by decide), up_n (by decide), up_s], by rw [up_n (by decide), up_s], up_s, fun j h1 h2 h3 => by rw [up_n h3, up_n h2, up_n h1], fun z h1 h2 h3 => by rw [up_c h1, up_c h1, up_c h1]⟩
  | succ k ih =>
    intro i m g hi hm h3
    obtain ⟨m, rfl⟩ := succ_of hm
    have e : f_X7_begins_79 F (m + 1) (nI i) g = f_X7_begins_79 F m (nI (i + 1)) (up (up g 43 (2 + i) (if i < K then g 42 i else nI 0)) 47 i (nI 0)) := by
      rw [f_X7_begins_79, if_neg (by rw [e_le (by decide) (by omega)]; omega), h3, e_add, if_pos (inb_t (by omega) (by decide)), if_pos (inb_t (by omega) (by decide)), if_pos (inb_t (by omega) (by decide)), if_pos (inb_t (by omega) (by decide)), e_ix (by omega), e_ix (by omega), e_add, i_le (by omega) (by omega)]
      by_cases z : i < K
      · rw [if_neg (by omega), if_pos z]
      · rw [if_pos (by omega), if_neg z]
    obtain ⟨g', a1, a2, a3, a4, a5, a6, a7, a8, a9⟩ := ih (i + 1) m (up (up g 43 (2 + i) (if i < K then g 42 i else nI 0)) 47 i (nI 0)) (by omega) (by omega) (by rw [up_c (by decide), up_c (by decide)]; exact h3)
    refine ⟨g', by rw [e]; exact a1, fun r h1 h2 => ?_, fun j hj => ?_, fun r hr => ?_, a5, a6, a7, fun j h1 h2 h3 => ?_, fun z h1 h2 h3 => ?_⟩
    · by_cases z : r = i
      · subst z
        exact ⟨by rw [a3 (2 + r) (by omega), up_c (by decide), up_s], by rw [a4 r (by omega), up_s]⟩
      · obtain ⟨b1, b2⟩ := a2 r (by omega) h2
        exact ⟨by rw [b1, up_c (by decide), up_c (by decide)], b2⟩
    · rw [a3 j (by omega), up_c (by decide), up_n (by omega)]
    · rw [a4 r (by omega), up_n (by omega), up_c (by decide)]
    · rw [a8 j h1 h2 h3, up_c (by decide), up_c (by decide)]
    · rw [a9 z h1 h2 h3, up_c h3, up_c h2]
theorem begins28 (F : Nat) : ∀ (k i m : Nat) (g : HP), i + k = 66 → k < m → ∃ g', f_X7_begins_28 F m (nI i) g = f_X7_begins_79 F F (nI 0) (up g' 43 0 (g 40 1)) ∧ (∀ j, i ≤ j → j < 66 → g' 43 j = if j < 34 then nI 0 else if 50 ≤ j then nI 0 else -1000) ∧ (∀ j, j < i → g' 43 j = g 43 j) ∧ ∀ z, z ≠ 43 → g' z = g z := by
  intro k
  induction k with
  | zero =>
    intro i m g hi hm
    obtain ⟨m, rfl⟩ := succ_of hm
    exact ⟨g, by rw [f_X7_begins_28, if_pos (by rw [e_le (by decide) (by omega)]; omega)], fun j h1 h2 => by omega, fun _ _ => rfl, fun _ _ => rfl⟩
  | succ k ih =>
    intro i m g hi hm
    obtain ⟨m, rfl⟩ := succ_of hm
    have e : f_X7_begins_28 F (m + 1) (nI i) g = f_X7_begins_28 F m (nI (i + 1)) (up g 43 i (if i < 34 then nI 0 else if 50 ≤ i then nI 0 else -1000)) := by
      rw [f_X7_begins_28, if_neg (by rw [e_le (by decide) (by omega)]; omega), if_pos (inb_t (by omega) (by decide)), e_ix (by omega), e_add, i_lt (by omega) (by decide), i_le (by decide) (by omega)]
    obtain ⟨g', a1, a2, a3, a4⟩ := ih (i + 1) m (up g 43 i (if i < 34 then nI 0 else if 50 ≤ i then nI 0 else -1000)) (by omega) (by omega)
    refine ⟨g', by rw [e, a1, up_c (show 40 ≠ 43 by decide)], fun j h1 h2 => ?_, fun j hj => by rw [a3 j (by omega), up_n (by omega)], fun z hz => by rw [a4 z hz, up_c hz]⟩
    by_cases z : j = i
    · subst z
      rw [a3 j (by omega), up_s]
    · exact a2 j (by omega) h2
theorem begins2 (F : Nat) : ∀ (k i m : Nat) (g : HP), i + k = 19 → k < m → ∃ g', f_X7_begins_2 F m (nI i) g = f_X7_begins_28 F F (nI 0) g' ∧ (∀ j, i ≤ j → j < 19 → g' 40 j = g 41 j) ∧ (∀ j, j < i → g' 40 j = g 40 j) ∧ ∀ z, z ≠ 40 → g' z = g z := by
  intro k
  induction k with
  | zero =>
    intro i m g hi hm
    obtain ⟨m, rfl⟩ := succ_of hm
    exact ⟨g, by rw [f_X7_begins_2, if_pos (by rw [e_le (by decide) (by omega)]; omega)], fun j h1 h2 => by omega, fun _ _ => rfl, fun _ _ => rfl⟩
  | succ k ih =>
    intro i m g hi hm
    obtain ⟨m, rfl⟩ := succ_of hm
    obtain ⟨g', a1, a2, a3, a4⟩ := ih (i + 1) m (up g 40 i (g 41 i)) (by omega) (by omega)
    refine ⟨g', by rw [f_X7_begins_2, if_neg (by rw [e_le (by decide) (by omega)]; omega), if_pos (inb_t (by omega) (by decide)), e_ix (by omega), e_add, a1], fun j h1 h2 => ?_, fun j hj => by rw [a3 j (by omega), up_n (by omega)], fun z hz => by rw [a4 z hz, up_c hz]⟩
    by_cases z : j = i
    · subst z
      rw [a3 j (by omega), up_s]
    · rw [a2 j (by omega) h2, up_c (by decide)]
theorem begins_n {F : Nat} (hF : 600 ≤ F) {K : Nat} {g : HP} (hK : K ≤ 32) (h3 : g 39 3 = nI K) : ∃ g', f_X7_begins F g = some g' ∧ (∀ j, j < 19 → g' 40 j = g 41 j) ∧ g' 43 0 = g 41 1 ∧ g' 43 1 = nI 0 ∧ (∀ r, r < 32 → g' 43 (2 + r) = (if r < K then g 42 r else nI 0) ∧ g' 47 r = nI 0) ∧ (∀ j, 34 ≤ j → j < 50 → g' 43 j = -1000) ∧ (∀ j, 50 ≤ j → j < 66 → g' 43 j = nI 0) ∧ g' 39 13 = nI 0 ∧ g' 39 6 = nI 0 ∧ g' 39 8 = nI 0 ∧ (∀ j, j ≠ 13 → j ≠ 6 → j ≠ 8 → g' 39 j = g 39 j) ∧ ∀ z, z ≠ 39 → z ≠ 40 → z ≠ 43 → z ≠ 47 → g' z = g z := by
  obtain ⟨g1, a1, a2, _, a4⟩ := begins2 F 19 0 F g (by omega) (by omega)
  obtain ⟨g2, b1, b2, _, b4⟩ := begins28 F 66 0 F g1 (by omega) (by omega)
  obtain ⟨g3, c1, c2, c3, _, c5, c6, c7, c8, c9⟩ := begins79 F hK 32 0 F (up g2 43 0 (g1 40 1)) (by omega) (by omega) (by rw [up_c (by decide), b4 39 (by decide), a4 39 (by decide)]; exact h3)
  refine ⟨g3, by unfold f_X7_begins; rw [a1, b1, c1], fun j hj => ?_, ?_, ?_, fun r hr => ?_, fun j h1 h2 => ?_, fun j h1 h2 => ?_, c5, c6, c7, fun j h1 h2 h3 => ?_, fun z h1 h2 h3 h4 => ?_⟩
  · rw [c9 40 (by decide) (by decide) (by decide), up_c (by decide), b4 40 (by decide), a2 j (Nat.zero_le _) hj]
  · rw [c3 0 (by omega), up_s, a2 1 (by decide) (by decide)]
  · rw [c3 1 (by omega), up_n (by decide), b2 1 (by decide) (by decide), if_pos (by decide)]
  · obtain ⟨k1, k2⟩ := c2 r (Nat.zero_le _) hr
    exact ⟨by rw [k1, up_c (by decide), b4 42 (by decide), a4 42 (by decide)], k2⟩
  · rw [c3 j (by omega), up_n (by omega), b2 j (Nat.zero_le _) (by omega), if_neg (by omega), if_neg (by omega)]
  · rw [c3 j (by omega), up_n (by omega), b2 j (Nat.zero_le _) (by omega), if_neg (by omega), if_pos h1]
  · rw [c8 j h1 h2 h3, up_c (by decide), b4 39 (by decide), a4 39 (by decide)]
  · rw [c9 z h1 h3 h4, up_c h3, b4 z h3, a4 z h2]
theorem ess_read {tw : TW} {h h1 h2 : HP} (hK : TWK tw) (fx : FXt tw.2 h h1) (fm : FMt h1 h2) : Ess tw h h2 := by
  have hk : tw.1 = 4 ∧ tw.2 = 9 ∨ tw.1 = 9 ∧ tw.2 = 4 := by rcases hK with rfl | rfl; exact Or.inl ⟨rfl, rfl⟩; exact Or.inr ⟨rfl, rfl⟩
  have key : ∀ z, z ≠ 1 → z ≠ 3 → (z < tw.2 ∨ tw.2 + 4 < z) → z ≠ 39 → z ≠ 41 → z ≠ 42 → z ≠ 49 → z ≠ 50 → h2 z = h z := fun z a b c d e f g i => by rw [fm.1 z d e f g i, fx.1 z a b c]
  refine ⟨fun k hk2 => ?_, fun j hj => ?_, ?_, ?_, ?_, ?_, ?_, ?_⟩
  · have : k = 2 ∨ 14 ≤ k ∧ k ≤ 18 ∨ 24 ≤ k ∧ k ≤ 29 ∨ k = 40 ∨ 43 ≤ k ∧ k ≤ 48 := by
      revert k; decide
    exact key k (by omega) (by omega) (by omega) (by omega) (by omega) (by omega) (by omega) (by omega)
  · exact key _ (by omega) (by omega) (by omega) (by omega) (by omega) (by omega) (by omega) (by omega)
  · rw [key 0 (by omega) (by omega) (by omega) (by omega) (by omega) (by omega) (by omega) (by omega)]
  · rw [fm.1 1 (by decide) (by decide) (by decide) (by decide) (by decide), fx.2 1 (by decide)]
  · rw [fm.2 6 (by decide) (by decide) (by decide), fx.1 39 (by decide) (by decide) (by omega)]
  · rw [fm.2 8 (by decide) (by decide) (by decide), fx.1 39 (by decide) (by decide) (by omega)]
  · rw [fm.2 10 (by decide) (by decide) (by decide), fx.1 39 (by decide) (by decide) (by omega)]
  · rw [fm.2 13 (by decide) (by decide) (by decide), fx.1 39 (by decide) (by decide) (by omega)]
theorem TX.both {h : HP} (x : TX h) : ∃ n t, TXX n t h ∧ TXM n t h := by
  obtain ⟨n, hn, h1, h2, h3⟩ := x
  have key : ∀ j, j < n → h 46 j = nI (ix (h 46 j)) ∧ 32 ≤ ix (h 46 j) ∧ ix (h 46 j) ≤ 126 := fun j hj => by
    obtain ⟨c, c1, c2, e⟩ := (h3 j hj).2
    rw [e, e_ix (by omega)]
    exact ⟨rfl, c1, c2⟩
  exact ⟨n, fun j => ix (h 46 j), ⟨hn, h1, fun j hj => ⟨by rw [(h3 j hj).1]; exact (key j hj).1, (key j hj).2⟩⟩, ⟨hn, h2, key⟩⟩
theorem INV.tx {c : Nat} {tw : TW} {h : HP} (i : INV c tw h) : TX h := by
  obtain ⟨_, B, N, R, T, M, _, _, _, _, _, _, _, _, _, h10⟩ := i
  exact h10
theorem TXM.fx {n d : Nat} {t : Nat → Nat} {h h' : HP} (hd : TDc d) (y : TXM n t h) (p : FXt d h h') : TXM n t h' := by
  unfold TDc at hd
  unfold TXM
  rw [p.1 39 (by decide) (by decide) (by omega), p.1 46 (by decide) (by decide) (by omega)]
  exact y
theorem op_fault {F c : Nat} (hF : 600 ≤ F) {tw : TW} {h : HP} (i : INV c tw h) : Step (f_X6_fault F tw) (f_X7_fault F) c tw h := by
  have hK := i.1
  have hd : TDc tw.2 := by rcases hK with e | e; rw [e]; exact Or.inr rfl; rw [e]; exact Or.inl rfl
  obtain ⟨n, t, x, y⟩ := i.tx.both
  have fin : ∀ r h1 h2, f_X4_readInto F tw.2 h = some (r, h1) → f_X7_fault F h1 = some (r, h2) → FXt tw.2 h h1 → FMt h1 h2 → Step (f_X6_fault F tw) (f_X7_fault F) c tw h := fun r h1 h2 e1 e2 fx fm =>
    ⟨r, h1, h2, by unfold f_X6_fault; rw [e1, ob_eq], e2, (i.ess (ess_read hK fx fm)).mono (by omega)⟩
  rcases read_sim hF hd x y with ⟨h1, _, _, e1, _, _, _, _, fx, _⟩ | ⟨r, h1, _, hr, e1, _, fx, _⟩
  · rcases read_sim hF hd x (y.fx hd fx) with ⟨h1', h2, _, e1', e2, _, _, _, _, fm⟩ | ⟨r, h1', h2, hr, e1', e2, _, fm⟩
    · exact fin _ h1 h2 e1 e2 fx fm
    · rw [e1] at e1'
      exact absurd (congrArg Prod.fst (Option.some.inj e1')).symm (m4_ne (by omega))
  · rcases read_sim hF hd x (y.fx hd fx) with ⟨h1', h2, _, e1', e2, _, _, _, _, fm⟩ | ⟨r', h1', h2, hr', e1', e2, _, fm⟩
    · rw [e1] at e1'
      exact absurd (congrArg Prod.fst (Option.some.inj e1')) (m4_ne (by omega))
    · rw [e1] at e1'
      have er : nI r = nI r' := congrArg Prod.fst (Option.some.inj e1')
      exact fin _ h1 h2 e1 (by rw [er]; exact e2) fx fm
