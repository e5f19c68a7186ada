/-! ===== shift, undo, keep, back ===== -/
theorem mod_inj {N k r s : Nat} (hr : r < N) (hs : s < N) (hk : k < N) (e : (r + k) % N = (s + k) % N) : r = s := by
  rw [← mod_back hr hk, ← mod_back hs hk, e]
theorem X6_shift_loop {F : Nat} {tw : TW} {N k : Nat} {p : Nat → Nat} (ht : tw.1 ≠ 15 ∧ tw.1 ≠ 20) (h0 : 0 < N) (hb : N ≤ 32) (hk : k < N) :
    ∀ (j i n : Nat) (h : HP), i + j = N → j < n → h tw.1 4 = nI N → (∀ r, r < 32 → h 15 r = nI (p r)) → (∀ r, r < i → h 20 ((r + k) % N) = nI (p r)) →
      ∃ h', f_X6_shift_23 F tw (nI k) n (nI i) h = some (h' 15 0, h') ∧ (∀ r, r < N → h' 15 r = nI (p ((r + N - k) % N))) ∧ (∀ r, N ≤ r → h' 15 r = h 15 r) ∧ ∀ z, z ≠ 15 → z ≠ 20 → h' z = h z := by
  intro j
  induction j with
  | zero =>
    intro i n h hi hn hN hp hq
    obtain ⟨n, rfl⟩ := succ_of hn
    obtain rfl : i = N := by omega
    refine ⟨cpy h 20 (nI 0) 15 (nI 0) (nI i), ?_, fun r hr => ?_, fun r hr => ?_, fun z z1 _ => cpy_c z1⟩
    · rw [f_X6_shift_23, hN, if_pos (Int32.le_refl (nI i)), if_pos (cpb_t (by omega) (by omega) (by decide) (by decide))]
    · have hlt : (r + i - k) % i < i := Nat.mod_lt _ h0
      have := hq ((r + i - k) % i) hlt
      rw [mod_forth hr hk] at this
      rw [cpA _ _ _ _ _ _ _ (by decide) (by decide) (by omega), if_pos (by omega), Nat.zero_add, Nat.sub_zero, this]
    · rw [cpA _ _ _ _ _ _ _ (by decide) (by decide) (by omega), if_neg (by omega)]
  | succ j ih =>
    intro i n h hi hn hN hp hq
    obtain ⟨n, rfl⟩ := succ_of hn
    have hlt : (i + k) % N < N := Nat.mod_lt _ h0
    obtain ⟨h', e1, e2, e3, e4⟩ := ih (i + 1) n (up h 20 ((i + k) % N) (nI (p i))) (by omega) (by omega) (by rw [up_c ht.2]; exact hN) (fun r hr => by rw [up_c (by decide)]; exact hp r hr) (fun r hr => by
      by_cases z : r = i
      · rw [z]; exact up_s
      · rw [up_n (fun e => z (mod_inj (by omega) (by omega) hk e))]; exact hq r (by omega))
    refine ⟨h', ?_, e2, fun r hr => by rw [e3 r hr, up_c (by decide)], fun z z1 z2 => by rw [e4 z z1 z2, up_c z2]⟩
    rw [f_X6_shift_23, hN, if_neg (by rw [e_le (by omega) (by omega)]; omega), rowBehind_n F hN h0 (by omega) (by omega), ob_eq, if_pos (inb_t (by omega) (by decide)), if_pos (inb_t (by omega) (by decide)), e_ix (by omega), e_ix (by omega), hp i (by omega), e_add, e1]
theorem X7_shift_in {F : Nat} {x1 : Int32} {N : Nat} (hb : N ≤ 32) :
    ∀ (j i n : Nat) (h : HP), i + j = N → j < n → h 40 1 = nI N → ∃ h', f_X7_shift_46 F x1 n (nI i) h = some (h' 43 2, h') ∧ (∀ r, h' 43 r = if 2 + i ≤ r ∧ r < 2 + N then h 51 (r - 2) else h 43 r) ∧ ∀ z, z ≠ 43 → h' z = h z := by
  intro j
  induction j with
  | zero =>
    intro i n h hi hn hN
    obtain ⟨n, rfl⟩ := succ_of hn
    refine ⟨h, ?_, fun r => by rw [if_neg (by omega)], fun _ _ => rfl⟩
    rw [f_X7_shift_46, hN, if_pos (by rw [e_le (by omega) (by omega)]; omega)]
  | succ j ih =>
    intro i n h hi hn hN
    obtain ⟨n, rfl⟩ := succ_of hn
    obtain ⟨h', e1, e2, e3⟩ := ih (i + 1) n (up h 43 (2 + i) (h 51 i)) (by omega) (by omega) (by rw [up_c (by decide)]; exact hN)
    refine ⟨h', ?_, fun r => ?_, fun z hz => by rw [e3 z hz, up_c hz]⟩
    · rw [f_X7_shift_46, hN, if_neg (by rw [e_le (by omega) (by omega)]; omega), if_pos (inb_t (by omega) (by decide)), e_add, if_pos (inb_t (by omega) (by decide)), e_ix (by omega), e_ix (by omega), e_add, e1]
    · rw [e2 r, up_c (by decide)]
      by_cases g : 2 + (i + 1) ≤ r ∧ r < 2 + N
      · rw [if_pos g, if_pos (by omega)]
      · rw [if_neg g]
        by_cases g2 : r = 2 + i
        · rw [g2, up_s, if_pos (by omega), show 2 + i - 2 = i by omega]
        · rw [up_n g2, if_neg (by omega)]
theorem X7_shift_loop {F : Nat} (hF : 600 ≤ F) {N k : Nat} (h0 : 0 < N) (hb : N ≤ 32) (hk : k < N) :
    ∀ (j i n : Nat) (h : HP), i + j = N → j < n → h 40 1 = nI N → ∃ h', f_X7_shift_16 F (nI k) n (nI i) h = f_X7_shift_46 F (nI k) F (nI 0) h' ∧ (∀ r, i ≤ r → r < N → h' 51 r = h 43 (2 + (r + N - k) % N)) ∧ (∀ r, r < i → h' 51 r = h 51 r) ∧ ∀ z, z ≠ 51 → h' z = h z := by
  intro j
  induction j with
  | zero =>
    intro i n h hi hn hN
    obtain ⟨n, rfl⟩ := succ_of hn
    refine ⟨h, ?_, fun r a b => by omega, fun _ _ => rfl, fun _ _ => rfl⟩
    rw [f_X7_shift_16, hN, if_pos (by rw [e_le (by omega) (by omega)]; omega)]
  | succ j ih =>
    intro i n h hi hn hN
    obtain ⟨n, rfl⟩ := succ_of hn
    obtain ⟨h', e1, e2, e3, e4⟩ := ih (i + 1) n (up h 51 i (h 43 (2 + (i + N - k) % N))) (by omega) (by omega) (by rw [up_c (by decide)]; exact hN)
    refine ⟨h', ?_, fun r a b => ?_, fun r hr => by rw [e3 r (by omega), up_n (by omega)], fun z hz => by rw [e4 z hz, up_c hz]⟩
    · rw [f_X7_shift_16, hN, if_neg (by rw [e_le (by omega) (by omega)]; omega), shifted_n F hN h0 hb (by omega) (by omega), ob_eq, if_pos (inb_t (by omega) (by decide)), e_ix (by omega), e_add, e1]
    · by_cases g : r = i
      · rw [g, e3 i (by omega), up_s]
      · rw [e2 r (by omega) b, up_c (by decide)]
theorem op_shift {F c : Nat} (hF : 600 ≤ F) (hc : c < 900000) {tw : TW} {h : HP} (i : INV c tw h) (x : Int32) : Step (f_X6_shift F tw x) (f_X7_shift F x) c tw h := by
  have i0 := i
  obtain ⟨hK, B, N, R, T, M, hT, hC, hMt, hS, hD, hrest⟩ := i
  obtain ⟨hB1, hB8, hN2, hN32, hR6, hTM⟩ := id hT
  have hKc := hK.c
  rcases cas x (n := N) (by omega) with ⟨k, hk, rfl⟩ | hx
  · have core := drum_core hF hc i0 (fun h5 => f_X6_shift_23 F tw (nI k) F (nI 0) h5) (fun h5 => f_X7_shift_16 F (nI k) F (nI 0) h5) ?_
    · obtain ⟨rv, g1, g2, s1, s2, s3⟩ := core
      refine ⟨rv, g1, g2, ?_, ?_, s3⟩
      · unfold f_X6_shift
        rw [X6_isRow_t F hC.2.1 hN32 hk, ob_eq, if_neg n10]
        exact s1
      · have e40 : g1 40 = h 40 := by
          obtain ⟨kk, hU, -⟩ := hrest.1
          obtain ⟨hk', e0, e3, nx, hnx, e2, -⟩ := hU
          obtain ⟨h1, p1, -, -, -, -, p6⟩ := put_n F (Or.inl ⟨rfl, rfl⟩) hnx hk' e0 e2 e3
          have hp15 : ∀ r, r < 32 → h1 15 r = nI (pv h r) := fun r hr => by rw [p6 15 (by decide) (by decide), pin_of hD hr]; exact (pv_of hB8 hS hr).1
          obtain ⟨h', q1, -, -, q4⟩ := X6_shift_loop (F := F) (tw := tw) (p := pv h) (by omega) (by omega) hN32 hk N 0 F h1 (by omega) (by omega) (by rw [p6 tw.1 (by omega) (by omega)]; exact hC.2.1) hp15 (fun r hr => by omega)
          have s1' := s1
          dsimp only at s1'
          rw [p1, obv_eq, q1] at s1'
          cases s1'
          rw [q4 40 (by decide) (by decide), p6 40 (by decide) (by decide)]
        unfold f_X7_shift
        rw [X7_isRow_t F (by rw [e40]; exact hMt.2.1) hN32 hk, ob_eq, if_neg n10]
        exact s2
    · intro B' N' R' T' M' a hT' hC' hM' hD' hA
      have eN : N' = N := by
        have := hM'.2.1.symm.trans hMt.2.1
        rw [e_eq (by have := hT'.2.2.2.1; omega) (by omega)] at this
        exact this
      subst eN
      let p' : Nat → Nat := fun r => if r < N' then a.2.2.1 ((r + N' - k) % N') else a.2.2.1 r
      have hml : ∀ r, (r + N' - k) % N' < N' := fun r => Nat.mod_lt _ (by omega)
      refine ⟨nI (p' 0), (a.1, a.2.1, p', a.2.2.2.1, a.2.2.2.2.1, a.2.2.2.2.2), ⟨hA.1, Nat.le_succ_of_le hA.2.1, hA.2.2.1, fun r hr => ?_⟩, fun h1 hC1 hD1 => ?_, fun h1 hM1 hD1 => ?_⟩
      · show p' r < 2 ^ B'
        show (if r < N' then a.2.2.1 ((r + N' - k) % N') else a.2.2.1 r) < _
        split
        · exact hA.2.2.2 _ (by have := hml r; omega)
        · exact hA.2.2.2 r hr
      · obtain ⟨h', q1, q2, q3, q4⟩ := X6_shift_loop (F := F) (tw := tw) (p := a.2.2.1) (by omega) (by omega) hN32 hk N' 0 F h1 (by omega) (by omega) hC1.2.1 hD1.2.2.1 (fun r hr => by omega)
        refine ⟨h', ?_, ⟨by rw [q4 14 (by decide) (by decide)]; exact hD1.1, by rw [q4 14 (by decide) (by decide)]; exact hD1.2.1, fun r hr => ?_, fun j hj => by rw [q4 16 (by decide) (by decide)]; exact hD1.2.2.2.1 j hj, fun b hb => by rw [q4 17 (by decide) (by decide), q4 18 (by decide) (by decide)]; exact hD1.2.2.2.2 b hb⟩, fun z z1 z2 => q4 z (by omega) z2⟩
        · show f_X6_shift_23 F tw (nI k) F (nI 0) h1 = _
          rw [q1, q2 0 (by omega)]
          show _ = some (nI (if 0 < N' then _ else _), h')
          rw [if_pos (by omega)]
        · show h' 15 r = nI (if r < N' then _ else _)
          by_cases g : r < N'
          · rw [if_pos g]; exact q2 r g
          · rw [if_neg g, q3 r (by omega)]; exact hD1.2.2.1 r hr
      · obtain ⟨h2, q1, q2, -, q4⟩ := X7_shift_loop hF (k := k) (by omega) hN32 hk N' 0 F h1 (by omega) (by omega) hM1.2.1
        obtain ⟨h', t1, t2, t3⟩ := X7_shift_in (F := F) (x1 := nI k) hN32 N' 0 F h2 (by omega) (by omega) (by rw [q4 40 (by decide)]; exact hM1.2.1)
        have e43 : h2 43 = h1 43 := q4 43 (by decide)
        have row : ∀ r, r < 32 → h' 43 (2 + r) = nI (p' r) := fun r hr => by
          rw [t2, e43]
          show _ = nI (if r < N' then _ else _)
          by_cases g : r < N'
          · rw [if_pos (by omega), if_pos g, show 2 + r - 2 = r by omega, q2 r (by omega) g]
            exact hD1.2.2.1 _ (by have := hml r; omega)
          · rw [if_neg (by omega), if_neg g]; exact hD1.2.2.1 r hr
        have oth : ∀ j, (j < 2 ∨ 34 ≤ j) → h' 43 j = h1 43 j := fun j hj => by rw [t2, if_neg (by omega), e43]
        refine ⟨h', ?_, ⟨by rw [oth 0 (by decide)]; exact hD1.1, by rw [oth 1 (by decide)]; exact hD1.2.1, row, fun j hj => by rw [oth (34 + j) (by omega)]; exact hD1.2.2.2.1 j hj, fun b hb => by rw [oth (50 + b) (by omega), oth (58 + b) (by omega)]; exact hD1.2.2.2.2 b hb⟩, fun z z1 z2 => by rw [t3 z z1, q4 z z2]⟩
        show f_X7_shift_16 F (nI k) F (nI 0) h1 = _
        rw [q1, t1, show h' 43 2 = nI (p' 0) from row 0 (by decide)]
  · refine Same.step ⟨-1, ?_, ?_⟩ i0
    · unfold f_X6_shift
      rw [X6_isRow_f F hC.2.1 hx, ob_eq, if_pos rfl]
    · unfold f_X7_shift
      rw [X7_isRow_f F hMt.2.1 (by omega) hN32 hx, ob_eq, if_pos rfl]
theorem op_undo {F c : Nat} (hF : 600 ≤ F) {tw : TW} {h : HP} (i : INV c tw h) : Step (f_X6_undo F tw) (f_X7_undo F) c tw h := by
  have i0 := i
  obtain ⟨hK, B, N, R, T, M, hT, hC, hMt, hS, hD, ⟨k, hU, hU'⟩, ⟨k2, hV, hV'⟩, hW, hH, hTX⟩ := i
  have hKc := hK.c
  obtain ⟨hk, e0, e3, nx, hnx, e2, hsl⟩ := hU
  by_cases g : k = 0
  · subst g
    refine Same.step ⟨-2, ?_, ?_⟩ i0
    · unfold f_X6_undo
      rw [take_no F e3, ob_eq, if_pos rfl]
    · unfold f_X7_undo
      rw [hU', if_pos rfl]
  · obtain ⟨h1, p1, p2, p3, p4, p5, p6⟩ := take_n F (Or.inl ⟨rfl, rfl⟩) hnx hk e0 e2 e3 (by omega)
    have q : ∀ z, z ≠ 24 → (z < 14 ∨ 18 < z) → h1 z = h z := p6
    obtain ⟨h2, c1, c2, c3⟩ := copies_n hF (a := 44) (b := 43) (x := 66 * (k - 1)) (y := 0) (h := up h1 39 6 (nI (k - 1))) (by decide) (by show 66 * (k - 1) + 66 ≤ 528; omega) (by decide) (by decide) (by decide)
    have hi : ∀ z, z ≠ 43 → z ≠ 39 → h2 z = h1 z := fun z z1 z2 => by rw [c3 z z1, up_c z2]
    have e39 : ∀ j, j ≠ 6 → h2 39 j = h 39 j := fun j hj => by rw [c3 39 (by decide), up_n hj, q 39 (by decide) (by decide)]
    have e43 : ∀ j, j < 66 → h2 43 j = h 44 (66 * (k - 1) + j) := fun j hj => by
      rw [c2, if_pos (by omega), up_c (by decide), q 44 (by decide) (by decide), Nat.sub_zero]
    have eslot : (nx + 8 - k + (k - 1)) % 8 = (nx + 8 - 1) % 8 := by rw [show nx + 8 - k + (k - 1) = nx + 8 - 1 by omega]
    obtain ⟨s1, s2⟩ := hsl (k - 1) (by omega)
    rw [eslot] at s1
    refine ⟨nI (k - 1), h1, h2, ?_, ?_, ?_⟩
    · unfold f_X6_undo
      rw [p1, ob_eq, if_neg n10, p4]
    · unfold f_X7_undo
      rw [q 39 (by decide) (by decide), hU', if_neg (by rw [e_eq (by omega) (by decide)]; exact g), e_sub (by omega), up_s, e_mul, c1, obv_eq, c3 39 (by decide), up_s]
    · have fr : ∀ z, z ≠ 24 → (z < 14 ∨ 18 < z) → z ≠ 43 → z ≠ 39 → h2 z = h z := fun z z1 z2 z3 z4 => by rw [hi z z3 z4, q z z1 z2]
      have hdv : ∀ j, dv h2 14 j = dv h1 14 j := fun j => by
        unfold dv
        rw [hi 14 (by decide) (by decide), hi 15 (by decide) (by decide), hi 16 (by decide) (by decide), hi 17 (by decide) (by decide), hi 18 (by decide) (by decide)]
      refine INV.mono (c := c) (INV.new hK hT hC hMt hW hH hTX (fun j hj => fr _ (by omega) (by omega) (by omega) (by omega)) (fun z hz => ?_) (by rw [fr 0 (by decide) (by decide) (by decide) (by decide)]) (by rw [fr 1 (by decide) (by decide) (by decide) (by decide)]) (e39 10 (by decide)) (e39 13 (by decide)) (s2.congr e43) (s1.congr (fun j hj => by rw [hdv j]; exact p5 j hj) e43) ⟨k - 1, pop_n (by decide) hk (by omega) hnx hsl (by rw [hi 24 (by decide) (by decide)]; exact p2) (by rw [hi 24 (by decide) (by decide)]; exact p3) (by rw [hi 24 (by decide) (by decide)]; exact p4) (fr 25 (by decide) (by decide) (by decide) (by decide)) (fr 44 (by decide) (by decide) (by decide) (by decide)), by rw [c3 39 (by decide), up_s]⟩ ⟨k2, hV.re (fr 26 (by decide) (by decide) (by decide) (by decide)) (fr 27 (by decide) (by decide) (by decide) (by decide)) (fr 45 (by decide) (by decide) (by decide) (by decide)), by rw [e39 8 (by decide)]; exact hV'⟩) (Nat.le_succ c)
      simp only [List.mem_cons, List.not_mem_nil, or_false] at hz
      rcases hz with rfl | rfl | rfl | rfl | rfl | rfl | rfl <;> exact fr _ (by decide) (by decide) (by decide) (by decide)
theorem op_keep {F c : Nat} (hF : 600 ≤ F) {tw : TW} {h : HP} (i : INV c tw h) : Step (f_X6_keep F tw) (f_X7_keep F) c tw h := by
  have i0 := i
  obtain ⟨hK, B, N, R, T, M, hT, hC, hMt, hS, hD, ⟨k1, hU, hU'⟩, ⟨k, hV, hV'⟩, hW, hH, hTX⟩ := i
  have hKc := hK.c
  obtain ⟨hk, e0, e3, nx, hnx, e2, hsl⟩ := hV
  by_cases g : k = 2
  · refine Same.step ⟨-3, ?_, ?_⟩ i0
    · unfold f_X6_keep
      rw [e3, if_neg (by rw [e_lt (by omega) (by decide)]; omega)]
    · unfold f_X7_keep
      rw [hV', if_pos (by rw [g])]
  · obtain ⟨h1, p1, p2, p3, p4, p5, p6⟩ := put_n F (Or.inr ⟨rfl, rfl⟩) hnx hk e0 e2 e3
    obtain ⟨h2, c1, c2, c3⟩ := copies_n hF (a := 43) (b := 45) (x := 0) (y := 66 * k) (h := h1) (by decide) (by decide) (by show 66 * k + 66 ≤ 132; omega) (by decide) (by decide)
    let h3 : HP := up h2 39 8 (nI (k + 1))
    have emin : min (k + 1) 2 = k + 1 := Nat.min_eq_left (by omega)
    rw [emin] at p4
    have hi : ∀ z, z ≠ 45 → z ≠ 39 → h3 z = h1 z := fun z z1 z2 => by show (up h2 39 8 _) z = _; rw [up_c z2, c3 z z1]
    have e39 : ∀ j, j ≠ 8 → h3 39 j = h 39 j := fun j hj => by show (up h2 39 8 _) 39 j = _; rw [up_n hj, c3 39 (by decide), p6 39 (by decide) (by decide)]
    have e45 : ∀ j, h3 45 j = if 66 * k ≤ j ∧ j < 66 * k + 66 then h 43 (j - 66 * k) else h 45 j := fun j => by
      show (up h2 39 8 _) 45 j = _
      rw [up_c (by decide), c2, p6 43 (by decide) (by decide), p6 45 (by decide) (by decide), Nat.zero_add]
    refine ⟨nI (k + 1), h1, h3, ?_, ?_, ?_⟩
    · unfold f_X6_keep
      rw [e3, if_pos (by rw [e_lt (by omega) (by decide)]; omega), p1, obv_eq, p4]
    · unfold f_X7_keep
      rw [p6 39 (by decide) (by decide), hV', if_neg (by rw [e_eq (by omega) (by decide)]; exact g), e_mul, c1, obv_eq, c3 39 (by decide), p6 39 (by decide) (by decide), hV', e_add, up_s]
    · have fr : ∀ z, z ≠ 26 → z ≠ 27 → z ≠ 45 → z ≠ 39 → h3 z = h z := fun z z1 z2 z3 z4 => by rw [hi z z3 z4, p6 z z1 z2]
      refine INV.mono (c := c) (INV.new hK hT hC hMt hW hH hTX (fun j hj => fr _ (by omega) (by omega) (by omega) (by omega)) (fun z hz => ?_) (by rw [fr 0 (by decide) (by decide) (by decide) (by decide)]) (by rw [fr 1 (by decide) (by decide) (by decide) (by decide)]) (e39 10 (by decide)) (e39 13 (by decide)) (by rw [fr 43 (by decide) (by decide) (by decide) (by decide)]; exact hS) (by rw [fr 43 (by decide) (by decide) (by decide) (by decide), dv_re (fun z a b => fr z (by omega) (by omega) (by omega) (by omega))]; exact hD) ⟨k1, hU.re (fr 24 (by decide) (by decide) (by decide) (by decide)) (fr 25 (by decide) (by decide) (by decide) (by decide)) (fr 44 (by decide) (by decide) (by decide) (by decide)), by rw [e39 6 (by decide)]; exact hU'⟩ ⟨k + 1, ?_, up_s⟩) (Nat.le_succ c)
      · simp only [List.mem_cons, List.not_mem_nil, or_false] at hz
        rcases hz with rfl | rfl | rfl | rfl | rfl | rfl | rfl <;> exact fr _ (by decide) (by decide) (by decide) (by decide)
      · rw [← emin]
        refine push_n (h := h) (by decide) hk hnx hsl hD hS (by rw [hi 26 (by decide) (by decide)]; exact p2) (by rw [hi 26 (by decide) (by decide)]; exact p3) (by rw [hi 26 (by decide) (by decide), emin]; exact p4) (fun i => by rw [hi 27 (by decide) (by decide)]; exact p5 i) (fun _ => ⟨fun i hi j hj => ?_, fun j hj => ?_⟩) (fun hk2 => absurd hk2 g)
        · rw [e45, if_neg (by have := Nat.mul_le_mul_left 66 (show i + 1 ≤ k by omega); omega)]
        · rw [e45, if_pos (by omega), show 66 * k + j - 66 * k = j by omega]
theorem op_back {F c : Nat} (hF : 600 ≤ F) {tw : TW} {h : HP} (i : INV c tw h) : Step (f_X6_back F tw) (f_X7_back F) c tw h := by
  have i0 := i
  obtain ⟨hK, B, N, R, T, M, hT, hC, hMt, hS, hD, ⟨k1, hU, hU'⟩, ⟨k, hV, hV'⟩, hW, hH, hTX⟩ := i
  have hKc := hK.c
  obtain ⟨hk, e0, e3, nx, hnx, e2, hsl⟩ := hV
  obtain ⟨u1, u2, u3, unx, u4, u5, -⟩ := hU
  by_cases g : k = 0
  · subst g
    refine Same.step ⟨-2, ?_, ?_⟩ i0
    · unfold f_X6_back
      rw [take_no F e3, ob_eq, if_pos rfl]
    · unfold f_X7_back
      rw [hV', if_pos rfl]
  · obtain ⟨h1, p1, p2, p3, p4, p5, p6⟩ := take_n F (Or.inr ⟨rfl, rfl⟩) hnx hk e0 e2 e3 (by omega)
    let h1' : HP := up h1 24 3 (nI 0)
    have q : ∀ z, z ≠ 26 → (z < 14 ∨ 18 < z) → z ≠ 24 → h1' z = h z := fun z z1 z2 z3 => by show (up h1 24 3 _) z = _; rw [up_c z3, p6 z z1 z2]
    obtain ⟨h2, c1, c2, c3⟩ := copies_n hF (a := 45) (b := 43) (x := 66 * (k - 1)) (y := 0) (h := up h1' 39 8 (nI (k - 1))) (by decide) (by show 66 * (k - 1) + 66 ≤ 132; omega) (by decide) (by decide) (by decide)
    let h3 : HP := up h2 39 6 (nI 0)
    have hi : ∀ z, z ≠ 43 → z ≠ 39 → h3 z = h1' z := fun z z1 z2 => by show (up h2 39 6 _) z = _; rw [up_c z2, c3 z z1, up_c z2]
    have e39 : ∀ j, j ≠ 6 → j ≠ 8 → h3 39 j = h 39 j := fun j hj hj2 => by show (up h2 39 6 _) 39 j = _; rw [up_n hj, c3 39 (by decide), up_n hj2, q 39 (by decide) (by decide) (by decide)]
    have e398 : h3 39 8 = nI (k - 1) := by show (up h2 39 6 _) 39 8 = _; rw [up_n (by decide), c3 39 (by decide), up_s]
    have e43 : ∀ j, j < 66 → h3 43 j = h 45 (66 * (k - 1) + j) := fun j hj => by
      show (up h2 39 6 _) 43 j = _
      rw [up_c (by decide), c2, if_pos (by omega), up_c (by decide), q 45 (by decide) (by decide) (by decide), Nat.sub_zero]
    have eslot : (nx + 2 - k + (k - 1)) % 2 = (nx + 2 - 1) % 2 := by rw [show nx + 2 - k + (k - 1) = nx + 2 - 1 by omega]
    obtain ⟨s1, s2⟩ := hsl (k - 1) (by omega)
    rw [eslot] at s1
    have a26 : h1' 26 = h1 26 := up_c (by decide)
    refine ⟨nI (k - 1), h1', h3, ?_, ?_, ?_⟩
    · unfold f_X6_back f_X2_clear
      rw [p1, ob_eq, if_neg n10, obv_eq, show (up h1 24 3 (nI 0)) 26 3 = nI (k - 1) by rw [up_c (by decide)]; exact p4]
    · unfold f_X7_back
      rw [q 39 (by decide) (by decide) (by decide), hV', if_neg (by rw [e_eq (by omega) (by decide)]; exact g), e_sub (by omega), up_s, e_mul, c1, obv_eq]
      show some ((up h2 39 6 (nI 0)) 39 8, h3) = _
      rw [show (up h2 39 6 (nI 0)) 39 8 = nI (k - 1) from e398]
    · have fr : ∀ z, z ≠ 26 → (z < 14 ∨ 18 < z) → z ≠ 24 → z ≠ 43 → z ≠ 39 → h3 z = h z := fun z z1 z2 z3 z4 z5 => by rw [hi z z4 z5, q z z1 z2 z3]
      have hdv : ∀ j, dv h3 14 j = dv h1 14 j := fun j => by
        unfold dv
        rw [hi 14 (by decide) (by decide), hi 15 (by decide) (by decide), hi 16 (by decide) (by decide), hi 17 (by decide) (by decide), hi 18 (by decide) (by decide)]
        show (if j = 0 then (up h1 24 3 _) 14 4 else if j = 1 then (up h1 24 3 _) 14 5 else if j < 34 then (up h1 24 3 _) 15 (j - 2) else if j < 50 then (up h1 24 3 _) 16 (j - 34) else if j < 58 then (up h1 24 3 _) 17 (j - 50) else (up h1 24 3 _) 18 (j - 58)) = _
        rw [up_c (by decide), up_c (by decide), up_c (by decide), up_c (by decide), up_c (by decide)]
      have h24 : h1 24 = h 24 := p6 24 (by decide) (by decide)
      refine INV.mono (c := c) (INV.new hK hT hC hMt hW hH hTX (fun j hj => fr _ (by omega) (by omega) (by omega) (by omega) (by omega)) (fun z hz => ?_) (by rw [fr 0 (by decide) (by decide) (by decide) (by decide) (by decide)]) (by rw [fr 1 (by decide) (by decide) (by decide) (by decide) (by decide)]) (e39 10 (by decide) (by decide)) (e39 13 (by decide) (by decide)) (s2.congr e43) (s1.congr (fun j hj => by rw [hdv j]; exact p5 j hj) e43) ⟨0, ⟨by decide, ?_, ?_, unx, u4, ?_, fun i hi => by omega⟩, up_s⟩ ⟨k - 1, pop_n (by decide) hk (by omega) hnx hsl (by rw [hi 26 (by decide) (by decide), a26]; exact p2) (by rw [hi 26 (by decide) (by decide), a26]; exact p3) (by rw [hi 26 (by decide) (by decide), a26]; exact p4) (fr 27 (by decide) (by decide) (by decide) (by decide) (by decide)) (fr 45 (by decide) (by decide) (by decide) (by decide) (by decide)), e398⟩) (Nat.le_succ c)
      · simp only [List.mem_cons, List.not_mem_nil, or_false] at hz
        rcases hz with rfl | rfl | rfl | rfl | rfl | rfl | rfl <;> exact fr _ (by decide) (by decide) (by decide) (by decide) (by decide)
      · rw [hi 24 (by decide) (by decide)]
        show (up h1 24 3 _) 24 0 = _
        rw [up_n (by decide), h24]; exact u2
      · rw [hi 24 (by decide) (by decide)]
        exact up_s
      · rw [hi 24 (by decide) (by decide)]
        show (up h1 24 3 _) 24 2 = _
        rw [up_n (by decide), h24]; exact u5
