/-! ===== calls that change little: write, wipe, want, hear, forget; stood ===== -/
def Step (fX fM : HP → Option (Int32 × HP)) (c : Nat) (tw : TW) (h : HP) : Prop := ∃ r h1 h2, fX h = some (r, h1) ∧ fM h1 = some (r, h2) ∧ INV (c + 1) tw h2
theorem Same.step {fX fM : HP → Option (Int32 × HP)} {c : Nat} {tw : TW} {h : HP} (s : Same fX fM h) (i : INV c tw h) : Step fX fM c tw h := by
  obtain ⟨r, a, b⟩ := s
  exact ⟨r, h, h, a, b, i.mono (Nat.le_succ c)⟩
theorem CTw.re {B N R t : Nat} {T M : Nat → Nat} {h h' : HP} (k : CTw B N R T M t h) (e : ∀ j, j < 4 → h' (t + j) = h (t + j)) : CTw B N R T M t h' := by
  have e0 : h' t = h t := e 0 (by decide)
  unfold CTw
  rw [e0, e 1 (by decide), e 2 (by decide), e 3 (by decide)]
  exact k
theorem MTw.re {B N R : Nat} {T M : Nat → Nat} {h h' : HP} (k : MTw B N R T M h) (e : h' 40 = h 40) : MTw B N R T M h' := by unfold MTw; rw [e]; exact k
theorem dv_re {h h' : HP} (e : ∀ k, 14 ≤ k → k ≤ 18 → h' k = h k) : dv h' 14 = dv h 14 := by
  funext j
  unfold dv
  rw [e 14 (by decide) (by decide), e 15 (by decide) (by decide), e 16 (by decide) (by decide), e 17 (by decide) (by decide), e 18 (by decide) (by decide)]
theorem SR.re {R B N c P sf mb k : Nat} {h h' : HP} (s : SR R B N c P sf mb k h) (e1 : h' sf = h sf) (e2 : h' (sf + 1) = h (sf + 1)) (e3 : h' mb = h mb) : SR R B N c P sf mb k h' := by unfold SR; rw [e1, e2, e3]; exact s
theorem WT.re {B : Nat} {h h' : HP} (w : WT B h) (e1 : h' 28 = h 28) (e2 : h' 47 = h 47) : WT B h' := by unfold WT; rw [e1, e2]; exact w
theorem HD.re {h h' : HP} (w : HD h) (e1 : h' 0 9 = h 0 9) (e2 : h' 39 13 = h 39 13) (e3 : h' 29 = h 29) (e4 : h' 48 = h 48) : HD h' := by unfold HD; rw [e1, e2, e3, e4]; exact w
theorem TX.re {h h' : HP} (w : TX h) (e1 : h' 1 1 = h 1 1) (e2 : h' 39 10 = h 39 10) (e3 : h' 2 = h 2) (e4 : h' 46 = h 46) : TX h' := by unfold TX; rw [e1, e2, e3, e4]; exact w
theorem TWK.c {tw : TW} (h : TWK tw) : tw.1 = 4 ∨ tw.1 = 9 := by rcases h with rfl | rfl; exact Or.inl rfl; exact Or.inr rfl
theorem op_want {F c : Nat} {tw : TW} {h : HP} (i : INV c tw h) (x y : Int32) : Step (f_X6_want F tw x y) (f_X7_want F x y) c tw h := by
  have i0 := i
  obtain ⟨hK, B, N, R, T, M, hT, hC, hM, hS, hD, ⟨k1, hU, hU'⟩, ⟨k2, hV, hV'⟩, hW, hH, hX⟩ := i
  obtain ⟨hB1, hB8, hN2, hN32, hR6, hTM⟩ := id hT
  rcases cas x (n := N) (by omega) with ⟨j, hj, rfl⟩ | hx
  · rcases cas y (n := 2 ^ B) (by have := p2le hB8; omega) with ⟨s, hs, rfl⟩ | hy
    · have e28 := (hW j (by omega)).1
      refine ⟨h 28 j, up h 28 j (nI s), up (up h 28 j (nI s)) 47 j (nI s), ?_, ?_, ?_⟩
      · unfold f_X6_want
        rw [X6_isRow_t F hC.2.1 hN32 hj, ob_eq, if_neg n10, X6_isSet_t F hC.1 hB8 hs, ob_eq, if_neg n10, if_pos (inb_t (by omega) (by decide)), e_ix (by omega)]
      · have e40 : (up h 28 j (nI s)) 40 = h 40 := up_c (by decide)
        have e47 : (up h 28 j (nI s)) 47 = h 47 := up_c (by decide)
        unfold f_X7_want
        rw [X7_isRow_t F (by rw [e40]; exact hM.2.1) hN32 hj, ob_eq, if_neg n10, X7_isSet_t F (by rw [e40]; exact hM.1) hB8 hs, ob_eq, if_neg n10, if_pos (inb_t (by omega) (by decide)), e_ix (by omega), e47, e28]
      · have q : ∀ k, k ≠ 28 → k ≠ 47 → (up (up h 28 j (nI s)) 47 j (nI s)) k = h k := fun k a b => by rw [up_c b, up_c a]
        refine INV.mono (c := c) ⟨hK, B, N, R, T, M, hT, hC.re (fun m hm => q _ ?_ ?_), hM.re (q 40 (by decide) (by decide)), ?_, ?_, ⟨k1, hU.re (q _ (by decide) (by decide)) (q _ (by decide) (by decide)) (q _ (by decide) (by decide)), by rw [q 39 (by decide) (by decide)]; exact hU'⟩, ⟨k2, hV.re (q _ (by decide) (by decide)) (q _ (by decide) (by decide)) (q _ (by decide) (by decide)), by rw [q 39 (by decide) (by decide)]; exact hV'⟩, ?_, hH.re (by rw [q 0 (by decide) (by decide)]) (by rw [q 39 (by decide) (by decide)]) (q _ (by decide) (by decide)) (q _ (by decide) (by decide)), hX.re (by rw [q 1 (by decide) (by decide)]) (by rw [q 39 (by decide) (by decide)]) (q _ (by decide) (by decide)) (q _ (by decide) (by decide))⟩ (Nat.le_succ c)
        · have := hK.c; omega
        · have := hK.c; omega
        · rw [q 43 (by decide) (by decide)]; exact hS
        · rw [q 43 (by decide) (by decide), dv_re (fun k a b => q k (by omega) (by omega))]; exact hD
        · intro r hr
          have a1 : (up (up h 28 j (nI s)) 47 j (nI s)) 28 r = if r = j then nI s else h 28 r := by
            rw [up_c (by decide)]
            by_cases g : r = j
            · rw [g, up_s, if_pos rfl]
            · rw [up_n g, if_neg g]
          have a2 : (up (up h 28 j (nI s)) 47 j (nI s)) 47 r = if r = j then nI s else h 47 r := by
            by_cases g : r = j
            · rw [g, up_s, if_pos rfl]
            · rw [up_n g, if_neg g, up_c (by decide)]
          rw [a1, a2]
          by_cases g : r = j
          · rw [if_pos g, if_pos g]; exact ⟨rfl, s, hs, rfl⟩
          · rw [if_neg g, if_neg g]; exact hW r hr
    · refine Same.step ⟨-1, ?_, ?_⟩ i0
      · unfold f_X6_want
        rw [X6_isRow_t F hC.2.1 hN32 hj, ob_eq, if_neg n10, X6_isSet_f F hC.1 hB8 hy, ob_eq, if_pos rfl]
      · unfold f_X7_want
        rw [X7_isRow_t F hM.2.1 hN32 hj, ob_eq, if_neg n10, X7_isSet_f F hM.1 hB8 hy, ob_eq, if_pos rfl]
  · refine Same.step ⟨-1, ?_, ?_⟩ i0
    · unfold f_X6_want
      rw [X6_isRow_f F hC.2.1 hx, ob_eq, if_pos rfl]
    · unfold f_X7_want
      rw [X7_isRow_f F hM.2.1 (by omega) hN32 hx, ob_eq, if_pos rfl]
theorem op_hear {F c : Nat} {tw : TW} {h : HP} (i : INV c tw h) (x : Int32) : Step (f_X6_hear F tw x) (f_X7_hear F x) c tw h := by
  have i0 := i
  obtain ⟨hK, B, N, R, T, M, hT, hC, hM, hS, hD, ⟨k1, hU, hU'⟩, ⟨k2, hV, hV'⟩, hW, ⟨n, hn8, hn1, hn2, hn3⟩, hX⟩ := i
  obtain ⟨hB1, hB8, hN2, hN32, hR6, hTM⟩ := id hT
  rcases cas x (n := 2 ^ B) (by have := p2le hB8; omega) with ⟨s, hs, rfl⟩ | hx
  · by_cases g8 : n = 8
    · refine Same.step ⟨-3, ?_, ?_⟩ i0
      · unfold f_X6_hear
        rw [X6_isSet_t F hC.1 hB8 hs, ob_eq, if_neg n10, hn1, if_neg (by rw [e_lt (by omega) (by decide)]; omega)]
      · unfold f_X7_hear
        rw [X7_isSet_t F hM.1 hB8 hs, ob_eq, if_neg n10, hn2, if_pos (by rw [g8])]
    · let h1 := up (up h 29 n (nI s)) 0 9 (nI (n + 1))
      let h2 := up (up h1 48 n (nI s)) 39 13 (nI (n + 1))
      refine ⟨nI (n + 1), h1, h2, ?_, ?_, ?_⟩
      · unfold f_X6_hear
        rw [X6_isSet_t F hC.1 hB8 hs, ob_eq, if_neg n10, hn1, if_pos (by rw [e_lt (by omega) (by decide)]; omega), if_pos (inb_t (by omega) (by decide)), e_ix (by omega), show (up h 29 n (nI s)) 0 9 = nI n by rw [up_c (by decide), hn1], e_add, up_s]
      · have e40 : h1 40 = h 40 := by show (up (up h 29 n (nI s)) 0 9 _) 40 = _; rw [up_c (by decide), up_c (by decide)]
        have e39 : h1 39 = h 39 := by show (up (up h 29 n (nI s)) 0 9 _) 39 = _; rw [up_c (by decide), up_c (by decide)]
        unfold f_X7_hear
        rw [X7_isSet_t F (by rw [e40]; exact hM.1) hB8 hs, ob_eq, if_neg n10, e39, hn2, if_neg (by rw [e_eq (by omega) (by decide)]; omega), if_pos (inb_t (by omega) (by decide)), e_ix (by omega), show (up h1 48 n (nI s)) 39 13 = nI n by rw [up_c (by decide), e39, hn2], e_add, up_s]
      · have q : ∀ k, k ≠ 29 → k ≠ 0 → k ≠ 48 → k ≠ 39 → h2 k = h k := fun k a b c d => by
          show (up (up (up (up h 29 n (nI s)) 0 9 _) 48 n (nI s)) 39 13 _) k = _
          rw [up_c d, up_c c, up_c b, up_c a]
        have q39 : ∀ j, j ≠ 13 → h2 39 j = h 39 j := fun j a => by
          show (up (up (up (up h 29 n (nI s)) 0 9 _) 48 n (nI s)) 39 13 _) 39 j = _
          rw [up_n a, up_c (by decide), up_c (by decide), up_c (by decide)]
        refine INV.mono (c := c) ⟨hK, B, N, R, T, M, hT, hC.re (fun m hm => q _ ?_ ?_ ?_ ?_), hM.re (q 40 (by decide) (by decide) (by decide) (by decide)), ?_, ?_, ⟨k1, hU.re (q _ (by decide) (by decide) (by decide) (by decide)) (q _ (by decide) (by decide) (by decide) (by decide)) (q _ (by decide) (by decide) (by decide) (by decide)), by rw [q39 6 (by decide)]; exact hU'⟩, ⟨k2, hV.re (q _ (by decide) (by decide) (by decide) (by decide)) (q _ (by decide) (by decide) (by decide) (by decide)) (q _ (by decide) (by decide) (by decide) (by decide)), by rw [q39 8 (by decide)]; exact hV'⟩, hW.re (q _ (by decide) (by decide) (by decide) (by decide)) (q _ (by decide) (by decide) (by decide) (by decide)), ⟨n + 1, by omega, ?_, up_s, ?_⟩, hX.re (by rw [q 1 (by decide) (by decide) (by decide) (by decide)]) (q39 10 (by decide)) (q _ (by decide) (by decide) (by decide) (by decide)) (q _ (by decide) (by decide) (by decide) (by decide))⟩ (Nat.le_succ c)
        · have := hK.c; omega
        · have := hK.c; omega
        · have := hK.c; omega
        · have := hK.c; omega
        · rw [q 43 (by decide) (by decide) (by decide) (by decide)]; exact hS
        · rw [q 43 (by decide) (by decide) (by decide) (by decide), dv_re (fun k a b => q k (by omega) (by omega) (by omega) (by omega))]; exact hD
        · show (up (up (up (up h 29 n (nI s)) 0 9 _) 48 n (nI s)) 39 13 _) 0 9 = _
          rw [up_c (by decide), up_c (by decide), up_s]
        · intro j hj
          show (up (up (up (up h 29 n (nI s)) 0 9 _) 48 n (nI s)) 39 13 _) 29 j = (up (up (up (up h 29 n (nI s)) 0 9 _) 48 n (nI s)) 39 13 _) 48 j
          rw [up_c (by decide), up_c (by decide), up_c (by decide), up_c (k := 39) (q := 48) (by decide)]
          by_cases g : j = n
          · rw [g, up_s, up_s]
          · rw [up_n g, up_n g, up_c (k := 0) (q := 48) (by decide), up_c (k := 29) (q := 48) (by decide)]
            exact hn3 j (by omega)
  · refine Same.step ⟨-1, ?_, ?_⟩ i0
    · unfold f_X6_hear
      rw [X6_isSet_f F hC.1 hB8 hx, ob_eq, if_pos rfl]
    · unfold f_X7_hear
      rw [X7_isSet_f F hM.1 hB8 hx, ob_eq, if_pos rfl]
theorem op_forget {F c : Nat} {tw : TW} {h : HP} (i : INV c tw h) : Step (f_X6_forget F tw) (f_X7_forget F) c tw h := by
  obtain ⟨hK, B, N, R, T, M, hT, hC, hM, hS, hD, ⟨k1, hU, hU'⟩, ⟨k2, hV, hV'⟩, hW, ⟨n, hn8, hn1, hn2, hn3⟩, hX⟩ := i
  refine ⟨h 0 9, up h 0 9 (nI 0), up (up h 0 9 (nI 0)) 39 13 (nI 0), rfl, ?_, ?_⟩
  · unfold f_X7_forget
    rw [up_c (by decide), hn2, hn1]
  · have q : ∀ k, k ≠ 0 → k ≠ 39 → (up (up h 0 9 (nI 0)) 39 13 (nI 0)) k = h k := fun k a b => by rw [up_c b, up_c a]
    have q39 : ∀ j, j ≠ 13 → (up (up h 0 9 (nI 0)) 39 13 (nI 0)) 39 j = h 39 j := fun j a => by rw [up_n a, up_c (by decide)]
    refine INV.mono (c := c) ⟨hK, B, N, R, T, M, hT, hC.re (fun m hm => q _ ?_ ?_), hM.re (q 40 (by decide) (by decide)), ?_, ?_, ⟨k1, hU.re (q _ (by decide) (by decide)) (q _ (by decide) (by decide)) (q _ (by decide) (by decide)), by rw [q39 6 (by decide)]; exact hU'⟩, ⟨k2, hV.re (q _ (by decide) (by decide)) (q _ (by decide) (by decide)) (q _ (by decide) (by decide)), by rw [q39 8 (by decide)]; exact hV'⟩, hW.re (q _ (by decide) (by decide)) (q _ (by decide) (by decide)), ⟨0, by omega, by rw [up_c (by decide), up_s], up_s, fun j hj => by omega⟩, hX.re (by rw [q 1 (by decide) (by decide)]) (q39 10 (by decide)) (q _ (by decide) (by decide)) (q _ (by decide) (by decide))⟩ (Nat.le_succ c)
    · have := hK.c; omega
    · have := hK.c; omega
    · rw [q 43 (by decide) (by decide)]; exact hS
    · rw [q 43 (by decide) (by decide), dv_re (fun k a b => q k (by omega) (by omega))]; exact hD
theorem op_wipe {F c : Nat} {tw : TW} {h : HP} (i : INV c tw h) : Step (f_X6_wipe F tw) (f_X7_wipe F) c tw h := by
  obtain ⟨hK, B, N, R, T, M, hT, hC, hM, hS, hD, ⟨k1, hU, hU'⟩, ⟨k2, hV, hV'⟩, hW, hH, ⟨n, hn8, hn1, hn2, hn3⟩⟩ := i
  refine ⟨h 1 1, up h 1 1 (nI 0), up (up h 1 1 (nI 0)) 39 10 (nI 0), rfl, ?_, ?_⟩
  · unfold f_X7_wipe
    rw [up_c (by decide), hn2, hn1]
  · have q : ∀ k, k ≠ 1 → k ≠ 39 → (up (up h 1 1 (nI 0)) 39 10 (nI 0)) k = h k := fun k a b => by rw [up_c b, up_c a]
    have q39 : ∀ j, j ≠ 10 → (up (up h 1 1 (nI 0)) 39 10 (nI 0)) 39 j = h 39 j := fun j a => by rw [up_n a, up_c (by decide)]
    refine INV.mono (c := c) ⟨hK, B, N, R, T, M, hT, hC.re (fun m hm => q _ ?_ ?_), hM.re (q 40 (by decide) (by decide)), ?_, ?_, ⟨k1, hU.re (q _ (by decide) (by decide)) (q _ (by decide) (by decide)) (q _ (by decide) (by decide)), by rw [q39 6 (by decide)]; exact hU'⟩, ⟨k2, hV.re (q _ (by decide) (by decide)) (q _ (by decide) (by decide)) (q _ (by decide) (by decide)), by rw [q39 8 (by decide)]; exact hV'⟩, hW.re (q _ (by decide) (by decide)) (q _ (by decide) (by decide)), hH.re (by rw [q 0 (by decide) (by decide)]) (q39 13 (by decide)) (q _ (by decide) (by decide)) (q _ (by decide) (by decide)), ⟨0, by omega, by rw [up_c (by decide), up_s], up_s, fun j hj => by omega⟩⟩ (Nat.le_succ c)
    · have := hK.c; omega
    · have := hK.c; omega
    · rw [q 43 (by decide) (by decide)]; exact hS
    · rw [q 43 (by decide) (by decide), dv_re (fun k a b => q k (by omega) (by omega))]; exact hD
theorem op_write {F c : Nat} {tw : TW} {h : HP} (i : INV c tw h) (x : Int32) : Step (f_X6_write F tw x) (f_X7_write F x) c tw h := by
  have i0 := i
  obtain ⟨hK, B, N, R, T, M, hT, hC, hM, hS, hD, ⟨k1, hU, hU'⟩, ⟨k2, hV, hV'⟩, hW, hH, ⟨n, hn8, hn1, hn2, hn3⟩⟩ := i
  by_cases g1 : nI 32 ≤ x ∧ x ≤ nI 126
  · have hx : ∃ l, 32 ≤ l ∧ l ≤ 126 ∧ x = nI l := by
      rw [Int32.le_iff_toInt_le, Int32.le_iff_toInt_le, nI_toInt (by decide), nI_toInt (by decide)] at g1
      rcases cas x (n := 127) (by decide) with ⟨j, hj, e⟩ | hx
      · rw [e, nI_toInt (by rw [e31]; omega)] at g1
        exact ⟨j, by omega, by omega, e⟩
      · rcases hx with a | a
        · rw [Int32.lt_iff_toInt_lt, nI_toInt (by decide)] at a; omega
        · rw [Int32.le_iff_toInt_le, nI_toInt (by decide)] at a; omega
    obtain ⟨l, hl1, hl2, rfl⟩ := hx
    have ein : ∀ h : HP, f_X7_in F (nI l).toInt64 (lN 32) (lN 126) h = some (nI 1, h) := fun h => by rw [l64 (by decide), l64 (by decide), in_t h hl1 hl2 (by decide)]
    by_cases g : n = 200
    · refine Same.step ⟨-3, ?_, ?_⟩ i0
      · unfold f_X6_write f_X4_append
        rw [if_neg (by rw [e_lt (by omega) (by decide)]; omega), if_pos (by rw [e_le (by omega) (by decide)]; omega), hn1, if_neg (by rw [e_lt (by omega) (by decide)]; omega), ob_eq, if_pos rfl]
      · unfold f_X7_write
        rw [ein, ob_eq, if_neg n10, hn2, if_pos (by rw [g])]
    · let h1 := up (up h 2 n (nI l)) 1 1 (nI (n + 1))
      let h2 := up (up h1 46 n (nI l)) 39 10 (nI (n + 1))
      refine ⟨nI (n + 1), h1, h2, ?_, ?_, ?_⟩
      · unfold f_X6_write f_X4_append
        rw [if_neg (by rw [e_lt (by omega) (by decide)]; omega), if_pos (by rw [e_le (by omega) (by decide)]; omega), hn1, if_pos (by rw [e_lt (by omega) (by decide)]; omega), if_pos (inb_t (by omega) (by decide)), e_ix (by omega), show (up h 2 n (nI l)) 1 1 = nI n by rw [up_c (by decide), hn1], e_add, ob_eq, if_neg n10, up_s]
      · have e39 : h1 39 = h 39 := by show (up (up h 2 n (nI l)) 1 1 _) 39 = _; rw [up_c (by decide), up_c (by decide)]
        unfold f_X7_write
        rw [ein, ob_eq, if_neg n10, e39, hn2, if_neg (by rw [e_eq (by omega) (by decide)]; omega), if_pos (inb_t (by omega) (by decide)), e_ix (by omega), show (up h1 46 n (nI l)) 39 10 = nI n by rw [up_c (by decide), e39, hn2], e_add, up_s]
      · have q : ∀ k, k ≠ 2 → k ≠ 1 → k ≠ 46 → k ≠ 39 → h2 k = h k := fun k a b c d => by
          show (up (up (up (up h 2 n (nI l)) 1 1 _) 46 n (nI l)) 39 10 _) k = _
          rw [up_c d, up_c c, up_c b, up_c a]
        have q39 : ∀ j, j ≠ 10 → h2 39 j = h 39 j := fun j a => by
          show (up (up (up (up h 2 n (nI l)) 1 1 _) 46 n (nI l)) 39 10 _) 39 j = _
          rw [up_n a, up_c (by decide), up_c (by decide), up_c (by decide)]
        refine INV.mono (c := c) ⟨hK, B, N, R, T, M, hT, hC.re (fun m hm => q _ ?_ ?_ ?_ ?_), hM.re (q 40 (by decide) (by decide) (by decide) (by decide)), ?_, ?_, ⟨k1, hU.re (q _ (by decide) (by decide) (by decide) (by decide)) (q _ (by decide) (by decide) (by decide) (by decide)) (q _ (by decide) (by decide) (by decide) (by decide)), by rw [q39 6 (by decide)]; exact hU'⟩, ⟨k2, hV.re (q _ (by decide) (by decide) (by decide) (by decide)) (q _ (by decide) (by decide) (by decide) (by decide)) (q _ (by decide) (by decide) (by decide) (by decide)), by rw [q39 8 (by decide)]; exact hV'⟩, hW.re (q _ (by decide) (by decide) (by decide) (by decide)) (q _ (by decide) (by decide) (by decide) (by decide)), hH.re (by rw [q 0 (by decide) (by decide) (by decide) (by decide)]) (q39 13 (by decide)) (q _ (by decide) (by decide) (by decide) (by decide)) (q _ (by decide) (by decide) (by decide) (by decide)), ⟨n + 1, by omega, ?_, up_s, ?_⟩⟩ (Nat.le_succ c)
        · have := hK.c; omega
        · have := hK.c; omega
        · have := hK.c; omega
        · have := hK.c; omega
        · rw [q 43 (by decide) (by decide) (by decide) (by decide)]; exact hS
        · rw [q 43 (by decide) (by decide) (by decide) (by decide), dv_re (fun k a b => q k (by omega) (by omega) (by omega) (by omega))]; exact hD
        · show (up (up (up (up h 2 n (nI l)) 1 1 _) 46 n (nI l)) 39 10 _) 1 1 = _
          rw [up_c (by decide), up_c (by decide), up_s]
        · intro j hj
          have a2 : h2 2 j = if j = n then nI l else h 2 j := by
            show (up (up (up (up h 2 n (nI l)) 1 1 _) 46 n (nI l)) 39 10 _) 2 j = _
            rw [up_c (by decide), up_c (by decide), up_c (by decide)]
            by_cases g : j = n
            · rw [g, up_s, if_pos rfl]
            · rw [up_n g, if_neg g]
          have a46 : h2 46 j = if j = n then nI l else h 46 j := by
            show (up (up (up (up h 2 n (nI l)) 1 1 _) 46 n (nI l)) 39 10 _) 46 j = _
            rw [up_c (by decide)]
            by_cases g : j = n
            · rw [g, up_s, if_pos rfl]
            · rw [up_n g, if_neg g, up_c (by decide), up_c (by decide)]
          rw [a2, a46]
          by_cases g : j = n
          · rw [if_pos g, if_pos g]; exact ⟨rfl, l, hl1, hl2, rfl⟩
          · rw [if_neg g, if_neg g]; exact hn3 j (by omega)
  · refine Same.step ⟨-1, ?_, ?_⟩ i0
    · unfold f_X6_write
      by_cases a : x < nI 32
      · rw [if_pos a]
      · rw [if_neg a, if_neg (fun b => g1 ⟨by rw [Int32.lt_iff_toInt_lt] at a; rw [Int32.le_iff_toInt_le]; omega, b⟩)]
    · unfold f_X7_write
      rw [l64 (by decide), l64 (by decide), in_spec, if_neg g1, ob_eq, if_pos rfl]
/-- stood -/
def stq (h : HP) (N r i : Nat) : Bool := decide (h 43 (2 + (r + i) % N) = h 48 i)
def stf (Q : Nat → Bool) : Nat → Nat → Int32 → Int32
  | 0, _, a => a
  | k + 1, i, a => stf Q k (i + 1) (if Q i then a ||| jshl (nI 1) (nI i) else a)
theorem X6_heard_loop {F : Nat} {tw : TW} {N n r : Nat} {h : HP} (hN : h tw.1 4 = nI N) (h0 : 0 < N) (hb : N ≤ 32) (hr : r < N) (hn : n ≤ 8) (h9 : h 0 9 = nI n) (hp : ∀ q, q < 32 → h 15 q = h 43 (2 + q)) (he : ∀ i, i < n → h 29 i = h 48 i) :
    ∀ (k i m : Nat), i + k = n → k < m → f_X6_isHeardFrom_2 F tw (nI r) m (nI i) h = some (bI (allr (stq h N r) i k), h) := by
  intro k
  induction k with
  | zero =>
    intro i m hi hm
    obtain ⟨m, rfl⟩ := succ_of hm
    rw [f_X6_isHeardFrom_2, h9, if_pos (by rw [e_le (by omega) (by omega)]; omega)]
    rfl
  | succ k ih =>
    intro i m hi hm
    obtain ⟨m, rfl⟩ := succ_of hm
    have hlt : (r + i) % N < N := Nat.mod_lt _ h0
    rw [f_X6_isHeardFrom_2, h9, if_neg (by rw [e_le (by omega) (by omega)]; omega), rowBehind_n F hN h0 (by omega) (by omega), ob_eq, if_pos (inb_t (by omega) (by decide)), if_pos (inb_t (by omega) (by decide)), e_ix (by omega), e_ix (by omega), hp _ (by omega), he i (by omega)]
    show _ = some (bI (decide (h 43 (2 + (r + i) % N) = h 48 i) && allr _ (i + 1) k), h)
    by_cases g : h 43 (2 + (r + i) % N) = h 48 i
    · rw [if_pos g, e_add, ih (i + 1) m (by omega) (by omega), decide_eq_true g, Bool.true_and]
    · rw [if_neg g, decide_eq_false g]
      rfl
theorem X7_heard_loop {F : Nat} {N n r : Nat} {x1 : Int32} {k4 : Int32 → Int32 → HP → Option (Int32 × HP)} {h : HP} (hN : h 40 1 = nI N) (h0 : 0 < N) (hb : N ≤ 32) (hr : r < N) (hn : n ≤ 8) (h9 : h 39 13 = nI n) :
    ∀ (k i m : Nat) (d : Bool), i + k = n → k < m → f_X7_stood_19 F k4 m x1 (nI r) (bI d) (nI i) h = k4 (if d && allr (stq h N r) i k then x1 ||| jshl (nI 1) (nI r) else x1) (nI (r + 1)) h := by
  intro k
  induction k with
  | zero =>
    intro i m d hi hm
    obtain ⟨m, rfl⟩ := succ_of hm
    rw [f_X7_stood_19, h9, if_pos (by rw [e_le (by omega) (by omega)]; omega), e_add]
    cases d with
    | false =>
      rw [bI_f, if_pos rfl]
      show k4 (x1 ||| nI 0) _ _ = k4 x1 _ _
      rw [nI_0, Int32.or_zero]
    | true =>
      rw [bI_t, if_neg n10]
      rfl
  | succ k ih =>
    intro i m d hi hm
    obtain ⟨m, rfl⟩ := succ_of hm
    have hlt : (r + i) % N < N := Nat.mod_lt _ h0
    rw [f_X7_stood_19, h9, if_neg (by rw [e_le (by omega) (by omega)]; omega)]
    cases d with
    | false =>
      rw [bI_f, if_pos rfl, e_add, show nI 0 = bI false from rfl, ih (i + 1) m false (by omega) (by omega)]
      rfl
    | true =>
      rw [bI_t, if_neg n10, hN, if_pos (by rw [Ne, e_eq (by omega) (by decide)]; omega), e_add, jrem_n (by omega) h0 (by omega), e_add, if_pos (inb_t (by omega) (by decide)), if_pos (inb_t (by omega) (by decide)), e_ix (by omega), e_ix (by omega), e_add]
      have e : (if h 43 (2 + (r + i) % N) = h 48 i then nI 1 else nI 0) = bI (stq h N r i) := by
        unfold stq
        by_cases g : h 43 (2 + (r + i) % N) = h 48 i
        · rw [if_pos g, decide_eq_true g]; rfl
        · rw [if_neg g, decide_eq_false g]; rfl
      rw [e, ih (i + 1) m _ (by omega) (by omega), Bool.true_and]
      rfl
theorem op_stood {F c : Nat} (hF : 600 ≤ F) {tw : TW} {h : HP} (i : INV c tw h) : Same (f_X6_stood F tw) (f_X7_stood F) h := by
  obtain ⟨-, B, N, R, T, M, ⟨hB1, hB8, hN2, hN32, hR6, hTM⟩, hC, hM, hS, hD, -, -, -, ⟨n, hn8, hn1, hn2, hn3⟩, -⟩ := i
  have a1 : ∀ (k i m : Nat) (a : Int32), i + k = N → k < m → f_X6_stood_4 F tw m a (nI i) h = some (stf (fun r => allr (stq h N r) 0 n) k i a, h) := by
    intro k
    induction k with
    | zero =>
      intro i m a hi hm
      obtain ⟨m, rfl⟩ := succ_of hm
      rw [f_X6_stood_4, hC.2.1, if_pos (by rw [e_le (by omega) (by omega)]; omega)]
      rfl
    | succ k ih =>
      intro i m a hi hm
      obtain ⟨m, rfl⟩ := succ_of hm
      rw [f_X6_stood_4, hC.2.1, if_neg (by rw [e_le (by omega) (by omega)]; omega), f_X6_isHeardFrom, X6_heard_loop hC.2.1 (by omega) hN32 (by omega) hn8 hn1 (fun q hq => pin_of hD hq) hn3 n 0 F (by omega) (by omega), ob_eq, e_add, ih (i + 1) m _ (by omega) (by omega)]
      show _ = some (stf _ k (i + 1) (if allr (stq h N i) 0 n = true then a ||| jshl (nI 1) (nI i) else a), h)
      cases allr (stq h N i) 0 n with
      | false => rw [bI_f, if_pos rfl]; simp
      | true => rw [bI_t, if_neg n10]; simp
  have a2 : ∀ (k i m : Nat) (a : Int32), i + k = N → k < m → f_X7_stood_4 F m a (nI i) h = some (stf (fun r => allr (stq h N r) 0 n) k i a, h) := by
    intro k
    induction k with
    | zero =>
      intro i m a hi hm
      obtain ⟨m, rfl⟩ := succ_of hm
      rw [f_X7_stood_4, hM.2.1, if_pos (by rw [e_le (by omega) (by omega)]; omega)]
      rfl
    | succ k ih =>
      intro i m a hi hm
      obtain ⟨m, rfl⟩ := succ_of hm
      rw [f_X7_stood_4, hM.2.1, if_neg (by rw [e_le (by omega) (by omega)]; omega), show nI 1 = bI true from rfl, X7_heard_loop hM.2.1 (by omega) hN32 (by omega) hn8 hn2 n 0 F true (by omega) (by omega), ih (i + 1) m _ (by omega) (by omega), Bool.true_and]
      rfl
  exact ⟨_, a1 N 0 F (nI 0) (by omega) (by omega), a2 N 0 F (nI 0) (by omega) (by omega)⟩
