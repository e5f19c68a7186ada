/-! ===== winter ===== -/
def drw (s i : Nat) : Nat := (7919 * s + 6151 * i + 1) * (7919 * s + 6151 * i + 1) % 65521 / 8
theorem drw_lt (s i : Nat) : drw s i < 8191 := by
  unfold drw
  have : (7919 * s + 6151 * i + 1) * (7919 * s + 6151 * i + 1) % 65521 < 65521 := Nat.mod_lt _ (by decide)
  omega
theorem jlrem_n {a d : Nat} (ha : a < 9223372036854775808) (h0 : 0 < d) (hd : d < 9223372036854775808) : jlrem (lN a) (lN d) = lN (a % d) := pk_lRem (by exact ha) h0 (by exact hd)
theorem drw_sq {s i : Nat} (hs : s < 10000) (hi : i < 60) : (7919 * s + 6151 * i + 1) * (7919 * s + 6151 * i + 1) < 9223372036854775808 := by
  have h : 7919 * s + 6151 * i + 1 ≤ 100000000 := by omega
  have := Nat.mul_le_mul h h
  omega
theorem drw_l {s i : Nat} (hs : s < 10000) (hi : i < 60) : jlrem (((((lN 7919) * (nI s).toInt64) + ((lN 6151) * (nI i).toInt64)) + (lN 1)) * ((((lN 7919) * (nI s).toInt64) + ((lN 6151) * (nI i).toInt64)) + (lN 1))) (lN 65521) = lN ((7919 * s + 6151 * i + 1) * (7919 * s + 6151 * i + 1) % 65521) := by
  rw [← l64 (show s < 2147483648 by omega), ← l64 (show i < 2147483648 by omega), lN_mul, lN_mul, lN_add, lN_add, lN_mul, jlrem_n (drw_sq hs hi) (by decide) (by decide)]
theorem drw_X {F s i : Nat} (hs : s < 10000) (hi : i < 60) (h : HP) : f_X6_draw F (nI s) (nI i) h = some (nI (drw s i), h) := by
  unfold f_X6_draw drw
  have hm : (7919 * s + 6151 * i + 1) * (7919 * s + 6151 * i + 1) % 65521 < 65521 := Nat.mod_lt _ (by decide)
  rw [drw_l hs hi, pk_lDiv (Nat.lt_trans hm (by decide)) (by decide) (by decide), lN_i]
theorem drw_M {s i : Nat} (hs : s < 10000) (hi : i < 60) : (jlrem (((((lN 7919) * (nI s).toInt64) + ((lN 6151) * (nI i).toInt64)) + (lN 1)) * ((((lN 7919) * (nI s).toInt64) + ((lN 6151) * (nI i).toInt64)) + (lN 1))) (lN 65521)).toInt32 / (nI 8) = nI (drw s i) := by
  unfold drw
  have hm : (7919 * s + 6151 * i + 1) * (7919 * s + 6151 * i + 1) % 65521 < 65521 := Nat.mod_lt _ (by decide)
  rw [drw_l hs hi, lN_i]
  exact pk_div (Nat.lt_trans hm (by decide)) (by decide) (by decide)
def low1 (q : Nat) : Nat := if q = 0 then 0 else q &&& (q - 1)
theorem low1_lt {q : Nat} (h : q < 256) : low1 q < 256 := by
  unfold low1
  split
  · decide
  · exact Nat.lt_of_le_of_lt Nat.and_le_left h
theorem low1_n (q : Nat) : nI q &&& (nI q - nI 1) = nI (low1 q) := by
  unfold low1
  by_cases g : q = 0
  · rw [if_pos g, g]; decide
  · rw [if_neg g, e_sub (by omega), e_and]
def wst (N s : Nat) : Nat → Nat → (Nat → Nat) → Nat → Nat
  | 0, _, p => p
  | k + 1, i, p => wst N s k (i + 1) (updN p (drw s i % N) (low1 (p (drw s i % N))))
def wends (N : Nat) (w : Nat) (p : Nat → Nat) : Nat := if w = 0 then sg (fun r => popc (p r)) 0 N else sg (fun r => if p r = 0 then 1 else 0) 0 N
theorem wX_end {F : Nat} {tw : TW} {N w : Nat} {x1 x2 : Int32} {p : Nat → Nat} {h : HP} (hN : N ≤ 32) (hw : w < 2) (hN4 : h tw.1 4 = nI N) (hp : ∀ r, r < 32 → h 20 r = nI (p r) ∧ p r < 256) :
    ∀ (k r n a b : Nat), r + k = N → k < n → f_X6_winter_109 F tw x1 x2 (nI w) n (nI a) (nI b) (nI r) h = some (nI (if w = 0 then a + sg (fun r => popc (p r)) r k else b + sg (fun r => if p r = 0 then 1 else 0) r k), h) := by
  intro k
  induction k with
  | zero =>
    intro r n a b hr hn
    obtain ⟨n, rfl⟩ := succ_of hn
    rw [f_X6_winter_109, hN4, if_pos (by rw [e_le (by omega) (by omega)]; omega), i_eq (by omega) (by decide)]
    by_cases g : w = 0
    · rw [if_pos g, if_pos g]; rfl
    · rw [if_neg g, if_neg g]; rfl
  | succ k ih =>
    intro r n a b hr hn
    obtain ⟨n, rfl⟩ := succ_of hn
    obtain ⟨q1, q2⟩ := hp r (by omega)
    rw [f_X6_winter_109, hN4, if_neg (by rw [e_le (by omega) (by omega)]; omega), if_pos (inb_t (by omega) (by decide)), e_ix (by omega), q1, bc_spec F q2, ob_eq, q1, i_eq (by omega) (by decide), ite_n, e_add, e_add, e_add, ih (r + 1) n _ _ (by omega) (by omega), Nat.add_assoc, Nat.add_assoc]
    rfl
theorem wM_end {F : Nat} (hF : 600 ≤ F) {N w : Nat} {x1 x2 : Int32} {p : Nat → Nat} {h : HP} (hN : N ≤ 32) (hw : w < 2) (hN4 : h 40 1 = nI N) (hp : ∀ r, r < 32 → h 52 (2 + r) = nI (p r) ∧ p r < 256) :
    ∀ (k r n a b : Nat), r + k = N → k < n → f_X7_winter_135 F x1 x2 (nI w) n (nI a) (nI b) (nI r) h = some (nI (if w = 0 then a + sg (fun r => popc (p r)) r k else b + sg (fun r => if p r = 0 then 1 else 0) r k), h) := by
  intro k
  induction k with
  | zero =>
    intro r n a b hr hn
    obtain ⟨n, rfl⟩ := succ_of hn
    rw [f_X7_winter_135, hN4, if_pos (by rw [e_le (by omega) (by omega)]; omega), i_eq (by omega) (by decide)]
    by_cases g : w = 0
    · rw [if_pos g, if_pos g]; rfl
    · rw [if_neg g, if_neg g]; rfl
  | succ k ih =>
    intro r n a b hr hn
    obtain ⟨n, rfl⟩ := succ_of hn
    obtain ⟨q1, q2⟩ := hp r (by omega)
    rw [f_X7_winter_135, hN4, if_neg (by rw [e_le (by omega) (by omega)]; omega), e_add, if_pos (inb_t (by omega) (by decide)), e_ix (by omega), q1, bits_spec hF q2, ob_eq, q1, i_eq (by omega) (by decide), ite_n, e_add, e_add, e_add, ih (r + 1) n _ _ (by omega) (by omega), Nat.add_assoc, Nat.add_assoc]
    rfl
theorem wX_go {F : Nat} {tw : TW} {N s K : Nat} {x3 : Int32} (ht : tw.1 = 4 ∨ tw.1 = 9) (h2 : 2 ≤ N) (hN : N ≤ 32) (hs : s < 10000) (hK : K ≤ 60) :
    ∀ (k i n : Nat) (p : Nat → Nat) (h : HP), i + k = K → k < n → h tw.1 4 = nI N → (∀ r, r < 32 → h 20 r = nI (p r) ∧ p r < 256) →
      ∃ h', f_X6_winter_47 F tw (nI s) (nI K) x3 n (nI i) h = f_X6_winter_109 F tw (nI s) (nI K) x3 F (nI 0) (nI 0) (nI 0) h' ∧ (∀ r, r < 32 → h' 20 r = nI (wst N s k i p r) ∧ wst N s k i p r < 256) ∧ ∀ z, z ≠ 20 → h' z = h z := by
  intro k
  induction k with
  | zero =>
    intro i n p h hi hn hN4 hp
    obtain ⟨n, rfl⟩ := succ_of hn
    refine ⟨h, ?_, hp, fun _ _ => rfl⟩
    rw [f_X6_winter_47, if_pos (by rw [e_le (by omega) (by omega)]; omega)]
  | succ k ih =>
    intro i n p h hi hn hN4 hp
    obtain ⟨n, rfl⟩ := succ_of hn
    have hd := drw_lt s i
    have hm : drw s i % N < N := Nat.mod_lt _ (by omega)
    obtain ⟨q1, q2⟩ := hp (drw s i % N) (by omega)
    obtain ⟨h', f1, f2, f3⟩ := ih (i + 1) n (updN p (drw s i % N) (low1 (p (drw s i % N)))) (up h 20 (drw s i % N) (nI (low1 (p (drw s i % N))))) (by omega) (by omega) (by rw [up_c (by omega)]; exact hN4) (fun r hr => by
      unfold updN
      by_cases z : r = drw s i % N
      · rw [z, if_pos rfl, up_s]; exact ⟨rfl, low1_lt q2⟩
      · rw [if_neg z, up_n z]; exact hp r hr)
    refine ⟨h', ?_, f2, fun z hz => by rw [f3 z hz, up_c hz]⟩
    rw [f_X6_winter_47, if_neg (by rw [e_le (by omega) (by omega)]; omega), drw_X hs (by omega), ob_eq, rowBehind_n F hN4 (by omega) (by omega) (by omega), ob_eq, Nat.zero_add, if_pos (inb_t (by omega) (by decide)), e_ix (by omega), q1, low1_n, e_add, f1]
theorem wM_go {F : Nat} {N s K : Nat} {x3 : Int32} (h2 : 2 ≤ N) (hN : N ≤ 32) (hs : s < 10000) (hK : K ≤ 60) :
    ∀ (k i n : Nat) (p : Nat → Nat) (h : HP), i + k = K → k < n → h 40 1 = nI N → (∀ r, r < 32 → h 52 (2 + r) = nI (p r) ∧ p r < 256) →
      ∃ h', f_X7_winter_49 F (nI s) (nI K) x3 n (nI i) h = f_X7_winter_135 F (nI s) (nI K) x3 F (nI 0) (nI 0) (nI 0) h' ∧ (∀ r, r < 32 → h' 52 (2 + r) = nI (wst N s k i p r) ∧ wst N s k i p r < 256) ∧ ∀ z, z ≠ 52 → h' z = h z := by
  intro k
  induction k with
  | zero =>
    intro i n p h hi hn hN4 hp
    obtain ⟨n, rfl⟩ := succ_of hn
    refine ⟨h, ?_, hp, fun _ _ => rfl⟩
    rw [f_X7_winter_49, if_pos (by rw [e_le (by omega) (by omega)]; omega)]
  | succ k ih =>
    intro i n p h hi hn hN4 hp
    obtain ⟨n, rfl⟩ := succ_of hn
    have hd := drw_lt s i
    have hm : drw s i % N < N := Nat.mod_lt _ (by omega)
    obtain ⟨q1, q2⟩ := hp (drw s i % N) (by omega)
    obtain ⟨h', f1, f2, f3⟩ := ih (i + 1) n (updN p (drw s i % N) (low1 (p (drw s i % N)))) (up h 52 (2 + drw s i % N) (nI (low1 (p (drw s i % N))))) (by omega) (by omega) (by rw [up_c (by decide)]; exact hN4) (fun r hr => by
      unfold updN
      by_cases z : r = drw s i % N
      · rw [z, if_pos rfl, up_s]; exact ⟨rfl, low1_lt q2⟩
      · rw [if_neg z, up_n (by omega)]; exact hp r hr)
    refine ⟨h', ?_, f2, fun z hz => by rw [f3 z hz, up_c hz]⟩
    rw [f_X7_winter_49, if_neg (by rw [e_le (by omega) (by omega)]; omega), hN4, if_pos (by rw [Ne, e_eq (by omega) (by decide)]; omega), drw_M hs (by omega), jrem_n (by omega) (by omega) (by omega), e_add, if_pos (inb_t (by omega) (by decide)), e_ix (by omega), q1, low1_n, e_add, f1]
theorem le_n_of {x : Int32} {n : Nat} (hn : n < 2147483647) (h : nI (n + 1) ≤ x) : nI n < x := by
  have h1 : nI n < nI (n + 1) := by rw [e_lt (by omega) (by omega)]; omega
  exact Int32.lt_of_lt_of_le h1 h
theorem op_winter {F c : Nat} (hF : 600 ≤ F) (hc : c < 900000) {tw : TW} {h : HP} (i : INV c tw h) (x y z : Int32) : Step (f_X6_winter F tw x y z) (f_X7_winter F x y z) c tw h := by
  have i0 := i
  obtain ⟨hK, B, N, R, T, M, hT, hC, hMt, hS, hD, -, -, -, -, -⟩ := i
  obtain ⟨hB1, hB8, hN2, hN32, hR6, hTM⟩ := hT
  have hKc := hK.c
  have h256 := p2le hB8
  have bad : ¬ (nI 0 ≤ x ∧ x ≤ nI 9999 ∧ nI 1 ≤ y ∧ y ≤ nI 60 ∧ nI 0 ≤ z ∧ z ≤ nI 1) → Step (f_X6_winter F tw x y z) (f_X7_winter F x y z) c tw h := by
    intro hb
    refine Same.step ⟨-1, ?_, ?_⟩ i0
    · unfold f_X6_winter
      by_cases g1 : nI 0 ≤ x
      · rw [if_neg (Int32.not_lt.mpr g1)]
        by_cases g2 : x ≤ nI 9999
        · rw [if_neg (Int32.not_lt.mpr g2)]
          by_cases g3 : nI 1 ≤ y
          · rw [if_neg (Int32.not_lt.mpr g3)]
            by_cases g4 : y ≤ nI 60
            · rw [if_neg (Int32.not_lt.mpr g4)]
              by_cases g5 : nI 0 ≤ z
              · rw [if_neg (Int32.not_lt.mpr g5), if_neg (fun g6 => hb ⟨g1, g2, g3, g4, g5, g6⟩)]
              · rw [if_pos (Int32.not_le.mp g5)]
            · rw [if_pos (Int32.not_le.mp g4)]
          · rw [if_pos (Int32.not_le.mp g3)]
        · rw [if_pos (Int32.not_le.mp g2)]
      · rw [if_pos (Int32.not_le.mp g1)]
    · unfold f_X7_winter f_X7_isTwo
      rw [l64 (show 0 < 2147483648 by decide), l64 (show 1 < 2147483648 by decide), l64 (show 9999 < 2147483648 by decide), l64 (show 60 < 2147483648 by decide), in_spec, ob_eq]
      by_cases g1 : nI 0 ≤ x ∧ x ≤ nI 9999
      · rw [if_pos g1, if_neg n10, in_spec, ob_eq]
        by_cases g2 : nI 1 ≤ y ∧ y ≤ nI 60
        · rw [if_pos g2, if_neg n10, in_spec, ob_eq, if_neg (show ¬ (nI 0 ≤ z ∧ z ≤ nI 1) from fun g => hb ⟨g1.1, g1.2, g2.1, g2.2, g.1, g.2⟩), guard01 (Or.inl rfl), ob_eq, if_pos rfl]
        · rw [if_neg g2, if_pos rfl]
      · rw [if_neg g1, if_pos rfl]
  rcases cas x (n := 10000) (by decide) with ⟨s, hs, rfl⟩ | hx
  · rcases cas y (n := 61) (by decide) with ⟨K, hK60, rfl⟩ | hy
    · by_cases hK0 : K = 0
      · exact bad (fun g => absurd g.2.2.1 (by rw [e_le (by decide) (by omega)]; omega))
      rcases cas z (n := 2) (by decide) with ⟨w, hw, rfl⟩ | hz
      · clear bad
        obtain ⟨a, a1, a2, a3⟩ := toAD hB8 (show c < 1000000 by omega) hS hD
        obtain ⟨h3, p1, p2, p3⟩ := copy_n F (h := h)
        have c19 := a1.dv p2
        obtain ⟨h4, r1, r2, r3⟩ := wX_go (F := F) (tw := tw) (x3 := nI w) hKc hN2 hN32 hs (show K ≤ 60 by omega) K 0 F a.2.2.1 h3 (by omega) (by omega) (by rw [p3 tw.1 (by omega)]; exact hC.2.1) (fun r hr => ⟨c19.2.2.1 r hr, by have := a3.2.2.2 r hr; omega⟩)
        have fr4 : ∀ q, q < 19 ∨ 23 < q → h4 q = h q := fun q hq => by rw [r3 q (by omega), p3 q hq]
        obtain ⟨g1, u1, u2, u3⟩ := copies_n hF (a := 43) (b := 52) (x := 0) (y := 0) (h := h4) (by decide) (by decide) (by decide) (by decide) (by decide)
        have m52 : MD 52 g1 a := a2.cp (fun j hj => by rw [u2 j, if_pos (by omega), fr4 43 (by decide)]; congr 1; omega)
        have e40 : g1 40 = h 40 := by rw [u3 40 (by decide), fr4 40 (by decide)]
        obtain ⟨g2, v1, v2, v3⟩ := wM_go (F := F) (x3 := nI w) hN2 hN32 hs (show K ≤ 60 by omega) K 0 F a.2.2.1 g1 (by omega) (by omega) (by rw [e40]; exact hMt.2.1) (fun r hr => ⟨m52.2.2.1 r hr, by have := a3.2.2.2 r hr; omega⟩)
        refine ⟨nI (if w = 0 then 0 + sg (fun r => popc (wst N s K 0 a.2.2.1 r)) 0 N else 0 + sg (fun r => if wst N s K 0 a.2.2.1 r = 0 then 1 else 0) 0 N), h4, g2, ?_, ?_, (i0.ess (ess_tried hK (fun q hq hq2 => by rw [v3 q hq2, u3 q hq2, fr4 q hq]))).mono (Nat.le_succ c)⟩
        · unfold f_X6_winter
          rw [if_neg (by rw [e_lt (by omega) (by decide)]; omega), if_neg (by rw [e_lt (by decide) (by omega)]; omega), if_neg (by rw [e_lt (by omega) (by decide)]; omega), if_neg (by rw [e_lt (by decide) (by omega)]; omega), if_neg (by rw [e_lt (by omega) (by decide)]; omega), if_pos (by rw [e_le (by omega) (by decide)]; omega), p1, obv_eq, r1, wX_end hN32 hw (by rw [fr4 tw.1 (by omega)]; exact hC.2.1) r2 N 0 F 0 0 (by omega) (by omega)]
        · unfold f_X7_winter f_X7_isTwo
          rw [l64 (show 0 < 2147483648 by decide), l64 (show 1 < 2147483648 by decide), l64 (show 9999 < 2147483648 by decide), l64 (show 60 < 2147483648 by decide), in_spec, ob_eq, if_pos (show nI 0 ≤ nI s ∧ nI s ≤ nI 9999 from ⟨by rw [e_le (by decide) (by omega)]; omega, by rw [e_le (by omega) (by decide)]; omega⟩), if_neg n10, in_spec, ob_eq, if_pos (show nI 1 ≤ nI K ∧ nI K ≤ nI 60 from ⟨by rw [e_le (by decide) (by omega)]; omega, by rw [e_le (by omega) (by decide)]; omega⟩), if_neg n10, in_spec, ob_eq, if_pos (show nI 0 ≤ nI w ∧ nI w ≤ nI 1 from ⟨by rw [e_le (by decide) (by omega)]; omega, by rw [e_le (by omega) (by decide)]; omega⟩), guard01 (Or.inr rfl), ob_eq, if_neg n10, u1, obv_eq, v1, wM_end hF hN32 hw (by rw [v3 40 (by decide), e40]; exact hMt.2.1) v2 N 0 F 0 0 (by omega) (by omega)]
      · exact bad (fun g => by
          rcases hz with q | q
          · exact Int32.not_lt.mpr g.2.2.2.2.1 q
          · exact absurd (Int32.le_trans q g.2.2.2.2.2) (by decide))
    · exact bad (fun g => by
        rcases hy with q | q
        · exact absurd (Int32.le_trans g.2.2.1 (Int32.le_of_lt q)) (by decide)
        · exact absurd (Int32.le_trans q g.2.2.2.1) (by decide))
  · exact bad (fun g => by
      rcases hx with q | q
      · exact Int32.not_lt.mpr g.1 q
      · exact absurd (Int32.le_trans q g.2.1) (by decide))
