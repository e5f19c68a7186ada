/-! ===== turn, turnBack, pin, shift, undo, keep, back ===== -/
theorem CS.congr {R : Nat} {s s' m m' : Nat → Int32} (h : CS R s m) (hs : ∀ j, j < 66 → s' j = s j) (hm : ∀ j, j < 66 → m' j = m j) : CS R s' m' := by
  refine ⟨fun j hj hj2 => by rw [hs j hj, hm j hj]; exact h.1 j hj hj2, fun j hj => ?_⟩
  rw [hs (34 + j) (by omega), hm (34 + j) (by omega)]
  exact h.2 j hj
theorem SOK.congr {B N c : Nat} {m m' : Nat → Int32} (h : SOK B N c m) (hm : ∀ j, j < 66 → m' j = m j) : SOK B N c m' := by
  obtain ⟨⟨la, a1, a2⟩, ⟨tu, b1, b2, b3⟩, d⟩ := h
  refine ⟨⟨la, a1, by rw [hm 0 (by decide)]; exact a2⟩, ⟨tu, b1, by rw [hm 1 (by decide)]; exact b2, fun j hj => by rw [hm (34 + j) (by omega)]; exact b3 j hj⟩, fun r hr => by rw [hm (2 + r) (by omega)]; exact d r hr⟩
theorem mod_ne {P n m : Nat} (hn : n < P) (h1 : 1 ≤ m) (hm : m < P) : (n + m) % P ≠ n := by
  by_cases g : n + m < P
  · rw [Nat.mod_eq_of_lt g]; omega
  · rw [Nat.mod_eq_sub_mod (by omega), Nat.mod_eq_of_lt (by omega)]; omega
theorem push_n {R B N c P sf mb k nx : Nat} {h g : HP} (hP : 2 ≤ P) (hk : k ≤ P) (hnx : nx < P) (hsl : ∀ i, i < k → CS R (fun j => h (sf + 1) (66 * ((nx + P - k + i) % P) + j)) (fun j => h mb (66 * i + j)) ∧ SOK B N c (fun j => h mb (66 * i + j))) (hcs : CS R (dv h 14) (h 43)) (hso : SOK B N c (h 43))
    (g0 : g sf 0 = nI P) (g2 : g sf 2 = nI ((nx + 1) % P)) (g3 : g sf 3 = nI (min (k + 1) P)) (gc : ∀ i, g (sf + 1) i = if 66 * nx ≤ i ∧ i < 66 * nx + 66 then dv h 14 (i - 66 * nx) else h (sf + 1) i)
    (gm1 : k < P → (∀ i, i < k → ∀ j, j < 66 → g mb (66 * i + j) = h mb (66 * i + j)) ∧ ∀ j, j < 66 → g mb (66 * k + j) = h 43 j)
    (gm2 : k = P → (∀ i, i + 1 < P → ∀ j, j < 66 → g mb (66 * i + j) = h mb (66 * (i + 1) + j)) ∧ ∀ j, j < 66 → g mb (66 * (P - 1) + j) = h 43 j) : SR R B N c P sf mb (min (k + 1) P) g := by
  have hlt : (nx + 1) % P < P := Nat.mod_lt _ (by omega)
  have cnew : ∀ j, j < 66 → g (sf + 1) (66 * nx + j) = dv h 14 j := fun j hj => by
    rw [gc, if_pos (by omega), show 66 * nx + j - 66 * nx = j by omega]
  have cold : ∀ s, s < P → s ≠ nx → ∀ j, j < 66 → g (sf + 1) (66 * s + j) = h (sf + 1) (66 * s + j) := fun s hs hne j hj => by
    rw [gc, if_neg]
    rcases Nat.lt_or_ge s nx with z | z
    · have := Nat.mul_le_mul_left 66 (show s + 1 ≤ nx by omega); omega
    · have := Nat.mul_le_mul_left 66 (show nx + 1 ≤ s by omega); omega
  refine ⟨Nat.min_le_right _ _, g0, g3, (nx + 1) % P, hlt, g2, fun i hi => ?_⟩
  rcases Nat.lt_or_ge k P with z | z
  · rw [Nat.min_eq_left (show k + 1 ≤ P by omega)] at hi ⊢
    obtain ⟨m1, m2⟩ := gm1 z
    have es : ((nx + 1) % P + P - (k + 1) + i) % P = (nx + P - k + i) % P := by
      rw [show (nx + 1) % P + P - (k + 1) + i = (nx + 1) % P + (P - (k + 1) + i) by omega, Nat.mod_add_mod, show nx + 1 + (P - (k + 1) + i) = nx + P - k + i by omega]
    rw [es]
    rcases Nat.lt_or_ge i k with y | y
    · have hs : (nx + P - k + i) % P < P := Nat.mod_lt _ (by omega)
      have hne : (nx + P - k + i) % P ≠ nx := by
        rw [show nx + P - k + i = nx + (P - k + i) by omega]
        exact mod_ne hnx (by omega) (by omega)
      obtain ⟨q1, q2⟩ := hsl i y
      exact ⟨q1.congr (fun j hj => cold _ hs hne j hj) (fun j hj => m1 i y j hj), q2.congr (fun j hj => m1 i y j hj)⟩
    · have hik : i = k := by omega
      subst hik
      have hs : (nx + P - i + i) % P = nx := by rw [show nx + P - i + i = nx + P by omega, Nat.add_mod_right, Nat.mod_eq_of_lt hnx]
      rw [hs]
      exact ⟨hcs.congr (fun j hj => cnew j hj) (fun j hj => m2 j hj), hso.congr (fun j hj => m2 j hj)⟩
  · have hkP : k = P := by omega
    subst hkP
    rw [Nat.min_eq_right (show k ≤ k + 1 by omega)] at hi ⊢
    obtain ⟨m1, m2⟩ := gm2 rfl
    have es : ((nx + 1) % k + k - k + i) % k = (nx + 1 + i) % k := by
      rw [show (nx + 1) % k + k - k + i = (nx + 1) % k + i by omega, Nat.mod_add_mod]
    rw [es]
    rcases Nat.lt_or_ge (i + 1) k with y | y
    · have hs : (nx + 1 + i) % k < k := Nat.mod_lt _ (by omega)
      have hne : (nx + 1 + i) % k ≠ nx := by
        rw [show nx + 1 + i = nx + (1 + i) by omega]
        exact mod_ne hnx (by omega) (by omega)
      obtain ⟨q1, q2⟩ := hsl (i + 1) y
      rw [show nx + k - k + (i + 1) = nx + 1 + i by omega] at q1
      exact ⟨q1.congr (fun j hj => cold _ hs hne j hj) (fun j hj => m1 i y j hj), q2.congr (fun j hj => m1 i y j hj)⟩
    · have hik : i = k - 1 := by omega
      have hs : (nx + 1 + i) % k = nx := by rw [show nx + 1 + i = nx + k by omega, Nat.add_mod_right, Nat.mod_eq_of_lt hnx]
      rw [hs, hik]
      exact ⟨hcs.congr (fun j hj => cnew j hj) (fun j hj => m2 j hj), hso.congr (fun j hj => m2 j hj)⟩
theorem pop_n {R B N c P sf mb k nx : Nat} {h g : HP} (hP : 2 ≤ P) (hk : k ≤ P) (h1 : 1 ≤ k) (hnx : nx < P) (hsl : ∀ i, i < k → CS R (fun j => h (sf + 1) (66 * ((nx + P - k + i) % P) + j)) (fun j => h mb (66 * i + j)) ∧ SOK B N c (fun j => h mb (66 * i + j)))
    (g0 : g sf 0 = nI P) (g2 : g sf 2 = nI ((nx + P - 1) % P)) (g3 : g sf 3 = nI (k - 1)) (gc : g (sf + 1) = h (sf + 1)) (gm : g mb = h mb) : SR R B N c P sf mb (k - 1) g := by
  have hlt : (nx + P - 1) % P < P := Nat.mod_lt _ (by omega)
  refine ⟨by omega, g0, g3, (nx + P - 1) % P, hlt, g2, fun i hi => ?_⟩
  rw [gc, gm]
  have es : ((nx + P - 1) % P + P - (k - 1) + i) % P = (nx + P - k + i) % P := by
    rw [show (nx + P - 1) % P + P - (k - 1) + i = (nx + P - 1) % P + (P - (k - 1) + i) by omega, Nat.mod_add_mod, show nx + P - 1 + (P - (k - 1) + i) = nx + P - k + i + P by omega, Nat.add_mod_right]
  rw [es]
  exact hsl i (by omega)
theorem INV.new {c' B N R : Nat} {T M : Nat → Nat} {tw : TW} {h g : HP} (hK : TWK tw) (hT : TF B N R T M) (hC : CTw B N R T M tw.1 h) (hM : MTw B N R T M h) (hW : WT B h) (hH : HD h) (hX : TX h) (qt : ∀ j, j < 4 → g (tw.1 + j) = h (tw.1 + j)) (q : ∀ z, z ∈ ([2, 28, 29, 40, 46, 47, 48] : List Nat) → g z = h z) (q0 : g 0 9 = h 0 9) (q1 : g 1 1 = h 1 1) (q10 : g 39 10 = h 39 10) (q13 : g 39 13 = h 39 13)
    (hS : SOK B N c' (g 43)) (hD : CS R (dv g 14) (g 43)) (hU : ∃ k, SR R B N c' 8 24 44 k g ∧ g 39 6 = nI k) (hV : ∃ k, SR R B N c' 2 26 45 k g ∧ g 39 8 = nI k) : INV c' tw g :=
  ⟨hK, B, N, R, T, M, hT, hC.re qt, hM.re (q 40 (by decide)), hS, hD, hU, hV, hW.re (q 28 (by decide)) (q 47 (by decide)), hH.re q0 q13 (q 29 (by decide)) (q 48 (by decide)), hX.re q1 q10 (q 2 (by decide)) (q 46 (by decide))⟩
theorem CD.re {R d : Nat} {h g : HP} {a : ADr} (hC : CD R d h a) (e : ∀ j, j < 5 → g (d + j) = h (d + j)) : CD R d g a := by
  have e0 : g d = h d := e 0 (by decide)
  unfold CD
  rw [e0, e 1 (by decide), e 2 (by decide), e 3 (by decide), e 4 (by decide)]
  exact hC
theorem MD.re {t : Nat} {h g : HP} {a : ADr} (hM : MD t h a) (e : g t = h t) : MD t g a := by unfold MD; rw [e]; exact hM
/-- put and remember: what stands behind them -/
theorem both_put {F : Nat} (hF : 600 ≤ F) {R B N c k : Nat} {h : HP} (hU : SR R B N c 8 24 44 k h) (hU' : h 39 6 = nI k) (hS : SOK B N c (h 43)) (hD : CS R (dv h 14) (h 43)) :
    ∃ h1, f_X2_put F 24 14 h = some h1 ∧ (∀ z, z ≠ 24 → z ≠ 25 → h1 z = h z) ∧ ∀ h2 : HP, (∀ z, 39 ≤ z → h2 z = h z) → ∃ h3, f_X7_remember F h2 = some h3 ∧ (∀ z, z ≠ 44 → z ≠ 39 → h3 z = h2 z) ∧ (∀ j, j ≠ 6 → h3 39 j = h 39 j) ∧
      ∀ g : HP, g 24 = h1 24 → g 25 = h1 25 → g 44 = h3 44 → g 39 6 = h3 39 6 → ∃ k', SR R B N c 8 24 44 k' g ∧ g 39 6 = nI k' := by
  obtain ⟨hk, e0, e3, nx, hnx, e2, hsl⟩ := hU
  obtain ⟨h1, p1, p2, p3, p4, p5, p6⟩ := put_n F (Or.inl ⟨rfl, rfl⟩) hnx hk e0 e2 e3
  refine ⟨h1, p1, p6, fun h2 hh2 => ?_⟩
  obtain ⟨h3, r1, r2, r3, r4, r5⟩ := remember_n hF (h := h2) hk (by rw [hh2 39 (by decide)]; exact hU')
  refine ⟨h3, r1, r4, fun j hj => by rw [r5 j hj, hh2 39 (by decide)], fun g g24 g25 g44 g39 => ⟨min (k + 1) 8, ?_, by rw [g39]; exact r2⟩⟩
  refine push_n (h := h) (by decide) hk hnx hsl hD hS (by rw [g24]; exact p2) (by rw [g24]; exact p3) (by rw [g24]; exact p4) (fun i => by rw [g25]; exact p5 i) (fun hk8 => ⟨fun i hi j hj => ?_, fun j hj => ?_⟩) (fun hk8 => ⟨fun i hi j hj => ?_, fun j hj => ?_⟩)
  · rw [g44, r3, Nat.min_eq_left (show k ≤ 7 by omega), if_neg (by have := Nat.mul_le_mul_left 66 (show i + 1 ≤ k by omega); omega), if_neg (by omega), hh2 44 (by decide)]
  · rw [g44, r3, Nat.min_eq_left (show k ≤ 7 by omega), if_pos (by omega), hh2 43 (by decide), show 66 * k + j - 66 * k = j by omega]
  · rw [g44, r3, hk8]
    show (if 66 * 7 ≤ 66 * i + j ∧ 66 * i + j < 66 * 7 + 66 then _ else _) = _
    rw [if_neg (by omega), if_pos (by omega), hh2 44 (by decide)]
    congr 1; omega
  · rw [g44, r3, hk8]
    show (if 66 * 7 ≤ 66 * 7 + j ∧ 66 * 7 + j < 66 * 7 + 66 then h2 43 (66 * 7 + j - 66 * 7) else _) = _
    rw [if_pos (by omega), hh2 43 (by decide), show 66 * 7 + j - 66 * 7 = j by omega]
/-- a call that changes the drum, behind put and remember -/
theorem drum_core {F c : Nat} (hF : 600 ≤ F) (hc : c < 900000) {tw : TW} {h : HP} (i : INV c tw h) (fX : HP → Option (Int32 × HP)) (fM : HP → Option (Int32 × HP))
    (hq : ∀ (B N R : Nat) (T M : Nat → Nat) (a : ADr), TF B N R T M → CTw B N R T M tw.1 h → MTw B N R T M h → CD R 14 h a → AOK B N c a → ∃ (r : Int32) (a' : ADr), AOK B N (c + 1) a' ∧
      (∀ h1 : HP, CTw B N R T M tw.1 h1 → CD R 14 h1 a → ∃ h', fX h1 = some (r, h') ∧ CD R 14 h' a' ∧ ∀ z, (z < 14 ∨ 18 < z) → z ≠ 20 → h' z = h1 z) ∧
      (∀ h1 : HP, MTw B N R T M h1 → MD 43 h1 a → ∃ h', fM h1 = some (r, h') ∧ MD 43 h' a' ∧ ∀ z, z ≠ 43 → z ≠ 51 → h' z = h1 z)) :
    Step (fun h => obv (f_X2_put F 24 14 h) fX) (fun h => obv (f_X7_remember F h) fM) c tw h := by
  obtain ⟨hK, B, N, R, T, M, hT, hC, hMt, hS, hD, ⟨k1, hU, hU'⟩, ⟨k2, hV, hV'⟩, hW, hH, hTX⟩ := i
  have hKc := hK.c
  obtain ⟨a, a1, a2, a3⟩ := toAD hT.2.1 (by omega) hS hD
  obtain ⟨h1, p1, p2, p3⟩ := both_put hF hU hU' hS hD
  obtain ⟨r, a', hA', hX, hM⟩ := hq B N R T M a hT hC hMt a1 a3
  obtain ⟨h2, x1, x2, x3⟩ := hX h1 (hC.re (fun j hj => p2 _ (by omega) (by omega))) (a1.re (fun j hj => p2 _ (by omega) (by omega)))
  obtain ⟨h3, r1, r2, r3, r4⟩ := p3 h2 (fun z hz => by rw [x3 z (by omega) (by omega), p2 z (by omega) (by omega)])
  have e3 : ∀ z, 39 < z → z ≠ 44 → h3 z = h z := fun z hz hz2 => by rw [r2 z hz2 (by omega), x3 z (by omega) (by omega), p2 z (by omega) (by omega)]
  obtain ⟨h4, m1, m2, m3⟩ := hM h3 (hMt.re (e3 40 (by decide) (by decide))) (a2.re (e3 43 (by decide) (by decide)))
  have low : ∀ z, z < 39 → h4 z = h2 z := fun z hz => by rw [m3 z (by omega) (by omega), r2 z (by omega) (by omega)]
  have frm : ∀ z, z < 39 → (z < 14 ∨ 18 < z) → z ≠ 20 → z ≠ 24 → z ≠ 25 → h4 z = h z := fun z hz z1 z0 z2 z3 => by rw [low z hz, x3 z z1 z0, p2 z z2 z3]
  have hi : ∀ z, 39 < z → z ≠ 44 → z ≠ 43 → z ≠ 51 → h4 z = h z := fun z z1 z2 z3 z4 => by rw [m3 z z3 z4, e3 z z1 z2]
  have e39 : h4 39 = h3 39 := m3 39 (by decide) (by decide)
  obtain ⟨hS', hD'⟩ := ofAD (by omega) (x2.re (fun j hj => low _ (by omega))) m2 hA'
  refine ⟨_, h2, h4, by show obv _ _ = _; rw [p1, obv_eq, x1], by show obv _ _ = _; rw [r1, obv_eq, m1], ?_⟩
  refine INV.new hK hT hC hMt hW hH hTX (fun j hj => frm _ (by omega) (by omega) (by omega) (by omega) (by omega)) (fun z hz => ?_) (by rw [frm 0 (by decide) (by decide) (by decide) (by decide) (by decide)]) (by rw [frm 1 (by decide) (by decide) (by decide) (by decide) (by decide)]) (by rw [e39, r3 10 (by decide)]) (by rw [e39, r3 13 (by decide)]) hS' hD' ?_ ⟨k2, (hV.re (frm 26 (by decide) (by decide) (by decide) (by decide) (by decide)) (frm 27 (by decide) (by decide) (by decide) (by decide) (by decide)) (hi 45 (by decide) (by decide) (by decide) (by decide))).mono (Nat.le_succ c), by rw [e39, r3 8 (by decide)]; exact hV'⟩
  · simp only [List.mem_cons, List.not_mem_nil, or_false] at hz
    rcases hz with rfl | rfl | rfl | rfl | rfl | rfl | rfl
    · exact frm 2 (by decide) (by decide) (by decide) (by decide) (by decide)
    · exact frm 28 (by decide) (by decide) (by decide) (by decide) (by decide)
    · exact frm 29 (by decide) (by decide) (by decide) (by decide) (by decide)
    · exact hi 40 (by decide) (by decide) (by decide) (by decide)
    · exact hi 46 (by decide) (by decide) (by decide) (by decide)
    · exact hi 47 (by decide) (by decide) (by decide) (by decide)
    · exact hi 48 (by decide) (by decide) (by decide) (by decide)
  · obtain ⟨k', s1, s2⟩ := r4 h4 (by rw [low 24 (by decide), x3 24 (by decide) (by decide)]) (by rw [low 25 (by decide), x3 25 (by decide) (by decide)]) (m3 44 (by decide) (by decide)) (by rw [e39])
    exact ⟨k', s1.mono (Nat.le_succ c), s2⟩
theorem nxr_lt {N la : Nat} (h2 : 2 ≤ N) (h : la ≤ N) : nxr N la < N := by unfold nxr; split <;> omega
theorem pvr_lt {N la : Nat} (h2 : 2 ≤ N) (h : la ≤ N) : pvr N la < N := by unfold pvr; split <;> omega
theorem op_turn {F c : Nat} (hF : 600 ≤ F) (hc : c < 900000) {tw : TW} {h : HP} (i : INV c tw h) : Step (f_X6_turn F tw) (f_X7_turn F) c tw h := by
  have hKc := i.1.c
  refine drum_core hF hc i (fun h1 => ob (f_X0_turnOn F 14 tw.1 h1) (fun v5 h3 => some (v5, h3))) (fun h1 => ob (f_X7_comesNext F 43 h1) (fun v5 h3 => some (v5, h3))) ?_
  intro B N R T M a hT _ _ _ hA
  obtain ⟨hB1, hB8, hN2, hN32, hR6, hTM⟩ := hT
  refine ⟨nI (rowA B R M (nxr N a.1) a).1, (rowA B R M (nxr N a.1) a).2, AOK_row (R := R) (M := M) hA (Nat.le_of_lt (nxr_lt hN2 hA.1)), fun h1 hC hD => ?_, fun h1 hC hD => ?_⟩
  · obtain ⟨h', e1, e2, e3⟩ := X0_turnOn_n hF (t := tw.1) (by omega) hB8 hR6 (show c < 1000000 by omega) (by omega) hN32 (fun b hb => (hTM b hb).2) hC.1 hC.2.1 hC.2.2.1 (fun b hb => (hC.2.2.2 b hb).2.1) hD hA
    exact ⟨h', by show ob _ _ = _; rw [e1, ob_eq], e2, fun z z1 _ => e3 z (by omega) (by omega) (by omega) (by omega)⟩
  · obtain ⟨h', e1, e2, e3⟩ := X7_next_n hF rfl (by decide) hB8 hR6 (show c < 1000000 by omega) (by omega) hN32 (fun b hb => (hTM b hb).2) hC.1 hC.2.1 hC.2.2.1 (fun b hb => (hC.2.2.2 b hb).2) hD hA
    exact ⟨h', by show ob _ _ = _; rw [e1, ob_eq], e2, fun z z1 _ => e3 z z1⟩
theorem op_turnBack {F c : Nat} (hF : 600 ≤ F) (hc : c < 900000) {tw : TW} {h : HP} (i : INV c tw h) : Step (f_X6_turnBack F tw) (f_X7_turnBack F) c tw h := by
  have hKc := i.1.c
  refine drum_core hF hc i (fun h1 => ob (f_X0_turnOff F 14 tw.1 h1) (fun v5 h3 => some (v5, h3))) (fun h1 => ob (f_X7_rings F 43 (if (h1 43 0) = nI 0 then (h1 40 1) - (nI 1) else (h1 43 0) - (nI 1)) h1) (fun v5 h3 => some (v5, h3))) ?_
  intro B N R T M a hT _ _ _ hA
  obtain ⟨hB1, hB8, hN2, hN32, hR6, hTM⟩ := hT
  have hp := pvr_lt hN2 hA.1
  have hla := hA.1
  refine ⟨nI (rowA B R M (pvr N a.1) a).1, (rowA B R M (pvr N a.1) a).2, AOK_row (R := R) (M := M) hA (Nat.le_of_lt hp), fun h1 hC hD => ?_, fun h1 hC hD => ?_⟩
  · obtain ⟨h', e1, e2, e3⟩ := X0_turnOff_n hF (t := tw.1) (by omega) hB8 hR6 (show c < 1000000 by omega) (by omega) hN32 (fun b hb => (hTM b hb).2) hC.1 hC.2.1 hC.2.2.1 (fun b hb => (hC.2.2.2 b hb).2.1) hD hA
    exact ⟨h', by show ob _ _ = _; rw [e1, ob_eq], e2, fun z z1 _ => e3 z (by omega) (by omega) (by omega) (by omega)⟩
  · obtain ⟨h', e1, e2, e3⟩ := X7_rings_n hF (t := 43) (row := pvr N a.1) rfl (by decide) hB8 hR6 (show c < 1000000 by omega) (by omega) (fun b hb => (hTM b hb).2) hC.1 hC.2.2.1 (fun b hb => (hC.2.2.2 b hb).2) hD hA
    refine ⟨h', ?_, e2, fun z z1 _ => e3 z z1⟩
    have e : (if h1 43 0 = nI 0 then h1 40 1 - nI 1 else h1 43 0 - nI 1) = nI (pvr N a.1) := by
      rw [hD.1, hC.2.1]
      unfold pvr
      by_cases g : a.1 = 0
      · rw [if_pos (by rw [g]), if_pos g, e_sub (by omega)]
      · rw [if_neg (by rw [e_eq (by omega) (by decide)]; exact g), if_neg g, e_sub (by omega)]
    show ob _ _ = _
    rw [e, e1, ob_eq]
def updN (f : Nat → Nat) (k x : Nat) : Nat → Nat := fun j => if j = k then x else f j
theorem op_pin {F c : Nat} (hF : 600 ≤ F) (hc : c < 900000) {tw : TW} {h : HP} (i : INV c tw h) (x y w : Int32) : Step (f_X6_pin F tw x y w) (f_X7_pin F x y w) c tw h := by
  have i0 := i
  obtain ⟨hK, B, N, R, T, M, hT, hC, hMt, hS, hD, hrest⟩ := i
  obtain ⟨hB1, hB8, hN2, hN32, hR6, hTM⟩ := id hT
  have h256 := p2le hB8
  rcases cas x (n := N) (by omega) with ⟨r, hr, rfl⟩ | hx
  · rcases cas y (n := B) (by omega) with ⟨b, hb, rfl⟩ | hy
    · obtain ⟨q1, q2, q3⟩ := pv_of hB8 hS (show r < 32 by omega)
      have q15 : h 15 r = nI (pv h r) := by rw [pin_of hD (by omega)]; exact q1
      have hbn := bn_lt (pv h r) b
      have eb : (if nI (bn (pv h r) b) = nI 1 then nI 1 else nI 0) = nI (bn (pv h r) b) := by
        rcases bn01 (pv h r) b with e | e <;> rw [e]
        · rw [if_neg (by decide)]
        · rw [if_pos rfl]
      have hXe : f_X6_pin F tw (nI r) (nI b) w h = if nI (bn (pv h r) b) = w then some (-2, h) else obv (f_X2_put F 24 14 h) (fun h11 => ob (f_J6_bitCount_0f7a4 F ((up h11 15 r ((h11 15 r) ^^^ nI (2 ^ b))) 15 r) (up h11 15 r ((h11 15 r) ^^^ nI (2 ^ b)))) (fun v15 h13 => some (v15, h13))) := by
        unfold f_X6_pin
        rw [X6_isRow_t F hC.2.1 hN32 hr, ob_eq, if_neg n10, X6_isBell_t F hC.1 hB8 hb, ob_eq, if_neg n10, if_pos (inb_t (by omega) (by decide)), e_ix (by omega), q15, e_bit (by omega) (by omega), eb, e_one (by omega)]
      by_cases g : nI (bn (pv h r) b) = w
      · refine Same.step ⟨-2, ?_, ?_⟩ i0
        · rw [hXe, if_pos g]
        · unfold f_X7_pin
          rw [X7_isRow_t F hMt.2.1 hN32 hr, ob_eq, if_neg n10, X7_isBell_t F hMt.1 hB8 hb, ob_eq, if_neg n10, e_add, if_pos (inb_t (by omega) (by decide)), e_ix (by omega), q1, has_n F q3 (by omega), ob_eq, if_pos g]
      · have core := drum_core hF hc i0 (fun h11 => ob (f_J6_bitCount_0f7a4 F ((up h11 15 r ((h11 15 r) ^^^ nI (2 ^ b))) 15 r) (up h11 15 r ((h11 15 r) ^^^ nI (2 ^ b)))) (fun v15 h13 => some (v15, h13))) (fun h14 => ob (f_X7_bits F ((up h14 43 (2 + r) ((h14 43 (2 + r)) ^^^ nI (2 ^ b))) 43 (2 + r)) (up h14 43 (2 + r) ((h14 43 (2 + r)) ^^^ nI (2 ^ b)))) (fun v18 h16 => some (v18, h16))) ?_
        · obtain ⟨rv, g1, g2, s1, s2, s3⟩ := core
          refine ⟨rv, g1, g2, ?_, ?_, s3⟩
          · rw [hXe, if_neg g]; exact s1
          · have e40 : g1 40 = h 40 ∧ g1 43 = h 43 := by
              obtain ⟨kk, hU, -⟩ := hrest.1
              obtain ⟨hk', e0, e3, nx, hnx, e2, -⟩ := hU
              obtain ⟨h1, p1, -, -, -, -, p6⟩ := put_n F (Or.inl ⟨rfl, rfl⟩) hnx hk' e0 e2 e3
              have s1' := s1
              dsimp only at s1'
              rw [p1, obv_eq] at s1'
              obtain ⟨v, hh, -⟩ : ∃ v hh, f_J6_bitCount_0f7a4 F ((up h1 15 r ((h1 15 r) ^^^ nI (2 ^ b))) 15 r) (up h1 15 r ((h1 15 r) ^^^ nI (2 ^ b))) = some (v, hh) := ⟨_, _, rfl⟩
              have : g1 = up h1 15 r ((h1 15 r) ^^^ nI (2 ^ b)) := by
                unfold f_J6_bitCount_0f7a4 at s1'
                rw [ob_eq] at s1'
                cases s1'
                rfl
              rw [this, up_c (by decide), up_c (by decide)]
              exact ⟨p6 40 (by decide) (by decide), p6 43 (by decide) (by decide)⟩
            unfold f_X7_pin
            rw [X7_isRow_t F (by rw [e40.1]; exact hMt.2.1) hN32 hr, ob_eq, if_neg n10, X7_isBell_t F (by rw [e40.1]; exact hMt.1) hB8 hb, ob_eq, if_neg n10, e_add, if_pos (inb_t (by omega) (by decide)), e_ix (by omega), e40.2, q1, has_n F q3 (by omega), ob_eq, if_neg g, e_one (by omega)]
            exact s2
        · intro B' N' R' T' M' a hT' hC' hM' hD' hA
          have eB : B' = B := by
            have := hM'.1.symm.trans hMt.1
            rw [e_eq (by have := hT'.2.1; omega) (by omega)] at this
            exact this
          have hpa : a.2.2.1 r = pv h r := by
            have := (hD'.2.2.1 r (by omega)).symm.trans q15
            have ha := hA.2.2.2 r (by omega)
            rw [eB] at ha
            rw [e_eq (by omega) (by omega)] at this
            exact this
          have hx2 : a.2.2.1 r ^^^ 2 ^ b < 2 ^ B' := Nat.xor_lt_two_pow (hA.2.2.2 r (by omega)) (Nat.pow_lt_pow_right (by decide) (by omega))
          have hx3 : a.2.2.1 r ^^^ 2 ^ b < 256 := by rw [eB] at hx2; omega
          refine ⟨nI (popc (a.2.2.1 r ^^^ 2 ^ b)), (a.1, a.2.1, updN a.2.2.1 r (a.2.2.1 r ^^^ 2 ^ b), a.2.2.2.1, a.2.2.2.2.1, a.2.2.2.2.2), ⟨hA.1, Nat.le_succ_of_le hA.2.1, hA.2.2.1, fun r' hr' => ?_⟩, fun h1 _ hD1 => ?_, fun h1 _ hD1 => ?_⟩
          · unfold updN
            dsimp only
            split
            · exact hx2
            · exact hA.2.2.2 r' hr'
          · have e15 := hD1.2.2.1 r (by omega)
            refine ⟨up h1 15 r (nI (a.2.2.1 r ^^^ 2 ^ b)), ?_, ⟨by rw [up_c (by decide)]; exact hD1.1, by rw [up_c (by decide)]; exact hD1.2.1, fun r' hr' => ?_, fun j hj => by rw [up_c (by decide)]; exact hD1.2.2.2.1 j hj, fun b' hb' => by rw [up_c (by decide), up_c (by decide)]; exact hD1.2.2.2.2 b' hb'⟩, fun z z1 z2 => up_c (by omega)⟩
            · show ob _ _ = _
              rw [show h1 15 r = nI (a.2.2.1 r) from e15, e_xor, up_s, bc_spec F hx3, ob_eq]
            · unfold updN
              dsimp only
              by_cases z : r' = r
              · rw [z, if_pos rfl]; exact up_s
              · rw [if_neg z, up_n z]; exact hD1.2.2.1 r' hr'
          · have e43 := hD1.2.2.1 r (by omega)
            refine ⟨up h1 43 (2 + r) (nI (a.2.2.1 r ^^^ 2 ^ b)), ?_, ⟨by rw [up_n (by omega)]; exact hD1.1, by rw [up_n (by omega)]; exact hD1.2.1, fun r' hr' => ?_, fun j hj => by rw [up_n (by omega)]; exact hD1.2.2.2.1 j hj, fun b' hb' => by rw [up_n (by omega), up_n (by omega)]; exact hD1.2.2.2.2 b' hb'⟩, fun z z1 z2 => up_c z1⟩
            · show ob _ _ = _
              rw [e43, e_xor, up_s, bits_spec hF hx3, ob_eq]
            · unfold updN
              dsimp only
              by_cases z : r' = r
              · rw [z, if_pos rfl]; exact up_s
              · rw [if_neg z, up_n (by omega)]; exact hD1.2.2.1 r' hr'
    · refine Same.step ⟨-1, ?_, ?_⟩ i0
      · unfold f_X6_pin
        rw [X6_isRow_t F hC.2.1 hN32 hr, ob_eq, if_neg n10, X6_isBell_f F hC.1 hy, ob_eq, if_pos rfl]
      · unfold f_X7_pin
        rw [X7_isRow_t F hMt.2.1 hN32 hr, ob_eq, if_neg n10, X7_isBell_f F hMt.1 (by omega) hB8 hy, ob_eq, if_pos rfl]
  · refine Same.step ⟨-1, ?_, ?_⟩ i0
    · unfold f_X6_pin
      rw [X6_isRow_f F hC.2.1 hx, ob_eq, if_pos rfl]
    · unfold f_X7_pin
      rw [X7_isRow_f F hMt.2.1 (by omega) hN32 hx, ob_eq, if_pos rfl]
