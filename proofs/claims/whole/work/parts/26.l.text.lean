/-! ===== lay ===== -/
def LStep (F c : Nat) (tw : TW) (h : HP) : Prop := ∃ r tw' h1 h2, f_X6_lay F tw h = some (r, tw', h1) ∧ f_X7_lay F h1 = some (r, h2) ∧ INV (c + 1) tw' h2
theorem XSt.inj {d : Nat} {h : HP} {s s' : PSt} (x : XSt d h s) (x' : XSt d h s') (p : POK s) (p' : POK s') : s.1 = s'.1 ∧ s.2.1 = s'.2.1 ∧ s.2.2.2.2.2.2.1 = s'.2.2.2.2.2.2.1 := by
  have h0 := x.1
  rw [x'.1] at h0
  have h4 := x.2.1
  rw [x'.2.1] at h4
  have h7 := x.2.2.2.2.2.1
  rw [x'.2.2.2.2.2.1] at h7
  have a1 := p.1
  have a2 := p'.1
  have b1 := p.2.2.1
  have b2 := p'.2.2.1
  have c1 := p.2.2.2.2.2.2.1
  have c2 := p'.2.2.2.2.2.2.1
  rw [e_eq (by omega) (by omega)] at h0 h4 h7
  exact ⟨h0.symm, h4.symm, h7.symm⟩
theorem canBe_n (F : Nat) {d : Nat} {h : HP} {s : PSt} (x : XSt d h s) (p : POK s) : f_X5_canBeLaid F d h = if s.1 = 0 ∨ s.2.1 < s.2.2.2.2.2.2.1 then some (nI 0, h) else some (nI 1, h) := by
  have h0 := x.1
  have h4 := x.2.1
  have h7 : h d 7 = nI s.2.2.2.2.2.2.1 := x.2.2.2.2.2.1
  have a1 := p.1
  have b1 := p.2.2.1
  have c1 := p.2.2.2.2.2.2.1
  unfold f_X5_canBeLaid
  rw [h0, h4, h7, i_le (by omega) (by decide), i_lt (by omega) (by omega)]
  by_cases z : s.1 = 0
  · rw [if_pos (by omega), if_pos (Or.inl z)]
  · rw [if_neg (by omega)]
    by_cases w : s.2.1 < s.2.2.2.2.2.2.1
    · rw [if_pos w, if_pos (Or.inr w)]
    · rw [if_neg w, if_neg (by omega)]
theorem mlay_no {F : Nat} {g g' : HP} {r : Int32} (e : f_X7_fault F g = some (r, g')) (hr : ¬ r = -4) : f_X7_lay F g = some (-2, g') := by
  unfold f_X7_lay
  rw [e, ob_eq, if_neg hr]
theorem op_lay {F c : Nat} (hF : 600 ≤ F) {tw : TW} {h : HP} (i : INV c tw h) : LStep F c tw h := by
  have hK := i.1
  have hk : tw.1 = 4 ∧ tw.2 = 9 ∨ tw.1 = 9 ∧ tw.2 = 4 := by rcases hK with rfl | rfl; exact Or.inl ⟨rfl, rfl⟩; exact Or.inr ⟨rfl, rfl⟩
  have hd : TDc tw.2 := by unfold TDc; omega
  obtain ⟨n, t, x, y⟩ := i.tx.both
  rcases read_sim hF hd x y with ⟨h1, _, s, e1, _, xs, _, hP, fx, _⟩ | ⟨r, h1, _, hr, e1, _, fx, _⟩
  · by_cases z : s.1 = 0 ∨ s.2.1 < s.2.2.2.2.2.2.1
    · have eX : f_X6_lay F tw h = some (-2, tw, h1) := by
        unfold f_X6_lay
        rw [e1, ob_eq, if_pos rfl, canBe_n F xs hP, if_pos z, ob_eq, if_pos rfl]
      rcases read_sim hF hd x (y.fx hd fx) with ⟨h1', h2, s2, e1', e2, xs2, ms2, hP2, _, fm⟩ | ⟨r, h1', h2, hr, e1', e2, _, fm⟩
      · rw [e1] at e1'
        have eh : h1 = h1' := congrArg Prod.snd (Option.some.inj e1')
        subst eh
        obtain ⟨j1, j2, j3⟩ := xs.inj xs2 hP hP2
        rw [j1, j2, j3] at z
        have a1 := hP2.1
        have b1 := hP2.2.2.1
        have c1 := hP2.2.2.2.2.2.2.1
        have m0 : h2 41 0 = nI s2.1 := ms2.1
        have m1 : h2 41 1 = nI s2.2.1 := ms2.2.1
        have m3 : h2 39 3 = nI s2.2.2.2.2.2.2.1 := ms2.2.2.2.2.2.1
        refine ⟨-2, tw, h1, h2, eX, ?_, (i.ess (ess_read hK fx fm)).mono (by omega)⟩
        unfold f_X7_lay
        rw [e2, ob_eq, if_pos rfl, m0, m1, m3, i_eq (by omega) (by decide), i_le (by omega) (by omega)]
        by_cases w : s2.1 = 0
        · rw [if_pos w]
        · rw [if_neg w, if_neg (by omega)]
      · rw [e1] at e1'
        exact absurd (congrArg Prod.fst (Option.some.inj e1')).symm (m4_ne (by omega))
    · obtain ⟨h9, l1, _, _, _, _, _, _, _, _, l9⟩ := layTold_n hF (F := F) hd xs hP
      have y9 : TXM n t h9 := by
        have y1 := y.fx hd fx
        unfold TXM
        rw [l9 39 (by decide) (by decide) (by decide) (by decide) (by decide), l9 46 (by decide) (by decide) (by decide) (by decide) (by decide)]
        exact y1
      rcases read_sim hF hd x y9 with ⟨h1', g1, s2, e1', e2, xs2, ms2, hP2, _, fm⟩ | ⟨r, h1', h2, hr, e1', e2, _, fm⟩
      · rw [e1] at e1'
        have eh : h1 = h1' := congrArg Prod.snd (Option.some.inj e1')
        subst eh
        obtain ⟨j1, j2, j3⟩ := xs.inj xs2 hP hP2
        rw [j1, j2, j3] at z
        have eX : f_X6_lay F tw h = some (h9 tw.2 7, (tw.2, tw.1), h9) := by
          unfold f_X6_lay
          rw [e1, ob_eq, if_pos rfl, canBe_n F xs2 hP2, if_neg z, ob_eq, if_neg n1n0, l1, obv_eq]
        obtain ⟨h9', l1', l2, l3, l09, l4, l5, l6, l7, l8, _⟩ := layTold_n hF (F := F) hd xs2 hP2
        rw [l1] at l1'
        have eh9 : h9 = h9' := Option.some.inj l1'
        subst eh9
        obtain ⟨B, N, R, T, M, ht, K, ws⟩ := s2
        obtain ⟨x0, x4, x5, xb, x6, x7, xr⟩ := xs2
        obtain ⟨y0, y1, y2, yb, y6, y7, yr⟩ := ms2
        obtain ⟨p0, p1, p2, p3, p4, p5, p6, p7⟩ := hP2
        dsimp only at x0 x4 x5 xb x6 x7 xr y0 y1 y2 yb y6 y7 yr p0 p1 p2 p3 p4 p5 p6 p7 z l2
        obtain ⟨g2, b1, b2, b3, b4, b5, b6, b7, b8, b9, b10, b11, b12⟩ := begins_n hF p6 y7
        have eM : f_X7_lay F h9 = some (g2 39 3, g2) := by
          unfold f_X7_lay
          rw [e2, ob_eq, if_pos rfl, y0, i_eq (by omega) (by decide), if_neg (by omega), y7, y1, i_le (by omega) (by omega), if_pos (by omega), b1, obv_eq]
        have r7 : h9 tw.2 7 = nI K := by rw [l9 tw.2 (by omega) (by omega) (by omega) (by omega) (by omega)]; exact x7
        have r3 : g2 39 3 = nI K := by rw [b11 3 (by decide) (by decide) (by decide)]; exact y7
        -- from the class's end to the end
        have fz : ∀ q, q ≠ 39 → q ≠ 40 → q ≠ 41 → q ≠ 42 → q ≠ 43 → q ≠ 47 → q ≠ 49 → q ≠ 50 → g2 q = h9 q := fun q k1 k2 k3 k4 k5 k6 k7 k8 => by rw [b12 q k1 k2 k5 k6, fm.1 q k1 k3 k4 k7 k8]
        have fd : ∀ j, j < 5 → g2 (tw.2 + j) = h1 (tw.2 + j) := fun j hj => by
          rw [fz _ (by omega) (by omega) (by omega) (by omega) (by omega) (by omega) (by omega) (by omega), l9 _ (by omega) (by omega) (by omega) (by omega) (by omega)]
        have f1 : ∀ q, q ≠ 0 → q ≠ 1 → q ≠ 3 → (q < 4 ∨ 13 < q) → (q < 14 ∨ 18 < q) → q ≠ 24 → q ≠ 26 → q ≠ 28 → q ≠ 39 → q ≠ 40 → q ≠ 41 → q ≠ 42 → q ≠ 43 → q ≠ 47 → q ≠ 49 → q ≠ 50 → g2 q = h q := fun q k0 k1 k3 k4 k14 k24 k26 k28 k39 k40 k41 k42 k43 k47 k49 k50 => by
          rw [fz q k39 k40 k41 k42 k43 k47 k49 k50, l9 q k0 k24 k26 k28 k14, fx.1 q k1 k3 (by omega)]
        obtain ⟨_, B0, N0, R0, T0, M0, _, _, _, _, _, ⟨k1, hU, _⟩, ⟨k2, hKp, _⟩, _, _, hX⟩ := i
        have h24 : h1 24 = h 24 := fx.1 24 (by decide) (by decide) (by omega)
        have h26 : h1 26 = h 26 := fx.1 26 (by decide) (by decide) (by omega)
        have dvg : dv g2 14 = dv h9 14 := dv_re (fun k h1 h2 => fz k (by omega) (by omega) (by omega) (by omega) (by omega) (by omega) (by omega) (by omega))
        refine ⟨nI K, (tw.2, tw.1), h9, g2, by rw [eX, r7], by rw [eM, r3], ?_, B, N, R, T, M, ?_, ?_, ?_, ?_, ?_, ⟨0, ?_, b9⟩, ⟨0, ?_, b10⟩, ?_, ?_, ?_⟩
        · rcases hK with e | e
          · rw [e]; exact Or.inr rfl
          · rw [e]; exact Or.inl rfl
        · exact ⟨by omega, p0, p1, p2, p3, p4⟩
        · refine CTw.re ?_ (fun j hj => fd j (by omega))
          exact ⟨x0, x4, x5, xb⟩
        · refine ⟨by rw [b2 0 (by decide)]; exact y0, by rw [b2 1 (by decide)]; exact y1, by rw [b2 2 (by decide)]; exact y2, fun b hb => ⟨by rw [b2 (3 + b) (by omega)]; exact (yb b hb).1, by rw [b2 (11 + b) (by omega)]; exact (yb b hb).2⟩⟩
        · refine ⟨⟨N, Nat.le_refl _, by rw [b3]; exact y1⟩, ⟨0, Nat.zero_le _, b4, fun j hj => Or.inl (b6 (34 + j) (by omega) (by omega))⟩, fun r hr => ?_⟩
          rw [(b5 r hr).1]
          by_cases w : r < K
          · rw [if_pos w]; exact ⟨ws r, p7 r w, yr r w⟩
          · rw [if_neg w]; exact ⟨0, Nat.two_pow_pos _, rfl⟩
        · rw [dvg]
          refine ⟨fun j hj hh => ?_, fun j hj => Or.inl ⟨b6 (34 + j) (by omega) (by omega), by rw [l2 (34 + j) (by omega), if_neg (by omega), if_neg (by omega)]⟩⟩
          rw [l2 j hj]
          by_cases w0 : j = 0
          · rw [if_pos w0, w0, b3]; exact y1.symm
          · rw [if_neg w0]
            by_cases w1 : j = 1
            · rw [if_neg (by omega), w1, b4]
            · by_cases w2 : j < 34
              · obtain ⟨r, rfl⟩ : ∃ r, j = 2 + r := ⟨j - 2, by omega⟩
                rw [(b5 r (by omega)).1, show 2 + r - 2 = r by omega]
                by_cases w : r < K
                · rw [if_pos (show 2 ≤ 2 + r ∧ 2 + r < 34 ∧ r < K by omega), if_pos w]; exact (yr r w).symm
                · rw [if_neg (show ¬ (2 ≤ 2 + r ∧ 2 + r < 34 ∧ r < K) by omega), if_neg w]
              · rw [if_neg (by omega), b7 j (by omega) hj]
        · obtain ⟨q1, q2, q3, nx, q4, q5, q6⟩ := hU
          have g24 : g2 24 = h9 24 := fz 24 (by decide) (by decide) (by decide) (by decide) (by decide) (by decide) (by decide) (by decide)
          exact ⟨Nat.zero_le _, by rw [g24, l6 0 (by decide), h24]; exact q2, by rw [g24]; exact l4, nx, q4, by rw [g24, l6 2 (by decide), h24]; exact q5, fun i hi => absurd hi (Nat.not_lt_zero _)⟩
        · obtain ⟨q1, q2, q3, nx, q4, q5, q6⟩ := hKp
          have g26 : g2 26 = h9 26 := fz 26 (by decide) (by decide) (by decide) (by decide) (by decide) (by decide) (by decide) (by decide)
          exact ⟨Nat.zero_le _, by rw [g26, l7 0 (by decide), h26]; exact q2, by rw [g26]; exact l5, nx, q4, by rw [g26, l7 2 (by decide), h26]; exact q5, fun i hi => absurd hi (Nat.not_lt_zero _)⟩
        · intro r hr
          rw [fz 28 (by decide) (by decide) (by decide) (by decide) (by decide) (by decide) (by decide) (by decide), (b5 r hr).2, l3 r hr]
          exact ⟨rfl, 0, Nat.two_pow_pos _, rfl⟩
        · refine ⟨0, Nat.zero_le _, ?_, b8, fun i hi => absurd hi (Nat.not_lt_zero _)⟩
          rw [fz 0 (by decide) (by decide) (by decide) (by decide) (by decide) (by decide) (by decide) (by decide)]
          exact l09
        · refine hX.re ?_ ?_ ?_ ?_
          · rw [fz 1 (by decide) (by decide) (by decide) (by decide) (by decide) (by decide) (by decide) (by decide), l9 1 (by decide) (by decide) (by decide) (by decide) (by decide), fx.2 1 (by decide)]
          · rw [b11 10 (by decide) (by decide) (by decide), fm.2 10 (by decide) (by decide) (by decide), l9 39 (by decide) (by decide) (by decide) (by decide) (by decide), fx.1 39 (by decide) (by decide) (by omega)]
          · exact f1 2 (by decide) (by decide) (by decide) (by decide) (by decide) (by decide) (by decide) (by decide) (by decide) (by decide) (by decide) (by decide) (by decide) (by decide) (by decide) (by decide)
          · exact f1 46 (by decide) (by decide) (by decide) (by decide) (by decide) (by decide) (by decide) (by decide) (by decide) (by decide) (by decide) (by decide) (by decide) (by decide) (by decide) (by decide)
      · rw [e1] at e1'
        exact absurd (congrArg Prod.fst (Option.some.inj e1')).symm (m4_ne (by omega))
  · have eX : f_X6_lay F tw h = some (-2, tw, h1) := by
      unfold f_X6_lay
      rw [e1, ob_eq, if_neg (m4_ne (by omega))]
    rcases read_sim hF hd x (y.fx hd fx) with ⟨h1', h2, _, e1', e2, _, _, _, _, fm⟩ | ⟨r', h1', h2, hr', e1', e2, _, fm⟩
    · rw [e1] at e1'
      exact absurd (congrArg Prod.fst (Option.some.inj e1')) (m4_ne (by omega))
    · exact ⟨-2, tw, h1, h2, eX, mlay_no e2 (m4_ne (by omega)), (i.ess (ess_read hK fx fm)).mono (by omega)⟩
