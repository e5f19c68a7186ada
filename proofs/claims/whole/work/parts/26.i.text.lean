/-! ===== the text: a tune, part by part ===== -/
theorem FXt.c3 (d j : Nat) (v : Int32) (h : HP) : FXt d h (up h 3 j v) := ⟨fun z _ h2 _ => up_c h2, fun j _ => by rw [up_c (by decide)]⟩
theorem FMt.c50 (j : Nat) (v : Int32) (g : HP) : FMt g (up g 50 j v) := ⟨fun z _ _ _ _ h5 => up_c h5, fun j _ _ _ => by rw [up_c (by decide)]⟩
theorem nI_dec {o : Nat} (h : 1 ≤ o) : nI o + (-1) = nI (o - 1) := by
  have : nI o - nI 1 = nI (o - 1) := e_sub h
  rw [← this]
  apply Int32.toBitVec_inj.mp
  simp only [Int32.toBitVec_add, Int32.toBitVec_sub]
  rw [BitVec.sub_eq_add_neg]
  rfl
theorem tune_step {F : Nat} (hF : 600 ≤ F) {n : Nat} {t : Nat → Nat} {d q o i m m2 : Nat} {h g : HP} {s : PSt} (hd : TDc d) (x : TXX n t h) (y : TXM n t g) (p : TI n d q o h g s) (hi : i < 200) (hc : ¬ chr n t q = 59) :
    TGo F n t d q o i m m2 h g ∨ TNo (f_X4_readTune_18 F d (m + 1) (nI o) (nI i) h) (f_X7_takesTune_16 F (m2 + 1) (nI o) g) d h g := by
  have p' := p
  obtain ⟨p1, p2, p3, hq, gq, p6, p7, p8⟩ := p'
  have hn := x.1
  have hd' := hd
  unfold TDc at hd'
  have hB := p3.1
  have hK := p3.2.2.2.2.2.2.1
  have hcl := chr_le x q
  have hdB : h d 0 = nI s.1 := p1.1
  have hd7 : h d 7 = nI s.2.2.2.2.2.2.1 := p1.2.2.2.2.2.1
  have gB : g 41 0 = nI s.1 := p2.1
  have g3 : g 39 3 = nI s.2.2.2.2.2.2.1 := p2.2.2.2.2.2.1
  have px := PFx.up h (nI (q + 1))
  have pm := PFm.up g (nI (q + 1))
  have ex := tx_eq (F := F) (d := d) (m := m) (x2 := nI o) x hq (by omega) hi hc
  have em := tm_eq (F := F) (m := m2) (x1 := nI o) y gq (by omega) hB gB hc
  by_cases c40 : chr n t q = 40
  · have hqn : q < n := chr_pos c40 (by decide)
    rw [if_pos c40] at ex
    rw [if_neg (by omega), if_neg (by omega), if_neg (by omega), if_pos c40] at em
    by_cases z : o < 3
    · rw [if_pos (by rw [e_lt (by omega) (by decide)]; exact z), if_pos (inb_t z (by decide)), e_ix (by omega), e_add, up_c (show d ≠ 1 by omega), hd7] at ex
      rw [if_neg (by rw [e_le (by decide) (by omega)]; omega), if_pos (inb_t z (by decide)), e_ix (by omega), e_add, up_n (show 3 ≠ 14 by decide), g3] at em
      refine Or.inl ⟨_, _, o + 1, q + 1, s, ex, em, ⟨(p1.pf hd px).c3 hd, (p2.pf pm).c50, p3, by rw [up_c (by decide), up_s], by rw [up_c (by decide), up_s], by omega, by omega, fun j hj => ?_⟩, by omega, (px.f d).trans (FXt.c3 _ _ _ _), pm.f.trans (FMt.c50 _ _ _)⟩
      by_cases zz : j = o
      · rw [zz]; exact ⟨_, Nat.le_refl _, up_s, up_s⟩
      · obtain ⟨f, f1, f2, f3⟩ := p8 j (by omega)
        exact ⟨f, f1, by rw [up_n zz, up_c (by decide)]; exact f2, by rw [up_n zz, up_c (by decide)]; exact f3⟩
    · rw [if_neg (by rw [e_lt (by omega) (by decide)]; exact z)] at ex
      rw [if_pos (by rw [e_le (by decide) (by omega)]; omega)] at em
      exact Or.inr ⟨_, _, ex, em, px.f d, FMt.refl _⟩
  · rw [if_neg c40] at ex
    by_cases c41 : chr n t q = 41
    · have hqn : q < n := chr_pos c41 (by decide)
      rw [if_pos c41] at ex
      rw [if_neg (by omega), if_neg (by omega), if_neg (by omega), if_neg c40, if_pos c41] at em
      unfold f_X7_takesTune_172 f_X7_takesTune_261 f_X7_takesTune_262 f_X7_takesTune_263 at em
      rw [if_pos rfl] at em
      by_cases zo : o = 0
      · rw [if_pos (by rw [e_le (by omega) (by decide)]; omega), if_pos rfl] at em
        rcases figure_n F (x.pf px) up_s (show q + 1 < 1000 by omega) with ⟨dg, e⟩ | ⟨dg, e⟩
        · rw [e, ob_eq, if_pos (by rw [e_lt (by omega) (by decide)]; omega)] at ex
          exact Or.inr ⟨_, _, ex, em, (px.trans (PFx.up _ _)).f d, FMt.refl _⟩
        · rw [e, ob_eq, if_pos (by rw [e_lt (by omega) (by decide)]; omega)] at ex
          exact Or.inr ⟨_, _, ex, em, px.f d, FMt.refl _⟩
      · have pm2 := pm.trans (PFm.up (up g 39 14 (nI (q + 1))) (nI (q + 2)))
        obtain ⟨f, f1, f2, f3⟩ := p8 (o - 1) (by omega)
        rw [if_neg (by rw [e_le (by omega) (by decide)]; omega), gq, e_add, here_n F (y.pf pm) up_s (by omega), ob_eq, up_s, e_add] at em
        have eIn : f_X7_in F ((hIr n t (q + 1) - nI 48).toInt64) (lN 2) (lN 9) (up (up g 39 14 (nI (q + 1))) 39 14 (nI (q + 1 + 1))) = some (if 50 ≤ chr n t (q + 1) ∧ chr n t (q + 1) ≤ 57 then nI 1 else nI 0, up (up g 39 14 (nI (q + 1))) 39 14 (nI (q + 1 + 1))) := by
          have hcl1 := chr_le x (q + 1)
          rw [l64 (show 2 < 2147483648 by decide), l64 (show 9 < 2147483648 by decide), in_spec]
          by_cases z : 48 ≤ chr n t (q + 1)
          · rw [hIr_c rfl (by omega), e_sub z]
            by_cases zz : 50 ≤ chr n t (q + 1) ∧ chr n t (q + 1) ≤ 57
            · rw [if_pos zz, if_pos (by rw [e_le (by decide) (by omega), e_le (by omega) (by decide)]; omega)]
            · rw [if_neg zz, if_neg (by rw [e_le (by decide) (by omega), e_le (by omega) (by decide)]; omega)]
          · rw [if_neg (show ¬ (50 ≤ chr n t (q + 1) ∧ chr n t (q + 1) ≤ 57) by omega), if_neg]
            intro w
            by_cases z0 : chr n t (q + 1) = 0
            · have hnn : ¬ q + 1 < n := fun w2 => by
                have := (y.2.2 (q + 1) w2).2.1
                unfold chr at z0
                rw [if_pos w2] at z0
                omega
              have : hIr n t (q + 1) = -1 := by unfold hIr; rw [if_neg hnn]
              rw [this] at w
              exact absurd w.1 (by decide)
            · rw [hIr_c rfl z0] at w
              have := (sub48 (c := chr n t (q + 1)) (a := 48) (by omega) (by decide)).mpr (by omega)
              exact absurd (Int32.lt_of_lt_of_le this (Int32.le_trans (show nI 0 ≤ nI 2 by decide) w.1)) Int32.lt_irrefl
        rw [eIn, ob_eq, nI_dec (by omega), if_pos (show nI 0 = nI 0 from rfl), if_pos (inb_t (show o - 1 < 3 by omega) (by decide)), e_ix (by omega)] at em
        have fk : (up (up g 39 14 (nI (q + 1))) 39 14 (nI (q + 1 + 1))) 50 (o - 1) = nI f := by rw [up_c (by decide), up_c (by decide)]; exact f3
        have k3 : (up (up g 39 14 (nI (q + 1))) 39 14 (nI (q + 1 + 1))) 39 3 = nI s.2.2.2.2.2.2.1 := by rw [up_n (by decide), up_n (by decide)]; exact g3
        rw [fk, k3, i_le (by omega) (by omega)] at em
        rcases figure_n F (x.pf px) up_s (show q + 1 < 1000 by omega) with ⟨dg, e⟩ | ⟨dg, e⟩
        · have hdg := dg
          unfold isd at hdg
          have px2 := px.trans (PFx.up (up h 1 2 (nI (q + 1))) (nI (q + 1 + 1)))
          have hq1n : q + 1 < n := chr_lt (t := t) (by omega)
          rw [e, ob_eq, if_neg (by rw [e_lt (by omega) (by decide)]; omega), i_lt (by omega) (by decide)] at ex
          by_cases z2 : chr n t (q + 1) - 48 < 2
          · rw [if_pos z2] at ex
            rw [if_neg (show ¬ (50 ≤ chr n t (q + 1) ∧ chr n t (q + 1) ≤ 57) by omega), if_pos rfl] at em
            exact Or.inr ⟨_, _, ex, em, px2.f d, pm2.f⟩
          · have fx : (up (up h 1 2 (nI (q + 1))) 1 2 (nI (q + 1 + 1))) 3 (o - 1) = nI f := by rw [up_c (by decide), up_c (by decide)]; exact f2
            rw [if_neg z2, e_sub (show 1 ≤ o by omega), if_pos (inb_t (by omega) (by decide)), e_ix (by omega), fx, nI_dec (by omega)] at ex
            rw [if_pos (show 50 ≤ chr n t (q + 1) ∧ chr n t (q + 1) ≤ 57 by omega), if_neg n1n0, hIr_c rfl (by omega), e_sub (by omega)] at em
            obtain ⟨B, N, R, T, M, ht, K, ws⟩ := s
            dsimp only at f1 em hK
            have xs2 := p1.pf hd px2
            have ms2 := p2.pf pm2
            by_cases z3 : K ≤ f
            · have hfK : f = K := by omega
              rw [if_pos z3] at em
              have x7 : (up (up h 1 2 (nI (q + 1))) 1 2 (nI (q + 1 + 1))) d 7 = nI K := xs2.2.2.2.2.2.1
              have e0 : f_X5_tellAgain F d (nI f) (nI (chr n t (q + 1) - 48)) (up (up h 1 2 (nI (q + 1))) 1 2 (nI (q + 1 + 1))) = some (nI 0, up (up h 1 2 (nI (q + 1))) 1 2 (nI (q + 1 + 1))) := by
                unfold f_X5_tellAgain
                rw [x7, if_neg (by rw [e_lt (by omega) (by decide)]; omega), e_sub (by omega), if_pos (by rw [e_lt (by omega) (by decide)]; omega)]
              rw [e0, ob_eq, if_pos rfl] at ex
              exact Or.inr ⟨_, _, ex, em, px2.f d, pm2.f⟩
            · obtain ⟨L, rfl⟩ : ∃ L, K = f + L := ⟨K - f, by omega⟩
              have hL : 0 < L := by omega
              rw [if_neg z3] at em
              have xs3 : XSt d (up (up h 1 2 (nI (q + 1))) 1 2 (nI (q + 1 + 1))) (sK (B, N, R, T, M, ht, f + L, ws) (f + L) ws) := xs2
              have ms3 : MSt (up (up g 39 14 (nI (q + 1))) 39 14 (nI (q + 1 + 1))) (sK (B, N, R, T, M, ht, f + L, ws) (f + L) ws) := ms2
              rcases tellAgain_n hF (T := chr n t (q + 1) - 48) hL (by omega) (by omega) hK xs3 with ⟨a0, h', a1, a2, a3⟩ | ⟨a0, a1⟩
              · rcases tellsAgain_n hF (T := chr n t (q + 1) - 48) hL (by omega) (by omega) hK ms3 with ⟨b0, g', b1, b2, b3⟩ | ⟨b0, _⟩
                · rw [a1, ob_eq, if_neg n1n0] at ex
                  rw [b1, ob_eq, if_neg n1n0, if_neg n1n0] at em
                  refine Or.inl ⟨h', g', o - 1, q + 2, _, ex, em, ⟨a2, b2, p3.again rfl hL a0, by rw [a3 1 (by omega) (by omega), up_s], by rw [b3.2 14 (by decide), up_s], by omega, by omega, fun j hj => ?_⟩, by omega, (px2.f d).trans (a3.f hd), pm2.f.trans b3.f⟩
                  obtain ⟨fj, j1, j2, j3⟩ := p8 j (by omega)
                  exact ⟨fj, Nat.le_trans j1 (Nat.le_add_right _ _), by rw [a3 3 (by omega) (by omega), px2.1 3 (by decide)]; exact j2, by rw [b3.1 50 (by decide) (by decide), pm2.1 50 (by decide)]; exact j3⟩
                · exact absurd a0 b0
              · rcases tellsAgain_n hF (T := chr n t (q + 1) - 48) hL (by omega) (by omega) hK ms3 with ⟨b0, _⟩ | ⟨b0, g', b1, b3⟩
                · exact absurd b0 a0
                · rw [a1, ob_eq, if_pos rfl] at ex
                  rw [b1, ob_eq, if_pos rfl, if_pos rfl] at em
                  exact Or.inr ⟨_, _, ex, em, px2.f d, pm2.f.trans b3.f⟩
        · rw [e, ob_eq, if_neg (by rw [e_lt (by omega) (by decide)]; omega), if_pos (by decide)] at ex
          rw [if_neg (show ¬ (50 ≤ chr n t (q + 1) ∧ chr n t (q + 1) ≤ 57) from fun w => dg ⟨by omega, w.2⟩), if_pos rfl] at em
          exact Or.inr ⟨_, _, ex, em, px.f d, pm2.f⟩
    · rw [if_neg c41, hdB] at ex
      unfold f_X4_readSet at ex
      rw [accept_n F x hq (by omega) (by decide)] at ex
      by_cases c46 : chr n t q = 46
      · have hqn : q < n := chr_pos c46 (by decide)
        rw [if_pos c46, ob_eq, if_neg n1n0, ob_eq, if_neg (by decide)] at ex
        rw [if_neg (by omega), if_pos c46] at em
        exact row_go hd p px pm up_s up_s (by omega) (by omega) (Nat.two_pow_pos _) ex (fun v g' e _ => by rw [em, e, ob_eq])
      · rw [if_neg c46, ob_eq, if_pos rfl, accept_n F x hq (by omega) (by decide)] at ex
        by_cases c91 : chr n t q = 91
        · have hqn : q < n := chr_pos c91 (by decide)
          rw [if_pos c91, ob_eq, if_neg n1n0] at ex
          rw [if_neg (by omega), if_neg c46, if_pos c91] at em
          unfold f_X7_chord f_X7_takesTune_128 f_X7_takesTune_129 f_X7_takesTune_263 at em
          have c0 : CH s.1 0 0 0 := ⟨by decide, Nat.zero_le _, Nat.le_refl _, Or.inl rfl⟩
          rcases chord_sim hF hB (n - (q + 1)) (q + 1) 0 0 0 F F (up h 1 2 (nI (q + 1))) (up g 39 14 (nI (q + 1))) (by omega) (by omega) (by omega) c0 (x.pf px) (y.pf pm) up_s up_s (by rw [up_c (by decide)]; exact gB) with ⟨w, h', g', q', a1, a2, a3, a4, a5, a6, a7, a8, a9, a10⟩ | ⟨h', g', a3, a4, a5, a6⟩
          · have h256 := p2le hB
            rw [a3, ob_eq, if_neg (by rw [e_lt (by omega) (by decide)]; omega)] at ex
            rw [show (-1 : Int32) = lastI 0 from rfl, a4, ob_eq, if_neg (by rw [e_le (by omega) (by decide)]; omega)] at em
            refine row_go hd p (px.trans a5) (pm.trans a6) a7 a8 (by omega) a10 a2 ex (fun v g' e h01 => ?_)
            unfold f_X7_takesTune_263
            rw [em, e, ob_eq]
            rcases h01 with rfl | rfl
            · rw [if_pos rfl]
            · rw [if_neg n1n0]
          · rw [a3, ob_eq, if_pos (by decide)] at ex
            rw [show (-1 : Int32) = lastI 0 from rfl, a4, ob_eq, if_pos (by decide), if_pos rfl] at em
            exact Or.inr ⟨_, _, ex, em, (px.trans a5).f d, (pm.trans a6).f⟩
        · rw [if_neg c91, ob_eq, if_pos rfl, letter_n F x hq (by omega) hB] at ex
          by_cases bl : 97 ≤ chr n t q ∧ chr n t q ≤ 96 + s.1
          · have hqn : q < n := chr_lt (t := t) (by omega)
            rw [if_pos bl, ob_eq, if_pos (by rw [e_le (by decide) (by omega)]; omega), e_one (by omega), ob_eq] at ex
            have h256 := p2le hB
            have hw : 2 ^ (chr n t q - 97) < 2 ^ s.1 := Nat.pow_lt_pow_right (by decide) (by omega)
            rw [if_neg (by rw [e_lt (by omega) (by decide)]; exact Nat.not_lt_zero _)] at ex
            rw [if_pos bl] at em
            exact row_go hd p px pm up_s up_s (by omega) (by omega) hw ex (fun v g' e _ => by rw [em, e, ob_eq])
          · rw [if_neg bl, ob_eq, if_neg (by decide), ob_eq, if_pos (by decide)] at ex
            rw [if_neg bl, if_neg c46, if_neg c91, if_neg c40, if_neg c41] at em
            exact Or.inr ⟨_, _, ex, em, px.f d, FMt.refl _⟩
