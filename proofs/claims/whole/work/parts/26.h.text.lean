/-! ===== the text: a tune ===== -/
def TI (n d q o : Nat) (h g : HP) (s : PSt) : Prop := XSt d h s ∧ MSt g s ∧ POK s ∧ h 1 2 = nI q ∧ g 39 14 = nI q ∧ q ≤ n ∧ o ≤ 3 ∧ ∀ j, j < o → ∃ f, f ≤ s.2.2.2.2.2.2.1 ∧ h 3 j = nI f ∧ g 50 j = nI f
theorem XSt.c3 {d j : Nat} {v : Int32} {h : HP} {s : PSt} (hd : TDc d) (x : XSt d h s) : XSt d (up h 3 j v) s := by
  unfold TDc at hd
  unfold XSt
  rw [up_c (show d ≠ 3 by omega), up_c (show d + 1 ≠ 3 by omega), up_c (show d + 2 ≠ 3 by omega), up_c (show d + 3 ≠ 3 by omega), up_c (show d + 4 ≠ 3 by omega)]
  exact x
theorem MSt.c50 {j : Nat} {v : Int32} {h : HP} {s : PSt} (x : MSt h s) : MSt (up h 50 j v) s := by
  unfold MSt
  rw [up_c (show 41 ≠ 50 by decide), up_c (show 39 ≠ 50 by decide), up_c (show 42 ≠ 50 by decide)]
  exact x
theorem row_sim (F : Nat) {d w : Nat} {h g : HP} {s : PSt} (x : XSt d h s) (y : MSt g s) (p : POK s) (hw : w < 2 ^ s.1) :
    (∃ h' g' s', f_X5_addRow F d (nI w) h = some (nI 1, h') ∧ f_X7_put F (nI w) g = some (nI 1, g') ∧ XSt d h' s' ∧ MSt g' s' ∧ POK s' ∧ s.2.2.2.2.2.2.1 ≤ s'.2.2.2.2.2.2.1 ∧ PRx d h h' ∧ PRm g g') ∨ (f_X5_addRow F d (nI w) h = some (nI 0, h) ∧ f_X7_put F (nI w) g = some (nI 0, g)) := by
  obtain ⟨B, N, R, T, M, ht, K, ws⟩ := s
  obtain ⟨p0, p1, p2, p3, p4, p5, p6, p7⟩ := p
  dsimp only at p0 p1 p2 p3 p4 p5 p6 p7 hw ⊢
  have x' : XSt d h (sK (B, N, R, T, M, ht, K, ws) K ws) := x
  have y' : MSt g (sK (B, N, R, T, M, ht, K, ws) K ws) := y
  by_cases z : K < 32
  · have e1 : ∀ r, r < K → updN ws K w r = ws r := fun r hr => by unfold updN; rw [if_neg (by omega)]
    have e2 : updN ws K w K = w := by unfold updN; rw [if_pos rfl]
    obtain ⟨h', a1, a2, a3⟩ := addRow_n F x' z e1 e2
    obtain ⟨g', b1, b2, b3⟩ := mput_n F y' z e1 e2
    refine Or.inl ⟨h', g', _, a1, b1, a2, b2, ⟨p0, p1, p2, p3, p4, p5, z, fun r hr => ?_⟩, Nat.le_succ K, a3, b3⟩
    show updN ws K w r < 2 ^ B
    unfold updN
    by_cases zz : r = K
    · rw [if_pos zz]; exact hw
    · rw [if_neg zz]; exact p7 r (by
        have : r < K + 1 := hr
        omega)
  · exact Or.inr ⟨addRow_no F x' (by omega) (by omega), mput_no F y' (by omega)⟩
theorem POK.again {s : PSt} {f L T : Nat} (p : POK s) (hK : s.2.2.2.2.2.2.1 = f + L) (hL : 0 < L) (hb : f + L + L * (T - 1) ≤ 32) : POK (sK s (f + L + L * (T - 1)) (wsA f L s.2.2.2.2.2.2.2)) := by
  obtain ⟨p0, p1, p2, p3, p4, p5, p6, p7⟩ := p
  refine ⟨p0, p1, p2, p3, p4, p5, hb, fun r hr => ?_⟩
  show wsA f L s.2.2.2.2.2.2.2 r < 2 ^ s.1
  unfold wsA
  by_cases z : r < f + L
  · rw [if_pos z]; exact p7 r (by omega)
  · rw [if_neg z]
    have := Nat.mod_lt (r - (f + L)) hL
    exact p7 _ (by omega)
/-- a part more: both go on, or both refuse -/
def TGo (F n : Nat) (t : Nat → Nat) (d q o i m m2 : Nat) (h g : HP) : Prop := ∃ h1 g1 o1 q1 s1, f_X4_readTune_18 F d (m + 1) (nI o) (nI i) h = f_X4_readTune_18 F d m (nI o1) (nI (i + 1)) h1 ∧ f_X7_takesTune_16 F (m2 + 1) (nI o) g = f_X7_takesTune_16 F m2 (nI o1) g1 ∧ TI n d q1 o1 h1 g1 s1 ∧ q < q1 ∧ FXt d h h1 ∧ FMt g g1
def TNo (cx cm : Option (Int32 × HP)) (d : Nat) (h g : HP) : Prop := ∃ h1 g1, cx = some (nI 0, h1) ∧ cm = some (nI 0, g1) ∧ FXt d h h1 ∧ FMt g g1
theorem tx_eq {F : Nat} {n : Nat} {t : Nat → Nat} {d q i m : Nat} {x2 : Int32} {h : HP} (x : TXX n t h) (hq : h 1 2 = nI q) (hq2 : q < 900) (hi : i < 200) (hc : ¬ chr n t q = 59) : f_X4_readTune_18 F d (m + 1) x2 (nI i) h = if chr n t q = 40 then (if x2 < (nI 3) then if inb x2 3 then f_X4_readTune_18 F d m (x2 + (nI 1)) (nI (i + 1)) (up (up h 1 2 (nI (q + 1))) 3 (ix x2) ((up h 1 2 (nI (q + 1))) d 7)) else none else some ((nI 0), up h 1 2 (nI (q + 1)))) else if chr n t q = 41 then
          (ob (f_X4_readFigure F (up h 1 2 (nI (q + 1)))) (fun v25 h23 =>
            if x2 < (nI 1) then
              some ((nI 0), h23)
            else
              if v25 < (nI 2) then
                some ((nI 0), h23)
              else
                if inb (x2 - (nI 1)) 3 then
                  ob (f_X5_tellAgain F d (h23 3 (ix (x2 - (nI 1)))) v25 h23) (fun v31 h29 =>
                  if v31 = nI 0 then
                    some ((nI 0), h29)
                  else
                    f_X4_readTune_18 F d m (x2 + (-1)) (nI (i + 1)) h29)
                else none))
          else
            ob (f_X4_readSet F (h d 0) h) (fun v17 h15 =>
            if v17 < nI 0 then
              some ((nI 0), h15)
            else
              ob (f_X5_addRow F d v17 h15) (fun v21 h19 =>
              if v21 = nI 0 then
                some ((nI 0), h19)
              else
                f_X4_readTune_18 F d m x2 (nI (i + 1)) h19)) := by
  have := chr_le x q
  rw [f_X4_readTune_18, if_neg (by rw [e_le (by decide) (by omega)]; omega), peek_n F x hq (by omega), ob_eq, i_eq (by omega) (by decide), if_neg hc, accept_n F x hq (by omega) (by decide), e_add]
  by_cases z : chr n t q = 40
  · rw [if_pos z, if_pos z, ob_eq, if_neg n1n0]
  · rw [if_neg z, if_neg z, ob_eq, if_pos rfl, accept_n F x hq (by omega) (by decide)]
    by_cases y : chr n t q = 41
    · rw [if_pos y, if_pos y, ob_eq, if_neg n1n0]
    · rw [if_neg y, if_neg y, ob_eq, if_pos rfl]
theorem tm_eq {F : Nat} {n : Nat} {t : Nat → Nat} {q B m : Nat} {x1 : Int32} {g : HP} (y : TXM n t g) (gq : g 39 14 = nI q) (hq2 : q < 900) (hB : B ≤ 8) (gB : g 41 0 = nI B) (hc : ¬ chr n t q = 59) : f_X7_takesTune_16 F (m + 1) x1 g = if 97 ≤ chr n t q ∧ chr n t q ≤ 96 + B then (ob (f_X7_put F (nI (2 ^ (chr n t q - 97))) (up g 39 14 (nI (q + 1)))) (fun v32 h30 =>
        f_X7_takesTune_263 F (f_X7_takesTune_16 F m) x1 v32 h30)) else if chr n t q = 46 then (ob (f_X7_put F (nI 0) (up g 39 14 (nI (q + 1)))) (fun v29 h27 =>
          f_X7_takesTune_263 F (f_X7_takesTune_16 F m) x1 v29 h27)) else if chr n t q = 91 then
            (ob (f_X7_chord F (up g 39 14 (nI (q + 1)))) (fun v22 h20 =>
            if v22 ≤ nI 0 then
              f_X7_takesTune_128 F (f_X7_takesTune_16 F m) x1 h20
            else
              ob (f_X7_put F v22 h20) (fun v26 h24 =>
              f_X7_takesTune_263 F (f_X7_takesTune_16 F m) x1 (if v26 = nI 0 then (nI 0) else (nI 1)) h24)))
          else
            if chr n t q = 40 then
              if (nI 3) ≤ x1 then
                some (nI 0, g)
              else
                if inb x1 3 then
                  f_X7_takesTune_16 F m (x1 + (nI 1)) (up (up g 39 14 (nI (q + 1))) 50 (ix x1) ((up g 39 14 (nI (q + 1))) 39 3))
                else none
            else
              if chr n t q = 41 then f_X7_takesTune_172 F (f_X7_takesTune_16 F m) x1 (nI 41) (nI 0) g else some (nI 0, g) := by
  rw [f_X7_takesTune_16, here_n F y gq (by omega), ob_eq, hIr_eq y.tb (by decide) (by decide), if_neg hc, here_n F y gq (by omega), ob_eq, bellHere_n F y gq (by omega) hB gB, ob_eq, gq, e_add]
  by_cases bl : 97 ≤ chr n t q ∧ chr n t q ≤ 96 + B
  · rw [if_pos bl, if_pos bl, if_neg n1n0, hIr_c rfl (by omega), e_sub (by omega), e_one (by omega)]
  · rw [if_neg bl, if_neg bl, if_pos rfl, hIr_eq y.tb (by decide) (by decide), hIr_eq y.tb (by decide) (by decide), hIr_eq y.tb (by decide) (by decide)]
    by_cases z1 : chr n t q = 46
    · rw [if_pos z1, if_pos z1]
    · rw [if_neg z1, if_neg z1]
      by_cases z2 : chr n t q = 91
      · rw [if_pos z2, if_pos z2]
      · rw [if_neg z2, if_neg z2]
        by_cases z3 : chr n t q = 40
        · rw [if_pos z3, if_pos z3]
          by_cases z5 : nI 3 ≤ x1
          · rw [if_pos z5, if_pos z5]
            unfold f_X7_takesTune_172 f_X7_takesTune_263
            rw [if_pos rfl, hIr_eq y.tb (by decide) (by decide), if_neg (by omega)]
          · rw [if_neg z5, if_neg z5]
            unfold f_X7_takesTune_263
            rw [if_neg n1n0]
        · rw [if_neg z3, if_neg z3]
          by_cases z4 : chr n t q = 41
          · rw [if_pos z4, hIr_c z4 (by decide)]
          · rw [if_neg z4]
            unfold f_X7_takesTune_172 f_X7_takesTune_263
            rw [if_pos rfl, hIr_eq y.tb (by decide) (by decide), if_neg z4]
/-- a row comes, behind what told it -/
theorem row_go {F n : Nat} {t : Nat → Nat} {d q q1 o i m m2 w : Nat} {h g hr gr : HP} {s : PSt} (hd : TDc d) (p : TI n d q o h g s) (px : PFx h hr) (pm : PFm g gr) (hq1 : hr 1 2 = nI q1) (gq1 : gr 39 14 = nI q1) (hlt : q < q1) (hle : q1 ≤ n) (hw : w < 2 ^ s.1)
    (eX : f_X4_readTune_18 F d (m + 1) (nI o) (nI i) h = ob (f_X5_addRow F d (nI w) hr) (fun v21 h19 => if v21 = nI 0 then some ((nI 0), h19) else f_X4_readTune_18 F d m (nI o) (nI (i + 1)) h19))
    (eM : ∀ v32 h30, f_X7_put F (nI w) gr = some (v32, h30) → v32 = nI 0 ∨ v32 = nI 1 → f_X7_takesTune_16 F (m2 + 1) (nI o) g = f_X7_takesTune_263 F (f_X7_takesTune_16 F m2) (nI o) v32 h30) :
    TGo F n t d q o i m m2 h g ∨ TNo (f_X4_readTune_18 F d (m + 1) (nI o) (nI i) h) (f_X7_takesTune_16 F (m2 + 1) (nI o) g) d h g := by
  obtain ⟨p1, p2, p3, p4, p5, p6, p7, p8⟩ := p
  have hd' := hd
  unfold TDc at hd'
  unfold f_X7_takesTune_263 at eM
  rcases row_sim F (p1.pf hd px) (p2.pf pm) p3 hw with ⟨h', g', s', a1, a2, a3, a4, a5, a6, a7, a8⟩ | ⟨a1, a2⟩
  · refine Or.inl ⟨h', g', o, q1, s', by rw [eX, a1, ob_eq, if_neg n1n0], by rw [eM _ _ a2 (Or.inr rfl), if_neg n1n0], ⟨a3, a4, a5, by rw [a7 1 (by omega) (by omega)]; exact hq1, by rw [a8.2 14 (by decide)]; exact gq1, hle, p7, fun j hj => ?_⟩, hlt, (px.f d).trans (a7.f hd), pm.f.trans a8.f⟩
    obtain ⟨f, f1, f2, f3⟩ := p8 j hj
    exact ⟨f, Nat.le_trans f1 a6, by rw [a7 3 (by omega) (by omega), px.1 3 (by decide)]; exact f2, by rw [a8.1 50 (by decide) (by decide), pm.1 50 (by decide)]; exact f3⟩
  · exact Or.inr ⟨hr, gr, by rw [eX, a1, ob_eq, if_pos rfl], by rw [eM _ _ a2 (Or.inl rfl), if_pos rfl], px.f d, pm.f⟩
