/-! ===== the text: items with numbers ===== -/
theorem hIr_c {n : Nat} {t : Nat → Nat} {q c : Nat} (h : chr n t q = c) (hc : c ≠ 0) : hIr n t q = nI c := by
  have := chr_pos h hc
  unfold chr at h
  unfold hIr
  rw [if_pos this] at h ⊢
  rw [h]
theorem isd59 {c : Nat} (h : isd c) : ¬ c = 59 ∧ ¬ c = 44 := by unfold isd at h; omega
theorem takes1 {F : Nat} (hF : 600 ≤ F) {n : Nat} {t : Nat → Nat} {q : Nat} {g : HP} (x : TXM n t g) (hq : g 39 14 = nI q) (hqn : q ≤ n) :
    (∃ v q' g', num n t q v q' ∧ chr n t q' = 59 ∧ f_X7_takes F (nI 1) g = some (nI 1, g') ∧ g' 49 0 = nI v ∧ g' 39 14 = nI (q' + 1) ∧ PFt g g') ∨ ((∀ v q', ¬ (num n t q v q' ∧ chr n t q' = 59)) ∧ ∃ g', f_X7_takes F (nI 1) g = some (nI 0, g') ∧ PFt g g') := by
  obtain ⟨m, rfl⟩ : ∃ m, F = m + 2 := ⟨F - 2, by omega⟩
  have e0 : f_X7_takes (m + 2) (nI 1) g = f_X7_takes_12 (m + 2) (nI 1) (f_X7_takes_2 (m + 2) (nI 1) (m + 1)) (m + 2) (nI 0) (nI 0) (nI 0) g := by
    unfold f_X7_takes
    rw [f_X7_takes_2, if_neg (by decide)]
  rw [e0]
  rcases take_num (k2 := f_X7_takes_2 (m + 2) (nI 1) (m + 1)) hF (show 59 = if 1 - 1 ≤ 0 then 59 else 44 by decide) (by decide) (by decide) (by decide) x hq hqn with ⟨v, q', g', a1, a2, a3, a4, a5, a6, a7⟩ | ⟨a1, g', a2, a3⟩
  · refine Or.inl ⟨v, q', g', a1, a2, ?_, a4, a6, a7⟩
    rw [a3, f_X7_takes_2, if_pos (by decide)]
  · exact Or.inr ⟨a1, g', a2, a3⟩
theorem takes2 {F : Nat} (hF : 600 ≤ F) {n : Nat} {t : Nat → Nat} {q : Nat} {g : HP} (x : TXM n t g) (hq : g 39 14 = nI q) (hqn : q ≤ n) :
    (∃ v q1 w q2 g', num n t q v q1 ∧ chr n t q1 = 44 ∧ num n t (q1 + 1) w q2 ∧ chr n t q2 = 59 ∧ f_X7_takes F (nI 2) g = some (nI 1, g') ∧ g' 49 0 = nI v ∧ g' 49 1 = nI w ∧ g' 39 14 = nI (q2 + 1) ∧ PFt g g') ∨ ((∀ v q1 w q2, ¬ (num n t q v q1 ∧ chr n t q1 = 44 ∧ num n t (q1 + 1) w q2 ∧ chr n t q2 = 59)) ∧ ∃ g', f_X7_takes F (nI 2) g = some (nI 0, g') ∧ PFt g g') := by
  obtain ⟨m, rfl⟩ : ∃ m, F = m + 3 := ⟨F - 3, by omega⟩
  have e0 : f_X7_takes (m + 3) (nI 2) g = f_X7_takes_12 (m + 3) (nI 2) (f_X7_takes_2 (m + 3) (nI 2) (m + 2)) (m + 3) (nI 0) (nI 0) (nI 0) g := by
    unfold f_X7_takes
    rw [f_X7_takes_2, if_neg (by decide)]
  rw [e0]
  rcases take_num (k2 := f_X7_takes_2 (m + 3) (nI 2) (m + 2)) hF (show 44 = if 2 - 1 ≤ 0 then 59 else 44 by decide) (by decide) (by decide) (by decide) x hq hqn with ⟨v, q', g', a1, a2, a3, a4, a5, a6, a7⟩ | ⟨a1, g', a2, a3⟩
  · have hq' : q' < n := chr_pos a2 (by decide)
    have e1 : f_X7_takes_2 (m + 3) (nI 2) (m + 2) (nI (0 + 1)) g' = f_X7_takes_12 (m + 3) (nI 2) (f_X7_takes_2 (m + 3) (nI 2) (m + 1)) (m + 3) (nI 1) (nI 0) (nI 0) g' := by
      rw [f_X7_takes_2, if_neg (by decide)]
    rw [a3, e1]
    rcases take_num (k2 := f_X7_takes_2 (m + 3) (nI 2) (m + 1)) hF (show 59 = if 2 - 1 ≤ 1 then 59 else 44 by decide) (by decide) (by decide) (by decide) (x.pt a7) a6 (by omega) with ⟨w, q2, g2, b1, b2, b3, b4, b5, b6, b7⟩ | ⟨b1, g2, b2, b3⟩
    · refine Or.inl ⟨v, q', w, q2, g2, a1, a2, b1, b2, ?_, by rw [b5 0 (by decide)]; exact a4, b4, b6, a7.trans b7⟩
      rw [b3, f_X7_takes_2, if_pos (by decide)]
    · refine Or.inr ⟨fun v' q1 w q2 hh => ?_, g2, b2, a7.trans b3⟩
      obtain ⟨c1, c2, c3, c4⟩ := hh
      have := (num_inj a1 c1).2
      subst this
      exact b1 w q2 ⟨c3, c4⟩
  · exact Or.inr ⟨fun v q1 w q2 hh => a1 v q1 ⟨hh.1, hh.2.1⟩, g', a2, a3⟩
theorem takesOne_n {F : Nat} (hF : 600 ≤ F) {n : Nat} {t : Nat → Nat} {q j lo hi : Nat} {g : HP} (hj : j < 19) (hlo : lo < 1000) (hhi : hi < 1000) (x : TXM n t g) (hq : g 39 14 = nI q) (hqn : q ≤ n) :
    (∃ v q' g', num n t q v q' ∧ chr n t q' = 59 ∧ (lo ≤ v ∧ v ≤ hi) ∧ f_X7_takesOne F (nI j) (nI lo) (nI hi) g = some (nI 1, up g' 41 j (nI v)) ∧ g' 39 14 = nI (q' + 1) ∧ PFt g g') ∨ ((∀ v q', ¬ (num n t q v q' ∧ chr n t q' = 59 ∧ (lo ≤ v ∧ v ≤ hi))) ∧ ∃ g', f_X7_takesOne F (nI j) (nI lo) (nI hi) g = some (nI 0, g') ∧ PFt g g') := by
  unfold f_X7_takesOne
  rcases takes1 hF x hq hqn with ⟨v, q', g', a1, a2, a3, a4, a5, a6⟩ | ⟨a1, g', a2, a3⟩
  · have hv := (num_lt a1).1
    rw [a3, ob_eq, if_neg n1n0, a4, in_spec, ob_eq]
    by_cases z : lo ≤ v ∧ v ≤ hi
    · rw [if_pos (show nI lo ≤ nI v ∧ nI v ≤ nI hi by rw [e_le (by omega) (by omega), e_le (by omega) (by omega)]; exact z), if_neg n1n0, if_pos (inb_t hj (by decide)), e_ix (by omega)]
      exact Or.inl ⟨v, q', g', a1, a2, z, by rw [a4], a5, a6⟩
    · rw [if_neg (show ¬ (nI lo ≤ nI v ∧ nI v ≤ nI hi) by rw [e_le (by omega) (by omega), e_le (by omega) (by omega)]; exact z), if_pos rfl]
      refine Or.inr ⟨fun w q2 hh => ?_, g', rfl, a6⟩
      rw [← (num_inj a1 hh.1).1] at hh
      exact z hh.2.2
  · rw [a2, ob_eq, if_pos rfl]
    exact Or.inr ⟨fun v q' hh => a1 v q' ⟨hh.1, hh.2.1⟩, g', rfl, a3⟩
theorem item_1 {F : Nat} (hF : 600 ≤ F) {n : Nat} {t : Nat → Nat} {d q c lo hi jx jm : Nat} {h g : HP} {s : PSt} (sN : Nat → PSt) (hd : TDc d) (hjm : jm < 19) (hlo : lo < 1000) (hhi : hi < 1000) (x : TXX n t h) (y : TXM n t g) (xs : XSt d h s) (ms : MSt g s) (hq : h 1 2 = nI q) (gq : g 39 14 = nI q) (hc : chr n t q = c) (hc0 : c ≠ 0)
    (eX : f_X4_readItem F d h = ob (f_X4_readNumber F (up h 1 2 (nI (q + 1)))) (fun v h => if nI lo ≤ v ∧ v ≤ nI hi then some (nI 1, up h d jx v) else some (nI 0, h)))
    (eM : f_X7_takesItem F g = ob (f_X7_takesOne F (nI jm) (nI lo) (nI hi) (up g 39 14 (nI (q + 1)))) (fun v12 h10 => if v12 = nI 0 ∨ v12 = nI 1 then some (v12, h10) else none))
    (hX : ∀ h v, XSt d h s → XSt d (up h d jx (nI v)) (sN v)) (hM : ∀ g v, MSt g s → MSt (up g 41 jm (nI v)) (sN v)) (hP : ∀ v, lo ≤ v → v ≤ hi → POK (sN v)) : ItOk F n t d q h g ∨ ItNo F d h g := by
  have hqn : q < n := chr_pos hc hc0
  have hn := x.1
  have px := PFx.up h (nI (q + 1))
  have pm := PFm.up g (nI (q + 1))
  have hd' := hd
  unfold TDc at hd'
  obtain ⟨r, h2, q', e, hq', pf, le, cases⟩ := number_n F (x.pf px) up_s (show q + 1 < 900 by omega)
  have p2 : PFx h h2 := px.trans pf
  have fx2 : FXt d h h2 := p2.f d
  have fup : ∀ w, FXt d h (up h2 d jx w) := fun w => fx2.trans (FXt.low hd (fun z hz => up_c (by omega)))
  rw [e, ob_eq] at eX
  rcases cases with ⟨v, nv, rfl⟩ | ⟨rfl, nn⟩ | ⟨dg, nn⟩
  · have hv := num_lt nv
    by_cases z : lo ≤ v ∧ v ≤ hi
    · rw [if_pos (show nI lo ≤ nI v ∧ nI v ≤ nI hi by rw [e_le (by omega) (by omega), e_le (by omega) (by omega)]; exact z)] at eX
      have x3 : TXX n t (up h2 d jx (nI v)) := x.f hd (fup _)
      have q3 : (up h2 d jx (nI v)) 1 2 = nI q' := by rw [up_c (by omega)]; exact hq'
      by_cases hc2 : chr n t q' = 59
      · rcases takesOne_n hF hjm hlo hhi (y.pf pm) up_s (show q + 1 ≤ n by omega) with ⟨v', q2, g', a1, a2, a3, a4, a5, a6⟩ | ⟨a1, _⟩
        · obtain ⟨rfl, rfl⟩ := num_inj nv a1
          have hlt := chr_pos hc2 (by decide)
          refine Or.inl ⟨_, _, q' + 1, sN v, end_ok n1n0 eX x3 q3 (by omega) hc2, ?_, ?_, hM g' v ((ms.pf pm).pt a6), hP v z.1 z.2, up_s, by rw [up_c (by decide)]; exact a5, by omega, by omega, (fup _).trans ((PFx.up _ _).f d), (pm.t.trans a6).f.trans (FMt.at41 (fun z hz => up_c hz))⟩
          · rw [eM, a4, ob_eq, if_pos (Or.inr rfl)]
          · exact (hX h2 v (xs.pf hd p2)).pf hd (PFx.up _ _)
        · exact absurd ⟨nv, hc2, z⟩ (a1 v q')
      · rcases takesOne_n hF hjm hlo hhi (y.pf pm) up_s (show q + 1 ≤ n by omega) with ⟨v', q2, g', a1, a2, a3, a4, a5, a6⟩ | ⟨a1, g', a4, a6⟩
        · obtain ⟨rfl, rfl⟩ := num_inj nv a1
          exact absurd a2 hc2
        · exact Or.inr ⟨_, g', end_no eX x3 q3 (by omega) hc2, by rw [eM, a4, ob_eq, if_pos (Or.inl rfl)], fup _, (pm.t.trans a6).f⟩
    · rw [if_neg (show ¬ (nI lo ≤ nI v ∧ nI v ≤ nI hi) by rw [e_le (by omega) (by omega), e_le (by omega) (by omega)]; exact z)] at eX
      rcases takesOne_n hF hjm hlo hhi (y.pf pm) up_s (show q + 1 ≤ n by omega) with ⟨v', q2, g', a1, a2, a3, a4, a5, a6⟩ | ⟨a1, g', a4, a6⟩
      · obtain ⟨rfl, rfl⟩ := num_inj nv a1
        exact absurd a3 z
      · exact Or.inr ⟨_, g', end_0 eX, by rw [eM, a4, ob_eq, if_pos (Or.inl rfl)], fx2, (pm.t.trans a6).f⟩
  · rw [if_neg (fun w => m1_nle (by omega) w.1)] at eX
    rcases takesOne_n hF hjm hlo hhi (y.pf pm) up_s (show q + 1 ≤ n by omega) with ⟨v', q2, g', a1, a2, a3, a4, a5, a6⟩ | ⟨a1, g', a4, a6⟩
    · exact absurd a1 (nn _ _)
    · exact Or.inr ⟨_, g', end_0 eX, by rw [eM, a4, ob_eq, if_pos (Or.inl rfl)], fx2, (pm.t.trans a6).f⟩
  · rcases takesOne_n hF hjm hlo hhi (y.pf pm) up_s (show q + 1 ≤ n by omega) with ⟨v', q2, g', a1, a2, a3, a4, a5, a6⟩ | ⟨a1, g', a4, a6⟩
    · exact absurd a1 (nn _ _)
    · by_cases z : nI lo ≤ r ∧ r ≤ nI hi
      · rw [if_pos z] at eX
        exact Or.inr ⟨_, g', end_no eX (x.f hd (fup _)) (by rw [up_c (by omega)]; exact hq') (by omega) (isd59 dg).1, by rw [eM, a4, ob_eq, if_pos (Or.inl rfl)], fup _, (pm.t.trans a6).f⟩
      · rw [if_neg z] at eX
        exact Or.inr ⟨_, g', end_0 eX, by rw [eM, a4, ob_eq, if_pos (Or.inl rfl)], fx2, (pm.t.trans a6).f⟩
theorem tell_if {α : Type} {x : Int32} {lo hi : Nat} (a b : α) : (if x < nI lo then b else if x ≤ nI hi then a else b) = if nI lo ≤ x ∧ x ≤ nI hi then a else b := by
  by_cases z : nI lo ≤ x
  · rw [if_neg (Int32.not_lt.mpr z)]
    by_cases w : x ≤ nI hi
    · rw [if_pos w, if_pos (show nI lo ≤ x ∧ x ≤ nI hi from ⟨z, w⟩)]
    · rw [if_neg w, if_neg (fun v => w v.2)]
  · rw [if_pos (Int32.not_le.mp z), if_neg (fun v => z v.1)]
theorem item_n {F : Nat} (hF : 600 ≤ F) {n : Nat} {t : Nat → Nat} {d q : Nat} {h g : HP} {s : PSt} (hd : TDc d) (x : TXX n t h) (y : TXM n t g) (xs : XSt d h s) (ms : MSt g s) (hP : POK s) (hq : h 1 2 = nI q) (gq : g 39 14 = nI q) (hc : chr n t q = 110) : ItOk F n t d q h g ∨ ItNo F d h g := by
  have hqn : q < n := chr_pos hc (by decide)
  have hn := x.1
  obtain ⟨B, N, R, T, M, ht, K, ws⟩ := s
  refine item_1 hF (lo := 2) (hi := 32) (jx := 4) (jm := 1) (fun v => (B, v, R, T, M, ht, K, ws)) hd (by decide) (by decide) (by decide) x y xs ms hq gq hc (by decide) ?_ ?_ ?_ ?_ ?_
  · unfold f_X4_readItem
    rw [peek_n F x hq (by omega), hc, ob_eq, if_neg (by decide), if_pos rfl, hq, e_add]
    congr 1
    funext v h1
    unfold f_X5_tellRows
    rw [tell_if]
    by_cases z : nI 2 ≤ v ∧ v ≤ nI 32
    · rw [if_pos z, ob_eq, if_pos (Or.inr rfl)]
    · rw [if_neg z, ob_eq, if_pos (Or.inl rfl)]
  · unfold f_X7_takesItem
    rw [here_n F y gq (by omega), hIr_c hc (by decide), ob_eq, if_neg (by decide), if_pos rfl, gq, e_add]
  · intro h v hx
    obtain ⟨x0, x4, x5, xb, x6, x7, xr⟩ := hx
    dsimp only at x0 x4 x5 xb x6 x7 xr
    exact ⟨by rw [up_n (by decide)]; exact x0, up_s, by rw [up_n (by decide)]; exact x5, fun b hb => by rw [up_c (by omega), up_c (by omega), up_c (by omega)]; exact xb b hb, by rw [up_n (by decide)]; exact x6, by rw [up_n (by decide)]; exact x7, by rw [up_c (by omega)]; exact xr⟩
  · intro g v hx
    obtain ⟨x0, x4, x5, xb, x6, x7, xr⟩ := hx
    dsimp only at x0 x4 x5 xb x6 x7 xr
    exact ⟨by rw [up_n (by decide)]; exact x0, up_s, by rw [up_n (by decide)]; exact x5, fun b hb => by rw [up_n (by omega), up_n (by omega)]; exact xb b hb, by rw [up_c (by decide)]; exact x6, by rw [up_c (by decide)]; exact x7, by rw [up_c (by decide)]; exact xr⟩
  · intro v h1 h2
    obtain ⟨p0, p1, p2, p3⟩ := hP
    exact ⟨p0, h1, h2, p3⟩
theorem item_r {F : Nat} (hF : 600 ≤ F) {n : Nat} {t : Nat → Nat} {d q : Nat} {h g : HP} {s : PSt} (hd : TDc d) (x : TXX n t h) (y : TXM n t g) (xs : XSt d h s) (ms : MSt g s) (hP : POK s) (hq : h 1 2 = nI q) (gq : g 39 14 = nI q) (hc : chr n t q = 114) : ItOk F n t d q h g ∨ ItNo F d h g := by
  have hqn : q < n := chr_pos hc (by decide)
  have hn := x.1
  obtain ⟨B, N, R, T, M, ht, K, ws⟩ := s
  refine item_1 hF (lo := 0) (hi := 6) (jx := 5) (jm := 2) (fun v => (B, N, v, T, M, ht, K, ws)) hd (by decide) (by decide) (by decide) x y xs ms hq gq hc (by decide) ?_ ?_ ?_ ?_ ?_
  · unfold f_X4_readItem
    rw [peek_n F x hq (by omega), hc, ob_eq, if_neg (by decide), if_neg (by decide), if_pos rfl, hq, e_add]
    congr 1
    funext v h1
    unfold f_X5_tellRest
    rw [tell_if]
    by_cases z : nI 0 ≤ v ∧ v ≤ nI 6
    · rw [if_pos z, ob_eq, if_pos (Or.inr rfl)]
    · rw [if_neg z, ob_eq, if_pos (Or.inl rfl)]
  · unfold f_X7_takesItem
    rw [here_n F y gq (by omega), hIr_c hc (by decide), ob_eq, if_neg (by decide), if_neg (by decide), if_pos rfl, gq, e_add]
  · intro h v hx
    obtain ⟨x0, x4, x5, xb, x6, x7, xr⟩ := hx
    dsimp only at x0 x4 x5 xb x6 x7 xr
    exact ⟨by rw [up_n (by decide)]; exact x0, by rw [up_n (by decide)]; exact x4, up_s, fun b hb => by rw [up_c (by omega), up_c (by omega), up_c (by omega)]; exact xb b hb, by rw [up_n (by decide)]; exact x6, by rw [up_n (by decide)]; exact x7, by rw [up_c (by omega)]; exact xr⟩
  · intro g v hx
    obtain ⟨x0, x4, x5, xb, x6, x7, xr⟩ := hx
    dsimp only at x0 x4 x5 xb x6 x7 xr
    exact ⟨by rw [up_n (by decide)]; exact x0, by rw [up_n (by decide)]; exact x4, up_s, fun b hb => by rw [up_n (by omega), up_n (by omega)]; exact xb b hb, by rw [up_c (by decide)]; exact x6, by rw [up_c (by decide)]; exact x7, by rw [up_c (by decide)]; exact xr⟩
  · intro v h1 h2
    obtain ⟨p0, p1, p2, p3, p4⟩ := hP
    exact ⟨p0, p1, p2, h2, p4⟩
theorem item_b {F : Nat} (hF : 600 ≤ F) {n : Nat} {t : Nat → Nat} {d q : Nat} {h g : HP} {s : PSt} (hd : TDc d) (x : TXX n t h) (y : TXM n t g) (xs : XSt d h s) (ms : MSt g s) (hP : POK s) (hq : h 1 2 = nI q) (gq : g 39 14 = nI q) (hc : chr n t q = 98) : ItOk F n t d q h g ∨ ItNo F d h g := by
  have hqn : q < n := chr_pos hc (by decide)
  have hn := x.1
  have px := PFx.up h (nI (q + 1))
  have pm := PFm.up g (nI (q + 1))
  have hd' := hd
  unfold TDc at hd'
  have hB8 := hP.1
  have eX : f_X4_readItem F d h = ob (f_X4_readBell F d (up h 1 2 (nI (q + 1)))) (fun v7 h5 => if v7 = nI 0 ∨ v7 = nI 1 then some (v7, h5) else none) := by
    unfold f_X4_readItem
    rw [peek_n F x hq (by omega), hc, ob_eq, if_pos rfl, hq, e_add]
  have eM : f_X7_takesItem F g = ob (f_X7_takesBell F (up g 39 14 (nI (q + 1)))) (fun v7 h5 => if v7 = nI 0 ∨ v7 = nI 1 then some (v7, h5) else none) := by
    unfold f_X7_takesItem
    rw [here_n F y gq (by omega), hIr_c hc (by decide), ob_eq, if_pos rfl, gq, e_add]
  -- the reference: refused when the numbers aren't there
  have mNo : (∀ v q1 w q2, ¬ (num n t (q + 1) v q1 ∧ chr n t q1 = 44 ∧ num n t (q1 + 1) w q2 ∧ chr n t q2 = 59 ∧ (s.1 < 8 ∧ v ≤ 40 ∧ 1 ≤ w ∧ w ≤ 2))) → ∃ g', f_X7_takesItem F g = some (nI 0, g') ∧ FMt g g' := by
    intro no
    unfold f_X7_takesBell at eM
    rcases takes2 hF (y.pf pm) up_s (show q + 1 ≤ n by omega) with ⟨v, q1, w, q2, g', a1, a2, a3, a4, a5, a6, a7, a8, a9⟩ | ⟨_, g', a2, a3⟩
    · have hv := num_lt a1
      have hw := num_lt a3
      have fm := (pm.t.trans a9).f
      have ms' := (ms.pf pm).pt a9
      rw [a5, ob_eq, if_neg n1n0, a6, i_lt (by decide) (by omega)] at eM
      by_cases z1 : 40 < v
      · rw [if_pos z1, ob_eq, if_pos (Or.inl rfl)] at eM
        exact ⟨g', eM, fm⟩
      · rw [if_neg z1, a7, l64 (show 1 < 2147483648 by decide), l64 (show 2 < 2147483648 by decide), in_spec, ob_eq] at eM
        by_cases z2 : 1 ≤ w ∧ w ≤ 2
        · rw [if_pos (show nI 1 ≤ nI w ∧ nI w ≤ nI 2 by rw [e_le (by decide) (by omega), e_le (by omega) (by decide)]; exact z2), if_neg n1n0, ms'.1, i_eq (by omega) (by decide)] at eM
          by_cases z3 : s.1 = 8
          · rw [if_pos z3, ob_eq, if_pos (Or.inl rfl)] at eM
            exact ⟨g', eM, fm⟩
          · exact absurd ⟨a1, a2, a3, a4, by omega, by omega, z2⟩ (no v q1 w q2)
        · rw [if_neg (show ¬ (nI 1 ≤ nI w ∧ nI w ≤ nI 2) by rw [e_le (by decide) (by omega), e_le (by omega) (by decide)]; exact z2), if_pos rfl, ob_eq, if_pos (Or.inl rfl)] at eM
          exact ⟨g', eM, fm⟩
    · rw [a2, ob_eq, if_pos rfl, ob_eq, if_pos (Or.inl rfl)] at eM
      exact ⟨g', eM, (pm.t.trans a3).f⟩
  obtain ⟨r, h2, q1, e, hq1, pf, le, cases⟩ := number_n F (x.pf px) up_s (show q + 1 < 900 by omega)
  have p2 : PFx h h2 := px.trans pf
  have x2 := x.pf p2
  unfold f_X4_readBell at eX
  rw [e, ob_eq, accept_n F x2 hq1 (by omega) (by decide)] at eX
  by_cases c1 : chr n t q1 = 44
  · have hq1n := chr_pos c1 (by decide)
    rw [if_pos c1, ob_eq, if_neg n1n0] at eX
    have p3 : PFx h (up h2 1 2 (nI (q1 + 1))) := p2.trans (PFx.up _ _)
    obtain ⟨r2, h4, q2, e4, hq2, pf4, le2, cases2⟩ := number_n F (x.pf p3) up_s (show q1 + 1 < 900 by omega)
    have p4 := p3.trans pf4
    have x4 := x.pf p4
    rw [e4, ob_eq] at eX
    rcases cases with ⟨v, nv, rfl⟩ | ⟨rfl, nn⟩ | ⟨dg, nn⟩
    · have hv := num_lt nv
      have xs4 := xs.pf hd p4
      rcases cases2 with ⟨w, nw, rfl⟩ | ⟨rfl, nn2⟩ | ⟨dg2, nn2⟩
      · have hw := num_lt nw
        by_cases z : s.1 < 8 ∧ v ≤ 40 ∧ 1 ≤ w ∧ w ≤ 2
        · obtain ⟨z1, z2, z3, z4⟩ := z
          obtain ⟨h5, a1, a2, a3⟩ := addBell_n hF xs4 hP z1 z2 z3 z4
          rw [a1, ob_eq, if_neg n1n0, ob_eq, if_pos (Or.inr rfl)] at eX
          have f5 : FXt d h h5 := (p4.f d).trans (FXt.low hd (fun z hz => a3 z (by omega)))
          have x5 := x.f hd f5
          have q5 : h5 1 2 = nI q2 := by rw [a3 1 (by omega)]; exact hq2
          by_cases c2 : chr n t q2 = 59
          · have hlt := chr_pos c2 (by decide)
            unfold f_X7_takesBell at eM
            rcases takes2 hF (y.pf pm) up_s (show q + 1 ≤ n by omega) with ⟨v', q1', w', q2', g', b1, b2, b3, b4, b5, b6, b7, b8, b9⟩ | ⟨b1, _⟩
            · obtain ⟨rfl, rfl⟩ := num_inj nv b1
              obtain ⟨rfl, rfl⟩ := num_inj nw b3
              have ms' := (ms.pf pm).pt b9
              obtain ⟨g2, d1, d2, d3⟩ := comes_n F (v := v) (w := w) ms' z1
              rw [b5, ob_eq, if_neg n1n0, b6, i_lt (by decide) (by omega), if_neg (by omega), b7, l64 (show 1 < 2147483648 by decide), l64 (show 2 < 2147483648 by decide), in_spec, ob_eq, if_pos (show nI 1 ≤ nI w ∧ nI w ≤ nI 2 by rw [e_le (by decide) (by omega), e_le (by omega) (by decide)]; exact ⟨z3, z4⟩), if_neg n1n0, ms'.1, i_eq (by omega) (by decide), if_neg (by omega), b6, b7, d1, obv_eq, ob_eq, if_pos (Or.inr rfl)] at eM
              exact Or.inl ⟨_, g2, q2 + 1, _, end_ok n1n0 eX x5 q5 (by omega) c2, eM, a2.pf hd (PFx.up _ _), d2, hP.bell z1 z2 z3 z4, up_s, by rw [d3 39 (by decide)]; exact b8, by omega, by omega, f5.trans ((PFx.up _ _).f d), (pm.t.trans b9).f.trans (FMt.at41 d3)⟩
            · exact absurd ⟨nv, c1, nw, c2⟩ (b1 v q1 w q2)
          · obtain ⟨g', m1, m2⟩ := mNo (fun v' q1' w' q2' hh => by
              obtain ⟨k1, k2, k3, k4, _⟩ := hh
              obtain ⟨rfl, rfl⟩ := num_inj nv k1
              obtain ⟨rfl, rfl⟩ := num_inj nw k3
              exact c2 k4)
            exact Or.inr ⟨_, g', end_no eX x5 q5 (by omega) c2, m1, f5, m2⟩
        · obtain ⟨g', m1, m2⟩ := mNo (fun v' q1' w' q2' hh => by
            obtain ⟨k1, k2, k3, k4, k5⟩ := hh
            obtain ⟨rfl, rfl⟩ := num_inj nv k1
            obtain ⟨rfl, rfl⟩ := num_inj nw k3
            exact z k5)
          rw [addBell_no F xs4.1 hB8 (fun zz => z ⟨zz.1, by
            have := zz.2.2.1
            rw [e_le (by omega) (by decide)] at this
            exact this, by
            have := zz.2.2.2
            rw [e_le (by decide) (by omega), e_le (by omega) (by decide)] at this
            exact this⟩), ob_eq, if_pos rfl, ob_eq, if_pos (Or.inl rfl)] at eX
          exact Or.inr ⟨_, g', end_0 eX, m1, p4.f d, m2⟩
      · obtain ⟨g', m1, m2⟩ := mNo (fun v' q1' w' q2' hh => by
          obtain ⟨k1, k2, k3, k4, k5⟩ := hh
          obtain ⟨rfl, rfl⟩ := num_inj nv k1
          exact nn2 _ _ k3)
        rw [addBell_no F xs4.1 hB8 (fun zz => m1_nle (by decide) zz.2.2.2.1), ob_eq, if_pos rfl, ob_eq, if_pos (Or.inl rfl)] at eX
        exact Or.inr ⟨_, g', end_0 eX, m1, p4.f d, m2⟩
      · obtain ⟨g', m1, m2⟩ := mNo (fun v' q1' w' q2' hh => by
          obtain ⟨k1, k2, k3, k4, k5⟩ := hh
          obtain ⟨rfl, rfl⟩ := num_inj nv k1
          exact nn2 _ _ k3)
        obtain ⟨r5, h5, a1, a3⟩ := addBell_any hF (x2 := r2) xs4 hP hv.1
        have f5 : FXt d h h5 := (p4.f d).trans (FXt.low hd (fun z hz => a3 z (by omega)))
        have q5 : h5 1 2 = nI q2 := by rw [a3 1 (by omega)]; exact hq2
        rw [a1, ob_eq] at eX
        by_cases z : r5 = nI 0
        · rw [if_pos z, ob_eq, if_pos (Or.inl rfl)] at eX
          exact Or.inr ⟨_, g', end_0 eX, m1, f5, m2⟩
        · rw [if_neg z, ob_eq, if_pos (Or.inr rfl)] at eX
          exact Or.inr ⟨_, g', end_no eX (x.f hd f5) q5 (by omega) (isd59 dg2).1, m1, f5, m2⟩
    · obtain ⟨g', m1, m2⟩ := mNo (fun v' q1' w' q2' hh => nn _ _ hh.1)
      rw [addBell_no F (xs.pf hd p4).1 hB8 (fun zz => m1_nle (by decide) zz.2.1), ob_eq, if_pos rfl, ob_eq, if_pos (Or.inl rfl)] at eX
      exact Or.inr ⟨_, g', end_0 eX, m1, p4.f d, m2⟩
    · exact absurd c1 (isd59 dg).2
  · rw [if_neg c1, ob_eq, if_pos rfl, ob_eq, if_pos (Or.inl rfl)] at eX
    obtain ⟨g', m1, m2⟩ := mNo (fun v' q1' w' q2' hh => by
      rcases cases with ⟨v, nv, rfl⟩ | ⟨rfl, nn⟩ | ⟨dg, nn⟩
      · obtain ⟨rfl, rfl⟩ := num_inj nv hh.1
        exact c1 hh.2.1
      · exact nn _ _ hh.1
      · exact nn _ _ hh.1)
    exact Or.inr ⟨_, g', end_0 eX, m1, p2.f d, m2⟩
