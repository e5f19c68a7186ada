/-! ===== the text: an item ===== -/
theorem num_inj {n : Nat} {t : Nat → Nat} {q v q' w q2 : Nat} (h : num n t q v q') (h2 : num n t q w q2) : v = w ∧ q' = q2 := by
  obtain ⟨a1, a2, a3⟩ := h
  obtain ⟨b1, b2, b3⟩ := h2
  rcases a3 with ⟨a4, a5⟩ | ⟨a4, a5, a6⟩
  · rcases b3 with ⟨b4, b5⟩ | ⟨b4, b5, b6⟩
    · omega
    · rw [a4] at a2; exact absurd b5 a2
  · rcases b3 with ⟨b4, b5⟩ | ⟨b4, b5, b6⟩
    · rw [b4] at b2; exact absurd a5 b2
    · omega
theorem comes_n (F : Nat) {g : HP} {s : PSt} {v w : Nat} (x : MSt g s) (hB : s.1 < 8) :
    ∃ g', f_X7_comes F (nI v) (nI w) g = some g' ∧ MSt g' (s.1 + 1, s.2.1, s.2.2.1, updN s.2.2.2.1 s.1 v, updN s.2.2.2.2.1 s.1 w, s.2.2.2.2.2) ∧ ∀ z, z ≠ 41 → g' z = g z := by
  obtain ⟨B, N, R, T, M, ht, K, ws⟩ := s
  obtain ⟨x0, x1, x2, xb, x6, x7, xr⟩ := x
  dsimp only at x0 x1 x2 xb x6 x7 xr hB ⊢
  refine ⟨_, by
    unfold f_X7_comes
    rw [x0, e_add, e_add, if_pos (inb_t (by omega) (by decide)), if_pos (inb_t (by omega) (by decide)), e_ix (by omega), e_ix (by omega)], ⟨?_, ?_, ?_, fun b hb => ⟨?_, ?_⟩, ?_, ?_, ?_⟩, fun z hz => by rw [up_c hz, up_c hz, up_c hz]⟩
  · rw [up_s, up_n (by omega), up_n (by omega), x0, e_add]
  · rw [up_n (by decide), up_n (by omega), up_n (by omega)]; exact x1
  · rw [up_n (by decide), up_n (by omega), up_n (by omega)]; exact x2
  · rw [up_n (by omega), up_n (by omega)]
    unfold updN
    dsimp only at hb ⊢
    by_cases z : b = B
    · rw [if_pos z, z, up_s]
    · rw [if_neg z, up_n (by omega)]; exact (xb b (by omega)).1
  · rw [up_n (by omega)]
    unfold updN
    dsimp only at hb ⊢
    by_cases z : b = B
    · rw [if_pos z, z, up_s]
    · rw [if_neg z, up_n (by omega), up_n (by omega)]; exact (xb b (by omega)).2
  · rw [up_c (by decide), up_c (by decide), up_c (by decide)]; exact x6
  · rw [up_c (by decide), up_c (by decide), up_c (by decide)]; exact x7
  · rw [up_c (by decide), up_c (by decide), up_c (by decide)]; exact xr
theorem POK.bell {s : PSt} {v w : Nat} (p : POK s) (hB : s.1 < 8) (hv : v ≤ 40) (h1 : 1 ≤ w) (h2 : w ≤ 2) : POK (s.1 + 1, s.2.1, s.2.2.1, updN s.2.2.2.1 s.1 v, updN s.2.2.2.2.1 s.1 w, s.2.2.2.2.2) := by
  obtain ⟨p0, p1, p2, p3, p4, p5, p6, p7⟩ := p
  refine ⟨hB, p1, p2, p3, fun b hb => ?_, p5, p6, fun r hr => ?_⟩
  · dsimp only at hb ⊢
    unfold updN
    by_cases z : b = s.1
    · rw [if_pos z, if_pos z]; exact ⟨hv, h1, h2⟩
    · rw [if_neg z, if_neg z]; exact p4 b (by omega)
  · have := p7 r hr
    dsimp only
    rw [Nat.pow_succ]; omega
theorem between12 {x : Int32} (h1 : nI 1 ≤ x) (h2 : x ≤ nI 2) : x = nI 1 ∨ x = nI 2 := by
  rcases cas x (n := 3) (by decide) with ⟨j, hj, e⟩ | h | h
  · rw [e, e_le (by decide) (by omega)] at h1
    have : j = 1 ∨ j = 2 := by omega
    rcases this with rfl | rfl
    · exact Or.inl e
    · exact Or.inr e
  · exact absurd (Int32.lt_of_lt_of_le h (Int32.le_trans (show nI 0 ≤ nI 1 by decide) h1)) Int32.lt_irrefl
  · exact absurd (Int32.le_trans h h2) (by decide)
/-- a bell, whatever the numbers are: an answer, and nothing but the tower has changed -/
theorem addBell_any {F : Nat} (hF : 600 ≤ F) {d v : Nat} {x2 : Int32} {h : HP} {s : PSt} (x : XSt d h s) (hP : POK s) (hv : v < 100) :
    ∃ r h', f_X5_addBell F d (nI v) x2 h = some (r, h') ∧ ∀ z, z < d ∨ d + 3 < z → h' z = h z := by
  by_cases z : s.1 < 8 ∧ nI 0 ≤ nI v ∧ nI v ≤ nI 40 ∧ nI 1 ≤ x2 ∧ x2 ≤ nI 2
  · obtain ⟨z1, z2, z3, z4, z5⟩ := z
    rw [e_le (by omega) (by decide)] at z3
    rcases between12 z4 z5 with e | e
    · obtain ⟨h', a, b, c⟩ := addBell_n hF x hP z1 z3 (show 1 ≤ 1 by decide) (by decide)
      exact ⟨_, h', by rw [e]; exact a, c⟩
    · obtain ⟨h', a, b, c⟩ := addBell_n hF x hP z1 z3 (show 1 ≤ 2 by decide) (by decide)
      exact ⟨_, h', by rw [e]; exact a, c⟩
  · exact ⟨_, h, addBell_no F x.1 hP.1 z, fun _ _ => rfl⟩
/-- the class: an item and the ; behind it, then K -/
def cIt (F d : Nat) (h : HP) (K : HP → Option (Int32 × HP)) : Option (Int32 × HP) :=
  ob (f_X4_readItem F d h) (fun v7 h5 =>
        if v7 = nI 0 then
          some (h 1 2, h5)
        else
          ob (f_X4_accept F (nI 59) h5) (fun v11 h9 =>
          if v11 = nI 0 then
            some (h 1 2, h9)
          else
            K h9))
def ItOk (F n : Nat) (t : Nat → Nat) (d q : Nat) (h g : HP) : Prop := ∃ h' g' q' s', (∀ K, cIt F d h K = K h') ∧ f_X7_takesItem F g = some (nI 1, g') ∧ XSt d h' s' ∧ MSt g' s' ∧ POK s' ∧ h' 1 2 = nI q' ∧ g' 39 14 = nI q' ∧ q < q' ∧ q' ≤ n ∧ FXt d h h' ∧ FMt g g'
def ItNo (F d : Nat) (h g : HP) : Prop := ∃ h' g', (∀ K, cIt F d h K = some (h 1 2, h')) ∧ f_X7_takesItem F g = some (nI 0, g') ∧ FXt d h h' ∧ FMt g g'
/-- the place moves, then K of what reading gave -/
theorem FXt.low {d : Nat} {h h' : HP} (hd : TDc d) (e : ∀ z, z < d ∨ d + 4 < z → h' z = h z) : FXt d h h' := by
  unfold TDc at hd
  exact ⟨fun z h1 h2 h3 => e z h3, fun j _ => by rw [e 1 (by omega)]⟩
theorem FMt.at41 {g g' : HP} (e : ∀ z, z ≠ 41 → g' z = g z) : FMt g g' := ⟨fun z _ h2 _ _ _ => e z h2, fun j _ _ _ => by rw [e 39 (by decide)]⟩
theorem chr_pos {n : Nat} {t : Nat → Nat} {q c : Nat} (h : chr n t q = c) (hc : c ≠ 0) : q < n := chr_lt (t := t) (by rw [h]; exact hc)
/-- the class: the ; behind an item -/
theorem end_ok {F n : Nat} {t : Nat → Nat} {d q' : Nat} {h h5 : HP} {r : Int32} (hr : r ≠ nI 0) (e : f_X4_readItem F d h = some (r, h5)) (x : TXX n t h5) (hq : h5 1 2 = nI q') (hq2 : q' < 1000) (hc : chr n t q' = 59) : ∀ K, cIt F d h K = K (up h5 1 2 (nI (q' + 1))) := by
  intro K
  unfold cIt
  rw [e, ob_eq, if_neg hr, accept_n F x hq hq2 (by decide), if_pos hc, ob_eq, if_neg n1n0]
theorem end_no {F n : Nat} {t : Nat → Nat} {d q' : Nat} {h h5 : HP} {r : Int32} (e : f_X4_readItem F d h = some (r, h5)) (x : TXX n t h5) (hq : h5 1 2 = nI q') (hq2 : q' < 1000) (hc : ¬ chr n t q' = 59) : ∀ K, cIt F d h K = some (h 1 2, h5) := by
  intro K
  unfold cIt
  by_cases hr : r = nI 0
  · rw [e, ob_eq, if_pos hr]
  · rw [e, ob_eq, if_neg hr, accept_n F x hq hq2 (by decide), if_neg hc, ob_eq, if_pos rfl]
theorem end_0 {F d : Nat} {h h5 : HP} (e : f_X4_readItem F d h = some (nI 0, h5)) : ∀ K, cIt F d h K = some (h 1 2, h5) := by
  intro K
  unfold cIt
  rw [e, ob_eq, if_pos rfl]
