/-! ===== the reference: a row comes ===== -/
theorem m1lt0 : (-1 : Int32) < nI 0 := by decide
theorem n0m1 : nI 0 + (-1) = (-1 : Int32) := by decide
theorem n1m1 : nI 1 + (-1) = nI 0 := by decide
theorem X7_ring_in {F : Nat} (hF : 600 ≤ F) {R t b tu M row set : Nat} {rg : Nat → Option Nat} {h : HP} {k5 : Int32 → Int32 → HP → Option (Int32 × HP)} (hL : ln t = 66) (hb : b < 8) (hR : R ≤ 6) (ht : tu < 1000000) (hM : 1 ≤ M ∧ M ≤ 2) (eR : h 40 2 = nI R) (eT : h t 1 = nI tu) (hr : ∀ j, j < 16 → h t (34 + j) = rgI (rg j)) (hg : ∀ j, j < 16 → ∀ g, rg j = some g → g ≤ tu) :
    f_X7_rings_46 F t (nI row) k5 F (nI set) (nI b) (-1) (nI (M - 1)) h = match fhm R tu rg b M with
      | none => k5 (nI set) (nI (b + 1)) (up h t (58 + b) (h t (58 + b) + nI 1))
      | some f => k5 (nI (set ||| 2 ^ b)) (nI (b + 1)) (up (up h t (34 + (2 * b + f)) (nI tu)) t (50 + b) (h t (50 + b) + nI 1)) := by
  have e0 := rg_le (hg (2 * b) (by omega)) hR ht
  have e1 := rg_le (hg (2 * b + 1) (by omega)) hR ht
  obtain ⟨F, rfl⟩ : ∃ G, F = G + 3 := ⟨F - 3, by omega⟩
  have ib : ∀ j, j < 66 → inb (nI j) (ln t) = true := fun j hj => by rw [hL]; exact inb_t hj (by decide)
  have fin : ∀ (n : Nat) (x5 : Int32), f_X7_rings_46 (F + 3) t (nI row) k5 (n + 1) (nI set) (nI b) x5 (-1) h = if nI 0 ≤ x5 then
      (if inb (nI 1) (ln t) then
          if inb (((nI 34) + ((nI 2) * nI b)) + x5) (ln t) then
            if inb ((nI 50) + nI b) (ln t) then
              k5 (nI set ||| (jshl (nI 1) (nI b))) (nI b + (nI 1)) (up (up h t (ix (((nI 34) + ((nI 2) * nI b)) + x5)) (h t 1)) t (ix ((nI 50) + nI b)) (((up h t (ix (((nI 34) + ((nI 2) * nI b)) + x5)) (h t 1)) t (ix ((nI 50) + nI b))) + (nI 1)))
            else none
          else none
        else none)
      else
        (if inb ((nI 58) + nI b) (ln t) then
          k5 (nI set) (nI b + (nI 1)) (up h t (ix ((nI 58) + nI b)) ((h t (ix ((nI 58) + nI b))) + (nI 1)))
        else none) := by
    intro n x5
    rw [f_X7_rings_46, if_pos m1lt0]
  have fnone : ∀ n : Nat, f_X7_rings_46 (F + 3) t (nI row) k5 (n + 1) (nI set) (nI b) (-1) (-1) h = k5 (nI set) (nI (b + 1)) (up h t (58 + b) (h t (58 + b) + nI 1)) := by
    intro n
    rw [fin n (-1), if_neg (by decide), e_add, if_pos (ib (58 + b) (by omega)), e_ix (by omega), e_add]
  have fsome : ∀ (n f : Nat), f < 2 → f_X7_rings_46 (F + 3) t (nI row) k5 (n + 1) (nI set) (nI b) (nI f) (-1) h = k5 (nI (set ||| 2 ^ b)) (nI (b + 1)) (up (up h t (34 + (2 * b + f)) (nI tu)) t (50 + b) (h t (50 + b) + nI 1)) := by
    intro n f hf
    rw [fin n (nI f), if_pos (by rw [e_le (by decide) (by omega)]; omega), if_pos (ib 1 (by decide)), e_mul, e_add, e_add, e_add, if_pos (ib (34 + 2 * b + f) (by omega)), if_pos (ib (50 + b) (by omega)), e_ix (by omega), e_ix (by omega), e_one (by omega), e_or, e_add, eT, up_n (show 50 + b ≠ 34 + 2 * b + f by omega), show 34 + 2 * b + f = 34 + (2 * b + f) by omega]
  have stepg : ∀ (n hm : Nat) (x5 : Int32), hm < 2 → f_X7_rings_46 (F + 3) t (nI row) k5 (n + 1) (nI set) (nI b) x5 (nI hm) h = f_X7_rings_46 (F + 3) t (nI row) k5 n (nI set) (nI b) (if frh R tu (rg (2 * b + hm)) then nI hm else x5) (nI hm + (-1)) h := by
    intro n hm x5 hhm
    have e := rg_le (hg (2 * b + hm) (by omega)) hR ht
    rw [f_X7_rings_46, if_neg (by rw [e_lt (by omega) (by decide)]; omega), if_pos (ib 1 (by decide)), e_mul, e_add, e_add, if_pos (ib (34 + 2 * b + hm) (by omega)), e_ix (by omega), eT, show 34 + 2 * b + hm = 34 + (2 * b + hm) by omega, hr (2 * b + hm) (by omega), eR]
    by_cases g : frh R tu (rg (2 * b + hm)) = true
    · rw [if_neg (fun z => e.mp z g), if_pos g]
    · rw [if_pos (e.mpr g), if_neg g]
  have s0 : ∀ (n : Nat) (x5 : Int32), f_X7_rings_46 (F + 3) t (nI row) k5 (n + 1) (nI set) (nI b) x5 (nI 0) h = f_X7_rings_46 (F + 3) t (nI row) k5 n (nI set) (nI b) (if frh R tu (rg (2 * b)) then nI 0 else x5) (-1) h := fun n x5 => by
    have := stepg n 0 x5 (by decide)
    rw [n0m1] at this
    exact this
  unfold fhm
  rcases (show M = 1 ∨ M = 2 by omega) with rfl | rfl
  · rw [show (1 - 1 : Nat) = 0 from rfl, s0 (F + 2) (-1)]
    by_cases g0 : frh R tu (rg (2 * b)) = true
    · rw [if_pos g0, if_pos g0]
      exact fsome (F + 1) 0 (by decide)
    · rw [if_neg g0, if_neg g0, if_neg (fun z => absurd z.1 (by decide))]
      exact fnone (F + 1)
  · rw [show (2 - 1 : Nat) = 1 from rfl, stepg (F + 2) 1 (-1) (by decide), n1m1, s0 (F + 1) _]
    by_cases g0 : frh R tu (rg (2 * b)) = true
    · rw [if_pos g0, if_pos g0]
      exact fsome F 0 (by decide)
    · rw [if_neg g0, if_neg g0]
      by_cases g1 : frh R tu (rg (2 * b + 1)) = true
      · rw [if_pos g1, if_pos ⟨rfl, g1⟩]
        exact fsome F 1 (by decide)
      · rw [if_neg g1, if_neg (fun z => g1 z.2)]
        exact fnone F
theorem X7_ring_loop {F : Nat} (hF : 600 ≤ F) {R t B tu row s : Nat} {M : Nat → Nat} (hL : ln t = 66) (h40 : t ≠ 40) (hB : B ≤ 8) (hR : R ≤ 6) (ht : tu < 1000000) (hrow : row < 32) (hs : s < 256) (hM : ∀ b, b < B → 1 ≤ M b ∧ M b ≤ 2) :
    ∀ (k b n : Nat) (q : BSt) (h : HP), b + k = B → k < n → h 40 0 = nI B → h 40 2 = nI R → (∀ b, b < B → h 40 (11 + b) = nI (M b)) → h t 1 = nI tu → h t (2 + row) = nI s → MB t h q → GB tu q → q.2.2.2 < 256 →
      ∃ h', f_X7_rings_5 F t (nI row) n (nI q.2.2.2) (nI b) h = some (nI (bsf R tu M s k b q).2.2.2, h') ∧ MB t h' (bsf R tu M s k b q) ∧ h' t 0 = nI row ∧ h' t 1 = nI (tu + 1) ∧ (∀ r, r < 32 → h' t (2 + r) = h t (2 + r)) ∧ (∀ z, z ≠ t → h' z = h z) := by
  have ib : ∀ j, j < 66 → inb (nI j) (ln t) = true := fun j hj => by rw [hL]; exact inb_t hj (by decide)
  intro k
  induction k with
  | zero =>
    intro b n q h hi hn hB0 hR2 hM2 hT hp hC hG hq
    obtain ⟨n, rfl⟩ := succ_of hn
    refine ⟨up (up h t 1 (nI (tu + 1))) t 0 (nI row), ?_, ⟨fun j hj => ?_, fun b hb => ?_⟩, up_s, ?_, fun r hr => ?_, fun z hz => ?_⟩
    · rw [f_X7_rings_5, hB0, if_pos (by rw [e_le (by omega) (by omega)]; omega), if_pos (ib 1 (by decide)), if_pos (ib 0 (by decide)), hT, e_add]
      rfl
    · rw [up_n (by omega), up_n (by omega)]; exact hC.1 j hj
    · rw [up_n (by omega), up_n (by omega), up_n (by omega), up_n (by omega)]; exact hC.2 b hb
    · rw [up_n (by decide), up_s]
    · rw [up_n (by omega), up_n (by omega)]
    · rw [up_c hz, up_c hz]
  | succ k ih =>
    intro b n q h hi hn hB0 hR2 hM2 hT hp hC hG hq
    obtain ⟨n, rfl⟩ := succ_of hn
    have hbn := bn_lt s b
    have hM1 := hM b (by omega)
    rw [f_X7_rings_5, hB0, if_neg (by rw [e_le (by omega) (by omega)]; omega), e_add, if_pos (ib (2 + row) (by omega)), e_ix (by omega), hp, has_n F hs (by omega), ob_eq, i_eq (by omega) (by decide)]
    have hbs : bsf R tu M s (k + 1) b q = bsf R tu M s k (b + 1) (if bn s b = 0 then q else bst R tu M b q) := rfl
    rw [hbs]
    by_cases g : bn s b = 0
    · rw [if_pos g, if_pos g, e_add]
      exact ih (b + 1) n q h (by omega) (by omega) hB0 hR2 hM2 hT hp hC hG hq
    · rw [if_neg g, if_neg g, e_add, if_pos (inb_t (by omega) (by decide)), e_ix (by omega), hM2 b (by omega), e_sub (by omega), X7_ring_in hF hL (by omega) hR ht hM1 hR2 hT hC.1 hG]
      have hG' := GB_step (R := R) (b := b) (M := M) hG
      unfold bst at hG' ⊢
      cases hf : fhm R tu q.1 b (M b) with
      | none =>
        rw [hf] at hG'
        dsimp only at hG' ⊢
        have fr : ∀ z, z ≠ t → (up h t (58 + b) (h t (58 + b) + nI 1)) z = h z := fun z hz => up_c hz
        obtain ⟨h', e1, e2, e3, e4, e5, e6⟩ := ih (b + 1) n (q.1, q.2.1, upd q.2.2.1 b (q.2.2.1 b + nI 1), q.2.2.2) (up h t (58 + b) (h t (58 + b) + nI 1)) (by omega) (by omega) (by rw [fr 40 (Ne.symm h40)]; exact hB0) (by rw [fr 40 (Ne.symm h40)]; exact hR2) (fun b' hb' => by rw [fr 40 (Ne.symm h40)]; exact hM2 b' hb') (by rw [up_n (by omega)]; exact hT) (by rw [up_n (by omega)]; exact hp) ⟨fun j hj => by rw [up_n (by omega)]; exact hC.1 j hj, fun b' hb' => ⟨by rw [up_n (by omega)]; exact (hC.2 b' hb').1, by
            unfold upd
            dsimp only
            by_cases z : b' = b
            · rw [if_pos z, z, up_s, (hC.2 b (by omega)).2]
            · rw [if_neg z, up_n (by omega)]; exact (hC.2 b' hb').2⟩⟩ hG' hq
        exact ⟨h', e1, e2, e3, e4, fun r hr => by rw [e5 r hr, up_n (by omega)], fun z hz => by rw [e6 z hz, fr z hz]⟩
      | some f =>
        have hf2 := fhm_lt hf
        rw [hf] at hG'
        dsimp only at hG' ⊢
        have hor : q.2.2.2 ||| 2 ^ b < 2 ^ 8 := Nat.or_lt_two_pow hq (Nat.pow_lt_pow_right (by decide) (by omega))
        have fr : ∀ z, z ≠ t → (up (up h t (34 + (2 * b + f)) (nI tu)) t (50 + b) (h t (50 + b) + nI 1)) z = h z := fun z hz => by rw [up_c hz, up_c hz]
        obtain ⟨h', e1, e2, e3, e4, e5, e6⟩ := ih (b + 1) n (updO q.1 (2 * b + f) (some tu), upd q.2.1 b (q.2.1 b + nI 1), q.2.2.1, q.2.2.2 ||| 2 ^ b) (up (up h t (34 + (2 * b + f)) (nI tu)) t (50 + b) (h t (50 + b) + nI 1)) (by omega) (by omega) (by rw [fr 40 (Ne.symm h40)]; exact hB0) (by rw [fr 40 (Ne.symm h40)]; exact hR2) (fun b' hb' => by rw [fr 40 (Ne.symm h40)]; exact hM2 b' hb') (by rw [up_n (by omega), up_n (by omega)]; exact hT) (by rw [up_n (by omega), up_n (by omega)]; exact hp) ⟨fun j hj => by
            rw [up_n (by omega)]
            unfold updO
            dsimp only
            by_cases z : j = 2 * b + f
            · rw [if_pos z, z, up_s]
              rfl
            · rw [if_neg z, up_n (by omega)]; exact hC.1 j hj, fun b' hb' => ⟨by
            unfold upd
            dsimp only
            by_cases z : b' = b
            · rw [if_pos z, z, up_s, (hC.2 b (by omega)).1]
            · rw [if_neg z, up_n (by omega), up_n (by omega)]; exact (hC.2 b' hb').1, by rw [up_n (by omega), up_n (by omega)]; exact (hC.2 b' hb').2⟩⟩ hG' hor
        exact ⟨h', e1, e2, e3, e4, fun r hr => by rw [e5 r hr, up_n (by omega), up_n (by omega)], fun z hz => by rw [e6 z hz, fr z hz]⟩
theorem X7_rings_n {F : Nat} (hF : 600 ≤ F) {R t B N c row : Nat} {M : Nat → Nat} {a : ADr} {h : HP} (hL : ln t = 66) (h40 : t ≠ 40) (hB : B ≤ 8) (hR : R ≤ 6) (hc : c < 1000000) (hrow : row < 32) (hM : ∀ b, b < B → 1 ≤ M b ∧ M b ≤ 2) (hB0 : h 40 0 = nI B) (hR2 : h 40 2 = nI R) (hM2 : ∀ b, b < B → h 40 (11 + b) = nI (M b)) (hD : MD t h a) (hA : AOK B N c a) :
    ∃ h', f_X7_rings F t (nI row) h = some (nI (rowA B R M row a).1, h') ∧ MD t h' (rowA B R M row a).2 ∧ ∀ z, z ≠ t → h' z = h z := by
  obtain ⟨c0, c1, c2, c3, c4⟩ := hD
  obtain ⟨a0, a1, a2, a3⟩ := hA
  have h256 := p2le hB
  have hpr := a3 row hrow
  obtain ⟨h', e1, e2, e3, e4, e5, e6⟩ := X7_ring_loop hF hL h40 hB hR (show a.2.1 < 1000000 by omega) hrow (show a.2.2.1 row < 256 by omega) hM B 0 F (a.2.2.2.1, a.2.2.2.2.1, a.2.2.2.2.2, 0) h (by omega) (by omega) hB0 hR2 hM2 c1 (c2 row hrow) ⟨c3, c4⟩ (fun j hj g hg => Nat.le_of_lt (a2 j hj g hg)) (by show 0 < 256; decide)
  exact ⟨h', e1, ⟨e3, e4, fun r hr => by rw [e5 r hr]; exact c2 r hr, e2.1, e2.2⟩, e6⟩
/-- the row that comes next, the one ahead -/
def nxr (N la : Nat) : Nat := if la < N - 1 then la + 1 else 0
def pvr (N la : Nat) : Nat := if la = 0 then N - 1 else la - 1
theorem X0_turnOn_n {F : Nat} (hF : 600 ≤ F) {R d t B N c : Nat} {M : Nat → Nat} {a : ADr} {h : HP} (hd : d + 5 ≤ t ∨ t + 5 ≤ d) (hB : B ≤ 8) (hR : R ≤ 6) (hc : c < 1000000) (hN1 : 1 ≤ N) (hN : N ≤ 32) (hM : ∀ b, b < B → 1 ≤ M b ∧ M b ≤ 2) (hB0 : h t 0 = nI B) (hN4 : h t 4 = nI N) (hR5 : h t 5 = nI R) (hM2 : ∀ b, b < B → h (t + 2) b = nI (M b)) (hC : CD R d h a) (hA : AOK B N c a) :
    ∃ h', f_X0_turnOn F d t h = some (nI (rowA B R M (nxr N a.1) a).1, h') ∧ CD R d h' (rowA B R M (nxr N a.1) a).2 ∧ ∀ z, z ≠ d → z ≠ d + 2 → z ≠ d + 3 → z ≠ d + 4 → h' z = h z := by
  have hla := hA.1
  have hrow : nxr N a.1 < 32 := by unfold nxr; split <;> omega
  obtain ⟨h', e1, e2, e3⟩ := X0_ringRow_n hF hd hB hR hc hrow hM hB0 hR5 hM2 hC hA
  refine ⟨h', ?_, e2, e3⟩
  unfold f_X0_turnOn
  rw [hC.1, hN4, e_sub hN1, i_lt (by omega) (by omega), e_add, ite_n]
  rw [show (if a.1 < N - 1 then a.1 + 1 else 0) = nxr N a.1 from rfl, e1, ob_eq]
theorem X0_turnOff_n {F : Nat} (hF : 600 ≤ F) {R d t B N c : Nat} {M : Nat → Nat} {a : ADr} {h : HP} (hd : d + 5 ≤ t ∨ t + 5 ≤ d) (hB : B ≤ 8) (hR : R ≤ 6) (hc : c < 1000000) (hN1 : 1 ≤ N) (hN : N ≤ 32) (hM : ∀ b, b < B → 1 ≤ M b ∧ M b ≤ 2) (hB0 : h t 0 = nI B) (hN4 : h t 4 = nI N) (hR5 : h t 5 = nI R) (hM2 : ∀ b, b < B → h (t + 2) b = nI (M b)) (hC : CD R d h a) (hA : AOK B N c a) :
    ∃ h', f_X0_turnOff F d t h = some (nI (rowA B R M (pvr N a.1) a).1, h') ∧ CD R d h' (rowA B R M (pvr N a.1) a).2 ∧ ∀ z, z ≠ d → z ≠ d + 2 → z ≠ d + 3 → z ≠ d + 4 → h' z = h z := by
  have hla := hA.1
  have hrow : pvr N a.1 < 32 := by unfold pvr; split <;> omega
  obtain ⟨h', e1, e2, e3⟩ := X0_ringRow_n hF hd hB hR hc hrow hM hB0 hR5 hM2 hC hA
  refine ⟨h', ?_, e2, e3⟩
  have e : (if nI 0 < nI a.1 then nI a.1 - nI 1 else nI N - nI 1) = nI (pvr N a.1) := by
    unfold pvr
    by_cases g : a.1 = 0
    · rw [if_neg (by rw [e_lt (by decide) (by omega)]; omega), e_sub hN1, if_pos g]
    · rw [if_pos (by rw [e_lt (by decide) (by omega)]; omega), e_sub (by omega), if_neg g]
  unfold f_X0_turnOff
  rw [hC.1, hN4, e, e1, ob_eq]
theorem X7_next_n {F : Nat} (hF : 600 ≤ F) {R t B N c : Nat} {M : Nat → Nat} {a : ADr} {h : HP} (hL : ln t = 66) (h40 : t ≠ 40) (hB : B ≤ 8) (hR : R ≤ 6) (hc : c < 1000000) (hN1 : 1 ≤ N) (hN : N ≤ 32) (hM : ∀ b, b < B → 1 ≤ M b ∧ M b ≤ 2) (hB0 : h 40 0 = nI B) (hN4 : h 40 1 = nI N) (hR2 : h 40 2 = nI R) (hM2 : ∀ b, b < B → h 40 (11 + b) = nI (M b)) (hD : MD t h a) (hA : AOK B N c a) :
    ∃ h', f_X7_comesNext F t h = some (nI (rowA B R M (nxr N a.1) a).1, h') ∧ MD t h' (rowA B R M (nxr N a.1) a).2 ∧ ∀ z, z ≠ t → h' z = h z := by
  have hla := hA.1
  have hrow : nxr N a.1 < 32 := by unfold nxr; split <;> omega
  obtain ⟨h', e1, e2, e3⟩ := X7_rings_n hF hL h40 hB hR hc hrow hM hB0 hR2 hM2 hD hA
  refine ⟨h', ?_, e2, e3⟩
  unfold f_X7_comesNext
  rw [if_pos (by rw [hL]; exact inb_t (by decide) (by decide)), hD.1, hN4, e_sub hN1, i_lt (by omega) (by omega), e_add, ite_n]
  rw [show (if a.1 < N - 1 then a.1 + 1 else 0) = nxr N a.1 from rfl, e1, ob_eq]
