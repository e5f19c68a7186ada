/-! ===== letters: the class's tables ===== -/
theorem n_m1 (k : Nat) : nI (k + 1) + (-1) = nI k := by
  rw [← e_add, addI_assoc, n1m1, Int32.add_comm, nI0_add]
theorem fill38 {F d i N x : Nat} {C : Nat → Nat → Nat → Nat} (hd3 : d ≤ 3) (hN : N ≤ 32) (hi : i < N) (hx : x ≤ 10) :
    ∀ (k j n : Nat) (h : HP), j + k = N + 1 → k < n → i < j → Beh N C d i h →
      ∃ h', f_X3_fillFrom_38 F (nI d) (nI i) 15 (nI N) n (nI x) (nI j) h = f_X3_fillFrom_79 F (nI d) (nI i) 15 (nI N) F (nI 1) h' ∧ RF (32 + d) (i) N h h' ∧ (∀ j', j' < j → h' (32 + d) (33 * i + j') = h (32 + d) (33 * i + j')) ∧ (∀ j', j ≤ j' → j' ≤ N → h' (32 + d) (33 * i + j') = nI (x + C d (i + 1) j')) := by
  intro k
  induction k with
  | zero =>
    intro j n h hj hn hij hB
    obtain ⟨n, rfl⟩ := succ_of hn
    refine ⟨h, ?_, RF.refl _ _ _ _, fun _ _ => rfl, fun j' h1 h2 => by omega⟩
    rw [f_X3_fillFrom_38, if_pos (by rw [e_lt (by omega) (by omega)]; omega)]
  | succ k ih =>
    intro j n h hj hn hij hB
    obtain ⟨n, rfl⟩ := succ_of hn
    obtain ⟨q1, q2⟩ := hB (i + 1) j (by omega) (by omega) (by omega)
    have r0 : RF (32 + d) i N h (up h (32 + d) (33 * i + j) (nI (x + C d (i + 1) j))) := RF.up h _ (by omega) (by omega)
    obtain ⟨h', f1, f2, f3, f4⟩ := ih (j + 1) n (up h (32 + d) (33 * i + j) (nI (x + C d (i + 1) j))) (by omega) (by omega) (by omega) (hB.rf hN r0)
    refine ⟨h', ?_, r0.trans f2, fun j' hj' => by rw [f3 j' (by omega), up_n (by omega)], fun j' h1 h2 => ?_⟩
    · rw [f_X3_fillFrom_38, if_neg (by rw [e_lt (by omega) (by omega)]; omega), e_add, e_mul, e_add, if_pos (inb_t (by omega) (by decide)), e_mul, e_add, if_pos (inb_t (by omega) (by decide)), e_ix (by omega), e_ix (by omega), e_ix (by omega), show 31 + 1 + d = 32 + d by omega, show (i + 1) * 33 + j = 33 * (i + 1) + j by omega, show i * 33 + j = 33 * i + j by omega, q1, e_add, e_add, f1]
    · by_cases z : j' = j
      · rw [z, f3 j (by omega), up_s]
      · exact f4 j' (by omega) h2
theorem fillFrom_n {F d i N : Nat} (hF : 600 ≤ F) {w : Nat → Nat} {C : Nat → Nat → Nat → Nat} {h : HP} (hd3 : d ≤ 3) (hN : N ≤ 32) (hi : i ≤ N) (hw : ∀ x, x < 32 → h 15 x = nI (w x) ∧ w x < 256) (hB : Beh N C d i h) (hP : 0 < d → ∀ j, i ≤ j → j ≤ N → h (32 + (d - 1)) (33 * i + j) = nI (C (d - 1) i j) ∧ C (d - 1) i j ≤ 10 * (j - i)) :
    ∃ h' v, f_X3_fillFrom F (nI d) (nI i) 15 (nI N) h = some h' ∧ (∀ z y, (z ≠ 32 + d ∨ y < 33 * i + i ∨ 33 * i + N < y) → h' z y = h z y) ∧ v i = 0 ∧ (∀ j, i ≤ j → j ≤ N → h' (32 + d) (33 * i + j) = nI (v j)) ∧ RowD w N C d i v := by
  have r0 : ∀ z y, (z ≠ 32 + d ∨ y < 33 * i + i ∨ 33 * i + N < y) → (up h (32 + d) (33 * i + i) (nI 0)) z y = h z y := fun z y q => by
    rw [up_at, if_neg]
    rintro ⟨rfl, rfl⟩
    omega
  have hB0 : Beh N C d i (up h (32 + d) (33 * i + i) (nI 0)) := fun i' j h1 h2 h3 => by
    rw [up_n (by omega)]; exact hB i' j h1 h2 h3
  have c0 : ∀ z, z ≠ 32 + d → (up h (32 + d) (33 * i + i) (nI 0)) z = h z := fun z hz => up_c hz
  unfold f_X3_fillFrom
  rw [if_pos (inb_t (by omega) (by decide)), e_mul, e_add, if_pos (inb_t (by omega) (by decide)), e_ix (by omega), e_ix (by omega), e_ix (by omega), show 31 + 1 + d = 32 + d by omega, show i * 33 + i = 33 * i + i by omega]
  by_cases g : i < N
  · rw [if_pos (by rw [e_lt (by omega) (by omega)]; exact g), if_pos (inb_t (show i < ln 15 by show i < 32; omega) (by decide)), up_c (show 15 ≠ 32 + d by omega), (hw i (by omega)).1, Lof_X (hw i (by omega)).2, ob_eq, e_add]
    obtain ⟨h1, a1, a2, a3, a4⟩ := fill38 (F := F) (x := Lof (w i)) hd3 hN g (Lof_le _) (N - i) (i + 1) F (up h (32 + d) (33 * i + i) (nI 0)) (by omega) (by omega) (by omega) hB0
    have k1 : ∀ z, z ≠ 32 + d → h1 z = h z := fun z hz => by rw [a2.cell hz, c0 z hz]
    obtain ⟨h2, v, b1, b2, b3, b4⟩ := fill79 hF hd3 hN g 39 1 F (fun j => Lof (w i) + C d (i + 1) j) h1 (by omega) (by omega) (by omega) (fun x hx => by rw [k1 15 (by omega)]; exact hw x hx) (hB0.rf hN a2) (fun hd0 j h1 h2 => by rw [k1 (32 + (d - 1)) (by omega)]; exact hP hd0 j h1 h2) (fun j h1 h2 => a4 j (by omega) h2) (fun j h1 h2 => ⟨Nat.le_refl _, fun l' m' hp hc => by
      have := hc.2.1.1
      rcases hp with hp | ⟨hp1, hp2⟩ <;> omega, Or.inl rfl⟩)
    refine ⟨h2, updN v i 0, by rw [a1, b1], fun z y q => ?_, by unfold updN; rw [if_pos rfl], fun j h1 h2 => ?_, fun j h1 h2 => ?_⟩
    · have q' : z ≠ 32 + d ∨ y ≤ 33 * i + i ∨ 33 * i + N < y := by omega
      rw [b2 z y q', a2 z y q', r0 z y q]
    · unfold updN
      by_cases z : j = i
      · rw [if_pos z, z, b2 (32 + d) (33 * i + i) (Or.inr (Or.inl (Nat.le_refl _))), a2 (32 + d) (33 * i + i) (Or.inr (Or.inl (Nat.le_refl _))), up_s]
      · rw [if_neg z]; exact b3 j (by omega) h2
    · rw [show updN v i 0 j = v j by unfold updN; rw [if_neg (by omega)]]
      exact b4 j h1 h2
  · rw [if_neg (by rw [e_lt (by omega) (by omega)]; exact g)]
    refine ⟨up h (32 + d) (33 * i + i) (nI 0), fun _ => 0, rfl, r0, rfl, fun j h1 h2 => ?_, fun j h1 h2 => by omega⟩
    rw [show j = i by omega, up_s]
/-- the tables as they stand -/
def cvl (h : HP) (d i j : Nat) : Nat := ix (h (32 + d) (33 * i + j))
def TBl (N d i0 : Nat) (h : HP) : Prop := ∀ i j, i0 ≤ i → i ≤ j → j ≤ N → h (32 + d) (33 * i + j) = nI (cvl h d i j) ∧ cvl h d i j ≤ 10 * (j - i)
theorem few28 {F d N : Nat} (hF : 600 ≤ F) {w : Nat → Nat} {k20 : Int32 → HP → Option (Int32 × HP)} (hd3 : d ≤ 3) (hN : N ≤ 32) :
    ∀ (k n : Nat) (h : HP), k ≤ N + 1 → k < n → (∀ x, x < 32 → h 15 x = nI (w x) ∧ w x < 256) → TBl N d k h → (∀ d', d' < d → TBl N d' 0 h ∧ ∀ i, i ≤ N → KC w N (cvl h) d' i) → (∀ i, k ≤ i → i ≤ N → KC w N (cvl h) d i) →
      ∃ h', f_X3_fewestLetters_28 F 15 (nI N) k20 n (nI d) (if k = 0 then (-1) else nI (k - 1)) h = k20 (nI (d + 1)) h' ∧ (∀ z, z ≠ 32 + d → h' z = h z) ∧ ∀ d', d' ≤ d → TBl N d' 0 h' ∧ ∀ i, i ≤ N → KC w N (cvl h') d' i := by
  intro k
  induction k with
  | zero =>
    intro n h hk hn hw hT hp hC
    obtain ⟨n, rfl⟩ := succ_of hn
    refine ⟨h, ?_, fun _ _ => rfl, fun d' hd' => ?_⟩
    · rw [if_pos rfl, f_X3_fewestLetters_28, if_pos m1lt0, e_add]
    · rcases Nat.lt_or_ge d' d with q | q
      · exact hp d' q
      · rw [show d' = d by omega]
        exact ⟨hT, fun i hi => hC i (Nat.zero_le _) hi⟩
  | succ k ih =>
    intro n h hk hn hw hT hp hC
    obtain ⟨n, rfl⟩ := succ_of hn
    have hB : Beh N (cvl h) d k h := fun i' j h1 h2 h3 => hT i' j h1 h2 h3
    obtain ⟨h1, v, a1, a2, a3, a4, a5⟩ := fillFrom_n hF (w := w) (C := cvl h) hd3 hN (show k ≤ N by omega) hw hB (fun hd0 j h1 h2 => (hp (d - 1) (by omega)).1 k j (Nat.zero_le _) h1 h2)
    have cz : ∀ z, z ≠ 32 + d → h1 z = h z := fun z hz => funext fun y => a2 z y (Or.inl hz)
    have hLw := Lof_le (w k)
    have hvb : ∀ j, k ≤ j → j ≤ N → v j ≤ 10 * (j - k) := fun j h1 h2 => by
      by_cases z : j = k
      · rw [z, a3]; exact Nat.zero_le _
      · have q1 := (a5 j (by omega) h2).1
        have q2 := (hT (k + 1) j (Nat.le_refl _) (by omega) h2).2
        omega
    have cv1 : ∀ j, k ≤ j → j ≤ N → cvl h1 d k j = v j := fun j h1 h2 => by
      have := hvb j h1 h2
      unfold cvl
      rw [a4 j h1 h2, e_ix (by omega)]
    have cv2 : ∀ i j, k < i → i ≤ j → j ≤ N → cvl h1 d i j = cvl h d i j := fun i j h1 h2 h3 => by
      unfold cvl
      rw [a2 (32 + d) (33 * i + j) (Or.inr (Or.inr (by omega)))]
    have cv3 : ∀ d', d' ≠ d → cvl h1 d' = cvl h d' := fun d' hd' => by
      funext i j
      unfold cvl
      rw [cz (32 + d') (by omega)]
    obtain ⟨h', f1, f2, f3⟩ := ih n h1 (by omega) (by omega) (fun x hx => by rw [cz 15 (by omega)]; exact hw x hx) (fun i j h1 h2 h3 => by
        by_cases z : i = k
        · rw [z]
          rw [z] at h2
          rw [cv1 j h2 h3]
          exact ⟨a4 j h2 h3, hvb j h2 h3⟩
        · rw [cv2 i j (by omega) h2 h3, a2 (32 + d) (33 * i + j) (Or.inr (Or.inr (by omega)))]
          exact hT i j (by omega) h2 h3)
      (fun d' hd' => by
        obtain ⟨p1, p2⟩ := hp d' hd'
        refine ⟨fun i j h1 h2 h3 => ?_, fun i hi => ?_⟩
        · rw [cv3 d' (by omega), cz (32 + d') (by omega)]; exact p1 i j h1 h2 h3
        · exact (p2 i hi).congr (fun j _ _ => by rw [cv3 (d' - 1) (by omega)]) (fun i' j _ _ _ => by rw [cv3 d' (by omega)]) hi)
      (fun i hki h2 => by
        by_cases z : i = k
        · rw [z]
          refine ⟨by rw [cv1 k (Nat.le_refl _) (by omega)]; exact a3, fun j hj hjN => ?_⟩
          obtain ⟨r1, r2, r3⟩ := a5 j hj hjN
          have ev : ∀ l m, cand w d k l m j → cval (cvl h1) d k l m j = cval (cvl h) d k l m j := fun l m hc => by
            obtain ⟨q0, ⟨q1, q2, q3, _⟩, q4⟩ := hc
            have := Nat.mul_le_mul_right l q2
            unfold cval
            rw [cv3 (d - 1) (by omega), cv2 (k + m * l) j (by omega) q4 hjN]
          rw [cv1 j (by omega) hjN, cv2 (k + 1) j (by omega) (by omega) hjN]
          refine ⟨r1, fun l m hc => by rw [ev l m hc]; exact r2 l m hc, ?_⟩
          rcases r3 with r3 | ⟨l, m, hc, r3⟩
          · exact Or.inl r3
          · exact Or.inr ⟨l, m, hc, by rw [ev l m hc]; exact r3⟩
        · exact (hC i (by omega) h2).congr (fun j q1 q2 => by
            by_cases z2 : d - 1 = d
            · rw [z2]; exact cv2 i j (by omega) q1 q2
            · rw [cv3 (d - 1) z2]) (fun i' j q1 q2 q3 => cv2 i' j (by omega) q2 q3) h2)
    refine ⟨h', ?_, fun z hz => by rw [f2 z hz, cz z hz], f3⟩
    rw [if_neg (by omega), show k + 1 - 1 = k by omega, f_X3_fewestLetters_28, if_neg (by rw [e_lt (by omega) (by decide)]; omega), a1, obv_eq]
    rw [show nI k + (-1) = (if k = 0 then (-1) else nI (k - 1)) by
      by_cases z : k = 0
      · rw [if_pos z, z]; decide
      · rw [if_neg z]
        obtain ⟨q, rfl⟩ : ∃ q, k = q + 1 := ⟨k - 1, by omega⟩
        exact n_m1 q]
    exact f1
theorem few20 {F N : Nat} (hF : 600 ≤ F) {w : Nat → Nat} (hN : N ≤ 32) :
    ∀ (k d n : Nat) (h : HP), d + k = 4 → k < n → (∀ x, x < 32 → h 15 x = nI (w x) ∧ w x < 256) → (∀ d', d' < d → TBl N d' 0 h ∧ ∀ i, i ≤ N → KC w N (cvl h) d' i) →
      ∃ h', f_X3_fewestLetters_20 F 15 (nI N) n (nI d) h = some (nI (cvl h' 3 0 N), h') ∧ (∀ z, z < 32 ∨ 35 < z → h' z = h z) ∧ ∀ d', d' < 4 → TBl N d' 0 h' ∧ ∀ i, i ≤ N → KC w N (cvl h') d' i := by
  intro k
  induction k with
  | zero =>
    intro d n h hd hn hw hp
    obtain ⟨n, rfl⟩ := succ_of hn
    refine ⟨h, ?_, fun _ _ => rfl, fun d' hd' => hp d' (by omega)⟩
    rw [f_X3_fewestLetters_20, if_pos (by rw [e_lt (by omega) (by omega)]; omega), if_pos (inb_t (by omega) (by decide)), e_ix (by omega)]
    have := ((hp 3 (by omega)).1 0 N (Nat.le_refl _) (Nat.zero_le _) (Nat.le_refl _)).1
    rw [show 33 * 0 + N = N by omega] at this
    rw [show h 35 N = nI (cvl h 3 0 N) from this]
  | succ k ih =>
    intro d n h hd hn hw hp
    obtain ⟨n, rfl⟩ := succ_of hn
    obtain ⟨h1, a1, a2, a3⟩ := few28 hF (k20 := f_X3_fewestLetters_20 F 15 (nI N) n) (show d ≤ 3 by omega) hN (N + 1) F h (Nat.le_refl _) (by omega) hw (fun i j h1 h2 h3 => by omega) hp (fun i h1 h2 => by omega)
    obtain ⟨h', f1, f2, f3⟩ := ih (d + 1) n h1 (by omega) (by omega) (fun x hx => by rw [a2 15 (by omega)]; exact hw x hx) (fun d' hd' => a3 d' (by omega))
    refine ⟨h', ?_, fun z hz => by rw [f2 z hz, a2 z (by omega)], f3⟩
    rw [f_X3_fewestLetters_20, if_neg (by rw [e_lt (by omega) (by omega)]; omega)]
    rw [if_neg (by omega), show N + 1 - 1 = N by omega] at a1
    rw [a1, f1]
theorem fewX_n {F N : Nat} (hF : 600 ≤ F) {w : Nat → Nat} {h : HP} (hN : N ≤ 32) (hw : ∀ x, x < 32 → h 15 x = nI (w x) ∧ w x < 256) :
    ∃ h' C, f_X3_fewestLetters F 15 (nI N) h = some (nI (C 3 0 N), h') ∧ (∀ z, z < 32 ∨ 35 < z → h' z = h z) ∧ (∀ d i j, d < 4 → i ≤ j → j ≤ N → C d i j ≤ 10 * (j - i)) ∧ ∀ d i, d < 4 → i ≤ N → KC w N C d i := by
  obtain ⟨h', a1, a2, a3⟩ := few20 hF hN 4 0 F h (by omega) (by omega) hw (fun d' hd' => by omega)
  refine ⟨h', cvl h', ?_, a2, fun d i j h1 h2 h3 => ((a3 d h1).1 i j (Nat.zero_le _) h2 h3).2, fun d i h1 h2 => (a3 d h1).2 i h2⟩
  unfold f_X3_fewestLetters
  rw [if_neg (by rw [e_lt (by omega) (by decide)]; omega), if_neg (by rw [e_lt (by decide) (by omega)]; omega), if_pos (by show nI N ≤ nI 32; rw [e_le (by omega) (by decide)]; exact hN), a1]
