/-! ===== letters: a row of the class's table ===== -/
def PRl (l' m' l m : Nat) : Prop := l' < l ∨ l' = l ∧ m' < m
def RowI (w : Nat → Nat) (N : Nat) (C : Nat → Nat → Nat → Nat) (d i l m : Nat) (v : Nat → Nat) : Prop :=
  ∀ j, i < j → j ≤ N → v j ≤ Lof (w i) + C d (i + 1) j ∧ (∀ l' m', PRl l' m' l m → cand w d i l' m' j → v j ≤ cval C d i l' m' j) ∧ (v j = Lof (w i) + C d (i + 1) j ∨ ∃ l' m', cand w d i l' m' j ∧ v j = cval C d i l' m' j)
def RowD (w : Nat → Nat) (N : Nat) (C : Nat → Nat → Nat → Nat) (d i : Nat) (v : Nat → Nat) : Prop :=
  ∀ j, i < j → j ≤ N → v j ≤ Lof (w i) + C d (i + 1) j ∧ (∀ l' m', cand w d i l' m' j → v j ≤ cval C d i l' m' j) ∧ (v j = Lof (w i) + C d (i + 1) j ∨ ∃ l' m', cand w d i l' m' j ∧ v j = cval C d i l' m' j)
/-- the rows of table d behind i -/
def Beh (N : Nat) (C : Nat → Nat → Nat → Nat) (d i : Nat) (h : HP) : Prop := ∀ i' j, i < i' → i' ≤ j → j ≤ N → h (32 + d) (33 * i' + j) = nI (C d i' j) ∧ C d i' j ≤ 10 * (j - i')
theorem Beh.rf {N d i : Nat} {C : Nat → Nat → Nat → Nat} {h h' : HP} (hN : N ≤ 32) (b : Beh N C d i h) (r : RF (32 + d) i N h h') : Beh N C d i h' := fun i' j h1 h2 h3 => by
  rw [r (32 + d) (33 * i' + j) (Or.inr (Or.inr (by omega)))]
  exact b i' j h1 h2 h3
theorem fill136 {F d i N l cost T : Nat} (hF : 600 ≤ F) {w : Nat → Nat} {C : Nat → Nat → Nat → Nat} {k79 : Int32 → HP → Option HP} (hd : 0 < d) (hd3 : d ≤ 3) (hN : N ≤ 32) (hl : 1 ≤ l) (hlN : i + 2 * l ≤ N) (hT9 : T ≤ 9) (hT1 : 1 ≤ T) (hT : ∀ m, 2 ≤ m → (m ≤ T ↔ rep w i l m ∧ i + m * l ≤ N)) (hcost : cost = 3 + C (d - 1) i (i + l)) (hc : cost < 1000) :
    ∀ (k m n : Nat) (v : Nat → Nat) (h : HP), m + k = T + 1 → k < n → 2 ≤ m → Beh N C d i h → (∀ j, i < j → j ≤ N → h (32 + d) (33 * i + j) = nI (v j)) → RowI w N C d i l m v →
      ∃ h' v', f_X3_fillFrom_136 F (nI d) (nI i) 15 (nI N) k79 n (nI l) (nI cost) (nI T) (nI (i + m * l)) h = k79 (nI (l + 1)) h' ∧ RF (32 + d) i N h h' ∧ (∀ j, i < j → j ≤ N → h' (32 + d) (33 * i + j) = nI (v' j)) ∧ RowI w N C d i l (T + 1) v' := by
  have hL : ln (32 + d) = 1089 := by
    rcases (show d = 1 ∨ d = 2 ∨ d = 3 by omega) with rfl | rfl | rfl <;> rfl
  intro k
  induction k with
  | zero =>
    intro m n v h hm hn hm2 hB hv hR
    obtain ⟨n, rfl⟩ := succ_of hn
    have hml : m * l = T * l + l := by rw [show m = T + 1 by omega, Nat.succ_mul]
    have hT9l : T * l ≤ 9 * l := Nat.mul_le_mul_right l hT9
    refine ⟨h, v, ?_, RF.refl _ _ _ _, hv, by rw [show T + 1 = m by omega]; exact hR⟩
    rw [f_X3_fillFrom_136, e_mul, e_add, if_pos (by rw [e_lt (by omega) (by omega)]; omega), e_add]
  | succ k ih =>
    intro m n v h hm hn hm2 hB hv hR
    obtain ⟨n, rfl⟩ := succ_of hn
    obtain ⟨hrep, hmN⟩ := (hT m hm2).mp (by omega)
    have hT9l : T * l ≤ 9 * l := Nat.mul_le_mul_right l hT9
    have hmT : m * l ≤ T * l := Nat.mul_le_mul_right l (by omega)
    have hm2l : 2 * l ≤ m * l := Nat.mul_le_mul_right l hm2
    have hLw := Lof_le (w i)
    have hvb : ∀ j, i < j → j ≤ N → v j < 1000 := fun j h1 h2 => by
      have := (hR j h1 h2).1
      have := (hB (i + 1) j (by omega) (by omega) h2).2
      omega
    obtain ⟨h1, b1, b2, b3⟩ := bwp (F := F) (c := 32 + d) (i := i) (e := i + m * l) (N := N) (cost := cost) (f := fun j => if i + m * l ≤ j then C d (i + m * l) j else 0) hL hN (by omega) hc (fun j hj => by
      split
      · have := (hB (i + m * l) j (by omega) (by omega) hj).2; omega
      · decide) (N + 1 - (i + m * l)) (i + m * l) F v h (by omega) (by omega) (Nat.le_refl _) (fun j h1 h2 => by
        rw [if_pos h1]; exact (hB (i + m * l) j (by omega) h1 h2).1) (fun j h1 h2 => ⟨hv j h1 h2, hvb j h1 h2⟩)
    obtain ⟨h', v', f1, f2, f3, f4⟩ := ih (m + 1) n (fun j => if i + m * l ≤ j ∧ cost + (if i + m * l ≤ j then C d (i + m * l) j else 0) < v j then cost + (if i + m * l ≤ j then C d (i + m * l) j else 0) else v j) h1 (by omega) (by omega) (by omega) (hB.rf hN b3) b2 (fun j h1 h2 => by
      obtain ⟨r1, r2, r3⟩ := hR j h1 h2
      dsimp only
      by_cases g : i + m * l ≤ j
      · rw [if_pos g]
        have hcand : cand w d i l m j := ⟨hd, hrep, g⟩
        have hcv : cval C d i l m j = cost + C d (i + m * l) j := by unfold cval; rw [hcost]
        by_cases g2 : cost + C d (i + m * l) j < v j
        · rw [if_pos ⟨g, g2⟩]
          refine ⟨by omega, fun l' m' hp hc' => ?_, Or.inr ⟨l, m, hcand, hcv.symm⟩⟩
          rcases hp with hp | ⟨hp1, hp2⟩
          · have := r2 l' m' (Or.inl hp) hc'; omega
          · rcases Nat.lt_or_ge m' m with q | q
            · have := r2 l' m' (Or.inr ⟨hp1, q⟩) hc'; omega
            · have hmm : m' = m := by omega
              rw [hp1, hmm, hcv]; exact Nat.le_refl _
        · rw [if_neg (fun q => g2 q.2)]
          refine ⟨r1, fun l' m' hp hc' => ?_, r3⟩
          rcases hp with hp | ⟨hp1, hp2⟩
          · exact r2 l' m' (Or.inl hp) hc'
          · rcases Nat.lt_or_ge m' m with q | q
            · exact r2 l' m' (Or.inr ⟨hp1, q⟩) hc'
            · have hmm : m' = m := by omega
              rw [hp1, hmm, hcv]; omega
      · rw [if_neg (fun q => g q.1)]
        refine ⟨r1, fun l' m' hp hc' => ?_, r3⟩
        rcases hp with hp | ⟨hp1, hp2⟩
        · exact r2 l' m' (Or.inl hp) hc'
        · rcases Nat.lt_or_ge m' m with q | q
          · exact r2 l' m' (Or.inr ⟨hp1, q⟩) hc'
          · have hmm : m' = m := by omega
            subst hp1
            subst hmm
            exact absurd hc'.2.2 g)
    refine ⟨h', v', ?_, b3.trans f2, f3, f4⟩
    rw [f_X3_fillFrom_136, e_mul, e_add, if_neg (by rw [e_lt (by omega) (by omega)]; omega), e_ix (by omega)]
    unfold f_X3_beginWithPart
    rw [show 31 + 1 + d = 32 + d by omega, b1, obv_eq, e_add, show i + m * l + l = i + (m + 1) * l by rw [Nat.succ_mul]; omega, f1]
theorem fill79 {F d i N : Nat} (hF : 600 ≤ F) {w : Nat → Nat} {C : Nat → Nat → Nat → Nat} (hd3 : d ≤ 3) (hN : N ≤ 32) (hi : i < N) :
    ∀ (k l n : Nat) (v : Nat → Nat) (h : HP), l + k = 40 → k < n → 1 ≤ l → (∀ x, x < 32 → h 15 x = nI (w x) ∧ w x < 256) → Beh N C d i h → (0 < d → ∀ j, i ≤ j → j ≤ N → h (32 + (d - 1)) (33 * i + j) = nI (C (d - 1) i j) ∧ C (d - 1) i j ≤ 10 * (j - i)) → (∀ j, i < j → j ≤ N → h (32 + d) (33 * i + j) = nI (v j)) → RowI w N C d i l 0 v →
      ∃ h' v', f_X3_fillFrom_79 F (nI d) (nI i) 15 (nI N) n (nI l) h = some h' ∧ RF (32 + d) i N h h' ∧ (∀ j, i < j → j ≤ N → h' (32 + d) (33 * i + j) = nI (v' j)) ∧ RowD w N C d i v' := by
  have stop : ∀ (l : Nat) (v : Nat → Nat), (d = 0 ∨ N < i + 2 * l) → RowI w N C d i l 0 v → RowD w N C d i v := by
    intro l v hs hR j h1 h2
    obtain ⟨r1, r2, r3⟩ := hR j h1 h2
    refine ⟨r1, fun l' m' hc => ?_, r3⟩
    rcases Nat.lt_or_ge l' l with q | q
    · exact r2 l' m' (Or.inl q) hc
    · obtain ⟨c1, ⟨c2, c3, c4, _⟩, c5⟩ := hc
      have a1 := Nat.mul_le_mul_right l' c3
      have a2 := Nat.mul_le_mul_left 2 q
      omega
  intro k
  induction k with
  | zero =>
    intro l n v h hl hn hl1 hw hB hP hv hR
    obtain ⟨n, rfl⟩ := succ_of hn
    refine ⟨h, v, ?_, RF.refl _ _ _ _, hv, stop l v (Or.inr (by omega)) hR⟩
    rw [f_X3_fillFrom_79]
    by_cases g : d = 0
    · rw [if_pos (by rw [g]; exact Int32.le_refl _)]
    · rw [if_neg (by rw [e_le (by omega) (by decide)]; omega), e_mul, e_add, if_pos (by rw [e_lt (by omega) (by omega)]; omega)]
  | succ k ih =>
    intro l n v h hl hn hl1 hw hB hP hv hR
    obtain ⟨n, rfl⟩ := succ_of hn
    rw [f_X3_fillFrom_79]
    by_cases g : d = 0
    · refine ⟨h, v, ?_, RF.refl _ _ _ _, hv, stop l v (Or.inl g) hR⟩
      rw [if_pos (by rw [g]; exact Int32.le_refl _)]
    · rw [if_neg (by rw [e_le (by omega) (by decide)]; omega), e_mul, e_add]
      by_cases g2 : N < i + 2 * l
      · refine ⟨h, v, ?_, RF.refl _ _ _ _, hv, stop l v (Or.inr g2) hR⟩
        rw [if_pos (by rw [e_lt (by omega) (by omega)]; omega)]
      · obtain ⟨T, t1, t2, t3, t4⟩ := told_n hF hl1 (by omega) hN hw (i := i)
        obtain ⟨p1, p2⟩ := hP (by omega) (i + l) (by omega) (by omega)
        obtain ⟨h1, v1, b1, b2, b3, b4⟩ := fill136 (F := F) (cost := 3 + C (d - 1) i (i + l)) hF (k79 := f_X3_fillFrom_79 F (nI d) (nI i) 15 (nI N) n) (by omega) hd3 hN hl1 (by omega) t2 t1 t3 rfl (by omega) (T - 1) 2 F v h (by omega) (by omega) (Nat.le_refl _) hB hv (fun j h1 h2 => by
          obtain ⟨r1, r2, r3⟩ := hR j h1 h2
          refine ⟨r1, fun l' m' hp hc' => ?_, r3⟩
          rcases hp with hp | ⟨hp1, hp2⟩
          · exact r2 l' m' (Or.inl hp) hc'
          · have := hc'.2.1.2.1; omega)
        obtain ⟨h', v', f1, f2, f3, f4⟩ := ih (l + 1) n v1 h1 (by omega) (by omega) (by omega) (fun x hx => by rw [b2.cell (show 15 ≠ 32 + d by omega)]; exact hw x hx) (hB.rf hN b2) (fun hd0 j h1 h2 => by rw [b2.cell (show 32 + (d - 1) ≠ 32 + d by omega)]; exact hP hd0 j h1 h2) b3 (fun j h1 h2 => by
          obtain ⟨r1, r2, r3⟩ := b4 j h1 h2
          refine ⟨r1, fun l' m' hp hc' => ?_, r3⟩
          rcases hp with hp | ⟨hp1, hp2⟩
          · rcases Nat.lt_or_ge l' l with q | q
            · exact r2 l' m' (Or.inl q) hc'
            · have hll : l' = l := by omega
              subst hll
              have hmT : m' ≤ T := (t3 m' hc'.2.1.2.1).mpr ⟨hc'.2.1, by have := hc'.2.2; omega⟩
              exact r2 l' m' (Or.inr ⟨rfl, by omega⟩) hc'
          · omega)
        refine ⟨h', v', ?_, b2.trans f2, f3, f4⟩
        rw [if_neg (by rw [e_lt (by omega) (by omega)]; omega), e_sub (by omega), if_pos (inb_t (by omega) (by decide)), e_mul, e_add, e_add, if_pos (inb_t (by omega) (by decide)), e_ix (by omega), e_ix (by omega), t4, ob_eq, show 31 + 1 + (d - 1) = 32 + (d - 1) by omega, show i * 33 + i + l = 33 * i + (i + l) by omega, p1, e_add, b1, f1]
