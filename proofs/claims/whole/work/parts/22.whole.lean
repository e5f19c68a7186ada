/-! ===== a whole turn, tried ===== -/
def gA (B R : Nat) (M : Nat → Nat) (N : Nat) : Nat → ADr → ADr
  | 0, a => a
  | k + 1, a => gA B R M N k (rowA B R M (nxr N a.1) a).2
def cA (B R : Nat) (M : Nat → Nat) (N : Nat) : Nat → ADr → Nat
  | 0, _ => 0
  | k + 1, a => popc (rowA B R M (nxr N a.1) a).1 + cA B R M N k (rowA B R M (nxr N a.1) a).2
def sI (f : Nat → Int32) : Nat → Int32
  | 0 => nI 0
  | k + 1 => sI f k + f k
theorem nI0_add (x : Int32) : nI 0 + x = x := by
  rw [nI_0]
  exact Int32.zero_add x
theorem addI_assoc (x y z : Int32) : x + y + z = x + (y + z) := Int32.add_assoc x y z
theorem addI_right (x y z : Int32) : x + y + z = x + z + y := by rw [Int32.add_assoc, Int32.add_comm y z, ← Int32.add_assoc]
theorem addI_sub (x y : Int32) : x + y - x = y := by
  rw [Int32.add_comm]
  apply Int32.toBitVec_inj.mp
  simp only [Int32.toBitVec_add, Int32.toBitVec_sub]
  rw [BitVec.add_sub_cancel]
theorem sI_congr {f g : Nat → Int32} : ∀ {k : Nat}, (∀ j, j < k → f j = g j) → sI f k = sI g k := by
  intro k
  induction k with
  | zero => intro _; rfl
  | succ k ih =>
    intro h
    show sI f k + f k = sI g k + g k
    rw [ih (fun j hj => h j (by omega)), h k (by omega)]
theorem sI_upd (f : Nat → Int32) (b : Nat) (y : Int32) : ∀ k, b < k → sI (upd f b (f b + y)) k = sI f k + y := by
  intro k
  induction k with
  | zero => intro h; omega
  | succ k ih =>
    intro h
    show sI (upd f b (f b + y)) k + upd f b (f b + y) k = sI f k + f k + y
    by_cases g : b = k
    · subst g
      rw [show upd f b (f b + y) b = f b + y by unfold upd; rw [if_pos rfl], sI_congr (g := f) (fun j hj => by unfold upd; rw [if_neg (by omega)]), ← addI_assoc]
    · rw [show upd f b (f b + y) k = f k by unfold upd; rw [if_neg (by omega)], ih (by omega), addI_right]
theorem popc_or : ∀ b, b < 8 → ∀ s, s < 256 → s < 2 ^ b → popc (s ||| 2 ^ b) = popc s + 1 := by decide +kernel
theorem popc_sgB : ∀ B, B < 9 → ∀ s, s < 256 → s < 2 ^ B → sg (bn s) 0 B = popc s := by decide +kernel
theorem bsf_sum {R tu s B : Nat} {M : Nat → Nat} (hB : B ≤ 8) : ∀ (k b : Nat) (q : BSt), b + k = B → q.2.2.2 < 2 ^ b → ∃ x y, x + y = sg (bn s) b k ∧ popc (bsf R tu M s k b q).2.2.2 = popc q.2.2.2 + x ∧ sI (bsf R tu M s k b q).2.1 B = sI q.2.1 B + nI x ∧ sI (bsf R tu M s k b q).2.2.1 B = sI q.2.2.1 B + nI y := by
  intro k
  induction k with
  | zero =>
    intro b q hb hq
    refine ⟨0, 0, rfl, rfl, ?_, ?_⟩
    · rw [Int32.add_comm, nI0_add]; rfl
    · rw [Int32.add_comm, nI0_add]; rfl
  | succ k ih =>
    intro b q hb hq
    have h8 : 2 ^ b < 2 ^ (b + 1) := Nat.pow_lt_pow_right (by decide) (by omega)
    have h9 : 2 ^ b ≤ 2 ^ 8 := Nat.pow_le_pow_right (by decide) (by omega)
    have hbs : bsf R tu M s (k + 1) b q = bsf R tu M s k (b + 1) (if bn s b = 0 then q else bst R tu M b q) := rfl
    have hsg : sg (bn s) b (k + 1) = bn s b + sg (bn s) (b + 1) k := rfl
    rw [hbs, hsg]
    by_cases g : bn s b = 0
    · rw [if_pos g]
      obtain ⟨x, y, e1, e2⟩ := ih (b + 1) q (by omega) (by omega)
      exact ⟨x, y, by omega, e2⟩
    · have g1 : bn s b = 1 := by rcases bn01 s b with z | z <;> omega
      rw [if_neg g]
      unfold bst
      cases hf : fhm R tu q.1 b (M b) with
      | none =>
        dsimp only
        obtain ⟨x, y, e1, e2, e3, e4⟩ := ih (b + 1) (q.1, q.2.1, upd q.2.2.1 b (q.2.2.1 b + nI 1), q.2.2.2) (by omega) (by show q.2.2.2 < _; omega)
        refine ⟨x, y + 1, by omega, e2, e3, ?_⟩
        rw [e4]
        show sI (upd q.2.2.1 b (q.2.2.1 b + nI 1)) B + nI y = _
        rw [sI_upd _ _ _ _ (by omega), addI_assoc, e_add, Nat.add_comm 1 y]
      | some f =>
        dsimp only
        obtain ⟨x, y, e1, e2, e3, e4⟩ := ih (b + 1) (updO q.1 (2 * b + f) (some tu), upd q.2.1 b (q.2.1 b + nI 1), q.2.2.1, q.2.2.2 ||| 2 ^ b) (by omega) (Nat.or_lt_two_pow (by omega) (by omega))
        refine ⟨x + 1, y, by omega, ?_, ?_, e4⟩
        · rw [e2]
          show popc (q.2.2.2 ||| 2 ^ b) + x = _
          rw [popc_or b (by omega) _ (by omega) hq]
          omega
        · rw [e3]
          show sI (upd q.2.1 b (q.2.1 b + nI 1)) B + nI x = _
          rw [sI_upd _ _ _ _ (by omega), addI_assoc, e_add, Nat.add_comm 1 x]
theorem rowA_sum {R B row : Nat} {M : Nat → Nat} {a : ADr} (hB : B ≤ 8) (hp : a.2.2.1 row < 2 ^ B) : ∃ y, popc (rowA B R M row a).1 + y = popc (a.2.2.1 row) ∧ sI (rowA B R M row a).2.2.2.2.2.1 B = sI a.2.2.2.2.1 B + nI (popc (rowA B R M row a).1) ∧ sI (rowA B R M row a).2.2.2.2.2.2 B = sI a.2.2.2.2.2 B + nI y := by
  have h256 := p2le hB
  obtain ⟨x, y, e1, e2, e3, e4⟩ := bsf_sum (R := R) (tu := a.2.1) (s := a.2.2.1 row) (M := M) hB B 0 (a.2.2.2.1, a.2.2.2.2.1, a.2.2.2.2.2, 0) (by omega) (by show 0 < _; decide)
  rw [popc_sgB B (by omega) _ (by omega) hp] at e1
  have e0 : popc (a.2.2.2.1, a.2.2.2.2.1, a.2.2.2.2.2, 0).2.2.2 = 0 := (by show popc 0 = 0; decide)
  rw [e0, Nat.zero_add] at e2
  refine ⟨y, ?_, ?_, ?_⟩
  · show popc (bsf _ _ _ _ _ _ _).2.2.2 + y = _
    rw [e2]; exact e1
  · show sI (bsf _ _ _ _ _ _ _).2.1 B = _ + nI (popc (bsf _ _ _ _ _ _ _).2.2.2)
    rw [e2, e3]
  · exact e4
/-- rows that come from la on -/
def vis (N : Nat) (f : Nat → Nat) : Nat → Nat → Nat
  | 0, _ => 0
  | k + 1, la => f (nxr N la) + vis N f k (nxr N la)
theorem gA_sum {R B N : Nat} {M : Nat → Nat} (hB : B ≤ 8) (h2 : 2 ≤ N) (hN : N ≤ 32) : ∀ (k c : Nat) (a : ADr), AOK B N c a → ∃ y, cA B R M N k a + y = vis N (fun r => popc (a.2.2.1 r)) k a.1 ∧ sI (gA B R M N k a).2.2.2.2.1 B = sI a.2.2.2.2.1 B + nI (cA B R M N k a) ∧ sI (gA B R M N k a).2.2.2.2.2 B = sI a.2.2.2.2.2 B + nI y := by
  intro k
  induction k with
  | zero =>
    intro c a hA
    refine ⟨0, rfl, ?_, ?_⟩
    · show _ = _ + nI 0
      rw [Int32.add_comm, nI0_add]; rfl
    · rw [Int32.add_comm, nI0_add]; rfl
  | succ k ih =>
    intro c a hA
    have hl := nxr_lt h2 hA.1
    obtain ⟨y1, e1, e2, e3⟩ := rowA_sum (R := R) (M := M) (a := a) hB (hA.2.2.2 (nxr N a.1) (by omega))
    obtain ⟨y2, f1, f2, f3⟩ := ih (c + 1) (rowA B R M (nxr N a.1) a).2 (AOK_row hA (Nat.le_of_lt hl))
    have ev : vis N (fun r => popc ((rowA B R M (nxr N a.1) a).2.2.2.1 r)) k (rowA B R M (nxr N a.1) a).2.1 = vis N (fun r => popc (a.2.2.1 r)) k (nxr N a.1) := rfl
    rw [ev] at f1
    refine ⟨y1 + y2, ?_, ?_, ?_⟩
    · show popc (rowA B R M (nxr N a.1) a).1 + cA B R M N k (rowA B R M (nxr N a.1) a).2 + (y1 + y2) = popc (a.2.2.1 (nxr N a.1)) + vis N (fun r => popc (a.2.2.1 r)) k (nxr N a.1)
      omega
    · show sI (gA B R M N k (rowA B R M (nxr N a.1) a).2).2.2.2.2.1 B = _ + nI (popc (rowA B R M (nxr N a.1) a).1 + cA B R M N k (rowA B R M (nxr N a.1) a).2)
      rw [f2, e2, addI_assoc, e_add]
    · show sI (gA B R M N k (rowA B R M (nxr N a.1) a).2).2.2.2.2.2 B = _
      rw [f3, e3, addI_assoc, e_add]
theorem gA_ok {R B N : Nat} {M : Nat → Nat} (h2 : 2 ≤ N) : ∀ (k c : Nat) (a : ADr), AOK B N c a → AOK B N (c + k) (gA B R M N k a) ∧ (gA B R M N k a).2.2.1 = a.2.2.1 := by
  intro k
  induction k with
  | zero => intro c a hA; exact ⟨hA, rfl⟩
  | succ k ih =>
    intro c a hA
    have hl := nxr_lt h2 hA.1
    obtain ⟨e1, e2⟩ := ih (c + 1) (rowA B R M (nxr N a.1) a).2 (AOK_row hA (Nat.le_of_lt hl))
    rw [show c + 1 + k = c + (k + 1) by omega] at e1
    exact ⟨e1, e2⟩
theorem gA_add {R B N : Nat} {M : Nat → Nat} (m : Nat) : ∀ (k : Nat) (a : ADr), gA B R M N (k + m) a = gA B R M N m (gA B R M N k a) := by
  intro k
  induction k with
  | zero => intro a; rw [Nat.zero_add]; rfl
  | succ k ih =>
    intro a
    rw [show k + 1 + m = (k + m) + 1 by omega]
    exact ih _
theorem vis_sg {N : Nat} (f : Nat → Nat) (h2 : 2 ≤ N) : ∀ (k la : Nat), la < N → vis N f k la = sg (fun r => f ((r + (la + 1)) % N)) 0 k := by
  intro k
  induction k with
  | zero => intro la _; rfl
  | succ k ih =>
    intro la hl
    have e : nxr N la = (la + 1) % N := by
      unfold nxr
      by_cases g : la < N - 1
      · rw [if_pos g, Nat.mod_eq_of_lt (by omega)]
      · rw [if_neg g, show la + 1 = N by omega, Nat.mod_self]
    have hlt : nxr N la < N := nxr_lt h2 (by omega)
    have s1 := sg_shift (fun r => f ((r + (la + 1)) % N)) 1 k 0
    show f (nxr N la) + vis N f k (nxr N la) = f ((0 + (la + 1)) % N) + sg (fun r => f ((r + (la + 1)) % N)) (0 + 1) k
    rw [ih (nxr N la) hlt, e, Nat.zero_add (la + 1), s1]
    congr 1
    refine sg_congr (fun j _ _ => ?_)
    rw [show j + ((la + 1) % N + 1) = (la + 1) % N + (j + 1) by omega, Nat.mod_add_mod]
    rw [show la + 1 + (j + 1) = j + 1 + (la + 1) by omega]
theorem vis_all {N la : Nat} (f : Nat → Nat) (h2 : 2 ≤ N) (hl : la ≤ N) : vis N f N la = sg f 0 N := by
  have h0 : ∀ la, la < N → vis N f N la = sg f 0 N := fun la h => by
    rw [vis_sg f h2 N la h]
    by_cases g : la + 1 < N
    · exact sg_round f g
    · rw [show la + 1 = N by omega]
      refine sg_congr (fun j _ b => ?_)
      rw [Nat.add_mod_right, Nat.mod_eq_of_lt (by omega)]
  rcases Nat.lt_or_ge la N with z | z
  · exact h0 la z
  · have ez : la = N := by omega
    have e : vis N f N la = vis N f N (N - 1) := by
      obtain ⟨m, rfl⟩ : ∃ m, N = m + 1 := ⟨N - 1, by omega⟩
      have en : nxr (m + 1) la = nxr (m + 1) (m + 1 - 1) := by
        unfold nxr
        rw [if_neg (by omega), if_neg (by omega)]
      show f (nxr (m + 1) la) + vis (m + 1) f m (nxr (m + 1) la) = f (nxr (m + 1) (m + 1 - 1)) + vis (m + 1) f m (nxr (m + 1) (m + 1 - 1))
      rw [en]
    rw [e]
    exact h0 (N - 1) (by omega)
theorem rings_n {F : Nat} (hF : 600 ≤ F) {R B N : Nat} {M : Nat → Nat} {tw : TW} (ht : tw.1 = 4 ∨ tw.1 = 9) (hB : B ≤ 8) (hR : R ≤ 6) (h2 : 2 ≤ N) (hN : N ≤ 32) (hM : ∀ b, b < B → 1 ≤ M b ∧ M b ≤ 2) :
    ∀ (k i n c acc : Nat) (a : ADr) (h : HP), i + k = N → k < n → c + k < 1000000 → h tw.1 0 = nI B → h tw.1 4 = nI N → h tw.1 5 = nI R → (∀ b, b < B → h (tw.1 + 2) b = nI (M b)) → CD R 19 h a → AOK B N c a →
      ∃ h', f_X6_ringsInATurn_4 F tw 19 n (nI acc) (nI i) h = some (nI (acc + cA B R M N k a), h') ∧ CD R 19 h' (gA B R M N k a) ∧ ∀ z, z < 19 ∨ 23 < z → h' z = h z := by
  intro k
  induction k with
  | zero =>
    intro i n c acc a h hi hn hc hB0 hN4 hR5 hM2 hC hA
    obtain ⟨n, rfl⟩ := succ_of hn
    refine ⟨h, ?_, hC, fun _ _ => rfl⟩
    rw [f_X6_ringsInATurn_4, hN4, if_pos (by rw [e_le (by omega) (by omega)]; omega)]
    rfl
  | succ k ih =>
    intro i n c acc a h hi hn hc hB0 hN4 hR5 hM2 hC hA
    obtain ⟨n, rfl⟩ := succ_of hn
    have hl := nxr_lt h2 hA.1
    have h256 := p2le hB
    obtain ⟨h1, e1, e2, e3⟩ := X0_turnOn_n hF (d := 19) (t := tw.1) (by omega) hB hR (show c < 1000000 by omega) (by omega) hN hM hB0 hN4 hR5 hM2 hC hA
    have hs : (rowA B R M (nxr N a.1) a).1 < 2 ^ B := bsf_set B 0 _ (by omega) (by show 0 < 2 ^ B; exact Nat.two_pow_pos B)
    have fr : ∀ z, z < 19 ∨ 23 < z → h1 z = h z := fun z hz => e3 z (by omega) (by omega) (by omega) (by omega)
    obtain ⟨h', f1, f2, f3⟩ := ih (i + 1) n (c + 1) (acc + popc (rowA B R M (nxr N a.1) a).1) (rowA B R M (nxr N a.1) a).2 h1 (by omega) (by omega) (by omega) (by rw [fr tw.1 (by omega)]; exact hB0) (by rw [fr tw.1 (by omega)]; exact hN4) (by rw [fr tw.1 (by omega)]; exact hR5) (fun b hb => by rw [fr (tw.1 + 2) (by omega)]; exact hM2 b hb) e2 (AOK_row hA (Nat.le_of_lt hl))
    refine ⟨h', ?_, f2, fun z hz => by rw [f3 z hz, fr z hz]⟩
    rw [f_X6_ringsInATurn_4, hN4, if_neg (by rw [e_le (by omega) (by omega)]; omega), e1, ob_eq, bc_spec F (by omega), ob_eq, e_add, e_add, f1]
    show some (nI (acc + popc (rowA B R M (nxr N a.1) a).1 + cA B R M N k (rowA B R M (nxr N a.1) a).2), h') = some (nI (acc + (popc (rowA B R M (nxr N a.1) a).1 + cA B R M N k (rowA B R M (nxr N a.1) a).2)), h')
    rw [Nat.add_assoc]
theorem go_n {F : Nat} (hF : 600 ≤ F) {R B N K : Nat} {M : Nat → Nat} (hB : B ≤ 8) (hR : R ≤ 6) (h2 : 2 ≤ N) (hN : N ≤ 32) (hM : ∀ b, b < B → 1 ≤ M b ∧ M b ≤ 2) (hK : K < 1000) :
    ∀ (k i n c : Nat) (a : ADr) (h : HP), i + k = K → k < n → c + k < 1000000 → h 40 0 = nI B → h 40 1 = nI N → h 40 2 = nI R → (∀ b, b < B → h 40 (11 + b) = nI (M b)) → MD 52 h a → AOK B N c a →
      ∃ h', f_X7_go_2 F (nI K) n (nI i) h = some h' ∧ MD 52 h' (gA B R M N k a) ∧ ∀ z, z ≠ 52 → h' z = h z := by
  intro k
  induction k with
  | zero =>
    intro i n c a h hi hn hc hB0 hN4 hR5 hM2 hC hA
    obtain ⟨n, rfl⟩ := succ_of hn
    refine ⟨h, ?_, hC, fun _ _ => rfl⟩
    rw [f_X7_go_2, if_pos (by rw [e_le (by omega) (by omega)]; omega)]
  | succ k ih =>
    intro i n c a h hi hn hc hB0 hN4 hR5 hM2 hC hA
    obtain ⟨n, rfl⟩ := succ_of hn
    have hl := nxr_lt h2 hA.1
    obtain ⟨h1, e1, e2, e3⟩ := X7_next_n hF (t := 52) rfl (by decide) hB hR (show c < 1000000 by omega) (by omega) hN hM hB0 hN4 hR5 hM2 hC hA
    obtain ⟨h', f1, f2, f3⟩ := ih (i + 1) n (c + 1) (rowA B R M (nxr N a.1) a).2 h1 (by omega) (by omega) (by omega) (by rw [e3 40 (by decide)]; exact hB0) (by rw [e3 40 (by decide)]; exact hN4) (by rw [e3 40 (by decide)]; exact hR5) (fun b hb => by rw [e3 40 (by decide)]; exact hM2 b hb) e2 (AOK_row hA (Nat.le_of_lt hl))
    refine ⟨h', ?_, f2, fun z hz => by rw [f3 z hz, e3 z hz]⟩
    rw [f_X7_go_2, if_neg (by rw [e_le (by omega) (by omega)]; omega), e1, ob_eq, e_add, f1]
theorem sum_n {F : Nat} (hF : 600 ≤ F) {B p : Nat} {f : Nat → Int32} {h : HP} (hB : B ≤ 8) (hp : p + 8 ≤ 66) (hB0 : h 40 0 = nI B) (hf : ∀ b, b < 8 → h 52 (p + b) = f b) : f_X7_sumOf F (nI p) h = some (sI f B, h) := by
  have lp : ∀ (k i n : Nat), i + k = B → k < n → f_X7_sumOf_4 F (nI p) n (sI f i) (nI i) h = some (sI f B, h) := by
    intro k
    induction k with
    | zero =>
      intro i n hi hn
      obtain ⟨n, rfl⟩ := succ_of hn
      rw [f_X7_sumOf_4, hB0, if_pos (by rw [e_le (by omega) (by omega)]; omega), show i = B by omega]
    | succ k ih =>
      intro i n hi hn
      obtain ⟨n, rfl⟩ := succ_of hn
      rw [f_X7_sumOf_4, hB0, if_neg (by rw [e_le (by omega) (by omega)]; omega), e_add, if_pos (inb_t (by omega) (by decide)), e_ix (by omega), hf i (by omega), e_add]
      exact ih (i + 1) n (by omega) (by omega)
  exact lp B 0 F (by omega) (by omega)
theorem CD.dv {R : Nat} {h h1 : HP} {a : ADr} (hC : CD R 14 h a) (e : ∀ j, j < 66 → dv h1 19 j = dv h 14 j) : CD R 19 h1 a := by
  obtain ⟨c0, c1, c2, c3, c4⟩ := hC
  refine ⟨?_, ?_, fun r hr => ?_, fun j hj => ?_, fun b hb => ⟨?_, ?_⟩⟩
  · rw [← c0]; exact e 0 (by decide)
  · rw [← c1]; exact e 1 (by decide)
  · rw [← c2 r hr, ← dv2 h1 19 hr, ← dv2 h 14 hr]; exact e _ (by omega)
  · rw [← c3 j hj, ← dv34 h1 19 hj, ← dv34 h 14 hj]; exact e _ (by omega)
  · rw [← (c4 b hb).1, ← dv50 h1 19 hb, ← dv50 h 14 hb]; exact e _ (by omega)
  · rw [← (c4 b hb).2, ← dv58 h1 19 hb, ← dv58 h 14 hb]; exact e _ (by omega)
theorem MD.cp {h h1 : HP} {a : ADr} (hM : MD 43 h a) (e : ∀ j, j < 66 → h1 52 j = h 43 j) : MD 52 h1 a := by
  obtain ⟨c0, c1, c2, c3, c4⟩ := hM
  exact ⟨by rw [e 0 (by decide)]; exact c0, by rw [e 1 (by decide)]; exact c1, fun r hr => by rw [e _ (by omega)]; exact c2 r hr, fun j hj => by rw [e _ (by omega)]; exact c3 j hj, fun b hb => ⟨by rw [e _ (by omega)]; exact (c4 b hb).1, by rw [e _ (by omega)]; exact (c4 b hb).2⟩⟩
/-- cells 19 .. 23 and 52 are nobody's between two calls -/
theorem ess_tried {tw : TW} {h h' : HP} (hK : TWK tw) (e : ∀ z, z < 19 ∨ 23 < z → z ≠ 52 → h' z = h z) : Ess tw h h' := by
  have hKc := hK.c
  refine ⟨fun k hk => ?_, fun j hj => e _ (by omega) (by omega), by rw [e 0 (by decide) (by decide)], by rw [e 1 (by decide) (by decide)], by rw [e 39 (by decide) (by decide)], by rw [e 39 (by decide) (by decide)], by rw [e 39 (by decide) (by decide)], by rw [e 39 (by decide) (by decide)]⟩
  have : ∀ k, k ∈ essL → (k < 19 ∨ 23 < k) ∧ k ≠ 52 := by decide
  exact e k (this k hk).1 (this k hk).2
theorem rings8_n {F : Nat} (hF : 600 ≤ F) {R B N : Nat} {M : Nat → Nat} {tw : TW} {x : Int32} (ht : tw.1 = 4 ∨ tw.1 = 9) (hB : B ≤ 8) (hR : R ≤ 6) (h2 : 2 ≤ N) (hN : N ≤ 32) (hM : ∀ b, b < B → 1 ≤ M b ∧ M b ≤ 2) :
    ∀ (k i n c : Nat) (a : ADr) (h : HP), i + k = 8 → k < n → c + k * N + N < 1000000 → h tw.1 0 = nI B → h tw.1 4 = nI N → h tw.1 5 = nI R → (∀ b, b < B → h (tw.1 + 2) b = nI (M b)) → CD R 19 h a → AOK B N c a →
      ∃ h', f_X6_whole_29 F tw x n (nI i) h = f_X6_whole_50 F tw x h' ∧ CD R 19 h' (gA B R M N (k * N) a) ∧ ∀ z, z < 19 ∨ 23 < z → h' z = h z := by
  intro k
  induction k with
  | zero =>
    intro i n c a h hi hn hc hB0 hN4 hR5 hM2 hC hA
    obtain ⟨n, rfl⟩ := succ_of hn
    refine ⟨h, ?_, by rw [Nat.zero_mul]; exact hC, fun _ _ => rfl⟩
    rw [f_X6_whole_29, if_pos (by rw [e_le (by omega) (by omega)]; omega)]
  | succ k ih =>
    intro i n c a h hi hn hc hB0 hN4 hR5 hM2 hC hA
    obtain ⟨n, rfl⟩ := succ_of hn
    rw [Nat.succ_mul] at hc
    obtain ⟨h1, e1, e2, e3⟩ := rings_n hF ht hB hR h2 hN hM N 0 F c 0 a h (by omega) (by omega) (by omega) hB0 hN4 hR5 hM2 hC hA
    obtain ⟨h', f1, f2, f3⟩ := ih (i + 1) n (c + N) (gA B R M N N a) h1 (by omega) (by omega) (by omega) (by rw [e3 tw.1 (by omega)]; exact hB0) (by rw [e3 tw.1 (by omega)]; exact hN4) (by rw [e3 tw.1 (by omega)]; exact hR5) (fun b hb => by rw [e3 (tw.1 + 2) (by omega)]; exact hM2 b hb) e2 (gA_ok h2 N c a hA).1
    refine ⟨h', ?_, ?_, fun z hz => by rw [f3 z hz, e3 z hz]⟩
    · rw [f_X6_whole_29, if_neg (by rw [e_le (by omega) (by omega)]; omega)]
      unfold f_X6_ringsInATurn
      rw [e1, ob_eq, e_add, f1]
    · rw [show (k + 1) * N = N + k * N by rw [Nat.succ_mul]; omega, gA_add]
      exact f2
theorem op_whole {F c : Nat} (hF : 600 ≤ F) (hc : c < 900000) {tw : TW} {h : HP} (i : INV c tw h) (x : Int32) : Step (f_X6_whole F tw x) (f_X7_whole F x) c tw h := by
  have i0 := i
  obtain ⟨hK, B, N, R, T, M, hT, hC, hMt, hS, hD, -, -, -, -, -⟩ := i
  obtain ⟨hB1, hB8, hN2, hN32, hR6, hTM⟩ := hT
  have hKc := hK.c
  have hM12 : ∀ b, b < B → 1 ≤ M b ∧ M b ≤ 2 := fun b hb => (hTM b hb).2
  obtain ⟨a, a1, a2, a3⟩ := toAD hB8 (show c < 1000000 by omega) hS hD
  rcases cas x (n := 3) (by decide) with ⟨j, hj, rfl⟩ | hx
  · -- what is rung before, and then
    obtain ⟨h3, p1, p2, p3⟩ := copy_n F (h := h)
    have c19 := a1.dv p2
    let K : Nat := if j = 2 then 8 * N else 0
    have hK8 : K ≤ 256 := by show (if j = 2 then 8 * N else 0) ≤ 256; split <;> omega
    have okK := gA_ok (R := R) (M := M) hN2 K c a a3
    have q0 : h3 tw.1 0 = nI B := by rw [p3 tw.1 (by omega)]; exact hC.1
    have q4 : h3 tw.1 4 = nI N := by rw [p3 tw.1 (by omega)]; exact hC.2.1
    have q5 : h3 tw.1 5 = nI R := by rw [p3 tw.1 (by omega)]; exact hC.2.2.1
    have qM : ∀ b, b < B → h3 (tw.1 + 2) b = nI (M b) := fun b hb => by rw [p3 (tw.1 + 2) (by omega)]; exact (hC.2.2.2 b hb).2.1
    obtain ⟨h4, r1, r2, r3⟩ : ∃ h4, f_X6_whole F tw (nI j) h = f_X6_whole_50 F tw (nI j) h4 ∧ CD R 19 h4 (gA B R M N K a) ∧ ∀ z, z < 19 ∨ 23 < z → h4 z = h z := by
      unfold f_X6_whole
      rw [if_neg (by rw [e_lt (by omega) (by decide)]; omega), if_pos (by rw [e_le (by omega) (by decide)]; omega), p1, obv_eq]
      by_cases g : j = 2
      · have eK : K = 8 * N := if_pos g
        rw [if_pos (by rw [g])]
        obtain ⟨h4, s1, s2, s3⟩ := rings8_n hF (x := nI j) hKc hB8 hR6 hN2 hN32 hM12 8 0 F c a h3 (by omega) (by omega) (by omega) q0 q4 q5 qM c19 a3
        rw [← eK] at s2
        exact ⟨h4, s1, s2, fun z hz => by rw [s3 z hz, p3 z hz]⟩
      · have eK : K = 0 := if_neg g
        rw [if_neg (by rw [e_eq (by omega) (by decide)]; exact g)]
        exact ⟨h3, rfl, by rw [eK]; exact c19, p3⟩
    obtain ⟨h5, t1, t2, t3⟩ := rings_n hF (tw := tw) hKc hB8 hR6 hN2 hN32 hM12 N 0 F (c + K) 0 (gA B R M N K a) h4 (by omega) (by omega) (by omega) (by rw [r3 tw.1 (by omega)]; exact hC.1) (by rw [r3 tw.1 (by omega)]; exact hC.2.1) (by rw [r3 tw.1 (by omega)]; exact hC.2.2.1) (fun b hb => by rw [r3 (tw.1 + 2) (by omega)]; exact (hC.2.2.2 b hb).2.1) r2 okK.1
    have fr5 : ∀ z, z < 19 ∨ 23 < z → h5 z = h z := fun z hz => by rw [t3 z hz, r3 z hz]
    obtain ⟨y, y1, y2, y3⟩ := gA_sum (R := R) (M := M) hB8 hN2 hN32 N (c + K) (gA B R M N K a) okK.1
    rw [vis_all _ hN2 okK.1.1, okK.2] at y1
    have h256 := p2le hB8
    -- the class
    have eX : f_X6_whole F tw (nI j) h = some (if j = 0 then nI (cA B R M N N (gA B R M N K a)) else nI y, h5) := by
      rw [r1]
      unfold f_X6_whole_50 f_X6_ringsInATurn
      rw [t1, ob_eq, Nat.zero_add, i_eq (by omega) (by decide)]
      by_cases g : j = 0
      · rw [if_pos g, if_pos g]
      · rw [if_neg g, if_neg g]
        unfold f_X6_allPins
        rw [X6_allPins_loop (N := N) (p := a.2.2.1) (by rw [fr5 tw.1 (by omega)]; exact hC.2.1) hN32 (fun r hr => ⟨by rw [fr5 15 (by decide)]; exact a1.2.2.1 r hr, by have := a3.2.2.2 r hr; omega⟩) N 0 F 0 (by omega) (by omega), ob_eq, Nat.zero_add, ← y1, e_sub (by omega), Nat.add_sub_cancel_left]
    -- the reference
    obtain ⟨g1, u1, u2, u3⟩ := copies_n hF (a := 43) (b := 52) (x := 0) (y := 0) (h := h5) (by decide) (by decide) (by decide) (by decide) (by decide)
    have m52 : MD 52 g1 a := a2.cp (fun j hj => by rw [u2 j, if_pos (by omega), fr5 43 (by decide)]; congr 1; omega)
    have e40 : g1 40 = h 40 := by rw [u3 40 (by decide), fr5 40 (by decide)]
    obtain ⟨g2, v1, v2, v3⟩ := go_n hF (K := K) hB8 hR6 hN2 hN32 hM12 (by omega) K 0 F c a g1 (by omega) (by omega) (by omega) (by rw [e40]; exact hMt.1) (by rw [e40]; exact hMt.2.1) (by rw [e40]; exact hMt.2.2.1) (fun b hb => by rw [e40]; exact (hMt.2.2.2 b hb).2) m52 a3
    have f40 : g2 40 = h 40 := by rw [v3 40 (by decide), e40]
    obtain ⟨g3, w1, w2, w3⟩ := go_n hF (K := N) hB8 hR6 hN2 hN32 hM12 (by omega) N 0 F (c + K) (gA B R M N K a) g2 (by omega) (by omega) (by omega) (by rw [f40]; exact hMt.1) (by rw [f40]; exact hMt.2.1) (by rw [f40]; exact hMt.2.2.1) (fun b hb => by rw [f40]; exact (hMt.2.2.2 b hb).2) v2 okK.1
    have k40 : g3 40 = h 40 := by rw [w3 40 (by decide), f40]
    have eKI : (if nI j = nI 2 then (nI 8) * (g1 40 1) else (nI 0)) = nI K := by
      show _ = nI (if j = 2 then 8 * N else 0)
      rw [i_eq (by omega) (by decide), e40, hMt.2.1, e_mul, ite_n]
    refine ⟨if j = 0 then nI (cA B R M N N (gA B R M N K a)) else nI y, h5, g3, eX, ?_, (i0.ess (ess_tried hK (fun z hz hz2 => by rw [w3 z hz2, v3 z hz2, u3 z hz2, fr5 z hz]))).mono (Nat.le_succ c)⟩
    unfold f_X7_whole
    rw [l64 (show 0 < 2147483648 by decide), l64 (show 2 < 2147483648 by decide), in_spec, ob_eq, if_pos (show nI 0 ≤ nI j ∧ nI j ≤ nI 2 from ⟨by rw [e_le (by decide) (by omega)]; omega, by rw [e_le (by omega) (by decide)]; omega⟩), if_neg n10, u1, obv_eq, eKI]
    unfold f_X7_go
    rw [v1, obv_eq]
    by_cases g : j = 0
    · rw [if_pos (show nI j = nI 0 by rw [g]), if_pos g, sum_n hF (p := 50) (f := (gA B R M N K a).2.2.2.2.1) hB8 (by decide) (by rw [f40]; exact hMt.1) (fun b hb => (v2.2.2.2.2 b hb).1), ob_eq, f40, hMt.2.1, w1, obv_eq, sum_n hF (p := 50) (f := (gA B R M N N (gA B R M N K a)).2.2.2.2.1) hB8 (by decide) (by rw [k40]; exact hMt.1) (fun b hb => (w2.2.2.2.2 b hb).1), ob_eq, y2, addI_sub]
    · rw [if_neg (show ¬ nI j = nI 0 by rw [e_eq (by omega) (by decide)]; exact g), if_neg g, sum_n hF (p := 58) (f := (gA B R M N K a).2.2.2.2.2) hB8 (by decide) (by rw [f40]; exact hMt.1) (fun b hb => (v2.2.2.2.2 b hb).2), ob_eq, f40, hMt.2.1, w1, obv_eq, sum_n hF (p := 58) (f := (gA B R M N N (gA B R M N K a)).2.2.2.2.2) hB8 (by decide) (by rw [k40]; exact hMt.1) (fun b hb => (w2.2.2.2.2 b hb).2), ob_eq, y3, addI_sub]
  · refine Same.step ⟨-1, ?_, ?_⟩ i0
    · unfold f_X6_whole
      by_cases g : x < nI 0
      · rw [if_pos g]
      · rw [if_neg g, if_neg]
        intro z
        rcases hx with y | y
        · exact g y
        · exact absurd (Int32.le_trans y z) (by decide)
    · unfold f_X7_whole
      rw [l64 (show 0 < 2147483648 by decide), l64 (show 2 < 2147483648 by decide), in_spec, ob_eq, if_neg (show ¬ (nI 0 ≤ x ∧ x ≤ nI 2) from fun z => by
        rcases hx with y | y
        · exact absurd (Int32.lt_of_lt_of_le y z.1) (Int32.lt_irrefl)
        · exact absurd (Int32.le_trans y z.2) (by decide)), if_pos rfl]
