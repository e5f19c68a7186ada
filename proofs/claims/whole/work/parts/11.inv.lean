/-! ===== what the cells hold between two calls ===== -/
def TF (B N R : Nat) (T M : Nat → Nat) : Prop := 1 ≤ B ∧ B ≤ 8 ∧ 2 ≤ N ∧ N ≤ 32 ∧ R ≤ 6 ∧ ∀ b, b < B → T b ≤ 40 ∧ 1 ≤ M b ∧ M b ≤ 2
def tdif (a b : Nat) : Nat := (if a ≤ b then b - a else a - b) % 12
def ill (a b : Nat) : Bool := tdif a b == 1 || tdif a b == 2 || tdif a b == 6 || tdif a b == 10 || tdif a b == 11
/-- the bells that sound ill with bell b, as bits -/
def illm (B : Nat) (T : Nat → Nat) (b : Nat) : Nat := sg (fun c => if ill (T b) (T c) then 2 ^ c else 0) 0 B
def CTw (B N R : Nat) (T M : Nat → Nat) (t : Nat) (h : HP) : Prop := h t 0 = nI B ∧ h t 4 = nI N ∧ h t 5 = nI R ∧ ∀ b, b < B → h (t + 1) b = nI (T b) ∧ h (t + 2) b = nI (M b) ∧ h (t + 3) b = nI (illm B T b)
def MTw (B N R : Nat) (T M : Nat → Nat) (h : HP) : Prop := h 40 0 = nI B ∧ h 40 1 = nI N ∧ h 40 2 = nI R ∧ ∀ b, b < B → h 40 (3 + b) = nI (T b) ∧ h 40 (11 + b) = nI (M b)
/-- how a drum stands, in the reference's order -/
def SOK (B N c : Nat) (m : Nat → Int32) : Prop := (∃ la, la ≤ N ∧ m 0 = nI la) ∧ (∃ tu, tu ≤ c ∧ m 1 = nI tu ∧ ∀ j, j < 16 → m (34 + j) = -1000 ∨ ∃ g, g < tu ∧ m (34 + j) = nI g) ∧ ∀ r, r < 32 → ∃ p, p < 2 ^ B ∧ m (2 + r) = nI p
/-- the class's way to hold it, against the reference's -/
def CS (R : Nat) (s m : Nat → Int32) : Prop := (∀ j, j < 66 → (j < 34 ∨ 50 ≤ j) → s j = m j) ∧ ∀ j, j < 16 → (m (34 + j) = -1000 ∧ s (34 + j) = nI 0) ∨ ∃ g, g < 1000000 ∧ m (34 + j) = nI g ∧ s (34 + j) = nI (g + R + 2)
def dv (h : HP) (d j : Nat) : Int32 := if j = 0 then h d 4 else if j = 1 then h d 5 else if j < 34 then h (d + 1) (j - 2) else if j < 50 then h (d + 2) (j - 34) else if j < 58 then h (d + 3) (j - 50) else h (d + 4) (j - 58)
/-- a shelf of P places against the reference's row of drums -/
def SR (R B N c P sf mb k : Nat) (h : HP) : Prop := k ≤ P ∧ h sf 0 = nI P ∧ h sf 3 = nI k ∧ ∃ nx, nx < P ∧ h sf 2 = nI nx ∧ ∀ i, i < k → CS R (fun j => h (sf + 1) (66 * ((nx + P - k + i) % P) + j)) (fun j => h mb (66 * i + j)) ∧ SOK B N c (fun j => h mb (66 * i + j))
def WT (B : Nat) (h : HP) : Prop := ∀ r, r < 32 → h 28 r = h 47 r ∧ ∃ w, w < 2 ^ B ∧ h 47 r = nI w
def HD (h : HP) : Prop := ∃ k, k ≤ 8 ∧ h 0 9 = nI k ∧ h 39 13 = nI k ∧ ∀ i, i < k → h 29 i = h 48 i
def TX (h : HP) : Prop := ∃ n, n ≤ 200 ∧ h 1 1 = nI n ∧ h 39 10 = nI n ∧ ∀ j, j < n → h 2 j = h 46 j ∧ ∃ c, 32 ≤ c ∧ c ≤ 126 ∧ h 46 j = nI c
def TWK (tw : TW) : Prop := tw = (4, 9) ∨ tw = (9, 4)
def INV (c : Nat) (tw : TW) (h : HP) : Prop := TWK tw ∧ ∃ (B N R : Nat) (T M : Nat → Nat), TF B N R T M ∧ CTw B N R T M tw.1 h ∧ MTw B N R T M h ∧ SOK B N c (h 43) ∧ CS R (dv h 14) (h 43) ∧ (∃ k, SR R B N c 8 24 44 k h ∧ h 39 6 = nI k) ∧ (∃ k, SR R B N c 2 26 45 k h ∧ h 39 8 = nI k) ∧ WT B h ∧ HD h ∧ TX h
theorem SOK.mono {B N c c' : Nat} {m : Nat → Int32} (h : SOK B N c m) (hc : c ≤ c') : SOK B N c' m := by
  obtain ⟨a, ⟨tu, b1, b2⟩, d⟩ := h
  exact ⟨a, ⟨tu, Nat.le_trans b1 hc, b2⟩, d⟩
theorem SR.mono {R B N c c' P sf mb k : Nat} {h : HP} (hr : SR R B N c P sf mb k h) (hc : c ≤ c') : SR R B N c' P sf mb k h := by
  obtain ⟨a, b, d, nx, e, f, g⟩ := hr
  exact ⟨a, b, d, nx, e, f, fun i hi => ⟨(g i hi).1, (g i hi).2.mono hc⟩⟩
theorem INV.mono {c c' : Nat} {tw : TW} {h : HP} (i : INV c tw h) (hc : c ≤ c') : INV c' tw h := by
  obtain ⟨a, B, N, R, T, M, h1, h2, h3, h4, h5, ⟨k1, h6, h6'⟩, ⟨k2, h7, h7'⟩, h8⟩ := i
  exact ⟨a, B, N, R, T, M, h1, h2, h3, h4.mono hc, h5, ⟨k1, h6.mono hc, h6'⟩, ⟨k2, h7.mono hc, h7'⟩, h8⟩
/-- the cells that matter between two calls are as they were -/
def essL : List Nat := [2, 14, 15, 16, 17, 18, 24, 25, 26, 27, 28, 29, 40, 43, 44, 45, 46, 47, 48]
def Ess (tw : TW) (h h' : HP) : Prop := (∀ k, k ∈ essL → h' k = h k) ∧ (∀ j, j < 4 → h' (tw.1 + j) = h (tw.1 + j)) ∧ h' 0 9 = h 0 9 ∧ h' 1 1 = h 1 1 ∧ h' 39 6 = h 39 6 ∧ h' 39 8 = h 39 8 ∧ h' 39 10 = h 39 10 ∧ h' 39 13 = h 39 13
theorem INV.ess {c : Nat} {tw : TW} {h h' : HP} (i : INV c tw h) (e : Ess tw h h') : INV c tw h' := by
  obtain ⟨a, B, N, R, T, M, h1, h2, h3, h4, h5, ⟨k1, h6, h6'⟩, ⟨k2, h7, h7'⟩, h8, h9, h10⟩ := i
  obtain ⟨e1, e2, e3, e4, e5, e6, e7, e8⟩ := e
  have q : ∀ k, k ∈ essL → h' k = h k := e1
  have t0 : h' tw.1 = h tw.1 := e2 0 (by decide)
  have t1 := e2 1 (by decide)
  have t2 := e2 2 (by decide)
  have t3 := e2 3 (by decide)
  have hdv : dv h' 14 = dv h 14 := by
    funext j
    unfold dv
    rw [q 14 (by decide), q 15 (by decide), q 16 (by decide), q 17 (by decide), q 18 (by decide)]
  refine ⟨a, B, N, R, T, M, h1, ?_, ?_, ?_, ?_, ⟨k1, ?_, ?_⟩, ⟨k2, ?_, ?_⟩, ?_, ?_, ?_⟩
  · unfold CTw; rw [t0, t1, t2, t3]; exact h2
  · unfold MTw; rw [q 40 (by decide)]; exact h3
  · rw [q 43 (by decide)]; exact h4
  · rw [q 43 (by decide), hdv]; exact h5
  · unfold SR; rw [q 24 (by decide), q 25 (by decide), q 44 (by decide)]; exact h6
  · rw [e5]; exact h6'
  · unfold SR; rw [q 26 (by decide), q 27 (by decide), q 45 (by decide)]; exact h7
  · rw [e6]; exact h7'
  · unfold WT; rw [q 28 (by decide), q 47 (by decide)]; exact h8
  · unfold HD; rw [e3, e8, q 29 (by decide), q 48 (by decide)]; exact h9
  · unfold TX; rw [e4, e7, q 2 (by decide), q 46 (by decide)]; exact h10
theorem p2le {B : Nat} (h : B ≤ 8) : 2 ^ B ≤ 256 := Nat.pow_le_pow_right (by decide) h
/-- rows' sets -/
def pv (h : HP) (r : Nat) : Nat := ix (h 43 (2 + r))
theorem pv_of {B N c : Nat} {h : HP} (hB : B ≤ 8) (hs : SOK B N c (h 43)) {r : Nat} (hr : r < 32) : h 43 (2 + r) = nI (pv h r) ∧ pv h r < 2 ^ B ∧ pv h r < 256 := by
  obtain ⟨p, hp, e⟩ := hs.2.2 r hr
  have h256 := p2le hB
  have : pv h r = p := by unfold pv; rw [e]; exact e_ix (by omega)
  rw [this]
  exact ⟨e, hp, by omega⟩
theorem pin_of {R : Nat} {h : HP} (hc : CS R (dv h 14) (h 43)) {r : Nat} (hr : r < 32) : h 15 r = h 43 (2 + r) := by
  have := hc.1 (2 + r) (by omega) (Or.inl (by omega))
  rw [← this]
  unfold dv
  rw [if_neg (by omega), if_neg (by omega), if_pos (by omega), show 2 + r - 2 = r by omega]
theorem jrem_n {a d : Nat} (ha : a < 2147483648) (h0 : 0 < d) (hd : d < 2147483648) : jrem (nI a) (nI d) = nI (a % d) := pk_rem (by rw [e31]; exact ha) h0 (by rw [e31]; exact hd)
theorem floorMod_n (F : Nat) {a d : Nat} (ha : a < 2147483648) (h0 : 0 < d) (hd : d < 2147483648) (h : HP) : f_J9_floorMod_7cf53 F (nI a) (nI d) h = some (nI (a % d), h) := by
  unfold f_J9_floorMod_7cf53
  have hx : a ^^^ d < 2 ^ 31 := Nat.xor_lt_two_pow (by rw [e31]; exact ha) (by rw [e31]; exact hd)
  rw [e31] at hx
  rw [if_pos (by rw [Ne, e_eq hd (by decide)]; omega), e_xor, if_pos (by rw [e_le (by decide) hx]; omega), jrem_n ha h0 hd]
theorem rowBehind_n (F : Nat) {t N a b : Nat} {h : HP} (hN : h t 4 = nI N) (h0 : 0 < N) (hN2 : N < 1000) (ha : a + b < 2147483648) : f_X5_rowBehind F t (nI a) (nI b) h = some (nI ((a + b) % N), h) := by
  unfold f_X5_rowBehind
  rw [hN, if_neg (by rw [e_le (by omega) (by decide)]; omega), e_add, floorMod_n F ha h0 (by omega), ob_eq]
theorem subadd {a b c : Nat} (h : b ≤ a + c) : nI a - nI b + nI c = nI (a + c - b) := by
  have e : nI (a + c - b) + nI b = nI a + nI c := by rw [e_add, e_add, Nat.sub_add_cancel h]
  have : nI a - nI b + nI c = nI a + nI c - nI b := by
    apply Int32.toBitVec_inj.mp
    simp only [Int32.toBitVec_add, Int32.toBitVec_sub]
    rw [BitVec.sub_eq_add_neg, BitVec.sub_eq_add_neg, BitVec.add_assoc, BitVec.add_comm (-_), ← BitVec.add_assoc]
  rw [this, ← e]
  apply Int32.toBitVec_inj.mp
  simp only [Int32.toBitVec_add, Int32.toBitVec_sub]
  rw [BitVec.add_sub_cancel]
theorem shifted_n (F : Nat) {N r k : Nat} {h : HP} (hN : h 40 1 = nI N) (h0 : 0 < N) (hN2 : N ≤ 32) (hr : r < N) (hk : k ≤ N) : f_X7_shifted F (nI r) (nI k) h = some (h 43 (2 + (r + N - k) % N), h) := by
  unfold f_X7_shifted
  have hm : (r + N - k) % N < N := Nat.mod_lt _ h0
  rw [hN, if_pos (by rw [Ne, e_eq (by omega) (by decide)]; omega), subadd (by omega), jrem_n (by omega) h0 (by omega), e_add, if_pos (inb_t (by omega) (by decide)), e_ix (by omega)]
