/-! ===== drums put on a shelf and taken from it ===== -/
theorem cpA (h : HP) (c x b y n i : Nat) (hx : x < 2147483648) (hy : y < 2147483648) (hn : n < 2147483648) : cpy h c (nI x) b (nI y) (nI n) b i = if y ≤ i ∧ i < y + n then h c (x + (i - y)) else h b i := by
  rw [cpy_at h c x b y n b i hx hy hn]
  by_cases g : y ≤ i ∧ i < y + n
  · rw [if_pos ⟨rfl, g⟩, if_pos g]
  · rw [if_neg (fun z => g z.2), if_neg g]
theorem saveTo_n (F : Nat) {a s : Nat} {h : HP} (hL : 66 * s + 66 ≤ ln a) (hL2 : ln a ≤ 1000) (ha : 18 < a) :
    ∃ h1, f_X0_saveTo F 14 a (nI (66 * s)) h = some h1 ∧ (∀ i, h1 a i = if 66 * s ≤ i ∧ i < 66 * s + 66 then dv h 14 (i - 66 * s) else h a i) ∧ ∀ z, z ≠ a → h1 z = h z := by
  let H1 : HP := up (up h a (66 * s) (h 14 4)) a (66 * s + 1) (h 14 5)
  let H2 : HP := cpy H1 15 (nI 0) a (nI (66 * s + 2)) (nI 32)
  let H3 : HP := cpy H2 16 (nI 0) a (nI (66 * s + 34)) (nI 16)
  let H4 : HP := cpy H3 17 (nI 0) a (nI (66 * s + 50)) (nI 8)
  let H5 : HP := cpy H4 18 (nI 0) a (nI (66 * s + 58)) (nI 8)
  have f1 : ∀ z, z ≠ a → H1 z = h z := fun z hz => by show (up (up h a _ _) a _ _) z = _; rw [up_c hz, up_c hz]
  have f2 : ∀ z, z ≠ a → H2 z = h z := fun z hz => by show (cpy H1 15 _ a _ _) z = _; rw [cpy_c hz, f1 z hz]
  have f3 : ∀ z, z ≠ a → H3 z = h z := fun z hz => by show (cpy H2 16 _ a _ _) z = _; rw [cpy_c hz, f2 z hz]
  have f4 : ∀ z, z ≠ a → H4 z = h z := fun z hz => by show (cpy H3 17 _ a _ _) z = _; rw [cpy_c hz, f3 z hz]
  have f5 : ∀ z, z ≠ a → H5 z = h z := fun z hz => by show (cpy H4 18 _ a _ _) z = _; rw [cpy_c hz, f4 z hz]
  refine ⟨H5, ?_, fun i => ?_, f5⟩
  · unfold f_X0_saveTo
    rw [if_neg (by rw [e_lt (by omega) (by decide)]; omega), e_add, if_pos (by rw [e_le (by omega) (by omega)]; omega), if_pos (inb_t (by omega) (by omega)), e_add, if_pos (inb_t (by omega) (by omega)), e_add, show 66 * s + 1 + 1 = 66 * s + 2 by omega, e_add, show 66 * s + 2 + 32 = 66 * s + 34 by omega, e_add, show 66 * s + 34 + 16 = 66 * s + 50 by omega, e_add, show 66 * s + 50 + 8 = 66 * s + 58 by omega]
    rw [if_pos (cpb_t (by omega) (by omega) (by decide) (by omega)), if_pos (cpb_t (by omega) (by omega) (by decide) (by omega)), if_pos (cpb_t (by omega) (by omega) (by decide) (by omega)), if_pos (cpb_t (by omega) (by omega) (by decide) (by omega)), e_ix (by omega), e_ix (by omega), up_c (show (14 : Nat) ≠ a by omega)]
  · have v1 : H1 a i = if i = 66 * s + 1 then h 14 5 else if i = 66 * s then h 14 4 else h a i := by
      show (up (up h a _ _) a _ _) a i = _
      by_cases g1 : i = 66 * s + 1
      · rw [g1, up_s, if_pos rfl]
      · rw [up_n g1, if_neg g1]
        by_cases g2 : i = 66 * s
        · rw [g2, up_s, if_pos rfl]
        · rw [up_n g2, if_neg g2]
    have v2 : H2 a i = if 66 * s + 2 ≤ i ∧ i < 66 * s + 2 + 32 then h 15 (i - (66 * s + 2)) else H1 a i := by
      show (cpy H1 15 _ a _ _) a i = _
      rw [cpA _ _ _ _ _ _ _ (by decide) (by omega) (by decide), f1 15 (by omega), Nat.zero_add]
    have v3 : H3 a i = if 66 * s + 34 ≤ i ∧ i < 66 * s + 34 + 16 then h 16 (i - (66 * s + 34)) else H2 a i := by
      show (cpy H2 16 _ a _ _) a i = _
      rw [cpA _ _ _ _ _ _ _ (by decide) (by omega) (by decide), f2 16 (by omega), Nat.zero_add]
    have v4 : H4 a i = if 66 * s + 50 ≤ i ∧ i < 66 * s + 50 + 8 then h 17 (i - (66 * s + 50)) else H3 a i := by
      show (cpy H3 17 _ a _ _) a i = _
      rw [cpA _ _ _ _ _ _ _ (by decide) (by omega) (by decide), f3 17 (by omega), Nat.zero_add]
    have v5 : H5 a i = if 66 * s + 58 ≤ i ∧ i < 66 * s + 58 + 8 then h 18 (i - (66 * s + 58)) else H4 a i := by
      show (cpy H4 18 _ a _ _) a i = _
      rw [cpA _ _ _ _ _ _ _ (by decide) (by omega) (by decide), f4 18 (by omega), Nat.zero_add]
    rw [v5, v4, v3, v2, v1]
    by_cases g : 66 * s ≤ i ∧ i < 66 * s + 66
    · rw [if_pos g]
      obtain ⟨j, rfl⟩ : ∃ j, i = 66 * s + j := ⟨i - 66 * s, by omega⟩
      rw [show 66 * s + j - 66 * s = j by omega]
      unfold dv
      by_cases z0 : j = 0
      · rw [if_neg (by omega), if_neg (by omega), if_neg (by omega), if_neg (by omega), if_neg (by omega), if_pos (by omega), if_pos z0]
      by_cases z1 : j = 1
      · rw [if_neg (by omega), if_neg (by omega), if_neg (by omega), if_neg (by omega), if_pos (by omega), if_neg z0, if_pos z1]
      by_cases z2 : j < 34
      · rw [if_neg (by omega), if_neg (by omega), if_neg (by omega), if_pos (by omega), if_neg z0, if_neg z1, if_pos z2, show 66 * s + j - (66 * s + 2) = j - 2 by omega]
      by_cases z3 : j < 50
      · rw [if_neg (by omega), if_neg (by omega), if_pos (by omega), if_neg z0, if_neg z1, if_neg z2, if_pos z3, show 66 * s + j - (66 * s + 34) = j - 34 by omega]
      by_cases z4 : j < 58
      · rw [if_neg (by omega), if_pos (by omega), if_neg z0, if_neg z1, if_neg z2, if_neg z3, if_pos z4, show 66 * s + j - (66 * s + 50) = j - 50 by omega]
      · rw [if_pos (by omega), if_neg z0, if_neg z1, if_neg z2, if_neg z3, if_neg z4, show 66 * s + j - (66 * s + 58) = j - 58 by omega]
    · rw [if_neg g, if_neg (by omega), if_neg (by omega), if_neg (by omega), if_neg (by omega), if_neg (by omega), if_neg (by omega)]
/-- a drum's cells from five functions -/
theorem dv_of {h : HP} {d : Nat} {f : Nat → Int32} (h0 : h d 4 = f 0) (h1 : h d 5 = f 1) (h2 : ∀ r, r < 32 → h (d + 1) r = f (2 + r)) (h3 : ∀ r, r < 16 → h (d + 2) r = f (34 + r)) (h4 : ∀ r, r < 8 → h (d + 3) r = f (50 + r)) (h5 : ∀ r, r < 8 → h (d + 4) r = f (58 + r)) : ∀ j, j < 66 → dv h d j = f j := by
  intro j hj
  unfold dv
  by_cases z0 : j = 0
  · rw [if_pos z0, z0]; exact h0
  by_cases z1 : j = 1
  · rw [if_neg z0, if_pos z1, z1]; exact h1
  by_cases z2 : j < 34
  · rw [if_neg z0, if_neg z1, if_pos z2, h2 _ (by omega)]; congr 1; omega
  by_cases z3 : j < 50
  · rw [if_neg z0, if_neg z1, if_neg z2, if_pos z3, h3 _ (by omega)]; congr 1; omega
  by_cases z4 : j < 58
  · rw [if_neg z0, if_neg z1, if_neg z2, if_neg z3, if_pos z4, h4 _ (by omega)]; congr 1; omega
  · rw [if_neg z0, if_neg z1, if_neg z2, if_neg z3, if_neg z4, h5 _ (by omega)]; congr 1; omega
theorem loadFrom_n (F : Nat) {a s : Nat} {h : HP} (hL : 66 * s + 66 ≤ ln a) (hL2 : ln a ≤ 1000) (ha : 18 < a) :
    ∃ h1, f_X0_loadFrom F 14 a (nI (66 * s)) h = some h1 ∧ (∀ j, j < 66 → dv h1 14 j = h a (66 * s + j)) ∧ ∀ z, z < 14 ∨ 18 < z → h1 z = h z := by
  let H1 : HP := up (up h 14 4 (h a (66 * s))) 14 5 (h a (66 * s + 1))
  let H2 : HP := cpy H1 a (nI (66 * s + 2)) 15 (nI 0) (nI 32)
  let H3 : HP := cpy H2 a (nI (66 * s + 34)) 16 (nI 0) (nI 16)
  let H4 : HP := cpy H3 a (nI (66 * s + 50)) 17 (nI 0) (nI 8)
  let H5 : HP := cpy H4 a (nI (66 * s + 58)) 18 (nI 0) (nI 8)
  have f1 : ∀ z, z ≠ 14 → H1 z = h z := fun z hz => by show (up (up h 14 _ _) 14 _ _) z = _; rw [up_c hz, up_c hz]
  have f2 : ∀ z, z ≠ 15 → H2 z = H1 z := fun z hz => cpy_c hz
  have f3 : ∀ z, z ≠ 16 → H3 z = H2 z := fun z hz => cpy_c hz
  have f4 : ∀ z, z ≠ 17 → H4 z = H3 z := fun z hz => cpy_c hz
  have f5 : ∀ z, z ≠ 18 → H5 z = H4 z := fun z hz => cpy_c hz
  have a1 : H1 a = h a := f1 a (by omega)
  have a2 : H2 a = h a := by rw [f2 a (by omega), a1]
  have a3 : H3 a = h a := by rw [f3 a (by omega), a2]
  have a4 : H4 a = h a := by rw [f4 a (by omega), a3]
  refine ⟨H5, ?_, dv_of (f := fun j => h a (66 * s + j)) ?_ ?_ ?_ ?_ ?_ ?_, fun z hz => ?_⟩
  · unfold f_X0_loadFrom
    rw [if_neg (by rw [e_lt (by omega) (by decide)]; omega), e_add, if_pos (by rw [e_le (by omega) (by omega)]; omega), if_pos (inb_t (by omega) (by omega)), e_add, if_pos (inb_t (by omega) (by omega)), e_add, show 66 * s + 1 + 1 = 66 * s + 2 by omega, e_add, show 66 * s + 2 + 32 = 66 * s + 34 by omega, e_add, show 66 * s + 34 + 16 = 66 * s + 50 by omega, e_add, show 66 * s + 50 + 8 = 66 * s + 58 by omega]
    rw [if_pos (cpb_t (by omega) (by omega) (by omega) (by decide)), if_pos (cpb_t (by omega) (by omega) (by omega) (by decide)), if_pos (cpb_t (by omega) (by omega) (by omega) (by decide)), if_pos (cpb_t (by omega) (by omega) (by omega) (by decide)), e_ix (by omega), e_ix (by omega), up_c (show a ≠ 14 by omega)]
  · rw [f5 14 (by decide), f4 14 (by decide), f3 14 (by decide), f2 14 (by decide)]
    show (up (up h 14 4 _) 14 5 _) 14 4 = _
    rw [up_n (by decide), up_s]
    rfl
  · rw [f5 14 (by decide), f4 14 (by decide), f3 14 (by decide), f2 14 (by decide)]
    exact up_s
  · intro r hr
    rw [f5 15 (by decide), f4 15 (by decide), f3 15 (by decide)]
    show (cpy H1 a _ 15 _ _) 15 r = _
    rw [cpA _ _ _ _ _ _ _ (by omega) (by decide) (by decide), if_pos (by omega), a1]
    show h a _ = h a _
    congr 1; omega
  · intro r hr
    rw [f5 16 (by decide), f4 16 (by decide)]
    show (cpy H2 a _ 16 _ _) 16 r = _
    rw [cpA _ _ _ _ _ _ _ (by omega) (by decide) (by decide), if_pos (by omega), a2]
    show h a _ = h a _
    congr 1; omega
  · intro r hr
    rw [f5 17 (by decide)]
    show (cpy H3 a _ 17 _ _) 17 r = _
    rw [cpA _ _ _ _ _ _ _ (by omega) (by decide) (by decide), if_pos (by omega), a3]
    show h a _ = h a _
    congr 1; omega
  · intro r hr
    show (cpy H4 a _ 18 _ _) 18 r = _
    rw [cpA _ _ _ _ _ _ _ (by omega) (by decide) (by decide), if_pos (by omega), a4]
    show h a _ = h a _
    congr 1; omega
  · rw [f5 z (by omega), f4 z (by omega), f3 z (by omega), f2 z (by omega), f1 z (by omega)]
theorem copy_n (F : Nat) {h : HP} : ∃ h1, f_X0_copy F 19 14 h = some h1 ∧ (∀ j, j < 66 → dv h1 19 j = dv h 14 j) ∧ ∀ z, z < 19 ∨ 23 < z → h1 z = h z := by
  let H2 : HP := cpy h 15 (nI 0) 20 (nI 0) (nI 32)
  let H3 : HP := cpy H2 16 (nI 0) 21 (nI 0) (nI 16)
  let H4 : HP := cpy H3 17 (nI 0) 22 (nI 0) (nI 8)
  let H5 : HP := cpy H4 18 (nI 0) 23 (nI 0) (nI 8)
  let H6 : HP := up (up H5 19 4 (H5 14 4)) 19 5 ((up H5 19 4 (H5 14 4)) 14 5)
  have f2 : ∀ z, z ≠ 20 → H2 z = h z := fun z hz => cpy_c hz
  have f3 : ∀ z, z ≠ 21 → H3 z = H2 z := fun z hz => cpy_c hz
  have f4 : ∀ z, z ≠ 22 → H4 z = H3 z := fun z hz => cpy_c hz
  have f5 : ∀ z, z ≠ 23 → H5 z = H4 z := fun z hz => cpy_c hz
  have f6 : ∀ z, z ≠ 19 → H6 z = H5 z := fun z hz => by show (up (up H5 19 _ _) 19 _ _) z = _; rw [up_c hz, up_c hz]
  have e14 : H5 14 = h 14 := by rw [f5 14 (by decide), f4 14 (by decide), f3 14 (by decide), f2 14 (by decide)]
  refine ⟨H6, ?_, dv_of (f := dv h 14) ?_ ?_ ?_ ?_ ?_ ?_, fun z hz => ?_⟩
  · unfold f_X0_copy
    rw [if_pos (cpb_t (by decide) (by decide) (by decide) (by decide)), if_pos (cpb_t (by decide) (by decide) (by decide) (by decide)), if_pos (cpb_t (by decide) (by decide) (by decide) (by decide)), if_pos (cpb_t (by decide) (by decide) (by decide) (by decide))]
  · show (up (up H5 19 4 (H5 14 4)) 19 5 _) 19 4 = _
    rw [up_n (by decide), up_s, e14]
    rfl
  · show (up (up H5 19 4 (H5 14 4)) 19 5 _) 19 5 = _
    rw [up_s, up_c (by decide), e14]
    rfl
  · intro r hr
    rw [f6 20 (by decide), f5 20 (by decide), f4 20 (by decide), f3 20 (by decide), dv2 h 14 hr]
    show (cpy h 15 _ 20 _ _) 20 r = _
    rw [cpA _ _ _ _ _ _ _ (by decide) (by decide) (by decide), if_pos (by omega), Nat.zero_add]
    rfl
  · intro r hr
    rw [f6 21 (by decide), f5 21 (by decide), f4 21 (by decide), dv34 h 14 hr]
    show (cpy H2 16 _ 21 _ _) 21 r = _
    rw [cpA _ _ _ _ _ _ _ (by decide) (by decide) (by decide), if_pos (by omega), Nat.zero_add, f2 16 (by decide)]
    rfl
  · intro r hr
    rw [f6 22 (by decide), f5 22 (by decide), dv50 h 14 hr]
    show (cpy H3 17 _ 22 _ _) 22 r = _
    rw [cpA _ _ _ _ _ _ _ (by decide) (by decide) (by decide), if_pos (by omega), Nat.zero_add, f3 17 (by decide), f2 17 (by decide)]
    rfl
  · intro r hr
    rw [f6 23 (by decide), dv58 h 14 hr]
    show (cpy H4 18 _ 23 _ _) 23 r = _
    rw [cpA _ _ _ _ _ _ _ (by decide) (by decide) (by decide), if_pos (by omega), Nat.zero_add, f4 18 (by decide), f3 18 (by decide), f2 18 (by decide)]
    rfl
  · rw [f6 z (by omega), f5 z (by omega), f4 z (by omega), f3 z (by omega), f2 z (by omega)]
/-- a shelf: its places -/
def SHP (sf P : Nat) : Prop := sf = 24 ∧ P = 8 ∨ sf = 26 ∧ P = 2
theorem SHP.l {sf P : Nat} (h : SHP sf P) : ln (sf + 1) = 66 * P ∧ 18 < sf ∧ sf < 28 ∧ 2 ≤ P ∧ P ≤ 8 := by
  rcases h with ⟨rfl, rfl⟩ | ⟨rfl, rfl⟩ <;> exact ⟨rfl, by decide, by decide, by decide, by decide⟩
theorem put_n (F : Nat) {sf P k nx : Nat} {h : HP} (hS : SHP sf P) (hnx : nx < P) (hk : k ≤ P) (e0 : h sf 0 = nI P) (e2 : h sf 2 = nI nx) (e3 : h sf 3 = nI k) :
    ∃ h1, f_X2_put F sf 14 h = some h1 ∧ h1 sf 0 = nI P ∧ h1 sf 2 = nI ((nx + 1) % P) ∧ h1 sf 3 = nI (min (k + 1) P) ∧ (∀ i, h1 (sf + 1) i = if 66 * nx ≤ i ∧ i < 66 * nx + 66 then dv h 14 (i - 66 * nx) else h (sf + 1) i) ∧ ∀ z, z ≠ sf → z ≠ sf + 1 → h1 z = h z := by
  obtain ⟨l1, l2, l3, l4, l5⟩ := hS.l
  obtain ⟨h1, s1, s2, s3⟩ := saveTo_n F (a := sf + 1) (s := nx) (h := h) (by rw [l1]; have := Nat.mul_le_mul_left 66 (show nx + 1 ≤ P by omega); omega) (by omega) (by omega)
  have t0 : h1 sf = h sf := s3 sf (by omega)
  refine ⟨up (up h1 sf 2 (nI ((nx + 1) % P))) sf 3 (nI (min (k + 1) P)), ?_, ?_, ?_, up_s, fun i => ?_, fun z z1 z2 => ?_⟩
  · have en : (if h1 sf 0 ≤ h1 sf 2 + nI 1 then nI 0 else h1 sf 2 + nI 1) = nI ((nx + 1) % P) := by
      rw [t0, e0, e2, e_add, i_le (by omega) (by omega), ite_n]
      congr 1
      by_cases g : P ≤ nx + 1
      · rw [if_pos g, show nx + 1 = P by omega, Nat.mod_self]
      · rw [if_neg g, Nat.mod_eq_of_lt (by omega)]
    unfold f_X2_put
    rw [e2, e_mul, show nx * 66 = 66 * nx by omega, s1, obv_eq, en, up_n (show (3 : Nat) ≠ 2 by decide), up_n (show (0 : Nat) ≠ 2 by decide), t0, e3, e0, e_add, min_n F (by omega) (by omega), ob_eq]
  · rw [up_n (by decide), up_n (by decide), t0]; exact e0
  · rw [up_n (by decide), up_s]
  · rw [up_c (by omega), up_c (by omega)]; exact s2 i
  · rw [up_c z1, up_c z1, s3 z z2]
theorem take_n (F : Nat) {sf P k nx : Nat} {h : HP} (hS : SHP sf P) (hnx : nx < P) (hk : k ≤ P) (e0 : h sf 0 = nI P) (e2 : h sf 2 = nI nx) (e3 : h sf 3 = nI k) (h1k : 1 ≤ k) :
    ∃ h1, f_X2_takeInto F sf 14 h = some (nI 1, h1) ∧ h1 sf 0 = nI P ∧ h1 sf 2 = nI ((nx + P - 1) % P) ∧ h1 sf 3 = nI (k - 1) ∧ (∀ j, j < 66 → dv h1 14 j = h (sf + 1) (66 * ((nx + P - 1) % P) + j)) ∧ ∀ z, z ≠ sf → (z < 14 ∨ 18 < z) → h1 z = h z := by
  obtain ⟨l1, l2, l3, l4, l5⟩ := hS.l
  have hlt : (nx + P - 1) % P < P := Nat.mod_lt _ (by omega)
  let H1 : HP := up (up h sf 3 (nI (k - 1))) sf 2 (nI ((nx + P - 1) % P))
  have f1 : ∀ z, z ≠ sf → H1 z = h z := fun z hz => by show (up (up h sf _ _) sf _ _) z = _; rw [up_c hz, up_c hz]
  obtain ⟨h1, s1, s2, s3⟩ := loadFrom_n F (a := sf + 1) (s := (nx + P - 1) % P) (h := H1) (by rw [l1]; have := Nat.mul_le_mul_left 66 (show (nx + P - 1) % P + 1 ≤ P by omega); omega) (by omega) (by omega)
  refine ⟨h1, ?_, ?_, ?_, ?_, fun j hj => by rw [s2 j hj, f1 (sf + 1) (by omega)], fun z z1 z2 => by rw [s3 z z2, f1 z z1]⟩
  · have en : (if (up h sf 3 (nI (k - 1))) sf 2 ≤ nI 0 then (up h sf 3 (nI (k - 1))) sf 0 - nI 1 else (up h sf 3 (nI (k - 1))) sf 2 - nI 1) = nI ((nx + P - 1) % P) := by
      rw [up_n (show (2 : Nat) ≠ 3 by decide), up_n (show (0 : Nat) ≠ 3 by decide), e0, e2]
      by_cases g : nx = 0
      · rw [if_pos (by rw [e_le (by omega) (by decide)]; omega), e_sub (by omega), g, Nat.zero_add, Nat.mod_eq_of_lt (by omega)]
      · rw [if_neg (by rw [e_le (by omega) (by decide)]; omega), e_sub (by omega), show nx + P - 1 = nx - 1 + P by omega, Nat.add_mod_right, Nat.mod_eq_of_lt (by omega)]
    unfold f_X2_takeInto
    rw [e3, if_pos (by rw [e_le (by decide) (by omega)]; omega), e_sub h1k, en, up_s, e_mul, show (nx + P - 1) % P * 66 = 66 * ((nx + P - 1) % P) by omega, s1, obv_eq]
  · rw [s3 sf (Or.inr (by omega))]
    show (up (up h sf _ _) sf _ _) sf 0 = _
    rw [up_n (by decide), up_n (by decide)]; exact e0
  · rw [s3 sf (Or.inr (by omega))]
    exact up_s
  · rw [s3 sf (Or.inr (by omega))]
    show (up (up h sf _ _) sf _ _) sf 3 = _
    rw [up_n (by decide), up_s]
theorem take_no (F : Nat) {sf : Nat} {h : HP} (e3 : h sf 3 = nI 0) : f_X2_takeInto F sf 14 h = some (nI 0, h) := by
  unfold f_X2_takeInto
  rw [e3, if_neg (by decide)]
/-- the reference copies 66 numbers -/
theorem copies_loop (F : Nat) {a b x y : Nat} (hab : a ≠ b) (hx : x + 66 ≤ ln a) (hy : y + 66 ≤ ln b) (hla : ln a ≤ 1000) (hlb : ln b ≤ 1000) :
    ∀ (k i n : Nat) (h : HP), i + k = 66 → k < n → ∃ h1, f_X7_copies_3 F a (nI x) b (nI y) n (nI i) h = some h1 ∧ (∀ j, h1 b j = if y + i ≤ j ∧ j < y + 66 then h a (x + (j - y)) else h b j) ∧ ∀ z, z ≠ b → h1 z = h z := by
  intro k
  induction k with
  | zero =>
    intro i n h hi hn
    obtain ⟨n, rfl⟩ := succ_of hn
    refine ⟨h, ?_, fun j => by rw [if_neg (by omega)], fun _ _ => rfl⟩
    rw [f_X7_copies_3, if_pos (by rw [e_le (by decide) (by omega)]; omega)]
  | succ k ih =>
    intro i n h hi hn
    obtain ⟨n, rfl⟩ := succ_of hn
    obtain ⟨h1, s1, s2, s3⟩ := ih (i + 1) n (up h b (y + i) (h a (x + i))) (by omega) (by omega)
    refine ⟨h1, ?_, fun j => ?_, fun z hz => by rw [s3 z hz, up_c hz]⟩
    · rw [f_X7_copies_3, if_neg (by rw [e_le (by decide) (by omega)]; omega), e_add, e_add, if_pos (inb_t (by omega) (by omega)), if_pos (inb_t (by omega) (by omega)), e_ix (by omega), e_ix (by omega), e_add, s1]
    · rw [s2 j, up_c hab]
      by_cases g : y + (i + 1) ≤ j ∧ j < y + 66
      · rw [if_pos g, if_pos (by omega)]
      · rw [if_neg g]
        by_cases g2 : j = y + i
        · rw [g2, up_s, if_pos (by omega), show x + (y + i - y) = x + i by omega]
        · rw [up_n g2, if_neg (by omega)]
theorem copies_n {F : Nat} (hF : 600 ≤ F) {a b x y : Nat} {h : HP} (hab : a ≠ b) (hx : x + 66 ≤ ln a) (hy : y + 66 ≤ ln b) (hla : ln a ≤ 1000) (hlb : ln b ≤ 1000) :
    ∃ h1, f_X7_copies F a (nI x) b (nI y) h = some h1 ∧ (∀ j, h1 b j = if y ≤ j ∧ j < y + 66 then h a (x + (j - y)) else h b j) ∧ ∀ z, z ≠ b → h1 z = h z :=
  copies_loop F hab hx hy hla hlb 66 0 F h (by omega) (by omega)
/-- the reference's row of drums gives way -/
theorem rem_loop (F : Nat) : ∀ (k i n : Nat) (h : HP), i + k = 462 → k < n → ∃ h1, f_X7_remember_11 F n (nI i) h = f_X7_remember_49 F (up h1 39 6 ((h1 39 6) - (nI 1))) ∧ (∀ j, h1 44 j = if i ≤ j ∧ j < 462 then h 44 (j + 66) else h 44 j) ∧ ∀ z, z ≠ 44 → h1 z = h z := by
  intro k
  induction k with
  | zero =>
    intro i n h hi hn
    obtain ⟨n, rfl⟩ := succ_of hn
    refine ⟨h, ?_, fun j => by rw [if_neg (by omega)], fun _ _ => rfl⟩
    rw [f_X7_remember_11, if_pos (by rw [e_le (by decide) (by omega)]; omega)]
  | succ k ih =>
    intro i n h hi hn
    obtain ⟨n, rfl⟩ := succ_of hn
    obtain ⟨h1, s1, s2, s3⟩ := ih (i + 1) n (up h 44 i (h 44 (i + 66))) (by omega) (by omega)
    refine ⟨h1, ?_, fun j => ?_, fun z hz => by rw [s3 z hz, up_c hz]⟩
    · rw [f_X7_remember_11, if_neg (by rw [e_le (by decide) (by omega)]; omega), e_add, if_pos (inb_t (by omega) (by decide)), if_pos (inb_t (by omega) (by decide)), e_ix (by omega), e_ix (by omega), e_add, s1]
    · rw [s2 j]
      by_cases g : i + 1 ≤ j ∧ j < 462
      · rw [if_pos g, if_pos (by omega), up_n (by omega)]
      · rw [if_neg g]
        by_cases g2 : j = i
        · rw [g2, up_s, if_pos (by omega)]
        · rw [up_n g2, if_neg (by omega)]
theorem remember_n {F : Nat} (hF : 600 ≤ F) {k : Nat} {h : HP} (hk : k ≤ 8) (e : h 39 6 = nI k) :
    ∃ h1, f_X7_remember F h = some h1 ∧ h1 39 6 = nI (min (k + 1) 8) ∧ (∀ j, h1 44 j = if 66 * (min k 7) ≤ j ∧ j < 66 * (min k 7) + 66 then h 43 (j - 66 * (min k 7)) else if k = 8 ∧ j < 462 then h 44 (j + 66) else h 44 j) ∧ (∀ z, z ≠ 44 → z ≠ 39 → h1 z = h z) ∧ ∀ j, j ≠ 6 → h1 39 j = h 39 j := by
  have k49 : ∀ (m : Nat) (g : HP), m < 8 → g 39 6 = nI m → ∃ h1, f_X7_remember_49 F g = some h1 ∧ h1 39 6 = nI (m + 1) ∧ (∀ j, h1 44 j = if 66 * m ≤ j ∧ j < 66 * m + 66 then g 43 (j - 66 * m) else g 44 j) ∧ (∀ z, z ≠ 44 → z ≠ 39 → h1 z = g z) ∧ ∀ j, j ≠ 6 → h1 39 j = g 39 j := by
    intro m g hm eg
    obtain ⟨h1, s1, s2, s3⟩ := copies_n hF (a := 43) (b := 44) (x := 0) (y := 66 * m) (h := g) (by decide) (by decide) (by show 66 * m + 66 ≤ 528; omega) (by decide) (by decide)
    refine ⟨up h1 39 6 (nI (m + 1)), ?_, up_s, fun j => ?_, fun z z1 z2 => by rw [up_c z2, s3 z z1], fun j hj => by rw [up_n hj, s3 39 (by decide)]⟩
    · unfold f_X7_remember_49
      rw [eg, e_mul, s1, obv_eq, s3 39 (by decide), eg, e_add]
    · rw [up_c (by decide), s2 j]
      by_cases z : 66 * m ≤ j ∧ j < 66 * m + 66
      · rw [if_pos z, if_pos z, Nat.zero_add]
      · rw [if_neg z, if_neg z]
  unfold f_X7_remember
  by_cases g8 : k = 8
  · subst g8
    obtain ⟨h0, s1, s2, s3⟩ := rem_loop F 462 0 F h (by omega) (by omega)
    have e39 : h0 39 = h 39 := s3 39 (by decide)
    obtain ⟨h1, t1, t2, t3, t4, t5⟩ := k49 7 (up h0 39 6 ((h0 39 6) - (nI 1))) (by decide) (by rw [up_s, e39, e, e_sub (by decide)])
    refine ⟨h1, ?_, t2, fun j => ?_, fun z z1 z2 => by rw [t4 z z1 z2, up_c z2, s3 z z1], fun j hj => by rw [t5 j hj, up_n hj, e39]⟩
    · rw [e, if_pos rfl, s1, t1]
    · rw [t3 j, up_c (by decide), up_c (by decide), s3 43 (by decide), s2 j]
      show _ = if 66 * 7 ≤ j ∧ j < 66 * 7 + 66 then _ else _
      by_cases z : 66 * 7 ≤ j ∧ j < 66 * 7 + 66
      · rw [if_pos z, if_pos z]
        rfl
      · rw [if_neg z, if_neg z]
        by_cases y : j < 462
        · rw [if_pos (by omega), if_pos ⟨rfl, y⟩]
        · rw [if_neg (by omega), if_neg (by omega)]
  · obtain ⟨h1, t1, t2, t3, t4, t5⟩ := k49 k h (by omega) e
    refine ⟨h1, ?_, by rw [t2, Nat.min_eq_left (by omega)], fun j => ?_, t4, t5⟩
    · rw [e, if_neg (by rw [e_eq (by omega) (by decide)]; exact g8), t1]
    · rw [t3 j, Nat.min_eq_left (show k ≤ 7 by omega)]
      by_cases z : 66 * k ≤ j ∧ j < 66 * k + 66
      · rw [if_pos z, if_pos z]
      · rw [if_neg z, if_neg z, if_neg (fun y => g8 y.1)]
