/-! ===== the class's own constructor ===== -/
def txt0 : String := "b0,1;b4,1;b7,2;n14;r1;t(ab)2[ac]..c(bc)2.;"
def X6 (E : EV) (a sa sv : Nat) (U : State) : Prop := MU E U ∧ vk_R RX6 69 txt0 sa U ∧ SG sa sv (FO a U.heap.size) U U.heap ∧ va_Nw (.methodLinkNest RX6 9 yX4_init RX6) U ∧ va_Nw (.methodLinkNest RX6 18 yX5_init RX6) U ∧ va_Nw (.methodLinkNest RX6 28 yX0_init RX6) U ∧ va_Nw (.methodLinkNest RX6 57 yX3_init RX6) U ∧ va_Nw (.methodLinkNest RX6 64 yX1_init RX6) U
/-- the letters come, then they are read and laid -/
def f_ini (F : Nat) : Nat → Nat → HP → Option HP
  | 0, _, h => ob (f_X4_readInto F 9 h) (fun _ h1 => obv (f_X6_layTold F (4, 9) h1) (fun h2 => f_X4_clear F h2))
  | k + 1, i, h => ob (f_X4_append F (btx i) h) (fun _ h1 => f_ini F k (i + 1) h1)
theorem obv_end {o : Option HP} {h : HP} {f : HP → Option HP} (e : obv o f = some h) : ∃ h1, o = some h1 ∧ f h1 = some h := by
  cases o with
  | none => cases e
  | some q => exact ⟨q, rfl, e⟩
theorem ob_end {o : Option (Int32 × HP)} {h : HP} {f : Int32 → HP → Option HP} (e : ob o f = some h) : ∃ v h1, o = some (v, h1) ∧ f v h1 = some h := by
  cases o with
  | none => cases e
  | some q => exact ⟨q.1, q.2, rfl, e⟩
set_option maxHeartbeats 4000000 in
theorem ct_ini {E : EV} (hE : EI E) (hN : 39 ≤ eN E) (F : Nat) {K : KX} {sv : Nat} (hR : 8 ≤ K.1.frames ∧ 512 ≤ K.1.locals) (hR2 : K.2.1 ≤ K.1.cells ∧ K.2.2.1 ≤ K.1.slots) (hZ : ∀ s, K.2.2.2.2 s → vk_R RX6 69 txt0 (eA E 1001) s) (hG : ∀ s, K.2.2.2.2 s → SG (eA E 1001) sv (fA E s.heap.size) s s.heap) {h' : HP} (kr : AW E mX6_init K (9, 4) h' 176 [none, none] []) :
    ∀ (k i : Nat) (h : HP), i + k = 42 → f_ini F k i h = some h' → AW E mX6_init K (4, 9) h 124 [some (.ref 0), some (.int (nI i))] [] := by
  have ry : ∀ N : MI, mD N + 1 ≤ 8 → 8 + (mL N + 11) + 64 * mD N ≤ 512 → roomy N K.1 := fun N h1 h2 => ⟨Nat.le_trans h1 hR.1, Nat.le_trans h2 hR.2⟩
  intro k
  induction k with
  | zero =>
    intro i h hi hf
    have hi42 : i = 42 := by omega
    subst hi42
    refine aw_iload_n dX6_init_124 rfl (aw_ldcS (q := 1001) hZ dX6_init_125 ?_)
    refine aw_callJ (N := mJ0_length_8abf5) (As := []) (q := 1001) okJ0_length_8abf5 rfl ljX6_71 rfl rfl (Nat.le_of_ble_eq_true rfl) (ry _ (Nat.le_of_ble_eq_true rfl) (Nat.le_of_ble_eq_true rfl)) dX6_init_127 hR2 hG cj_length ?_
    refine aw_icmp_ge 153 dX6_init_130 rfl (fun _ => ?_) (fun g => absurd (by decide) g)
    obtain ⟨v, h1, c1, hf⟩ := ob_end hf
    obtain ⟨h2, c2, hf⟩ := obv_end hf
    refine aw_aload_n dX6_init_153 rfl (aw_getr fkX6_10 (nl hN rfl) kd_0 (Nat.le_of_ble_eq_true rfl) rfl dX6_init_154 (aw_aload_n dX6_init_157 rfl (aw_getr fkX6_23 (nl hN rfl) kd_0 (Nat.le_of_ble_eq_true rfl) rfl dX6_init_158 ?_)))
    refine aw_callVi (N := mX4_readInto) (As := [.ref 9]) lkX6_85 okX4_readInto (nl hN rfl) kd_1 rfl (by rfl) (by rfl) (Nat.le_of_ble_eq_true rfl) (ry _ (Nat.le_of_ble_eq_true rfl) (Nat.le_of_ble_eq_true rfl)) dX6_init_161 hR2 (ct_X4_readInto hE hN F (Or.inr rfl) c1) ?_
    refine aw_pop dX6_init_164 rfl (aw_aload_n dX6_init_165 rfl ?_)
    refine aw_callVv (N := mX6_layTold) (As := []) lkX6_89 okX6_layTold (nl hN rfl) kd_0 rfl (by rfl) (by rfl) (Nat.le_of_ble_eq_true rfl) (ry _ (Nat.le_of_ble_eq_true rfl) (Nat.le_of_ble_eq_true rfl)) dX6_init_166 hR2 (ct_X6_layTold hE hN F (Or.inl rfl) (Or.inr rfl) c2) ?_
    refine aw_aload_n dX6_init_169 rfl (aw_getr fkX6_10 (nl hN rfl) kd_0 (Nat.le_of_ble_eq_true rfl) rfl dX6_init_170 ?_)
    refine aw_callVv (N := mX4_clear) (As := []) lkX6_92 okX4_clear (nl hN rfl) kd_1 rfl (by rfl) (by rfl) (Nat.le_of_ble_eq_true rfl) (ry _ (Nat.le_of_ble_eq_true rfl) (Nat.le_of_ble_eq_true rfl)) dX6_init_173 hR2 (ct_X4_clear hE hN F hf) ?_
    exact aw_dk kr trivial
  | succ k ih =>
    intro i h hi hf
    have hi42 : i < 42 := by omega
    refine aw_iload_n dX6_init_124 rfl (aw_ldcS (q := 1001) hZ dX6_init_125 ?_)
    refine aw_callJ (N := mJ0_length_8abf5) (As := []) (q := 1001) okJ0_length_8abf5 rfl ljX6_71 rfl rfl (Nat.le_of_ble_eq_true rfl) (ry _ (Nat.le_of_ble_eq_true rfl) (Nat.le_of_ble_eq_true rfl)) dX6_init_127 hR2 hG cj_length ?_
    refine aw_icmp_ge 153 dX6_init_130 rfl (fun g => absurd g (by rw [e_le (by decide) (by omega)]; omega)) (fun _ => ?_)
    obtain ⟨v, h1, c1, hf⟩ := ob_end hf
    refine aw_aload_n dX6_init_133 rfl (aw_getr fkX6_10 (nl hN rfl) kd_0 (Nat.le_of_ble_eq_true rfl) rfl dX6_init_134 (aw_ldcS (q := 1001) hZ dX6_init_137 (aw_iload_n dX6_init_139 rfl ?_)))
    refine aw_callJ (N := mJ0_charAt_5068e) (As := [.int (nI i)]) (q := 1001) okJ0_charAt_5068e rfl ljX6_77 rfl rfl (Nat.le_of_ble_eq_true rfl) (ry _ (Nat.le_of_ble_eq_true rfl) (Nat.le_of_ble_eq_true rfl)) dX6_init_140 hR2 hG (cj_charAt hi42) ?_
    refine aw_callVi (N := mX4_append) (As := [.int (btx i)]) lkX6_81 okX4_append (nl hN rfl) kd_1 rfl (by rfl) (by rfl) (Nat.le_of_ble_eq_true rfl) (ry _ (Nat.le_of_ble_eq_true rfl) (Nat.le_of_ble_eq_true rfl)) dX6_init_143 hR2 (ct_X4_append hE hN F c1) ?_
    refine aw_pop dX6_init_146 rfl (aw_iinc (nI 1) dX6_init_147 rfl (Nat.le_of_ble_eq_true rfl) ki_1 (aw_goto 124 dX6_init_150 rfl ?_))
    have := ih (i + 1) h1 (by omega) hf
    rw [show nI i + nI 1 = nI (i + 1) from e_add i 1] at *
    exact this
abbrev wkT (E : EV) : (Nat → Nat) → va_W := fun ad => [(ad 0, .inr (4, [.ref (ad 1), .int (nI 0), .int (nI 0), .ref (ad 2)])), ((ad 1), zr E 200), ((ad 2), zr E 3)]
abbrev wkW (E : EV) : (Nat → Nat) → va_W := fun ad => [(ad 0, .inr (5, [.int (nI 0), .ref (ad 1), .ref (ad 2), .ref (ad 3), .int (nI 16), .int (nI 1), .int (nI 0), .int (nI 0), .ref (ad 4)])), ((ad 1), zr E 8), ((ad 2), zr E 8), ((ad 3), zr E 8), ((ad 4), zr E 32)]
abbrev wkD (E : EV) : (Nat → Nat) → va_W := fun ad => [(ad 0, .inr (0, [.ref (ad 1), .ref (ad 2), .ref (ad 3), .ref (ad 4), .int (nI 0), .int (nI 0)])), ((ad 1), zr E 32), ((ad 2), zr E 16), ((ad 3), zr E 8), ((ad 4), zr E 8)]
abbrev wkS (E : EV) : (Nat → Nat) → va_W := fun ad => [(ad 0, .inr (2, [.int (nI 8), .ref (ad 1), .int (nI 0), .int (nI 0)])), ((ad 1), zr E 528)]
abbrev wkK (E : EV) : (Nat → Nat) → va_W := fun ad => [(ad 0, .inr (2, [.int (nI 2), .ref (ad 1), .int (nI 0), .int (nI 0)])), ((ad 1), zr E 132)]
abbrev wkH (E : EV) : (Nat → Nat) → va_W := fun ad => [(ad 0, .inr (3, [.ref (ad 1)])), (ad 1, rw4 E (fun j => ad (j + 2))), (ad 2, zr E 1089), (ad 3, zr E 1089), (ad 4, zr E 1089), (ad 5, zr E 1089)]
abbrev wkP (E : EV) : (Nat → Nat) → va_W := fun ad => [(ad 0, .inr (1, [.ref (ad 1), .ref (ad 2), .int (nI 0), .int (nI 0)])), ((ad 1), zr E 8), ((ad 2), zr E 8)]
theorem nw6_4 : nwc RX6 7 4 bl4 := ⟨(RX4, TX4, 4), tyX4, rfl, usX4, tyX4_ok, gt_in 79 (by decide +kernel) (by decide +kernel), gt_in 80 (by decide +kernel) (by decide +kernel), gt_in 56 (by decide +kernel) (by decide +kernel), by decide +kernel, rfl⟩
theorem nw6_5 : nwc RX6 16 5 bl5 := ⟨(RX5, TX5, 9), tyX5, rfl, usX5, tyX5_ok, gt_in 100 (by decide +kernel) (by decide +kernel), gt_in 101 (by decide +kernel) (by decide +kernel), gt_in 57 (by decide +kernel) (by decide +kernel), by decide +kernel, rfl⟩
theorem nw6_0 : nwc RX6 26 0 bl0 := ⟨(RX0, TX0, 6), tyX0, rfl, usX0, tyX0_ok, gt_in 152 (by decide +kernel) (by decide +kernel), gt_in 153 (by decide +kernel) (by decide +kernel), gt_in 58 (by decide +kernel) (by decide +kernel), by decide +kernel, rfl⟩
theorem nw6_2 : nwc RX6 36 2 bl2 := ⟨(RX2, TX2, 4), tyX2, rfl, usX2, tyX2_ok, gt_in 182 (by decide +kernel) (by decide +kernel), gt_in 183 (by decide +kernel) (by decide +kernel), gt_in 59 (by decide +kernel) (by decide +kernel), by decide +kernel, rfl⟩
theorem nw6_3 : nwc RX6 55 3 bl3 := ⟨(RX3, TX3, 1), tyX3, rfl, usX3, tyX3_ok, gt_in 205 (by decide +kernel) (by decide +kernel), gt_in 206 (by decide +kernel) (by decide +kernel), gt_in 61 (by decide +kernel) (by decide +kernel), by decide +kernel, rfl⟩
theorem nw6_1 : nwc RX6 62 1 bl1 := ⟨(RX1, TX1, 4), tyX1, rfl, usX1, tyX1_ok, gt_in 217 (by decide +kernel) (by decide +kernel), gt_in 218 (by decide +kernel) (by decide +kernel), gt_in 62 (by decide +kernel) (by decide +kernel), by decide +kernel, rfl⟩
def ad39 (a qw qh sa : Nat) (adT adW adV adD adG adS adK adH adP : Nat → Nat) : Nat → Nat := fun k => [a, adT 0, adT 1, adT 2, adW 0, adW 1, adW 2, adW 3, adW 4, adV 0, adV 1, adV 2, adV 3, adV 4, adD 0, adD 1, adD 2, adD 3, adD 4, adG 0, adG 1, adG 2, adG 3, adG 4, adS 0, adS 1, adK 0, adK 1, qw, qh, adH 0, adH 1, adH 2, adH 3, adH 4, adH 5, adP 0, adP 1, adP 2].getD k sa
def h00 : HP := fun k => if k = 4 ∨ k = 9 then (fun j => if j = 4 then nI 16 else if j = 5 then nI 1 else nI 0) else if k = 24 then (fun j => if j = 0 then nI 8 else nI 0) else if k = 26 then (fun j => if j = 0 then nI 2 else nI 0) else fun _ => nI 0
set_option maxRecDepth 100000 in
set_option maxHeartbeats 4000000 in
theorem w39 {E : EV} (a qw qh sa : Nat) (adT adW adV adD adG adS adK adH adP : Nat → Nat) : (a, .inr (6, [.ref (adT 0), .ref (adW 0), .ref (adV 0), .ref (adD 0), .ref (adG 0), .ref (adS 0), .ref (adK 0), .ref qw, .ref qh, .int (nI 0), .ref (adH 0), .ref (adP 0)])) :: ((((((((((([] ++ wkT E adT) ++ wkW E adW) ++ wkW E adV) ++ wkD E adD) ++ wkD E adG) ++ wkS E adS) ++ wkK E adK) ++ [(qw, zr E 32)]) ++ [(qh, zr E 8)]) ++ wkH E adH) ++ wkP E adP) = wW (eS E (ad39 a qw qh sa adT adW adV adD adG adS adK adH adP) 39) (4, 9) h00 := by
  have e31 : rw4 E (fun j => adH (j + 2)) = wE (eS E (ad39 a qw qh sa adT adW adV adD adG adS adK adH adP) 39) (4, 9) h00 31 := by
    show rw4 E (fun j => adH (j + 2)) = rw4 E (fun j => ad39 a qw qh sa adT adW adV adD adG adS adK adH adP (31 + 1 + j))
    have : (fun j => if j < 4 then some (adH (j + 2)) else none) = (fun j => if j < 4 then some (ad39 a qw qh sa adT adW adV adD adG adS adK adH adP (31 + 1 + j)) else none) := by
      funext j
      by_cases hj : j < 4
      · have : j = 0 ∨ j = 1 ∨ j = 2 ∨ j = 3 := by omega
        rcases this with rfl | rfl | rfl | rfl <;> rfl
      · rw [if_neg hj, if_neg hj]
    exact congrArg (fun f => (Sum.inl (eO E, 4, Sum.inr (Sum.inr (Sum.inr (Sum.inr f)))) : va_E)) this
  unfold wkH
  rw [e31]
  rfl
set_option maxRecDepth 100000 in
set_option maxHeartbeats 4000000 in
theorem cb_X6_init {E : EV} {F : Nat} {hI : HP} (hf : f_ini F 42 0 h00 = some hI) (a sa sv : Nat) : CBo E mX6_init (X6 E a sa sv) (FO a) [(a, .inr (6, bl6))] a [] 38 5566 (fun ad => wW (eS E ad 39) (9, 4) hI) := by
  refine CBo.of (by decide +kernel) (Nat.le_of_ble_eq_true rfl) (fun sz q h => Or.inr h) (fun sz => FO.D _ _ sz) ?_
  refine bw_aload 0 dX6_init_0 rfl ?_
  refine bw_obj liX6_1 gObjI gObjC dX6_init_1 (Nat.le_of_ble_eq_true rfl) (Nat.le_of_ble_eq_true rfl) ?_
  refine bw_aload 0 dX6_init_4 rfl ?_
  refine bw_new nw6_4 dX6_init_5 ⟨(Nat.le_of_ble_eq_true rfl), (Nat.le_of_ble_eq_true rfl)⟩ (fun qT => ?_)
  refine bw_dup dX6_init_8 ?_
  show BW E mX6_init _ (((a, .inr (6, [.null, .null, .null, .null, .null, .null, .null, .null, .null, .int (nI 0), .null, .null])) :: []) ++ [(qT, .inr (4, bl4))]) _ _ 9 _ _
  refine bw_init (N := mX4_init) (pre := (a, .inr (6, [.null, .null, .null, .null, .null, .null, .null, .null, .null, .int (nI 0), .null, .null])) :: []) (W0 := [(qT, .inr (4, bl4))]) (av := []) (X := (fun _ => True)) (mk := wkT E) okX4_init (Or.inr ⟨RX6, fun s h => h.2.2.2.1⟩) rfl rfl (Nat.le_of_ble_eq_true rfl) ⟨(Nat.le_of_ble_eq_true rfl), (Nat.le_of_ble_eq_true rfl)⟩ dX6_init_9 ⟨(Nat.le_of_ble_eq_true rfl), (Nat.le_of_ble_eq_true rfl)⟩ (fun _ _ _ _ _ _ _ _ => trivial) (fun _ _ _ _ _ => trivial) (cb_X4_init qT) FO.in FO.out (fun adT eT => ?_)
  subst eT
  show BW E mX6_init _ ([] ++ (a, .inr (6, [.null, .null, .null, .null, .null, .null, .null, .null, .null, .int (nI 0), .null, .null])) :: ([] ++ wkT E adT)) _ _ 12 _ _
  refine bw_putF (pre := []) (post := ([] ++ wkT E adT)) (a := a) (fs := [.null, .null, .null, .null, .null, .null, .null, .null, .null, .int (nI 0), .null, .null]) (v := .ref (adT 0)) fkX6_10 fwF_6_0 rfl (Nat.le_of_ble_eq_true rfl) rfl rfl dX6_init_12 ?_
  refine bw_aload 0 dX6_init_15 rfl ?_
  refine bw_new nw6_5 dX6_init_16 ⟨(Nat.le_of_ble_eq_true rfl), (Nat.le_of_ble_eq_true rfl)⟩ (fun qW => ?_)
  refine bw_dup dX6_init_19 ?_
  show BW E mX6_init _ (((a, .inr (6, [.ref (adT 0), .null, .null, .null, .null, .null, .null, .null, .null, .int (nI 0), .null, .null])) :: ([] ++ wkT E adT)) ++ [(qW, .inr (5, bl5))]) _ _ 20 _ _
  refine bw_init (N := mX5_init) (pre := (a, .inr (6, [.ref (adT 0), .null, .null, .null, .null, .null, .null, .null, .null, .int (nI 0), .null, .null])) :: ([] ++ wkT E adT)) (W0 := [(qW, .inr (5, bl5))]) (av := []) (X := (fun _ => True)) (mk := wkW E) okX5_init (Or.inr ⟨RX6, fun s h => h.2.2.2.2.1⟩) rfl rfl (Nat.le_of_ble_eq_true rfl) ⟨(Nat.le_of_ble_eq_true rfl), (Nat.le_of_ble_eq_true rfl)⟩ dX6_init_20 ⟨(Nat.le_of_ble_eq_true rfl), (Nat.le_of_ble_eq_true rfl)⟩ (fun _ _ _ _ _ _ _ _ => trivial) (fun _ _ _ _ _ => trivial) (cb_X5_init qW) FO.in FO.out (fun adW eW => ?_)
  subst eW
  show BW E mX6_init _ ([] ++ (a, .inr (6, [.ref (adT 0), .null, .null, .null, .null, .null, .null, .null, .null, .int (nI 0), .null, .null])) :: (([] ++ wkT E adT) ++ wkW E adW)) _ _ 23 _ _
  refine bw_put (pre := []) (post := (([] ++ wkT E adT) ++ wkW E adW)) (a := a) (fs := [.ref (adT 0), .null, .null, .null, .null, .null, .null, .null, .null, .int (nI 0), .null, .null]) (v := .ref (adW 0)) fkX6_19 fw_6_1 (Nat.le_of_ble_eq_true rfl) rfl rfl dX6_init_23 ?_
  refine bw_aload 0 dX6_init_26 rfl ?_
  refine bw_new nw6_5 dX6_init_27 ⟨(Nat.le_of_ble_eq_true rfl), (Nat.le_of_ble_eq_true rfl)⟩ (fun qV => ?_)
  refine bw_dup dX6_init_30 ?_
  show BW E mX6_init _ (((a, .inr (6, [.ref (adT 0), .ref (adW 0), .null, .null, .null, .null, .null, .null, .null, .int (nI 0), .null, .null])) :: (([] ++ wkT E adT) ++ wkW E adW)) ++ [(qV, .inr (5, bl5))]) _ _ 31 _ _
  refine bw_init (N := mX5_init) (pre := (a, .inr (6, [.ref (adT 0), .ref (adW 0), .null, .null, .null, .null, .null, .null, .null, .int (nI 0), .null, .null])) :: (([] ++ wkT E adT) ++ wkW E adW)) (W0 := [(qV, .inr (5, bl5))]) (av := []) (X := (fun _ => True)) (mk := wkW E) okX5_init (Or.inr ⟨RX6, fun s h => h.2.2.2.2.1⟩) rfl rfl (Nat.le_of_ble_eq_true rfl) ⟨(Nat.le_of_ble_eq_true rfl), (Nat.le_of_ble_eq_true rfl)⟩ dX6_init_31 ⟨(Nat.le_of_ble_eq_true rfl), (Nat.le_of_ble_eq_true rfl)⟩ (fun _ _ _ _ _ _ _ _ => trivial) (fun _ _ _ _ _ => trivial) (cb_X5_init qV) FO.in FO.out (fun adV eV => ?_)
  subst eV
  show BW E mX6_init _ ([] ++ (a, .inr (6, [.ref (adT 0), .ref (adW 0), .null, .null, .null, .null, .null, .null, .null, .int (nI 0), .null, .null])) :: ((([] ++ wkT E adT) ++ wkW E adW) ++ wkW E adV)) _ _ 34 _ _
  refine bw_put (pre := []) (post := ((([] ++ wkT E adT) ++ wkW E adW) ++ wkW E adV)) (a := a) (fs := [.ref (adT 0), .ref (adW 0), .null, .null, .null, .null, .null, .null, .null, .int (nI 0), .null, .null]) (v := .ref (adV 0)) fkX6_23 fw_6_2 (Nat.le_of_ble_eq_true rfl) rfl rfl dX6_init_34 ?_
  refine bw_aload 0 dX6_init_37 rfl ?_
  refine bw_new nw6_0 dX6_init_38 ⟨(Nat.le_of_ble_eq_true rfl), (Nat.le_of_ble_eq_true rfl)⟩ (fun qD => ?_)
  refine bw_dup dX6_init_41 ?_
  show BW E mX6_init _ (((a, .inr (6, [.ref (adT 0), .ref (adW 0), .ref (adV 0), .null, .null, .null, .null, .null, .null, .int (nI 0), .null, .null])) :: ((([] ++ wkT E adT) ++ wkW E adW) ++ wkW E adV)) ++ [(qD, .inr (0, bl0))]) _ _ 42 _ _
  refine bw_init (N := mX0_init) (pre := (a, .inr (6, [.ref (adT 0), .ref (adW 0), .ref (adV 0), .null, .null, .null, .null, .null, .null, .int (nI 0), .null, .null])) :: ((([] ++ wkT E adT) ++ wkW E adW) ++ wkW E adV)) (W0 := [(qD, .inr (0, bl0))]) (av := []) (X := (fun _ => True)) (mk := wkD E) okX0_init (Or.inr ⟨RX6, fun s h => h.2.2.2.2.2.1⟩) rfl rfl (Nat.le_of_ble_eq_true rfl) ⟨(Nat.le_of_ble_eq_true rfl), (Nat.le_of_ble_eq_true rfl)⟩ dX6_init_42 ⟨(Nat.le_of_ble_eq_true rfl), (Nat.le_of_ble_eq_true rfl)⟩ (fun _ _ _ _ _ _ _ _ => trivial) (fun _ _ _ _ _ => trivial) (cb_X0_init qD) FO.in FO.out (fun adD eD => ?_)
  subst eD
  show BW E mX6_init _ ([] ++ (a, .inr (6, [.ref (adT 0), .ref (adW 0), .ref (adV 0), .null, .null, .null, .null, .null, .null, .int (nI 0), .null, .null])) :: (((([] ++ wkT E adT) ++ wkW E adW) ++ wkW E adV) ++ wkD E adD)) _ _ 45 _ _
  refine bw_putF (pre := []) (post := (((([] ++ wkT E adT) ++ wkW E adW) ++ wkW E adV) ++ wkD E adD)) (a := a) (fs := [.ref (adT 0), .ref (adW 0), .ref (adV 0), .null, .null, .null, .null, .null, .null, .int (nI 0), .null, .null]) (v := .ref (adD 0)) fkX6_29 fwF_6_3 rfl (Nat.le_of_ble_eq_true rfl) rfl rfl dX6_init_45 ?_
  refine bw_aload 0 dX6_init_48 rfl ?_
  refine bw_new nw6_0 dX6_init_49 ⟨(Nat.le_of_ble_eq_true rfl), (Nat.le_of_ble_eq_true rfl)⟩ (fun qG => ?_)
  refine bw_dup dX6_init_52 ?_
  show BW E mX6_init _ (((a, .inr (6, [.ref (adT 0), .ref (adW 0), .ref (adV 0), .ref (adD 0), .null, .null, .null, .null, .null, .int (nI 0), .null, .null])) :: (((([] ++ wkT E adT) ++ wkW E adW) ++ wkW E adV) ++ wkD E adD)) ++ [(qG, .inr (0, bl0))]) _ _ 53 _ _
  refine bw_init (N := mX0_init) (pre := (a, .inr (6, [.ref (adT 0), .ref (adW 0), .ref (adV 0), .ref (adD 0), .null, .null, .null, .null, .null, .int (nI 0), .null, .null])) :: (((([] ++ wkT E adT) ++ wkW E adW) ++ wkW E adV) ++ wkD E adD)) (W0 := [(qG, .inr (0, bl0))]) (av := []) (X := (fun _ => True)) (mk := wkD E) okX0_init (Or.inr ⟨RX6, fun s h => h.2.2.2.2.2.1⟩) rfl rfl (Nat.le_of_ble_eq_true rfl) ⟨(Nat.le_of_ble_eq_true rfl), (Nat.le_of_ble_eq_true rfl)⟩ dX6_init_53 ⟨(Nat.le_of_ble_eq_true rfl), (Nat.le_of_ble_eq_true rfl)⟩ (fun _ _ _ _ _ _ _ _ => trivial) (fun _ _ _ _ _ => trivial) (cb_X0_init qG) FO.in FO.out (fun adG eG => ?_)
  subst eG
  show BW E mX6_init _ ([] ++ (a, .inr (6, [.ref (adT 0), .ref (adW 0), .ref (adV 0), .ref (adD 0), .null, .null, .null, .null, .null, .int (nI 0), .null, .null])) :: ((((([] ++ wkT E adT) ++ wkW E adW) ++ wkW E adV) ++ wkD E adD) ++ wkD E adG)) _ _ 56 _ _
  refine bw_putF (pre := []) (post := ((((([] ++ wkT E adT) ++ wkW E adW) ++ wkW E adV) ++ wkD E adD) ++ wkD E adG)) (a := a) (fs := [.ref (adT 0), .ref (adW 0), .ref (adV 0), .ref (adD 0), .null, .null, .null, .null, .null, .int (nI 0), .null, .null]) (v := .ref (adG 0)) fkX6_33 fwF_6_4 rfl (Nat.le_of_ble_eq_true rfl) rfl rfl dX6_init_56 ?_
  refine bw_aload 0 dX6_init_59 rfl ?_
  refine bw_new nw6_2 dX6_init_60 ⟨(Nat.le_of_ble_eq_true rfl), (Nat.le_of_ble_eq_true rfl)⟩ (fun qS => ?_)
  refine bw_dup dX6_init_63 ?_
  refine bw_bipush (nI 8) dX6_init_64 (by decide) ?_
  show BW E mX6_init _ (((a, .inr (6, [.ref (adT 0), .ref (adW 0), .ref (adV 0), .ref (adD 0), .ref (adG 0), .null, .null, .null, .null, .int (nI 0), .null, .null])) :: ((((([] ++ wkT E adT) ++ wkW E adW) ++ wkW E adV) ++ wkD E adD) ++ wkD E adG)) ++ [(qS, .inr (2, bl2))]) _ _ 66 _ _
  refine bw_init (N := mX2_init) (pre := (a, .inr (6, [.ref (adT 0), .ref (adW 0), .ref (adV 0), .ref (adD 0), .ref (adG 0), .null, .null, .null, .null, .int (nI 0), .null, .null])) :: ((((([] ++ wkT E adT) ++ wkW E adW) ++ wkW E adV) ++ wkD E adD) ++ wkD E adG)) (W0 := [(qS, .inr (2, bl2))]) (av := [.int (nI 8)]) (X := (fun _ => True)) (mk := wkS E) okX2_init (Or.inl liX6_38) rfl rfl (Nat.le_of_ble_eq_true rfl) ⟨(Nat.le_of_ble_eq_true rfl), (Nat.le_of_ble_eq_true rfl)⟩ dX6_init_66 ⟨(Nat.le_of_ble_eq_true rfl), (Nat.le_of_ble_eq_true rfl)⟩ (fun _ _ _ _ _ _ _ _ => trivial) (fun _ _ _ _ _ => trivial) (cb_X2_init8 qS) FO.in FO.out (fun adS eS => ?_)
  subst eS
  show BW E mX6_init _ ([] ++ (a, .inr (6, [.ref (adT 0), .ref (adW 0), .ref (adV 0), .ref (adD 0), .ref (adG 0), .null, .null, .null, .null, .int (nI 0), .null, .null])) :: (((((([] ++ wkT E adT) ++ wkW E adW) ++ wkW E adV) ++ wkD E adD) ++ wkD E adG) ++ wkS E adS)) _ _ 69 _ _
  refine bw_putF (pre := []) (post := (((((([] ++ wkT E adT) ++ wkW E adW) ++ wkW E adV) ++ wkD E adD) ++ wkD E adG) ++ wkS E adS)) (a := a) (fs := [.ref (adT 0), .ref (adW 0), .ref (adV 0), .ref (adD 0), .ref (adG 0), .null, .null, .null, .null, .int (nI 0), .null, .null]) (v := .ref (adS 0)) fkX6_41 fwF_6_5 rfl (Nat.le_of_ble_eq_true rfl) rfl rfl dX6_init_69 ?_
  refine bw_aload 0 dX6_init_72 rfl ?_
  refine bw_new nw6_2 dX6_init_73 ⟨(Nat.le_of_ble_eq_true rfl), (Nat.le_of_ble_eq_true rfl)⟩ (fun qK => ?_)
  refine bw_dup dX6_init_76 ?_
  refine bw_iconst (nI 2) dX6_init_77 (by decide) ?_
  show BW E mX6_init _ (((a, .inr (6, [.ref (adT 0), .ref (adW 0), .ref (adV 0), .ref (adD 0), .ref (adG 0), .ref (adS 0), .null, .null, .null, .int (nI 0), .null, .null])) :: (((((([] ++ wkT E adT) ++ wkW E adW) ++ wkW E adV) ++ wkD E adD) ++ wkD E adG) ++ wkS E adS)) ++ [(qK, .inr (2, bl2))]) _ _ 78 _ _
  refine bw_init (N := mX2_init) (pre := (a, .inr (6, [.ref (adT 0), .ref (adW 0), .ref (adV 0), .ref (adD 0), .ref (adG 0), .ref (adS 0), .null, .null, .null, .int (nI 0), .null, .null])) :: (((((([] ++ wkT E adT) ++ wkW E adW) ++ wkW E adV) ++ wkD E adD) ++ wkD E adG) ++ wkS E adS)) (W0 := [(qK, .inr (2, bl2))]) (av := [.int (nI 2)]) (X := (fun _ => True)) (mk := wkK E) okX2_init (Or.inl liX6_38) rfl rfl (Nat.le_of_ble_eq_true rfl) ⟨(Nat.le_of_ble_eq_true rfl), (Nat.le_of_ble_eq_true rfl)⟩ dX6_init_78 ⟨(Nat.le_of_ble_eq_true rfl), (Nat.le_of_ble_eq_true rfl)⟩ (fun _ _ _ _ _ _ _ _ => trivial) (fun _ _ _ _ _ => trivial) (cb_X2_init2 qK) FO.in FO.out (fun adK eK => ?_)
  subst eK
  show BW E mX6_init _ ([] ++ (a, .inr (6, [.ref (adT 0), .ref (adW 0), .ref (adV 0), .ref (adD 0), .ref (adG 0), .ref (adS 0), .null, .null, .null, .int (nI 0), .null, .null])) :: ((((((([] ++ wkT E adT) ++ wkW E adW) ++ wkW E adV) ++ wkD E adD) ++ wkD E adG) ++ wkS E adS) ++ wkK E adK)) _ _ 81 _ _
  refine bw_putF (pre := []) (post := ((((((([] ++ wkT E adT) ++ wkW E adW) ++ wkW E adV) ++ wkD E adD) ++ wkD E adG) ++ wkS E adS) ++ wkK E adK)) (a := a) (fs := [.ref (adT 0), .ref (adW 0), .ref (adV 0), .ref (adD 0), .ref (adG 0), .ref (adS 0), .null, .null, .null, .int (nI 0), .null, .null]) (v := .ref (adK 0)) fkX6_45 fwF_6_6 rfl (Nat.le_of_ble_eq_true rfl) rfl rfl dX6_init_81 ?_
  refine bw_aload 0 dX6_init_84 rfl ?_
  refine bw_bipush (nI 32) dX6_init_85 (by decide) ?_
  refine bw_newi 32 gArrI rfl (Nat.le_of_ble_eq_true rfl) dX6_init_87 ⟨(Nat.le_of_ble_eq_true rfl), (Nat.le_of_ble_eq_true rfl)⟩ (fun qw => ?_)
  show BW E mX6_init _ ([] ++ (a, .inr (6, [.ref (adT 0), .ref (adW 0), .ref (adV 0), .ref (adD 0), .ref (adG 0), .ref (adS 0), .ref (adK 0), .null, .null, .int (nI 0), .null, .null])) :: (((((((([] ++ wkT E adT) ++ wkW E adW) ++ wkW E adV) ++ wkD E adD) ++ wkD E adG) ++ wkS E adS) ++ wkK E adK) ++ [(qw, zr E 32)])) _ _ 89 _ _
  refine bw_putF (pre := []) (post := (((((((([] ++ wkT E adT) ++ wkW E adW) ++ wkW E adV) ++ wkD E adD) ++ wkD E adG) ++ wkS E adS) ++ wkK E adK) ++ [(qw, zr E 32)])) (a := a) (fs := [.ref (adT 0), .ref (adW 0), .ref (adV 0), .ref (adD 0), .ref (adG 0), .ref (adS 0), .ref (adK 0), .null, .null, .int (nI 0), .null, .null]) (v := .ref qw) fkX6_48 fwF_6_7 rfl (Nat.le_of_ble_eq_true rfl) rfl rfl dX6_init_89 ?_
  refine bw_aload 0 dX6_init_92 rfl ?_
  refine bw_bipush (nI 8) dX6_init_93 (by decide) ?_
  refine bw_newi 8 gArrI rfl (Nat.le_of_ble_eq_true rfl) dX6_init_95 ⟨(Nat.le_of_ble_eq_true rfl), (Nat.le_of_ble_eq_true rfl)⟩ (fun qh => ?_)
  show BW E mX6_init _ ([] ++ (a, .inr (6, [.ref (adT 0), .ref (adW 0), .ref (adV 0), .ref (adD 0), .ref (adG 0), .ref (adS 0), .ref (adK 0), .ref qw, .null, .int (nI 0), .null, .null])) :: ((((((((([] ++ wkT E adT) ++ wkW E adW) ++ wkW E adV) ++ wkD E adD) ++ wkD E adG) ++ wkS E adS) ++ wkK E adK) ++ [(qw, zr E 32)]) ++ [(qh, zr E 8)])) _ _ 97 _ _
  refine bw_putF (pre := []) (post := ((((((((([] ++ wkT E adT) ++ wkW E adW) ++ wkW E adV) ++ wkD E adD) ++ wkD E adG) ++ wkS E adS) ++ wkK E adK) ++ [(qw, zr E 32)]) ++ [(qh, zr E 8)])) (a := a) (fs := [.ref (adT 0), .ref (adW 0), .ref (adV 0), .ref (adD 0), .ref (adG 0), .ref (adS 0), .ref (adK 0), .ref qw, .null, .int (nI 0), .null, .null]) (v := .ref qh) fkX6_52 fwF_6_8 rfl (Nat.le_of_ble_eq_true rfl) rfl rfl dX6_init_97 ?_
  refine bw_aload 0 dX6_init_100 rfl ?_
  refine bw_new nw6_3 dX6_init_101 ⟨(Nat.le_of_ble_eq_true rfl), (Nat.le_of_ble_eq_true rfl)⟩ (fun qH => ?_)
  refine bw_dup dX6_init_104 ?_
  show BW E mX6_init _ (((a, .inr (6, [.ref (adT 0), .ref (adW 0), .ref (adV 0), .ref (adD 0), .ref (adG 0), .ref (adS 0), .ref (adK 0), .ref qw, .ref qh, .int (nI 0), .null, .null])) :: ((((((((([] ++ wkT E adT) ++ wkW E adW) ++ wkW E adV) ++ wkD E adD) ++ wkD E adG) ++ wkS E adS) ++ wkK E adK) ++ [(qw, zr E 32)]) ++ [(qh, zr E 8)])) ++ [(qH, .inr (3, bl3))]) _ _ 105 _ _
  refine bw_init (N := mX3_init) (pre := (a, .inr (6, [.ref (adT 0), .ref (adW 0), .ref (adV 0), .ref (adD 0), .ref (adG 0), .ref (adS 0), .ref (adK 0), .ref qw, .ref qh, .int (nI 0), .null, .null])) :: ((((((((([] ++ wkT E adT) ++ wkW E adW) ++ wkW E adV) ++ wkD E adD) ++ wkD E adG) ++ wkS E adS) ++ wkK E adK) ++ [(qw, zr E 32)]) ++ [(qh, zr E 8)])) (W0 := [(qH, .inr (3, bl3))]) (av := []) (X := (MU E)) (mk := wkH E) okX3_init (Or.inr ⟨RX6, fun s h => h.2.2.2.2.2.2.1⟩) rfl rfl (Nat.le_of_ble_eq_true rfl) ⟨(Nat.le_of_ble_eq_true rfl), (Nat.le_of_ble_eq_true rfl)⟩ dX6_init_105 ⟨(Nat.le_of_ble_eq_true rfl), (Nat.le_of_ble_eq_true rfl)⟩ (fun s U locs h _ _ _ hW => h.1.moved hW.alike) (fun U g mk a h => h.moved (u := U) (U := U.calling g mk a) (Vm.Alike.refl U.vm)) (cb_X3_init qH) FO.in FO.out (fun adH eH => ?_)
  subst eH
  show BW E mX6_init _ ([] ++ (a, .inr (6, [.ref (adT 0), .ref (adW 0), .ref (adV 0), .ref (adD 0), .ref (adG 0), .ref (adS 0), .ref (adK 0), .ref qw, .ref qh, .int (nI 0), .null, .null])) :: (((((((((([] ++ wkT E adT) ++ wkW E adW) ++ wkW E adV) ++ wkD E adD) ++ wkD E adG) ++ wkS E adS) ++ wkK E adK) ++ [(qw, zr E 32)]) ++ [(qh, zr E 8)]) ++ wkH E adH)) _ _ 108 _ _
  refine bw_putF (pre := []) (post := (((((((((([] ++ wkT E adT) ++ wkW E adW) ++ wkW E adV) ++ wkD E adD) ++ wkD E adG) ++ wkS E adS) ++ wkK E adK) ++ [(qw, zr E 32)]) ++ [(qh, zr E 8)]) ++ wkH E adH)) (a := a) (fs := [.ref (adT 0), .ref (adW 0), .ref (adV 0), .ref (adD 0), .ref (adG 0), .ref (adS 0), .ref (adK 0), .ref qw, .ref qh, .int (nI 0), .null, .null]) (v := .ref (adH 0)) fkX6_58 fwF_6_10 rfl (Nat.le_of_ble_eq_true rfl) rfl rfl dX6_init_108 ?_
  refine bw_aload 0 dX6_init_111 rfl ?_
  refine bw_new nw6_1 dX6_init_112 ⟨(Nat.le_of_ble_eq_true rfl), (Nat.le_of_ble_eq_true rfl)⟩ (fun qP => ?_)
  refine bw_dup dX6_init_115 ?_
  show BW E mX6_init _ (((a, .inr (6, [.ref (adT 0), .ref (adW 0), .ref (adV 0), .ref (adD 0), .ref (adG 0), .ref (adS 0), .ref (adK 0), .ref qw, .ref qh, .int (nI 0), .ref (adH 0), .null])) :: (((((((((([] ++ wkT E adT) ++ wkW E adW) ++ wkW E adV) ++ wkD E adD) ++ wkD E adG) ++ wkS E adS) ++ wkK E adK) ++ [(qw, zr E 32)]) ++ [(qh, zr E 8)]) ++ wkH E adH)) ++ [(qP, .inr (1, bl1))]) _ _ 116 _ _
  refine bw_init (N := mX1_init) (pre := (a, .inr (6, [.ref (adT 0), .ref (adW 0), .ref (adV 0), .ref (adD 0), .ref (adG 0), .ref (adS 0), .ref (adK 0), .ref qw, .ref qh, .int (nI 0), .ref (adH 0), .null])) :: (((((((((([] ++ wkT E adT) ++ wkW E adW) ++ wkW E adV) ++ wkD E adD) ++ wkD E adG) ++ wkS E adS) ++ wkK E adK) ++ [(qw, zr E 32)]) ++ [(qh, zr E 8)]) ++ wkH E adH)) (W0 := [(qP, .inr (1, bl1))]) (av := []) (X := (fun _ => True)) (mk := wkP E) okX1_init (Or.inr ⟨RX6, fun s h => h.2.2.2.2.2.2.2⟩) rfl rfl (Nat.le_of_ble_eq_true rfl) ⟨(Nat.le_of_ble_eq_true rfl), (Nat.le_of_ble_eq_true rfl)⟩ dX6_init_116 ⟨(Nat.le_of_ble_eq_true rfl), (Nat.le_of_ble_eq_true rfl)⟩ (fun _ _ _ _ _ _ _ _ => trivial) (fun _ _ _ _ _ => trivial) (cb_X1_init qP) FO.in FO.out (fun adP eP => ?_)
  subst eP
  show BW E mX6_init _ ([] ++ (a, .inr (6, [.ref (adT 0), .ref (adW 0), .ref (adV 0), .ref (adD 0), .ref (adG 0), .ref (adS 0), .ref (adK 0), .ref qw, .ref qh, .int (nI 0), .ref (adH 0), .null])) :: ((((((((((([] ++ wkT E adT) ++ wkW E adW) ++ wkW E adV) ++ wkD E adD) ++ wkD E adG) ++ wkS E adS) ++ wkK E adK) ++ [(qw, zr E 32)]) ++ [(qh, zr E 8)]) ++ wkH E adH) ++ wkP E adP)) _ _ 119 _ _
  refine bw_putF (pre := []) (post := ((((((((((([] ++ wkT E adT) ++ wkW E adW) ++ wkW E adV) ++ wkD E adD) ++ wkD E adG) ++ wkS E adS) ++ wkK E adK) ++ [(qw, zr E 32)]) ++ [(qh, zr E 8)]) ++ wkH E adH) ++ wkP E adP)) (a := a) (fs := [.ref (adT 0), .ref (adW 0), .ref (adV 0), .ref (adD 0), .ref (adG 0), .ref (adS 0), .ref (adK 0), .ref qw, .ref qh, .int (nI 0), .ref (adH 0), .null]) (v := .ref (adP 0)) fkX6_65 fwF_6_11 rfl (Nat.le_of_ble_eq_true rfl) rfl rfl dX6_init_119 ?_
  show BW E mX6_init _ ((a, .inr (6, [.ref (adT 0), .ref (adW 0), .ref (adV 0), .ref (adD 0), .ref (adG 0), .ref (adS 0), .ref (adK 0), .ref qw, .ref qh, .int (nI 0), .ref (adH 0), .ref (adP 0)])) :: ((((((((((([] ++ wkT E adT) ++ wkW E adW) ++ wkW E adV) ++ wkD E adD) ++ wkD E adG) ++ wkS E adS) ++ wkK E adK) ++ [(qw, zr E 32)]) ++ [(qh, zr E 8)]) ++ wkH E adH) ++ wkP E adP)) _ _ 122 _ _
  refine bw_aw (ad := ad39 a qw qh sa adT adW adV adD adG adS adK adH adP) (N := 39) (tw := (4, 9)) (h := h00) (loc := [some (.ref 0), none]) (st' := []) (w39 a qw qh sa adT adW adV adD adG adS adK adH adP) ?_ rfl ?_ (fun hE => ?_)
  · intro s x hx
    rcases hx with rfl | hx
    · exact Or.inl ⟨0, by show 0 < 39; decide, rfl⟩
    · exact Or.inr hx
  · intro i v hv
    match i, hv with
    | 0, hv => cases hv; exact List.mem_cons_self
    | 1, hv => cases hv
    | i + 2, hv => cases hv
  · refine aw_iconst (nI 0) dX6_init_122 ki_0 (aw_istore_n dX6_init_123 (Nat.le_of_ble_eq_true rfl) ?_)
    have hin : ∀ s, (X6 E a sa sv s ∧ ∀ j, j < 39 → FO a s.heap.size (ad39 a qw qh sa adT adW adV adD adG adS adK adH adP j)) → ∀ q, fA (eS E (ad39 a qw qh sa adT adW adV adD adG adS adK adH adP) 39) s.heap.size q → FO a s.heap.size q := fun s hs q hq => by
      rcases hq with ⟨j, hj, rfl⟩ | hq
      · exact hs.2 j hj
      · exact Or.inr hq
    exact ct_ini hE (Nat.le_refl _) F (sv := sv) (K := (rmB mX6_init 38 5566, 38, 5566, (KB E mX6_init (X6 E a sa sv) (FO a) a 38 5566 (fun ad => wW (eS E ad 39) (9, 4) hI)).2.2.1, fun s => X6 E a sa sv s ∧ ∀ j, j < 39 → FO a s.heap.size (ad39 a qw qh sa adT adW adV adD adG adS adK adH adP j))) ⟨(Nat.le_of_ble_eq_true rfl), (Nat.le_of_ble_eq_true rfl)⟩ ⟨Nat.le_refl _, Nat.le_refl _⟩ (fun s hs => hs.1.2.1) (fun s hs => hs.1.2.2.1.narrow (hin s hs)) (aw_retB (ad' := ad39 a qw qh sa adT adW adV adD adG adS adK adH adP) rfl rfl (fun sz q h => Or.inr h) (fun s hs j hj => hs.2 j hj) rfl dX6_init_176) 42 0 h00 rfl hf
