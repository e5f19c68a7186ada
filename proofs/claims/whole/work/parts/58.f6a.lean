set_option maxHeartbeats 4000000 in
set_option maxRecDepth 100000 in
theorem ct_X6_write {E : EV} (hE : EI E) (hN : 39 ≤ eN E) (F : Nat) {tw : TW} (qT : TO tw.1) (qU : TO tw.2) {x1 : Int32} {h : HP} {v : Int32} {h' : HP} (hf : f_X6_write F tw x1 h = some (v, h')) : CT E mX6_write tw h [.ref 0, .int x1] (some (.int v)) tw h' := by
  refine CT.of hE (show plainFor yX6_write = true by decide +kernel) (Nat.le_of_ble_eq_true rfl) 0 ?_
  show AW E mX6_write (KM E mX6_write (some (.int v)) tw h') tw h 0 [some (.ref 0), some (.int x1)] []
  unfold f_X6_write at hf
  refine aw_iload_n dX6_write_0 rfl (aw_bipush (nI 32) dX6_write_1 kb_32 ?_)
  refine aw_icmp_lt 12 dX6_write_3 rfl (fun g1 => ?_) (fun g1 => ?_)
  · replace hf := (if_pos g1).symm.trans hf
    cases hf
    exact aw_iconst (-1) dX6_write_12 ki_m1 (aw_iret rfl dX6_write_13)
  · replace hf := (if_neg g1).symm.trans hf
    refine aw_iload_n dX6_write_6 rfl (aw_bipush (nI 126) dX6_write_7 kb_126 ?_)
    refine aw_icmp_le 14 dX6_write_9 rfl (fun g2 => ?_) (fun g2 => ?_)
    · replace hf := (if_pos g2).symm.trans hf
      refine aw_aload_n dX6_write_14 rfl (aw_getr fkX6_10 (nl hN rfl) kd_0 (Nat.le_of_ble_eq_true rfl) rfl dX6_write_15 (aw_iload_n dX6_write_18 rfl ?_))
      obtain ⟨v5, h3, c4, hf⟩ := ob_some hf
      refine aw_callVi (N := mX4_append) (As := [.int x1]) lkX6_81 okX4_append (nl hN rfl) kd_1 rfl (by rfl) (by rfl) (Nat.le_of_ble_eq_true rfl) ry_X6_write_X4_append dX6_write_19 (And.intro (Nat.le_refl _) (Nat.le_refl _)) (ct_X4_append hE hN F c4) ?_
      refine aw_if_eq 35 dX6_write_22 rfl (fun g6 => ?_) (fun g6 => ?_)
      · replace hf := (if_pos g6).symm.trans hf
        cases hf
        exact aw_bipush (-3) dX6_write_35 kb_m3 (aw_iret rfl dX6_write_37)
      · replace hf := (if_neg g6).symm.trans hf
        cases hf
        exact aw_aload_n dX6_write_25 rfl (aw_getr fkX6_10 (nl hN rfl) kd_0 (Nat.le_of_ble_eq_true rfl) rfl dX6_write_26 (aw_geti fkX6_95 (nl hN rfl) kd_1 (Nat.le_of_ble_eq_true rfl) rfl dX6_write_29 (aw_goto 37 dX6_write_32 rfl (aw_iret rfl dX6_write_37))))
    · replace hf := (if_neg g2).symm.trans hf
      cases hf
      exact aw_iconst (-1) dX6_write_12 ki_m1 (aw_iret rfl dX6_write_13)
set_option maxHeartbeats 4000000 in
set_option maxRecDepth 100000 in
theorem ct_X6_wipe {E : EV} (hE : EI E) (hN : 39 ≤ eN E) (F : Nat) {tw : TW} (qT : TO tw.1) (qU : TO tw.2)  {h : HP} {v : Int32} {h' : HP} (hf : f_X6_wipe F tw  h = some (v, h')) : CT E mX6_wipe tw h [.ref 0] (some (.int v)) tw h' := by
  refine CT.of hE (show plainFor yX6_wipe = true by decide +kernel) (Nat.le_of_ble_eq_true rfl) 1 ?_
  show AW E mX6_wipe (KM E mX6_wipe (some (.int v)) tw h') tw h 0 [some (.ref 0), none] []
  unfold f_X6_wipe at hf
  refine aw_aload_n dX6_wipe_0 rfl (aw_getr fkX6_10 (nl hN rfl) kd_0 (Nat.le_of_ble_eq_true rfl) rfl dX6_wipe_1 (aw_geti fkX6_95 (nl hN rfl) kd_1 (Nat.le_of_ble_eq_true rfl) rfl dX6_wipe_4 (aw_istore_n dX6_wipe_7 (Nat.le_of_ble_eq_true rfl) (aw_aload_n dX6_wipe_8 rfl (aw_getr fkX6_10 (nl hN rfl) kd_0 (Nat.le_of_ble_eq_true rfl) rfl dX6_wipe_9 ?_)))))
  obtain ⟨h1, c2, hf⟩ := obv_some hf
  cases hf
  exact aw_callVv (N := mX4_clear) (As := []) lkX6_92 okX4_clear (nl hN rfl) kd_1 rfl (by rfl) (by rfl) (Nat.le_of_ble_eq_true rfl) ry_X6_wipe_X4_clear dX6_wipe_12 (And.intro (Nat.le_refl _) (Nat.le_refl _)) (ct_X4_clear hE hN F c2) (aw_iload_n dX6_wipe_15 rfl (aw_iret rfl dX6_wipe_16))
set_option maxHeartbeats 4000000 in
set_option maxRecDepth 100000 in
theorem ct_X6_fault {E : EV} (hE : EI E) (hN : 39 ≤ eN E) (F : Nat) {tw : TW} (qT : TO tw.1) (qU : TO tw.2)  {h : HP} {v : Int32} {h' : HP} (hf : f_X6_fault F tw  h = some (v, h')) : CT E mX6_fault tw h [.ref 0] (some (.int v)) tw h' := by
  refine CT.of hE (show plainFor yX6_fault = true by decide +kernel) (Nat.le_of_ble_eq_true rfl) 0 ?_
  show AW E mX6_fault (KM E mX6_fault (some (.int v)) tw h') tw h 0 [some (.ref 0)] []
  unfold f_X6_fault at hf
  refine aw_aload_n dX6_fault_0 rfl (aw_getr fkX6_10 (nl hN rfl) kd_0 (Nat.le_of_ble_eq_true rfl) rfl dX6_fault_1 (aw_aload_n dX6_fault_4 rfl (aw_getr fkX6_23 (nl hN rfl) kd_0 (Nat.le_of_ble_eq_true rfl) rfl dX6_fault_5 ?_)))
  obtain ⟨v3, h1, c2, hf⟩ := ob_some hf
  cases hf
  exact aw_callVi (N := mX4_readInto) (As := [.ref tw.2]) lkX6_85 okX4_readInto (nl hN rfl) kd_1 rfl (by rfl) (by rfl) (Nat.le_of_ble_eq_true rfl) ry_X6_fault_X4_readInto dX6_fault_8 (And.intro (Nat.le_refl _) (Nat.le_refl _)) (ct_X4_readInto hE hN F qU c2) (aw_iret rfl dX6_fault_11)
set_option maxHeartbeats 4000000 in
set_option maxRecDepth 100000 in
theorem ct_X6_layTold {E : EV} (hE : EI E) (hN : 39 ≤ eN E) (F : Nat) {tw : TW} (qT : TO tw.1) (qU : TO tw.2)  {h : HP} {h' : HP} (hf : f_X6_layTold F tw  h = some h') : CT E mX6_layTold tw h [.ref 0] none (tw.2, tw.1) h' := by
  refine CT.of hE (show plainFor yX6_layTold = true by decide +kernel) (Nat.le_of_ble_eq_true rfl) 1 ?_
  show AW E mX6_layTold (KM E mX6_layTold none (tw.2, tw.1) h') tw h 0 [some (.ref 0), none] []
  unfold f_X6_layTold at hf
  refine aw_aload_n dX6_layTold_0 rfl (aw_getr fkX6_19 (nl hN rfl) kd_0 (Nat.le_of_ble_eq_true rfl) rfl dX6_layTold_1 (aw_astore_n dX6_layTold_4 (Nat.le_of_ble_eq_true rfl) (aw_aload_n dX6_layTold_5 rfl (aw_aload_n dX6_layTold_6 rfl (aw_getr fkX6_23 (nl hN rfl) kd_0 (Nat.le_of_ble_eq_true rfl) rfl dX6_layTold_7 (aw_putT (tw' := (tw.2, tw.2)) (nl hN rfl) fkX6_19 fw_6_1 (Or.inl ⟨rfl, rfl⟩) (fun _ => rfl) (fun _ => rfl) dX6_layTold_10 (aw_aload_n dX6_layTold_13 rfl (aw_aload_n dX6_layTold_14 rfl (aw_putT (tw' := (tw.2, tw.1)) (nl hN rfl) fkX6_23 fw_6_2 (Or.inr ⟨rfl, rfl⟩) (fun _ => rfl) (fun _ => rfl) dX6_layTold_15 (aw_aload_n dX6_layTold_18 rfl (aw_getr fkX6_29 (nl hN rfl) kd_0 (Nat.le_of_ble_eq_true rfl) rfl dX6_layTold_19 ?_)))))))))))
  refine aw_aload_n dX6_layTold_22 rfl (aw_getr fkX6_19 (nl hN rfl) kd_0 (Nat.le_of_ble_eq_true rfl) rfl dX6_layTold_23 ?_)
  obtain ⟨h1, c2, hf⟩ := obv_some hf
  refine aw_callVv (N := mX0_startWith) (As := [.ref tw.2]) lkX6_130 okX0_startWith (nl hN rfl) kd_14 rfl (by rfl) (by rfl) (Nat.le_of_ble_eq_true rfl) ry_X6_layTold_X0_startWith dX6_layTold_26 (And.intro (Nat.le_refl _) (Nat.le_refl _)) (ct_X0_startWith hE hN F (Or.inl rfl) qU c2) (aw_aload_n dX6_layTold_29 rfl (aw_getr fkX6_48 (nl hN rfl) kd_0 (Nat.le_of_ble_eq_true rfl) rfl dX6_layTold_30 (aw_iconst (nI 0) dX6_layTold_33 ki_0 ?_)))
  obtain ⟨h3, c4, hf⟩ := obv_some hf
  refine aw_callSv (N := mJ7_fill_53178) (As := [.ref 28, .int (nI 0)]) lkX6_134 okJ7_fill_53178 (by rfl) (by rfl) (Nat.le_of_ble_eq_true rfl) ry_X6_layTold_J7_fill_53178 dX6_layTold_34 (And.intro (Nat.le_refl _) (Nat.le_refl _)) (ct_J7_fill_53178 hE hN F (IA.of kd_28 (nl hN rfl)) c4) (aw_aload_n dX6_layTold_37 rfl (aw_iconst (nI 0) dX6_layTold_38 ki_0 (aw_puti fkX6_140 fw_6_9 (nl hN rfl) kd_0 (Nat.le_of_ble_eq_true rfl) rfl dX6_layTold_39 (aw_aload_n dX6_layTold_42 rfl (aw_getr fkX6_41 (nl hN rfl) kd_0 (Nat.le_of_ble_eq_true rfl) rfl dX6_layTold_43 ?_)))))
  obtain ⟨h5, c6, hf⟩ := obv_some hf
  refine aw_callVv (N := mX2_clear) (As := []) lkX6_143 okX2_clear (nl hN rfl) kd_24 rfl (by rfl) (by rfl) (Nat.le_of_ble_eq_true rfl) ry_X6_layTold_X2_clear dX6_layTold_46 (And.intro (Nat.le_refl _) (Nat.le_refl _)) (ct_X2_clear hE hN F (Or.inl rfl) c6) (aw_aload_n dX6_layTold_49 rfl (aw_getr fkX6_45 (nl hN rfl) kd_0 (Nat.le_of_ble_eq_true rfl) rfl dX6_layTold_50 ?_))
  obtain ⟨h7, c8, hf⟩ := obv_some hf
  cases hf
  exact aw_callVv (N := mX2_clear) (As := []) lkX6_143 okX2_clear (nl hN rfl) kd_26 rfl (by rfl) (by rfl) (Nat.le_of_ble_eq_true rfl) ry_X6_layTold_X2_clear dX6_layTold_53 (And.intro (Nat.le_refl _) (Nat.le_refl _)) (ct_X2_clear hE hN F (Or.inr rfl) c8) (aw_vret rfl dX6_layTold_56)
set_option maxHeartbeats 4000000 in
set_option maxRecDepth 100000 in
theorem ct_X6_lay {E : EV} (hE : EI E) (hN : 39 ≤ eN E) (F : Nat) {tw : TW} (qT : TO tw.1) (qU : TO tw.2)  {h : HP} {v : Int32} {tw' : TW} {h' : HP} (hf : f_X6_lay F tw  h = some (v, tw', h')) : CT E mX6_lay tw h [.ref 0] (some (.int v)) tw' h' := by
  refine CT.of hE (show plainFor yX6_lay = true by decide +kernel) (Nat.le_of_ble_eq_true rfl) 0 ?_
  show AW E mX6_lay (KM E mX6_lay (some (.int v)) tw' h') tw h 0 [some (.ref 0)] []
  unfold f_X6_lay at hf
  refine aw_aload_n dX6_lay_0 rfl (aw_getr fkX6_10 (nl hN rfl) kd_0 (Nat.le_of_ble_eq_true rfl) rfl dX6_lay_1 (aw_aload_n dX6_lay_4 rfl (aw_getr fkX6_23 (nl hN rfl) kd_0 (Nat.le_of_ble_eq_true rfl) rfl dX6_lay_5 ?_)))
  obtain ⟨v3, h1, c2, hf⟩ := ob_some hf
  refine aw_callVi (N := mX4_readInto) (As := [.ref tw.2]) lkX6_85 okX4_readInto (nl hN rfl) kd_1 rfl (by rfl) (by rfl) (Nat.le_of_ble_eq_true rfl) ry_X6_lay_X4_readInto dX6_lay_8 (And.intro (Nat.le_refl _) (Nat.le_refl _)) (ct_X4_readInto hE hN F qU c2) (aw_bipush (-4) dX6_lay_11 kb_m4 ?_)
  refine aw_icmp_ne 26 dX6_lay_13 rfl (fun g4 => ?_) (fun g4 => ?_)
  · replace hf := (if_neg g4).symm.trans hf
    cases hf
    exact aw_bipush (-2) dX6_lay_26 kb_m2 (aw_iret rfl dX6_lay_28)
  · replace hf := (if_pos g4).symm.trans hf
    refine aw_aload_n dX6_lay_16 rfl (aw_getr fkX6_23 (nl hN rfl) kd_0 (Nat.le_of_ble_eq_true rfl) rfl dX6_lay_17 ?_)
    obtain ⟨v7, h5, c6, hf⟩ := ob_some hf
    refine aw_callVi (N := mX5_canBeLaid) (As := []) lkX6_98 okX5_canBeLaid (TO.n qU hN) (TO.k qU) rfl (by rfl) (by rfl) (Nat.le_of_ble_eq_true rfl) ry_X6_lay_X5_canBeLaid dX6_lay_20 (And.intro (Nat.le_refl _) (Nat.le_refl _)) (ct_X5_canBeLaid hE hN F qU c6) ?_
    refine aw_if_ne 29 dX6_lay_23 rfl (fun g8 => ?_) (fun g8 => ?_)
    · replace hf := (if_neg g8).symm.trans hf
      refine aw_aload_n dX6_lay_29 rfl ?_
      obtain ⟨h9, c10, hf⟩ := obv_some hf
      cases hf
      exact aw_callVv (N := mX6_layTold) (As := []) lkX6_89 okX6_layTold (nl hN rfl) kd_0 rfl (by rfl) (by rfl) (Nat.le_of_ble_eq_true rfl) ry_X6_lay_X6_layTold dX6_lay_30 (And.intro (Nat.le_refl _) (Nat.le_refl _)) (ct_X6_layTold hE hN F qT qU c10) (aw_aload_n dX6_lay_33 rfl (aw_getr fkX6_19 (nl hN rfl) kd_0 (Nat.le_of_ble_eq_true rfl) rfl dX6_lay_34 (aw_geti fkX6_102 (TO.n qU hN) (TO.k qU) (Nat.le_of_ble_eq_true rfl) rfl dX6_lay_37 (aw_iret rfl dX6_lay_40))))
    · replace hf := (if_pos g8).symm.trans hf
      cases hf
      exact aw_bipush (-2) dX6_lay_26 kb_m2 (aw_iret rfl dX6_lay_28)
set_option maxHeartbeats 4000000 in
set_option maxRecDepth 100000 in
theorem ct_X6_isBell {E : EV} (hE : EI E) (hN : 39 ≤ eN E) (F : Nat) {tw : TW} (qT : TO tw.1) (qU : TO tw.2) {x1 : Int32} {h : HP} {v : Int32} {h' : HP} (hf : f_X6_isBell F tw x1 h = some (v, h')) : CT E mX6_isBell tw h [.ref 0, .int x1] (some (.int v)) tw h' := by
  refine CT.of hE (show plainFor yX6_isBell = true by decide +kernel) (Nat.le_of_ble_eq_true rfl) 0 ?_
  show AW E mX6_isBell (KM E mX6_isBell (some (.int v)) tw h') tw h 0 [some (.ref 0), some (.int x1)] []
  unfold f_X6_isBell at hf
  refine aw_iload_n dX6_isBell_0 rfl ?_
  refine aw_if_lt 19 dX6_isBell_1 rfl (fun g1 => ?_) (fun g1 => ?_)
  · replace hf := (if_pos g1).symm.trans hf
    cases hf
    exact aw_iconst (nI 0) dX6_isBell_19 ki_0 (aw_zret rfl (Or.inl rfl) dX6_isBell_20)
  · replace hf := (if_neg g1).symm.trans hf
    refine aw_iload_n dX6_isBell_4 rfl (aw_aload_n dX6_isBell_5 rfl (aw_getr fkX6_19 (nl hN rfl) kd_0 (Nat.le_of_ble_eq_true rfl) rfl dX6_isBell_6 (aw_geti fkX6_144 (TO.n qT hN) (TO.k qT) (Nat.le_of_ble_eq_true rfl) rfl dX6_isBell_9 ?_)))
    refine aw_icmp_ge 19 dX6_isBell_12 rfl (fun g2 => ?_) (fun g2 => ?_)
    · replace hf := (if_pos g2).symm.trans hf
      cases hf
      exact aw_iconst (nI 0) dX6_isBell_19 ki_0 (aw_zret rfl (Or.inl rfl) dX6_isBell_20)
    · replace hf := (if_neg g2).symm.trans hf
      cases hf
      exact aw_iconst (nI 1) dX6_isBell_15 ki_1 (aw_goto 20 dX6_isBell_16 rfl (aw_zret rfl (Or.inr rfl) dX6_isBell_20))
set_option maxHeartbeats 4000000 in
set_option maxRecDepth 100000 in
theorem ct_X6_pinsOfBell_4 {E : EV} (hE : EI E) (hN : 39 ≤ eN E) (F : Nat) {tw : TW} (qT : TO tw.1) (qU : TO tw.2) {x1 : Int32} {v : Int32} {h' : HP} : ∀ (n : Nat) (x2 : Int32) (x3 : Int32) (h : HP), f_X6_pinsOfBell_4 F tw x1 n x2 x3 h = some (v, h') → AW E mX6_pinsOfBell (KM E mX6_pinsOfBell (some (.int v)) tw h') tw h 4 [some (.ref 0), some (.int x1), some (.int x2), some (.int x3)] [] := by
  intro n
  induction n with
  | zero => intro x2 x3 h hf; exact absurd (show (none : Option (Int32 × HP)) = some _ from hf) (fun z => nomatch z)
  | succ n ih =>
    intro x2 x3 h hf
    rw [f_X6_pinsOfBell_4] at hf
    refine aw_iload_n dX6_pinsOfBell_4 rfl (aw_aload_n dX6_pinsOfBell_5 rfl (aw_getr fkX6_19 (nl hN rfl) kd_0 (Nat.le_of_ble_eq_true rfl) rfl dX6_pinsOfBell_6 (aw_geti fkX6_147 (TO.n qT hN) (TO.k qT) (Nat.le_of_ble_eq_true rfl) rfl dX6_pinsOfBell_9 ?_)))
    refine aw_icmp_ge 37 dX6_pinsOfBell_12 rfl (fun g1 => ?_) (fun g1 => ?_)
    · replace hf := (if_pos g1).symm.trans hf
      cases hf
      exact aw_iload_n dX6_pinsOfBell_37 rfl (aw_iret rfl dX6_pinsOfBell_38)
    · replace hf := (if_neg g1).symm.trans hf
      refine aw_iload_n dX6_pinsOfBell_15 rfl (aw_aload_n dX6_pinsOfBell_16 rfl (aw_getr fkX6_29 (nl hN rfl) kd_0 (Nat.le_of_ble_eq_true rfl) rfl dX6_pinsOfBell_17 (aw_getr fkX6_127 (nl hN rfl) kd_14 (Nat.le_of_ble_eq_true rfl) rfl dX6_pinsOfBell_20 (aw_iload_n dX6_pinsOfBell_23 rfl ?_))))
      obtain ⟨g2, hf⟩ := ogd hf
      refine aw_iald (nl hN rfl) kd_15 g2 dX6_pinsOfBell_24 (aw_iload_n dX6_pinsOfBell_25 rfl (aw_ishr dX6_pinsOfBell_26 (aw_iconst (nI 1) dX6_pinsOfBell_27 ki_1 (aw_iand dX6_pinsOfBell_28 (aw_iadd dX6_pinsOfBell_29 (aw_istore_n dX6_pinsOfBell_30 (Nat.le_of_ble_eq_true rfl) (aw_iinc (nI 1) dX6_pinsOfBell_31 rfl (Nat.le_of_ble_eq_true rfl) ki_1 (aw_goto 4 dX6_pinsOfBell_34 rfl ?_))))))))
      exact aw_dk (ih _ _ _ hf) (And.intro rfl (And.intro rfl (And.intro rfl (And.intro rfl trivial))))
set_option maxHeartbeats 4000000 in
set_option maxRecDepth 100000 in
theorem ct_X6_pinsOfBell {E : EV} (hE : EI E) (hN : 39 ≤ eN E) (F : Nat) {tw : TW} (qT : TO tw.1) (qU : TO tw.2) {x1 : Int32} {h : HP} {v : Int32} {h' : HP} (hf : f_X6_pinsOfBell F tw x1 h = some (v, h')) : CT E mX6_pinsOfBell tw h [.ref 0, .int x1] (some (.int v)) tw h' := by
  refine CT.of hE (show plainFor yX6_pinsOfBell = true by decide +kernel) (Nat.le_of_ble_eq_true rfl) 2 ?_
  show AW E mX6_pinsOfBell (KM E mX6_pinsOfBell (some (.int v)) tw h') tw h 0 [some (.ref 0), some (.int x1), none, none] []
  unfold f_X6_pinsOfBell at hf
  refine aw_iconst (nI 0) dX6_pinsOfBell_0 ki_0 (aw_istore_n dX6_pinsOfBell_1 (Nat.le_of_ble_eq_true rfl) (aw_iconst (nI 0) dX6_pinsOfBell_2 ki_0 (aw_istore_n dX6_pinsOfBell_3 (Nat.le_of_ble_eq_true rfl) ?_)))
  exact aw_dk (ct_X6_pinsOfBell_4 hE hN F qT qU F _ _ _ hf) (And.intro rfl (And.intro rfl (And.intro rfl (And.intro rfl trivial))))
set_option maxHeartbeats 4000000 in
set_option maxRecDepth 100000 in
theorem ct_X6_bell {E : EV} (hE : EI E) (hN : 39 ≤ eN E) (F : Nat) {tw : TW} (qT : TO tw.1) (qU : TO tw.2) {x1 : Int32} {x2 : Int32} {h : HP} {v : Int32} {h' : HP} (hf : f_X6_bell F tw x1 x2 h = some (v, h')) : CT E mX6_bell tw h [.ref 0, .int x1, .int x2] (some (.int v)) tw h' := by
  refine CT.of hE (show plainFor yX6_bell = true by decide +kernel) (Nat.le_of_ble_eq_true rfl) 0 ?_
  show AW E mX6_bell (KM E mX6_bell (some (.int v)) tw h') tw h 0 [some (.ref 0), some (.int x1), some (.int x2)] []
  unfold f_X6_bell at hf
  refine aw_aload_n dX6_bell_0 rfl (aw_iload_n dX6_bell_1 rfl ?_)
  obtain ⟨v3, h1, c2, hf⟩ := ob_some hf
  refine aw_callVi (N := mX6_isBell) (As := [.int x1]) lkX6_105 okX6_isBell (nl hN rfl) kd_0 rfl (by rfl) (by rfl) (Nat.le_of_ble_eq_true rfl) ry_X6_bell_X6_isBell dX6_bell_2 (And.intro (Nat.le_refl _) (Nat.le_refl _)) (ct_X6_isBell hE hN F qT qU c2) ?_
  refine aw_if_ne 10 dX6_bell_5 rfl (fun g4 => ?_) (fun g4 => ?_)
  · replace hf := (if_neg g4).symm.trans hf
    refine aw_iload_n dX6_bell_10 rfl ?_
    by_cases g5 : x2 = nI 0
    · replace hf := (if_pos g5).symm.trans hf
      refine aw_tableIn (off := 33) 44 dX6_bell_11 (by rw [g5]; decide) (by rw [g5]; decide) (by rw [g5]; decide) rfl ?_
      refine aw_aload_n dX6_bell_44 rfl (aw_getr fkX6_19 (nl hN rfl) kd_0 (Nat.le_of_ble_eq_true rfl) rfl dX6_bell_45 (aw_getr fkX6_108 (TO.n qT hN) (TO.k qT) (Nat.le_of_ble_eq_true rfl) rfl dX6_bell_48 (aw_iload_n dX6_bell_51 rfl ?_)))
      obtain ⟨g6, hf⟩ := ogd hf
      cases hf
      exact aw_iald (TO.n1 qT hN) (TO.k1 qT) g6 dX6_bell_52 (aw_iret rfl dX6_bell_53)
    · replace hf := (if_neg g5).symm.trans hf
      by_cases g7 : x2 = nI 1
      · replace hf := (if_pos g7).symm.trans hf
        refine aw_tableIn (off := 43) 54 dX6_bell_11 (by rw [g7]; decide) (by rw [g7]; decide) (by rw [g7]; decide) rfl ?_
        refine aw_aload_n dX6_bell_54 rfl (aw_getr fkX6_19 (nl hN rfl) kd_0 (Nat.le_of_ble_eq_true rfl) rfl dX6_bell_55 (aw_getr fkX6_111 (TO.n qT hN) (TO.k qT) (Nat.le_of_ble_eq_true rfl) rfl dX6_bell_58 (aw_iload_n dX6_bell_61 rfl ?_)))
        obtain ⟨g8, hf⟩ := ogd hf
        cases hf
        exact aw_iald (TO.n2 qT hN) (TO.k2 qT) g8 dX6_bell_62 (aw_iret rfl dX6_bell_63)
      · replace hf := (if_neg g7).symm.trans hf
        by_cases g9 : x2 = nI 2
        · replace hf := (if_pos g9).symm.trans hf
          refine aw_tableIn (off := 53) 64 dX6_bell_11 (by rw [g9]; decide) (by rw [g9]; decide) (by rw [g9]; decide) rfl ?_
          refine aw_aload_n dX6_bell_64 rfl (aw_iload_n dX6_bell_65 rfl ?_)
          obtain ⟨v12, h10, c11, hf⟩ := ob_some hf
          cases hf
          exact aw_callVi (N := mX6_pinsOfBell) (As := [.int x1]) lkX6_114 okX6_pinsOfBell (nl hN rfl) kd_0 rfl (by rfl) (by rfl) (Nat.le_of_ble_eq_true rfl) ry_X6_bell_X6_pinsOfBell dX6_bell_66 (And.intro (Nat.le_refl _) (Nat.le_refl _)) (ct_X6_pinsOfBell hE hN F qT qU c11) (aw_iret rfl dX6_bell_69)
        · replace hf := (if_neg g9).symm.trans hf
          by_cases g13 : x2 = nI 3
          · replace hf := (if_pos g13).symm.trans hf
            refine aw_tableIn (off := 59) 70 dX6_bell_11 (by rw [g13]; decide) (by rw [g13]; decide) (by rw [g13]; decide) rfl ?_
            refine aw_aload_n dX6_bell_70 rfl (aw_getr fkX6_29 (nl hN rfl) kd_0 (Nat.le_of_ble_eq_true rfl) rfl dX6_bell_71 (aw_getr fkX6_118 (nl hN rfl) kd_14 (Nat.le_of_ble_eq_true rfl) rfl dX6_bell_74 (aw_iload_n dX6_bell_77 rfl ?_)))
            obtain ⟨g14, hf⟩ := ogd hf
            cases hf
            exact aw_iald (nl hN rfl) kd_17 g14 dX6_bell_78 (aw_iret rfl dX6_bell_79)
          · replace hf := (if_neg g13).symm.trans hf
            by_cases g15 : x2 = nI 4
            · replace hf := (if_pos g15).symm.trans hf
              refine aw_tableIn (off := 69) 80 dX6_bell_11 (by rw [g15]; decide) (by rw [g15]; decide) (by rw [g15]; decide) rfl ?_
              refine aw_aload_n dX6_bell_80 rfl (aw_getr fkX6_29 (nl hN rfl) kd_0 (Nat.le_of_ble_eq_true rfl) rfl dX6_bell_81 (aw_getr fkX6_121 (nl hN rfl) kd_14 (Nat.le_of_ble_eq_true rfl) rfl dX6_bell_84 (aw_iload_n dX6_bell_87 rfl ?_)))
              obtain ⟨g16, hf⟩ := ogd hf
              cases hf
              exact aw_iald (nl hN rfl) kd_18 g16 dX6_bell_88 (aw_iret rfl dX6_bell_89)
            · replace hf := (if_neg g15).symm.trans hf
              refine aw_tableOut 90 dX6_bell_11 (tbl_out 4 [nI 0, nI 1, nI 2, nI 3, nI 4] (by rfl) (by intro k hk; simp only [List.mem_cons, List.not_mem_nil, or_false] at hk; rcases hk with rfl | rfl | rfl | rfl | rfl <;> assumption)) rfl ?_
              cases hf
              exact aw_iconst (-1) dX6_bell_90 ki_m1 (aw_iret rfl dX6_bell_91)
  · replace hf := (if_pos g4).symm.trans hf
    cases hf
    exact aw_iconst (-1) dX6_bell_8 ki_m1 (aw_iret rfl dX6_bell_9)
set_option maxHeartbeats 4000000 in
set_option maxRecDepth 100000 in
theorem ct_X6_isRow {E : EV} (hE : EI E) (hN : 39 ≤ eN E) (F : Nat) {tw : TW} (qT : TO tw.1) (qU : TO tw.2) {x1 : Int32} {h : HP} {v : Int32} {h' : HP} (hf : f_X6_isRow F tw x1 h = some (v, h')) : CT E mX6_isRow tw h [.ref 0, .int x1] (some (.int v)) tw h' := by
  refine CT.of hE (show plainFor yX6_isRow = true by decide +kernel) (Nat.le_of_ble_eq_true rfl) 0 ?_
  show AW E mX6_isRow (KM E mX6_isRow (some (.int v)) tw h') tw h 0 [some (.ref 0), some (.int x1)] []
  unfold f_X6_isRow at hf
  refine aw_iload_n dX6_isRow_0 rfl ?_
  refine aw_if_lt 19 dX6_isRow_1 rfl (fun g1 => ?_) (fun g1 => ?_)
  · replace hf := (if_pos g1).symm.trans hf
    cases hf
    exact aw_iconst (nI 0) dX6_isRow_19 ki_0 (aw_zret rfl (Or.inl rfl) dX6_isRow_20)
  · replace hf := (if_neg g1).symm.trans hf
    refine aw_iload_n dX6_isRow_4 rfl (aw_aload_n dX6_isRow_5 rfl (aw_getr fkX6_19 (nl hN rfl) kd_0 (Nat.le_of_ble_eq_true rfl) rfl dX6_isRow_6 (aw_geti fkX6_147 (TO.n qT hN) (TO.k qT) (Nat.le_of_ble_eq_true rfl) rfl dX6_isRow_9 ?_)))
    refine aw_icmp_ge 19 dX6_isRow_12 rfl (fun g2 => ?_) (fun g2 => ?_)
    · replace hf := (if_pos g2).symm.trans hf
      cases hf
      exact aw_iconst (nI 0) dX6_isRow_19 ki_0 (aw_zret rfl (Or.inl rfl) dX6_isRow_20)
    · replace hf := (if_neg g2).symm.trans hf
      cases hf
      exact aw_iconst (nI 1) dX6_isRow_15 ki_1 (aw_goto 20 dX6_isRow_16 rfl (aw_zret rfl (Or.inr rfl) dX6_isRow_20))
set_option maxHeartbeats 4000000 in
set_option maxRecDepth 100000 in
theorem ct_X6_pins {E : EV} (hE : EI E) (hN : 39 ≤ eN E) (F : Nat) {tw : TW} (qT : TO tw.1) (qU : TO tw.2) {x1 : Int32} {h : HP} {v : Int32} {h' : HP} (hf : f_X6_pins F tw x1 h = some (v, h')) : CT E mX6_pins tw h [.ref 0, .int x1] (some (.int v)) tw h' := by
  refine CT.of hE (show plainFor yX6_pins = true by decide +kernel) (Nat.le_of_ble_eq_true rfl) 0 ?_
  show AW E mX6_pins (KM E mX6_pins (some (.int v)) tw h') tw h 0 [some (.ref 0), some (.int x1)] []
  unfold f_X6_pins at hf
  refine aw_aload_n dX6_pins_0 rfl (aw_iload_n dX6_pins_1 rfl ?_)
  obtain ⟨v3, h1, c2, hf⟩ := ob_some hf
  refine aw_callVi (N := mX6_isRow) (As := [.int x1]) lkX6_124 okX6_isRow (nl hN rfl) kd_0 rfl (by rfl) (by rfl) (Nat.le_of_ble_eq_true rfl) ry_X6_pins_X6_isRow dX6_pins_2 (And.intro (Nat.le_refl _) (Nat.le_refl _)) (ct_X6_isRow hE hN F qT qU c2) ?_
  refine aw_if_eq 20 dX6_pins_5 rfl (fun g4 => ?_) (fun g4 => ?_)
  · replace hf := (if_pos g4).symm.trans hf
    cases hf
    exact aw_iconst (-1) dX6_pins_20 ki_m1 (aw_iret rfl dX6_pins_21)
  · replace hf := (if_neg g4).symm.trans hf
    refine aw_aload_n dX6_pins_8 rfl (aw_getr fkX6_29 (nl hN rfl) kd_0 (Nat.le_of_ble_eq_true rfl) rfl dX6_pins_9 (aw_getr fkX6_127 (nl hN rfl) kd_14 (Nat.le_of_ble_eq_true rfl) rfl dX6_pins_12 (aw_iload_n dX6_pins_15 rfl ?_)))
    obtain ⟨g5, hf⟩ := ogd hf
    cases hf
    exact aw_iald (nl hN rfl) kd_15 g5 dX6_pins_16 (aw_goto 21 dX6_pins_17 rfl (aw_iret rfl dX6_pins_21))
set_option maxHeartbeats 4000000 in
set_option maxRecDepth 100000 in
theorem ct_X6_isSet {E : EV} (hE : EI E) (hN : 39 ≤ eN E) (F : Nat) {tw : TW} (qT : TO tw.1) (qU : TO tw.2) {x1 : Int32} {h : HP} {v : Int32} {h' : HP} (hf : f_X6_isSet F tw x1 h = some (v, h')) : CT E mX6_isSet tw h [.ref 0, .int x1] (some (.int v)) tw h' := by
  refine CT.of hE (show plainFor yX6_isSet = true by decide +kernel) (Nat.le_of_ble_eq_true rfl) 0 ?_
  show AW E mX6_isSet (KM E mX6_isSet (some (.int v)) tw h') tw h 0 [some (.ref 0), some (.int x1)] []
  unfold f_X6_isSet at hf
  refine aw_iload_n dX6_isSet_0 rfl ?_
  refine aw_if_lt 19 dX6_isSet_1 rfl (fun g1 => ?_) (fun g1 => ?_)
  · replace hf := (if_pos g1).symm.trans hf
    cases hf
    exact aw_iconst (nI 0) dX6_isSet_19 ki_0 (aw_zret rfl (Or.inl rfl) dX6_isSet_20)
  · replace hf := (if_neg g1).symm.trans hf
    refine aw_iload_n dX6_isSet_4 rfl (aw_aload_n dX6_isSet_5 rfl (aw_getr fkX6_19 (nl hN rfl) kd_0 (Nat.le_of_ble_eq_true rfl) rfl dX6_isSet_6 ?_))
    obtain ⟨v4, h2, c3, hf⟩ := ob_some hf
    refine aw_callVi (N := mX5_everyBell) (As := []) lkX6_150 okX5_everyBell (TO.n qT hN) (TO.k qT) rfl (by rfl) (by rfl) (Nat.le_of_ble_eq_true rfl) ry_X6_isSet_X5_everyBell dX6_isSet_9 (And.intro (Nat.le_refl _) (Nat.le_refl _)) (ct_X5_everyBell hE hN F qT c3) ?_
    refine aw_icmp_gt 19 dX6_isSet_12 rfl (fun g5 => ?_) (fun g5 => ?_)
    · replace hf := (if_pos g5).symm.trans hf
      cases hf
      exact aw_iconst (nI 0) dX6_isSet_19 ki_0 (aw_zret rfl (Or.inl rfl) dX6_isSet_20)
    · replace hf := (if_neg g5).symm.trans hf
      cases hf
      exact aw_iconst (nI 1) dX6_isSet_15 ki_1 (aw_goto 20 dX6_isSet_16 rfl (aw_zret rfl (Or.inr rfl) dX6_isSet_20))
set_option maxHeartbeats 4000000 in
set_option maxRecDepth 100000 in
theorem ct_X6_turn {E : EV} (hE : EI E) (hN : 39 ≤ eN E) (F : Nat) {tw : TW} (qT : TO tw.1) (qU : TO tw.2)  {h : HP} {v : Int32} {h' : HP} (hf : f_X6_turn F tw  h = some (v, h')) : CT E mX6_turn tw h [.ref 0] (some (.int v)) tw h' := by
  refine CT.of hE (show plainFor yX6_turn = true by decide +kernel) (Nat.le_of_ble_eq_true rfl) 0 ?_
  show AW E mX6_turn (KM E mX6_turn (some (.int v)) tw h') tw h 0 [some (.ref 0)] []
  unfold f_X6_turn at hf
  refine aw_aload_n dX6_turn_0 rfl (aw_getr fkX6_41 (nl hN rfl) kd_0 (Nat.le_of_ble_eq_true rfl) rfl dX6_turn_1 (aw_aload_n dX6_turn_4 rfl (aw_getr fkX6_29 (nl hN rfl) kd_0 (Nat.le_of_ble_eq_true rfl) rfl dX6_turn_5 ?_)))
  obtain ⟨h1, c2, hf⟩ := obv_some hf
  refine aw_callVv (N := mX2_put) (As := [.ref 14]) lkX6_153 okX2_put (nl hN rfl) kd_24 rfl (by rfl) (by rfl) (Nat.le_of_ble_eq_true rfl) ry_X6_turn_X2_put dX6_turn_8 (And.intro (Nat.le_refl _) (Nat.le_refl _)) (ct_X2_put hE hN F (Or.inl rfl) (Or.inl rfl) c2) (aw_aload_n dX6_turn_11 rfl (aw_getr fkX6_29 (nl hN rfl) kd_0 (Nat.le_of_ble_eq_true rfl) rfl dX6_turn_12 (aw_aload_n dX6_turn_15 rfl (aw_getr fkX6_19 (nl hN rfl) kd_0 (Nat.le_of_ble_eq_true rfl) rfl dX6_turn_16 ?_))))
  obtain ⟨v5, h3, c4, hf⟩ := ob_some hf
  cases hf
  exact aw_callVi (N := mX0_turnOn) (As := [.ref tw.1]) lkX6_157 okX0_turnOn (nl hN rfl) kd_14 rfl (by rfl) (by rfl) (Nat.le_of_ble_eq_true rfl) ry_X6_turn_X0_turnOn dX6_turn_19 (And.intro (Nat.le_refl _) (Nat.le_refl _)) (ct_X0_turnOn hE hN F (Or.inl rfl) qT c4) (aw_iret rfl dX6_turn_22)
set_option maxHeartbeats 4000000 in
set_option maxRecDepth 100000 in
theorem ct_X6_turnBack {E : EV} (hE : EI E) (hN : 39 ≤ eN E) (F : Nat) {tw : TW} (qT : TO tw.1) (qU : TO tw.2)  {h : HP} {v : Int32} {h' : HP} (hf : f_X6_turnBack F tw  h = some (v, h')) : CT E mX6_turnBack tw h [.ref 0] (some (.int v)) tw h' := by
  refine CT.of hE (show plainFor yX6_turnBack = true by decide +kernel) (Nat.le_of_ble_eq_true rfl) 0 ?_
  show AW E mX6_turnBack (KM E mX6_turnBack (some (.int v)) tw h') tw h 0 [some (.ref 0)] []
  unfold f_X6_turnBack at hf
  refine aw_aload_n dX6_turnBack_0 rfl (aw_getr fkX6_41 (nl hN rfl) kd_0 (Nat.le_of_ble_eq_true rfl) rfl dX6_turnBack_1 (aw_aload_n dX6_turnBack_4 rfl (aw_getr fkX6_29 (nl hN rfl) kd_0 (Nat.le_of_ble_eq_true rfl) rfl dX6_turnBack_5 ?_)))
  obtain ⟨h1, c2, hf⟩ := obv_some hf
  refine aw_callVv (N := mX2_put) (As := [.ref 14]) lkX6_153 okX2_put (nl hN rfl) kd_24 rfl (by rfl) (by rfl) (Nat.le_of_ble_eq_true rfl) ry_X6_turnBack_X2_put dX6_turnBack_8 (And.intro (Nat.le_refl _) (Nat.le_refl _)) (ct_X2_put hE hN F (Or.inl rfl) (Or.inl rfl) c2) (aw_aload_n dX6_turnBack_11 rfl (aw_getr fkX6_29 (nl hN rfl) kd_0 (Nat.le_of_ble_eq_true rfl) rfl dX6_turnBack_12 (aw_aload_n dX6_turnBack_15 rfl (aw_getr fkX6_19 (nl hN rfl) kd_0 (Nat.le_of_ble_eq_true rfl) rfl dX6_turnBack_16 ?_))))
  obtain ⟨v5, h3, c4, hf⟩ := ob_some hf
  cases hf
  exact aw_callVi (N := mX0_turnOff) (As := [.ref tw.1]) lkX6_160 okX0_turnOff (nl hN rfl) kd_14 rfl (by rfl) (by rfl) (Nat.le_of_ble_eq_true rfl) ry_X6_turnBack_X0_turnOff dX6_turnBack_19 (And.intro (Nat.le_refl _) (Nat.le_refl _)) (ct_X0_turnOff hE hN F (Or.inl rfl) qT c4) (aw_iret rfl dX6_turnBack_22)
set_option maxHeartbeats 4000000 in
set_option maxRecDepth 100000 in
theorem ct_X6_pin {E : EV} (hE : EI E) (hN : 39 ≤ eN E) (F : Nat) {tw : TW} (qT : TO tw.1) (qU : TO tw.2) {x1 : Int32} {x2 : Int32} {x3 : Int32} {h : HP} {v : Int32} {h' : HP} (hf : f_X6_pin F tw x1 x2 x3 h = some (v, h')) : CT E mX6_pin tw h [.ref 0, .int x1, .int x2, .int x3] (some (.int v)) tw h' := by
  refine CT.of hE (show plainFor yX6_pin = true by decide +kernel) (Nat.le_of_ble_eq_true rfl) 1 ?_
  show AW E mX6_pin (KM E mX6_pin (some (.int v)) tw h') tw h 0 [some (.ref 0), some (.int x1), some (.int x2), some (.int x3), none] []
  unfold f_X6_pin at hf
  refine aw_aload_n dX6_pin_0 rfl (aw_iload_n dX6_pin_1 rfl ?_)
  obtain ⟨v3, h1, c2, hf⟩ := ob_some hf
  refine aw_callVi (N := mX6_isRow) (As := [.int x1]) lkX6_124 okX6_isRow (nl hN rfl) kd_0 rfl (by rfl) (by rfl) (Nat.le_of_ble_eq_true rfl) ry_X6_pin_X6_isRow dX6_pin_2 (And.intro (Nat.le_refl _) (Nat.le_refl _)) (ct_X6_isRow hE hN F qT qU c2) ?_
  refine aw_if_eq 16 dX6_pin_5 rfl (fun g4 => ?_) (fun g4 => ?_)
  · replace hf := (if_pos g4).symm.trans hf
    cases hf
    exact aw_iconst (-1) dX6_pin_16 ki_m1 (aw_iret rfl dX6_pin_17)
  · replace hf := (if_neg g4).symm.trans hf
    refine aw_aload_n dX6_pin_8 rfl (aw_iload_n dX6_pin_9 rfl ?_)
    obtain ⟨v7, h5, c6, hf⟩ := ob_some hf
    refine aw_callVi (N := mX6_isBell) (As := [.int x2]) lkX6_105 okX6_isBell (nl hN rfl) kd_0 rfl (by rfl) (by rfl) (Nat.le_of_ble_eq_true rfl) ry_X6_pin_X6_isBell dX6_pin_10 (And.intro (Nat.le_refl _) (Nat.le_refl _)) (ct_X6_isBell hE hN F qT qU c6) ?_
    refine aw_if_ne 18 dX6_pin_13 rfl (fun g8 => ?_) (fun g8 => ?_)
    · replace hf := (if_neg g8).symm.trans hf
      refine aw_aload_n dX6_pin_18 rfl (aw_getr fkX6_29 (nl hN rfl) kd_0 (Nat.le_of_ble_eq_true rfl) rfl dX6_pin_19 (aw_getr fkX6_127 (nl hN rfl) kd_14 (Nat.le_of_ble_eq_true rfl) rfl dX6_pin_22 (aw_iload_n dX6_pin_25 rfl ?_)))
      obtain ⟨g9, hf⟩ := ogd hf
      have key16 : AW E mX6_pin (KM E mX6_pin (some (.int v)) tw h') tw h5 40 [some (.ref 0), some (.int x1), some (.int x2), some (.int x3), none] [.int (if ((jshr (h5 15 (ix x1)) x2) &&& (nI 1)) = (nI 1) then (nI 1) else (nI 0))] := by
        refine aw_istore dX6_pin_40 (Nat.le_of_ble_eq_true rfl) (aw_iload dX6_pin_42 rfl (aw_iload_n dX6_pin_44 rfl ?_))
        refine aw_icmp_ne 51 dX6_pin_45 rfl (fun g10 => ?_) (fun g10 => ?_)
        · replace hf := (if_neg g10).symm.trans hf
          refine aw_aload_n dX6_pin_51 rfl (aw_getr fkX6_41 (nl hN rfl) kd_0 (Nat.le_of_ble_eq_true rfl) rfl dX6_pin_52 (aw_aload_n dX6_pin_55 rfl (aw_getr fkX6_29 (nl hN rfl) kd_0 (Nat.le_of_ble_eq_true rfl) rfl dX6_pin_56 ?_)))
          obtain ⟨h11, c12, hf⟩ := obv_some hf
          refine aw_callVv (N := mX2_put) (As := [.ref 14]) lkX6_153 okX2_put (nl hN rfl) kd_24 rfl (by rfl) (by rfl) (Nat.le_of_ble_eq_true rfl) ry_X6_pin_X2_put dX6_pin_59 (And.intro (Nat.le_refl _) (Nat.le_refl _)) (ct_X2_put hE hN F (Or.inl rfl) (Or.inl rfl) c12) (aw_aload_n dX6_pin_62 rfl (aw_getr fkX6_29 (nl hN rfl) kd_0 (Nat.le_of_ble_eq_true rfl) rfl dX6_pin_63 (aw_getr fkX6_127 (nl hN rfl) kd_14 (Nat.le_of_ble_eq_true rfl) rfl dX6_pin_66 (aw_iload_n dX6_pin_69 rfl (aw_dup2 dX6_pin_70 rfl rfl (aw_iald (nl hN rfl) kd_15 g9 dX6_pin_71 (aw_iconst (nI 1) dX6_pin_72 ki_1 (aw_iload_n dX6_pin_73 rfl (aw_ishl dX6_pin_74 (aw_ixor dX6_pin_75 (aw_iast (nl hN rfl) kd_15 g9 dX6_pin_76 ?_)))))))))))
          refine aw_aload_n dX6_pin_77 rfl (aw_getr fkX6_29 (nl hN rfl) kd_0 (Nat.le_of_ble_eq_true rfl) rfl dX6_pin_78 (aw_getr fkX6_127 (nl hN rfl) kd_14 (Nat.le_of_ble_eq_true rfl) rfl dX6_pin_81 (aw_iload_n dX6_pin_84 rfl (aw_iald (nl hN rfl) kd_15 g9 dX6_pin_85 ?_))))
          obtain ⟨v15, h13, c14, hf⟩ := ob_some hf
          cases hf
          exact aw_callSi (N := mJ6_bitCount_0f7a4) (As := [.int ((up h11 15 (ix x1) ((h11 15 (ix x1)) ^^^ (jshl (nI 1) x2))) 15 (ix x1))]) lkX6_163 okJ6_bitCount_0f7a4 (by rfl) (by rfl) (Nat.le_of_ble_eq_true rfl) ry_X6_pin_J6_bitCount_0f7a4 dX6_pin_86 (And.intro (Nat.le_refl _) (Nat.le_refl _)) (ct_J6_bitCount_0f7a4 hE hN F c14) (aw_iret rfl dX6_pin_89)
        · replace hf := (if_pos g10).symm.trans hf
          cases hf
          exact aw_bipush (-2) dX6_pin_48 kb_m2 (aw_iret rfl dX6_pin_50)
      refine aw_iald (nl hN rfl) kd_15 g9 dX6_pin_26 (aw_iload_n dX6_pin_27 rfl (aw_ishr dX6_pin_28 (aw_iconst (nI 1) dX6_pin_29 ki_1 (aw_iand dX6_pin_30 (aw_iconst (nI 1) dX6_pin_31 ki_1 ?_)))))
      refine aw_icmp_ne 39 dX6_pin_32 rfl (fun g17 => ?_) (fun g17 => ?_)
      · skip
        refine aw_iconst (nI 0) dX6_pin_39 ki_0 ?_
        simp only [if_neg g17] at key16 ⊢
        exact aw_dk key16 (And.intro rfl (And.intro rfl (And.intro rfl (And.intro rfl trivial))))
      · skip
        refine aw_iconst (nI 1) dX6_pin_35 ki_1 (aw_goto 40 dX6_pin_36 rfl ?_)
        simp only [if_pos g17] at key16 ⊢
        exact aw_dk key16 (And.intro rfl (And.intro rfl (And.intro rfl (And.intro rfl trivial))))
    · replace hf := (if_pos g8).symm.trans hf
      cases hf
      exact aw_iconst (-1) dX6_pin_16 ki_m1 (aw_iret rfl dX6_pin_17)
set_option maxHeartbeats 4000000 in
set_option maxRecDepth 100000 in
theorem ct_X6_shift_23 {E : EV} (hE : EI E) (hN : 39 ≤ eN E) (F : Nat) {tw : TW} (qT : TO tw.1) (qU : TO tw.2) {x1 : Int32} {v : Int32} {h' : HP} : ∀ (n : Nat) (x2 : Int32) (h : HP), f_X6_shift_23 F tw x1 n x2 h = some (v, h') → AW E mX6_shift (KM E mX6_shift (some (.int v)) tw h') tw h 23 [some (.ref 0), some (.int x1), some (.int x2)] [] := by
  intro n
  induction n with
  | zero => intro x2 h hf; exact absurd (show (none : Option (Int32 × HP)) = some _ from hf) (fun z => nomatch z)
  | succ n ih =>
    intro x2 h hf
    rw [f_X6_shift_23] at hf
    refine aw_iload_n dX6_shift_23 rfl (aw_aload_n dX6_shift_24 rfl (aw_getr fkX6_19 (nl hN rfl) kd_0 (Nat.le_of_ble_eq_true rfl) rfl dX6_shift_25 (aw_geti fkX6_147 (TO.n qT hN) (TO.k qT) (Nat.le_of_ble_eq_true rfl) rfl dX6_shift_28 ?_)))
    refine aw_icmp_ge 66 dX6_shift_31 rfl (fun g7 => ?_) (fun g7 => ?_)
    · replace hf := (if_pos g7).symm.trans hf
      refine aw_aload_n dX6_shift_66 rfl (aw_getr fkX6_33 (nl hN rfl) kd_0 (Nat.le_of_ble_eq_true rfl) rfl dX6_shift_67 (aw_getr fkX6_127 (nl hN rfl) kd_19 (Nat.le_of_ble_eq_true rfl) rfl dX6_shift_70 (aw_iconst (nI 0) dX6_shift_73 ki_0 (aw_aload_n dX6_shift_74 rfl (aw_getr fkX6_29 (nl hN rfl) kd_0 (Nat.le_of_ble_eq_true rfl) rfl dX6_shift_75 (aw_getr fkX6_127 (nl hN rfl) kd_14 (Nat.le_of_ble_eq_true rfl) rfl dX6_shift_78 (aw_iconst (nI 0) dX6_shift_81 ki_0 (aw_aload_n dX6_shift_82 rfl (aw_getr fkX6_19 (nl hN rfl) kd_0 (Nat.le_of_ble_eq_true rfl) rfl dX6_shift_83 (aw_geti fkX6_147 (TO.n qT hN) (TO.k qT) (Nat.le_of_ble_eq_true rfl) rfl dX6_shift_86 ?_))))))))))
      obtain ⟨g8, hf⟩ := ogd hf
      cases hf
      exact aw_copy (nl hN rfl) kd_20 (nl hN rfl) kd_15 g8 lkX6_172 ac_n ac_s ac_i (And.intro (Nat.le_of_ble_eq_true rfl) (Nat.le_of_ble_eq_true rfl)) dX6_shift_89 (aw_aload_n dX6_shift_92 rfl (aw_getr fkX6_29 (nl hN rfl) kd_0 (Nat.le_of_ble_eq_true rfl) rfl dX6_shift_93 (aw_getr fkX6_127 (nl hN rfl) kd_14 (Nat.le_of_ble_eq_true rfl) rfl dX6_shift_96 (aw_iconst (nI 0) dX6_shift_99 ki_0 (aw_ialdk (j := 0) cx_0 (nl hN rfl) kd_15 ib_0_32 dX6_shift_100 (aw_iret rfl dX6_shift_101))))))
    · replace hf := (if_neg g7).symm.trans hf
      refine aw_aload_n dX6_shift_34 rfl (aw_getr fkX6_33 (nl hN rfl) kd_0 (Nat.le_of_ble_eq_true rfl) rfl dX6_shift_35 (aw_getr fkX6_127 (nl hN rfl) kd_19 (Nat.le_of_ble_eq_true rfl) rfl dX6_shift_38 (aw_aload_n dX6_shift_41 rfl (aw_getr fkX6_19 (nl hN rfl) kd_0 (Nat.le_of_ble_eq_true rfl) rfl dX6_shift_42 (aw_iload_n dX6_shift_45 rfl (aw_iload_n dX6_shift_46 rfl ?_))))))
      obtain ⟨v11, h9, c10, hf⟩ := ob_some hf
      refine aw_callVi (N := mX5_rowBehind) (As := [.int x2, .int x1]) lkX6_168 okX5_rowBehind (TO.n qT hN) (TO.k qT) rfl (by rfl) (by rfl) (Nat.le_of_ble_eq_true rfl) ry_X6_shift_X5_rowBehind dX6_shift_47 (And.intro (Nat.le_refl _) (Nat.le_refl _)) (ct_X5_rowBehind hE hN F qT c10) (aw_aload_n dX6_shift_50 rfl (aw_getr fkX6_29 (nl hN rfl) kd_0 (Nat.le_of_ble_eq_true rfl) rfl dX6_shift_51 (aw_getr fkX6_127 (nl hN rfl) kd_14 (Nat.le_of_ble_eq_true rfl) rfl dX6_shift_54 (aw_iload_n dX6_shift_57 rfl ?_))))
      obtain ⟨g12, hf⟩ := ogd hf
      refine aw_iald (nl hN rfl) kd_15 g12 dX6_shift_58 ?_
      obtain ⟨g13, hf⟩ := ogd hf
      refine aw_iast (nl hN rfl) kd_20 g13 dX6_shift_59 (aw_iinc (nI 1) dX6_shift_60 rfl (Nat.le_of_ble_eq_true rfl) ki_1 (aw_goto 23 dX6_shift_63 rfl ?_))
      exact aw_dk (ih _ _ hf) (And.intro rfl (And.intro rfl (And.intro rfl trivial)))
set_option maxHeartbeats 4000000 in
set_option maxRecDepth 100000 in
theorem ct_X6_shift {E : EV} (hE : EI E) (hN : 39 ≤ eN E) (F : Nat) {tw : TW} (qT : TO tw.1) (qU : TO tw.2) {x1 : Int32} {h : HP} {v : Int32} {h' : HP} (hf : f_X6_shift F tw x1 h = some (v, h')) : CT E mX6_shift tw h [.ref 0, .int x1] (some (.int v)) tw h' := by
  refine CT.of hE (show plainFor yX6_shift = true by decide +kernel) (Nat.le_of_ble_eq_true rfl) 1 ?_
  show AW E mX6_shift (KM E mX6_shift (some (.int v)) tw h') tw h 0 [some (.ref 0), some (.int x1), none] []
  unfold f_X6_shift at hf
  refine aw_aload_n dX6_shift_0 rfl (aw_iload_n dX6_shift_1 rfl ?_)
  obtain ⟨v3, h1, c2, hf⟩ := ob_some hf
  refine aw_callVi (N := mX6_isRow) (As := [.int x1]) lkX6_124 okX6_isRow (nl hN rfl) kd_0 rfl (by rfl) (by rfl) (Nat.le_of_ble_eq_true rfl) ry_X6_shift_X6_isRow dX6_shift_2 (And.intro (Nat.le_refl _) (Nat.le_refl _)) (ct_X6_isRow hE hN F qT qU c2) ?_
  refine aw_if_ne 10 dX6_shift_5 rfl (fun g4 => ?_) (fun g4 => ?_)
  · replace hf := (if_neg g4).symm.trans hf
    refine aw_aload_n dX6_shift_10 rfl (aw_getr fkX6_41 (nl hN rfl) kd_0 (Nat.le_of_ble_eq_true rfl) rfl dX6_shift_11 (aw_aload_n dX6_shift_14 rfl (aw_getr fkX6_29 (nl hN rfl) kd_0 (Nat.le_of_ble_eq_true rfl) rfl dX6_shift_15 ?_)))
    obtain ⟨h5, c6, hf⟩ := obv_some hf
    refine aw_callVv (N := mX2_put) (As := [.ref 14]) lkX6_153 okX2_put (nl hN rfl) kd_24 rfl (by rfl) (by rfl) (Nat.le_of_ble_eq_true rfl) ry_X6_shift_X2_put dX6_shift_18 (And.intro (Nat.le_refl _) (Nat.le_refl _)) (ct_X2_put hE hN F (Or.inl rfl) (Or.inl rfl) c6) (aw_iconst (nI 0) dX6_shift_21 ki_0 (aw_istore_n dX6_shift_22 (Nat.le_of_ble_eq_true rfl) ?_))
    exact aw_dk (ct_X6_shift_23 hE hN F qT qU F _ _ hf) (And.intro rfl (And.intro rfl (And.intro rfl trivial)))
  · replace hf := (if_pos g4).symm.trans hf
    cases hf
    exact aw_iconst (-1) dX6_shift_8 ki_m1 (aw_iret rfl dX6_shift_9)
set_option maxHeartbeats 4000000 in
set_option maxRecDepth 100000 in
theorem ct_X6_undo {E : EV} (hE : EI E) (hN : 39 ≤ eN E) (F : Nat) {tw : TW} (qT : TO tw.1) (qU : TO tw.2)  {h : HP} {v : Int32} {h' : HP} (hf : f_X6_undo F tw  h = some (v, h')) : CT E mX6_undo tw h [.ref 0] (some (.int v)) tw h' := by
  refine CT.of hE (show plainFor yX6_undo = true by decide +kernel) (Nat.le_of_ble_eq_true rfl) 0 ?_
  show AW E mX6_undo (KM E mX6_undo (some (.int v)) tw h') tw h 0 [some (.ref 0)] []
  unfold f_X6_undo at hf
  refine aw_aload_n dX6_undo_0 rfl (aw_getr fkX6_41 (nl hN rfl) kd_0 (Nat.le_of_ble_eq_true rfl) rfl dX6_undo_1 (aw_aload_n dX6_undo_4 rfl (aw_getr fkX6_29 (nl hN rfl) kd_0 (Nat.le_of_ble_eq_true rfl) rfl dX6_undo_5 ?_)))
  obtain ⟨v3, h1, c2, hf⟩ := ob_some hf
  refine aw_callVi (N := mX2_takeInto) (As := [.ref 14]) lkX6_178 okX2_takeInto (nl hN rfl) kd_24 rfl (by rfl) (by rfl) (Nat.le_of_ble_eq_true rfl) ry_X6_undo_X2_takeInto dX6_undo_8 (And.intro (Nat.le_refl _) (Nat.le_refl _)) (ct_X2_takeInto hE hN F (Or.inl rfl) (Or.inl rfl) c2) ?_
  refine aw_if_eq 24 dX6_undo_11 rfl (fun g4 => ?_) (fun g4 => ?_)
  · replace hf := (if_pos g4).symm.trans hf
    cases hf
    exact aw_bipush (-2) dX6_undo_24 kb_m2 (aw_iret rfl dX6_undo_26)
  · replace hf := (if_neg g4).symm.trans hf
    cases hf
    exact aw_aload_n dX6_undo_14 rfl (aw_getr fkX6_41 (nl hN rfl) kd_0 (Nat.le_of_ble_eq_true rfl) rfl dX6_undo_15 (aw_geti fkX6_182 (nl hN rfl) kd_24 (Nat.le_of_ble_eq_true rfl) rfl dX6_undo_18 (aw_goto 26 dX6_undo_21 rfl (aw_iret rfl dX6_undo_26))))
set_option maxHeartbeats 4000000 in
set_option maxRecDepth 100000 in
theorem ct_X6_ringsInATurn_4 {E : EV} (hE : EI E) (hN : 39 ≤ eN E) (F : Nat) {tw : TW} (qT : TO tw.1) (qU : TO tw.2) {r1 : Nat} (q1 : DR r1) {v : Int32} {h' : HP} : ∀ (n : Nat) (x2 : Int32) (x3 : Int32) (h : HP), f_X6_ringsInATurn_4 F tw r1 n x2 x3 h = some (v, h') → AW E mX6_ringsInATurn (KM E mX6_ringsInATurn (some (.int v)) tw h') tw h 4 [some (.ref 0), some (.ref r1), some (.int x2), some (.int x3)] [] := by
  intro n
  induction n with
  | zero => intro x2 x3 h hf; exact absurd (show (none : Option (Int32 × HP)) = some _ from hf) (fun z => nomatch z)
  | succ n ih =>
    intro x2 x3 h hf
    rw [f_X6_ringsInATurn_4] at hf
    refine aw_iload_n dX6_ringsInATurn_4 rfl (aw_aload_n dX6_ringsInATurn_5 rfl (aw_getr fkX6_19 (nl hN rfl) kd_0 (Nat.le_of_ble_eq_true rfl) rfl dX6_ringsInATurn_6 (aw_geti fkX6_147 (TO.n qT hN) (TO.k qT) (Nat.le_of_ble_eq_true rfl) rfl dX6_ringsInATurn_9 ?_)))
    refine aw_icmp_ge 35 dX6_ringsInATurn_12 rfl (fun g1 => ?_) (fun g1 => ?_)
    · replace hf := (if_pos g1).symm.trans hf
      cases hf
      exact aw_iload_n dX6_ringsInATurn_35 rfl (aw_iret rfl dX6_ringsInATurn_36)
    · replace hf := (if_neg g1).symm.trans hf
      refine aw_iload_n dX6_ringsInATurn_15 rfl (aw_aload_n dX6_ringsInATurn_16 rfl (aw_aload_n dX6_ringsInATurn_17 rfl (aw_getr fkX6_19 (nl hN rfl) kd_0 (Nat.le_of_ble_eq_true rfl) rfl dX6_ringsInATurn_18 ?_)))
      obtain ⟨v4, h2, c3, hf⟩ := ob_some hf
      refine aw_callVi (N := mX0_turnOn) (As := [.ref tw.1]) lkX6_157 okX0_turnOn (DR.n q1 hN) (DR.k q1) rfl (by rfl) (by rfl) (Nat.le_of_ble_eq_true rfl) ry_X6_ringsInATurn_X0_turnOn dX6_ringsInATurn_21 (And.intro (Nat.le_refl _) (Nat.le_refl _)) (ct_X0_turnOn hE hN F q1 qT c3) ?_
      obtain ⟨v7, h5, c6, hf⟩ := ob_some hf
      refine aw_callSi (N := mJ6_bitCount_0f7a4) (As := [.int v4]) lkX6_163 okJ6_bitCount_0f7a4 (by rfl) (by rfl) (Nat.le_of_ble_eq_true rfl) ry_X6_ringsInATurn_J6_bitCount_0f7a4 dX6_ringsInATurn_24 (And.intro (Nat.le_refl _) (Nat.le_refl _)) (ct_J6_bitCount_0f7a4 hE hN F c6) (aw_iadd dX6_ringsInATurn_27 (aw_istore_n dX6_ringsInATurn_28 (Nat.le_of_ble_eq_true rfl) (aw_iinc (nI 1) dX6_ringsInATurn_29 rfl (Nat.le_of_ble_eq_true rfl) ki_1 (aw_goto 4 dX6_ringsInATurn_32 rfl ?_))))
      exact aw_dk (ih _ _ _ hf) (And.intro rfl (And.intro rfl (And.intro rfl (And.intro rfl trivial))))
set_option maxHeartbeats 4000000 in
set_option maxRecDepth 100000 in
theorem ct_X6_ringsInATurn {E : EV} (hE : EI E) (hN : 39 ≤ eN E) (F : Nat) {tw : TW} (qT : TO tw.1) (qU : TO tw.2) {r1 : Nat} (q1 : DR r1) {h : HP} {v : Int32} {h' : HP} (hf : f_X6_ringsInATurn F tw r1 h = some (v, h')) : CT E mX6_ringsInATurn tw h [.ref 0, .ref r1] (some (.int v)) tw h' := by
  refine CT.of hE (show plainFor yX6_ringsInATurn = true by decide +kernel) (Nat.le_of_ble_eq_true rfl) 2 ?_
  show AW E mX6_ringsInATurn (KM E mX6_ringsInATurn (some (.int v)) tw h') tw h 0 [some (.ref 0), some (.ref r1), none, none] []
  unfold f_X6_ringsInATurn at hf
  refine aw_iconst (nI 0) dX6_ringsInATurn_0 ki_0 (aw_istore_n dX6_ringsInATurn_1 (Nat.le_of_ble_eq_true rfl) (aw_iconst (nI 0) dX6_ringsInATurn_2 ki_0 (aw_istore_n dX6_ringsInATurn_3 (Nat.le_of_ble_eq_true rfl) ?_)))
  exact aw_dk (ct_X6_ringsInATurn_4 hE hN F qT qU q1 F _ _ _ hf) (And.intro rfl (And.intro rfl (And.intro rfl (And.intro rfl trivial))))
set_option maxHeartbeats 4000000 in
set_option maxRecDepth 100000 in
theorem ct_X6_allPins_4 {E : EV} (hE : EI E) (hN : 39 ≤ eN E) (F : Nat) {tw : TW} (qT : TO tw.1) (qU : TO tw.2)  {v : Int32} {h' : HP} : ∀ (n : Nat) (x1 : Int32) (x2 : Int32) (h : HP), f_X6_allPins_4 F tw n x1 x2 h = some (v, h') → AW E mX6_allPins (KM E mX6_allPins (some (.int v)) tw h') tw h 4 [some (.ref 0), some (.int x1), some (.int x2)] [] := by
  intro n
  induction n with
  | zero => intro x1 x2 h hf; exact absurd (show (none : Option (Int32 × HP)) = some _ from hf) (fun z => nomatch z)
  | succ n ih =>
    intro x1 x2 h hf
    rw [f_X6_allPins_4] at hf
    refine aw_iload_n dX6_allPins_4 rfl (aw_aload_n dX6_allPins_5 rfl (aw_getr fkX6_19 (nl hN rfl) kd_0 (Nat.le_of_ble_eq_true rfl) rfl dX6_allPins_6 (aw_geti fkX6_147 (TO.n qT hN) (TO.k qT) (Nat.le_of_ble_eq_true rfl) rfl dX6_allPins_9 ?_)))
    refine aw_icmp_ge 36 dX6_allPins_12 rfl (fun g1 => ?_) (fun g1 => ?_)
    · replace hf := (if_pos g1).symm.trans hf
      cases hf
      exact aw_iload_n dX6_allPins_36 rfl (aw_iret rfl dX6_allPins_37)
    · replace hf := (if_neg g1).symm.trans hf
      refine aw_iload_n dX6_allPins_15 rfl (aw_aload_n dX6_allPins_16 rfl (aw_getr fkX6_29 (nl hN rfl) kd_0 (Nat.le_of_ble_eq_true rfl) rfl dX6_allPins_17 (aw_getr fkX6_127 (nl hN rfl) kd_14 (Nat.le_of_ble_eq_true rfl) rfl dX6_allPins_20 (aw_iload_n dX6_allPins_23 rfl ?_))))
      obtain ⟨g2, hf⟩ := ogd hf
      refine aw_iald (nl hN rfl) kd_15 g2 dX6_allPins_24 ?_
      obtain ⟨v5, h3, c4, hf⟩ := ob_some hf
      refine aw_callSi (N := mJ6_bitCount_0f7a4) (As := [.int (h 15 (ix x2))]) lkX6_163 okJ6_bitCount_0f7a4 (by rfl) (by rfl) (Nat.le_of_ble_eq_true rfl) ry_X6_allPins_J6_bitCount_0f7a4 dX6_allPins_25 (And.intro (Nat.le_refl _) (Nat.le_refl _)) (ct_J6_bitCount_0f7a4 hE hN F c4) (aw_iadd dX6_allPins_28 (aw_istore_n dX6_allPins_29 (Nat.le_of_ble_eq_true rfl) (aw_iinc (nI 1) dX6_allPins_30 rfl (Nat.le_of_ble_eq_true rfl) ki_1 (aw_goto 4 dX6_allPins_33 rfl ?_))))
      exact aw_dk (ih _ _ _ hf) (And.intro rfl (And.intro rfl (And.intro rfl trivial)))
set_option maxHeartbeats 4000000 in
set_option maxRecDepth 100000 in
theorem ct_X6_allPins {E : EV} (hE : EI E) (hN : 39 ≤ eN E) (F : Nat) {tw : TW} (qT : TO tw.1) (qU : TO tw.2)  {h : HP} {v : Int32} {h' : HP} (hf : f_X6_allPins F tw  h = some (v, h')) : CT E mX6_allPins tw h [.ref 0] (some (.int v)) tw h' := by
  refine CT.of hE (show plainFor yX6_allPins = true by decide +kernel) (Nat.le_of_ble_eq_true rfl) 2 ?_
  show AW E mX6_allPins (KM E mX6_allPins (some (.int v)) tw h') tw h 0 [some (.ref 0), none, none] []
  unfold f_X6_allPins at hf
  refine aw_iconst (nI 0) dX6_allPins_0 ki_0 (aw_istore_n dX6_allPins_1 (Nat.le_of_ble_eq_true rfl) (aw_iconst (nI 0) dX6_allPins_2 ki_0 (aw_istore_n dX6_allPins_3 (Nat.le_of_ble_eq_true rfl) ?_)))
  exact aw_dk (ct_X6_allPins_4 hE hN F qT qU F _ _ _ hf) (And.intro rfl (And.intro rfl (And.intro rfl trivial)))
set_option maxHeartbeats 4000000 in
set_option maxRecDepth 100000 in
theorem ct_X6_whole_50 {E : EV} (hE : EI E) (hN : 39 ≤ eN E) (F : Nat) {tw : TW} (qT : TO tw.1) (qU : TO tw.2) {x1 : Int32} {v : Int32} {h' : HP} : ∀  (h : HP), f_X6_whole_50 F tw x1  h = some (v, h') → AW E mX6_whole (KM E mX6_whole (some (.int v)) tw h') tw h 50 [some (.ref 0), some (.int x1), none] [] := by
  intro  h hf
  unfold f_X6_whole_50 at hf
  refine aw_aload_n dX6_whole_50 rfl (aw_aload_n dX6_whole_51 rfl (aw_getr fkX6_33 (nl hN rfl) kd_0 (Nat.le_of_ble_eq_true rfl) rfl dX6_whole_52 ?_))
  obtain ⟨v8, h6, c7, hf⟩ := ob_some hf
  refine aw_callVi (N := mX6_ringsInATurn) (As := [.ref 19]) lkX6_188 okX6_ringsInATurn (nl hN rfl) kd_0 rfl (by rfl) (by rfl) (Nat.le_of_ble_eq_true rfl) ry_X6_whole_X6_ringsInATurn dX6_whole_55 (And.intro (Nat.le_refl _) (Nat.le_refl _)) (ct_X6_ringsInATurn hE hN F qT qU (Or.inr rfl) c7) (aw_istore_n dX6_whole_58 (Nat.le_of_ble_eq_true rfl) (aw_iload_n dX6_whole_59 rfl ?_))
  refine aw_if_ne 67 dX6_whole_60 rfl (fun g9 => ?_) (fun g9 => ?_)
  · replace hf := (if_neg g9).symm.trans hf
    refine aw_aload_n dX6_whole_67 rfl ?_
    obtain ⟨v12, h10, c11, hf⟩ := ob_some hf
    cases hf
    exact aw_callVi (N := mX6_allPins) (As := []) lkX6_192 okX6_allPins (nl hN rfl) kd_0 rfl (by rfl) (by rfl) (Nat.le_of_ble_eq_true rfl) ry_X6_whole_X6_allPins dX6_whole_68 (And.intro (Nat.le_refl _) (Nat.le_refl _)) (ct_X6_allPins hE hN F qT qU c11) (aw_iload_n dX6_whole_71 rfl (aw_isub dX6_whole_72 (aw_iret rfl dX6_whole_73)))
  · replace hf := (if_pos g9).symm.trans hf
    cases hf
    exact aw_iload_n dX6_whole_63 rfl (aw_goto 73 dX6_whole_64 rfl (aw_iret rfl dX6_whole_73))
set_option maxHeartbeats 4000000 in
set_option maxRecDepth 100000 in
theorem ct_X6_whole_29 {E : EV} (hE : EI E) (hN : 39 ≤ eN E) (F : Nat) {tw : TW} (qT : TO tw.1) (qU : TO tw.2) {x1 : Int32} {v : Int32} {h' : HP} : ∀ (n : Nat) (x2 : Int32) (h : HP), f_X6_whole_29 F tw x1 n x2 h = some (v, h') → AW E mX6_whole (KM E mX6_whole (some (.int v)) tw h') tw h 29 [some (.ref 0), some (.int x1), some (.int x2)] [] := by
  intro n
  induction n with
  | zero => intro x2 h hf; exact absurd (show (none : Option (Int32 × HP)) = some _ from hf) (fun z => nomatch z)
  | succ n ih =>
    intro x2 h hf
    rw [f_X6_whole_29] at hf
    refine aw_iload_n dX6_whole_29 rfl (aw_bipush (nI 8) dX6_whole_30 kb_8 ?_)
    refine aw_icmp_ge 50 dX6_whole_32 rfl (fun g13 => ?_) (fun g13 => ?_)
    · replace hf := (if_pos g13).symm.trans hf
      exact aw_dk (ct_X6_whole_50 hE hN F qT qU _ hf) (And.intro rfl (And.intro rfl trivial))
    · replace hf := (if_neg g13).symm.trans hf
      refine aw_aload_n dX6_whole_35 rfl (aw_aload_n dX6_whole_36 rfl (aw_getr fkX6_33 (nl hN rfl) kd_0 (Nat.le_of_ble_eq_true rfl) rfl dX6_whole_37 ?_))
      obtain ⟨v16, h14, c15, hf⟩ := ob_some hf
      refine aw_callVi (N := mX6_ringsInATurn) (As := [.ref 19]) lkX6_188 okX6_ringsInATurn (nl hN rfl) kd_0 rfl (by rfl) (by rfl) (Nat.le_of_ble_eq_true rfl) ry_X6_whole_X6_ringsInATurn dX6_whole_40 (And.intro (Nat.le_refl _) (Nat.le_refl _)) (ct_X6_ringsInATurn hE hN F qT qU (Or.inr rfl) c15) (aw_pop dX6_whole_43 rfl (aw_iinc (nI 1) dX6_whole_44 rfl (Nat.le_of_ble_eq_true rfl) ki_1 (aw_goto 29 dX6_whole_47 rfl ?_)))
      exact aw_dk (ih _ _ hf) (And.intro rfl (And.intro rfl (And.intro rfl trivial)))
set_option maxHeartbeats 4000000 in
set_option maxRecDepth 100000 in
theorem ct_X6_whole {E : EV} (hE : EI E) (hN : 39 ≤ eN E) (F : Nat) {tw : TW} (qT : TO tw.1) (qU : TO tw.2) {x1 : Int32} {h : HP} {v : Int32} {h' : HP} (hf : f_X6_whole F tw x1 h = some (v, h')) : CT E mX6_whole tw h [.ref 0, .int x1] (some (.int v)) tw h' := by
  refine CT.of hE (show plainFor yX6_whole = true by decide +kernel) (Nat.le_of_ble_eq_true rfl) 1 ?_
  show AW E mX6_whole (KM E mX6_whole (some (.int v)) tw h') tw h 0 [some (.ref 0), some (.int x1), none] []
  unfold f_X6_whole at hf
  refine aw_iload_n dX6_whole_0 rfl ?_
  refine aw_if_lt 9 dX6_whole_1 rfl (fun g1 => ?_) (fun g1 => ?_)
  · replace hf := (if_pos g1).symm.trans hf
    cases hf
    exact aw_iconst (-1) dX6_whole_9 ki_m1 (aw_iret rfl dX6_whole_10)
  · replace hf := (if_neg g1).symm.trans hf
    refine aw_iload_n dX6_whole_4 rfl (aw_iconst (nI 2) dX6_whole_5 ki_2 ?_)
    refine aw_icmp_le 11 dX6_whole_6 rfl (fun g2 => ?_) (fun g2 => ?_)
    · replace hf := (if_pos g2).symm.trans hf
      refine aw_aload_n dX6_whole_11 rfl (aw_getr fkX6_33 (nl hN rfl) kd_0 (Nat.le_of_ble_eq_true rfl) rfl dX6_whole_12 (aw_aload_n dX6_whole_15 rfl (aw_getr fkX6_29 (nl hN rfl) kd_0 (Nat.le_of_ble_eq_true rfl) rfl dX6_whole_16 ?_)))
      obtain ⟨h3, c4, hf⟩ := obv_some hf
      refine aw_callVv (N := mX0_copy) (As := [.ref 14]) lkX6_185 okX0_copy (nl hN rfl) kd_19 rfl (by rfl) (by rfl) (Nat.le_of_ble_eq_true rfl) ry_X6_whole_X0_copy dX6_whole_19 (And.intro (Nat.le_refl _) (Nat.le_refl _)) (ct_X0_copy hE hN F (Or.inr rfl) (Or.inl rfl) c4) (aw_iload_n dX6_whole_22 rfl (aw_iconst (nI 2) dX6_whole_23 ki_2 ?_))
      refine aw_icmp_ne 50 dX6_whole_24 rfl (fun g5 => ?_) (fun g5 => ?_)
      · replace hf := (if_neg g5).symm.trans hf
        exact aw_dk (ct_X6_whole_50 hE hN F qT qU _ hf) (And.intro rfl (And.intro rfl trivial))
      · replace hf := (if_pos g5).symm.trans hf
        refine aw_iconst (nI 0) dX6_whole_27 ki_0 (aw_istore_n dX6_whole_28 (Nat.le_of_ble_eq_true rfl) ?_)
        exact aw_dk (ct_X6_whole_29 hE hN F qT qU F _ _ hf) (And.intro rfl (And.intro rfl (And.intro rfl trivial)))
    · replace hf := (if_neg g2).symm.trans hf
      cases hf
      exact aw_iconst (-1) dX6_whole_9 ki_m1 (aw_iret rfl dX6_whole_10)
set_option maxHeartbeats 4000000 in
set_option maxRecDepth 100000 in
theorem ct_X6_silence_6 {E : EV} (hE : EI E) (hN : 39 ≤ eN E) (F : Nat) {tw : TW} (qT : TO tw.1) (qU : TO tw.2)  {v : Int32} {h' : HP} : ∀ (n : Nat) (x1 : Int32) (x2 : Int32) (x3 : Int32) (h : HP), f_X6_silence_6 F tw n x1 x2 x3 h = some (v, h') → AW E mX6_silence (KM E mX6_silence (some (.int v)) tw h') tw h 6 [some (.ref 0), some (.int x1), some (.int x2), some (.int x3)] [] := by
  intro n
  induction n with
  | zero => intro x1 x2 x3 h hf; exact absurd (show (none : Option (Int32 × HP)) = some _ from hf) (fun z => nomatch z)
  | succ n ih =>
    intro x1 x2 x3 h hf
    rw [f_X6_silence_6] at hf
    refine aw_iload_n dX6_silence_6 rfl (aw_iconst (nI 2) dX6_silence_7 ki_2 (aw_aload_n dX6_silence_8 rfl (aw_getr fkX6_19 (nl hN rfl) kd_0 (Nat.le_of_ble_eq_true rfl) rfl dX6_silence_9 (aw_geti fkX6_147 (TO.n qT hN) (TO.k qT) (Nat.le_of_ble_eq_true rfl) rfl dX6_silence_12 (aw_imul dX6_silence_15 ?_)))))
    refine aw_icmp_ge 59 dX6_silence_16 rfl (fun g1 => ?_) (fun g1 => ?_)
    · replace hf := (if_pos g1).symm.trans hf
      refine aw_iload_n dX6_silence_59 rfl (aw_aload_n dX6_silence_60 rfl (aw_getr fkX6_19 (nl hN rfl) kd_0 (Nat.le_of_ble_eq_true rfl) rfl dX6_silence_61 (aw_geti fkX6_147 (TO.n qT hN) (TO.k qT) (Nat.le_of_ble_eq_true rfl) rfl dX6_silence_64 ?_)))
      obtain ⟨v4, h2, c3, hf⟩ := ob_some hf
      cases hf
      exact aw_callSi (N := mJ9_min_7cf53) (As := [.int x1, .int (h tw.1 4)]) lkX6_200 okJ9_min_7cf53 (by rfl) (by rfl) (Nat.le_of_ble_eq_true rfl) ry_X6_silence_J9_min_7cf53 dX6_silence_67 (And.intro (Nat.le_refl _) (Nat.le_refl _)) (ct_J9_min_7cf53 hE hN F c3) (aw_iret rfl dX6_silence_70)
    · replace hf := (if_neg g1).symm.trans hf
      refine aw_aload_n dX6_silence_19 rfl (aw_getr fkX6_29 (nl hN rfl) kd_0 (Nat.le_of_ble_eq_true rfl) rfl dX6_silence_20 (aw_getr fkX6_127 (nl hN rfl) kd_14 (Nat.le_of_ble_eq_true rfl) rfl dX6_silence_23 (aw_aload_n dX6_silence_26 rfl (aw_getr fkX6_19 (nl hN rfl) kd_0 (Nat.le_of_ble_eq_true rfl) rfl dX6_silence_27 (aw_iconst (nI 0) dX6_silence_30 ki_0 (aw_iload_n dX6_silence_31 rfl ?_))))))
      obtain ⟨v7, h5, c6, hf⟩ := ob_some hf
      refine aw_callVi (N := mX5_rowBehind) (As := [.int (nI 0), .int x3]) lkX6_168 okX5_rowBehind (TO.n qT hN) (TO.k qT) rfl (by rfl) (by rfl) (Nat.le_of_ble_eq_true rfl) ry_X6_silence_X5_rowBehind dX6_silence_32 (And.intro (Nat.le_refl _) (Nat.le_refl _)) (ct_X5_rowBehind hE hN F qT c6) ?_
      obtain ⟨g8, hf⟩ := ogd hf
      have key12 : AW E mX6_silence (KM E mX6_silence (some (.int v)) tw h') tw h5 46 [some (.ref 0), some (.int x1), some (.int x2), some (.int x3)] [.int (if (h5 15 (ix v7)) = nI 0 then x2 + (nI 1) else (nI 0))] := by
        refine aw_istore_n dX6_silence_46 (Nat.le_of_ble_eq_true rfl) (aw_iload_n dX6_silence_47 rfl (aw_iload_n dX6_silence_48 rfl ?_))
        obtain ⟨v11, h9, c10, hf⟩ := ob_some hf
        refine aw_callSi (N := mJ9_max_7cf53) (As := [.int x1, .int (if (h5 15 (ix v7)) = nI 0 then x2 + (nI 1) else (nI 0))]) lkX6_195 okJ9_max_7cf53 (by rfl) (by rfl) (Nat.le_of_ble_eq_true rfl) ry_X6_silence_J9_max_7cf53 dX6_silence_49 (And.intro (Nat.le_refl _) (Nat.le_refl _)) (ct_J9_max_7cf53 hE hN F c10) (aw_istore_n dX6_silence_52 (Nat.le_of_ble_eq_true rfl) (aw_iinc (nI 1) dX6_silence_53 rfl (Nat.le_of_ble_eq_true rfl) ki_1 (aw_goto 6 dX6_silence_56 rfl ?_)))
        exact aw_dk (ih _ _ _ _ hf) (And.intro rfl (And.intro rfl (And.intro rfl (And.intro rfl trivial))))
      refine aw_iald (nl hN rfl) kd_15 g8 dX6_silence_35 ?_
      refine aw_if_ne 45 dX6_silence_36 rfl (fun g13 => ?_) (fun g13 => ?_)
      · skip
        refine aw_iconst (nI 0) dX6_silence_45 ki_0 ?_
        simp only [if_neg g13] at key12 ⊢
        exact aw_dk key12 (And.intro rfl (And.intro rfl (And.intro rfl (And.intro rfl trivial))))
      · skip
        refine aw_iload_n dX6_silence_39 rfl (aw_iconst (nI 1) dX6_silence_40 ki_1 (aw_iadd dX6_silence_41 (aw_goto 46 dX6_silence_42 rfl ?_)))
        simp only [if_pos g13] at key12 ⊢
        exact aw_dk key12 (And.intro rfl (And.intro rfl (And.intro rfl (And.intro rfl trivial))))
set_option maxHeartbeats 4000000 in
set_option maxRecDepth 100000 in
theorem ct_X6_silence {E : EV} (hE : EI E) (hN : 39 ≤ eN E) (F : Nat) {tw : TW} (qT : TO tw.1) (qU : TO tw.2)  {h : HP} {v : Int32} {h' : HP} (hf : f_X6_silence F tw  h = some (v, h')) : CT E mX6_silence tw h [.ref 0] (some (.int v)) tw h' := by
  refine CT.of hE (show plainFor yX6_silence = true by decide +kernel) (Nat.le_of_ble_eq_true rfl) 3 ?_
  show AW E mX6_silence (KM E mX6_silence (some (.int v)) tw h') tw h 0 [some (.ref 0), none, none, none] []
  unfold f_X6_silence at hf
  refine aw_iconst (nI 0) dX6_silence_0 ki_0 (aw_istore_n dX6_silence_1 (Nat.le_of_ble_eq_true rfl) (aw_iconst (nI 0) dX6_silence_2 ki_0 (aw_istore_n dX6_silence_3 (Nat.le_of_ble_eq_true rfl) (aw_iconst (nI 0) dX6_silence_4 ki_0 (aw_istore_n dX6_silence_5 (Nat.le_of_ble_eq_true rfl) ?_)))))
  exact aw_dk (ct_X6_silence_6 hE hN F qT qU F _ _ _ _ hf) (And.intro rfl (And.intro rfl (And.intro rfl (And.intro rfl trivial))))
set_option maxHeartbeats 4000000 in
set_option maxRecDepth 100000 in
theorem ct_X6_comesAgainAfter_2 {E : EV} (hE : EI E) (hN : 39 ≤ eN E) (F : Nat) {tw : TW} (qT : TO tw.1) (qU : TO tw.2) {x1 : Int32} {v : Int32} {h' : HP} : ∀ (n : Nat) (x2 : Int32) (h : HP), f_X6_comesAgainAfter_2 F tw x1 n x2 h = some (v, h') → AW E mX6_comesAgainAfter (KM E mX6_comesAgainAfter (some (.int v)) tw h') tw h 2 [some (.ref 0), some (.int x1), some (.int x2)] [] := by
  intro n
  induction n with
  | zero => intro x2 h hf; exact absurd (show (none : Option (Int32 × HP)) = some _ from hf) (fun z => nomatch z)
  | succ n ih =>
    intro x2 h hf
    rw [f_X6_comesAgainAfter_2] at hf
    refine aw_iload_n dX6_comesAgainAfter_2 rfl (aw_aload_n dX6_comesAgainAfter_3 rfl (aw_getr fkX6_19 (nl hN rfl) kd_0 (Nat.le_of_ble_eq_true rfl) rfl dX6_comesAgainAfter_4 (aw_geti fkX6_147 (TO.n qT hN) (TO.k qT) (Nat.le_of_ble_eq_true rfl) rfl dX6_comesAgainAfter_7 ?_)))
    refine aw_icmp_ge 50 dX6_comesAgainAfter_10 rfl (fun g1 => ?_) (fun g1 => ?_)
    · replace hf := (if_pos g1).symm.trans hf
      cases hf
      exact aw_iconst (nI 1) dX6_comesAgainAfter_50 ki_1 (aw_zret rfl (Or.inr rfl) dX6_comesAgainAfter_51)
    · replace hf := (if_neg g1).symm.trans hf
      refine aw_aload_n dX6_comesAgainAfter_13 rfl (aw_getr fkX6_29 (nl hN rfl) kd_0 (Nat.le_of_ble_eq_true rfl) rfl dX6_comesAgainAfter_14 (aw_getr fkX6_127 (nl hN rfl) kd_14 (Nat.le_of_ble_eq_true rfl) rfl dX6_comesAgainAfter_17 (aw_iload_n dX6_comesAgainAfter_20 rfl ?_)))
      obtain ⟨g2, hf⟩ := ogd hf
      refine aw_iald (nl hN rfl) kd_15 g2 dX6_comesAgainAfter_21 (aw_aload_n dX6_comesAgainAfter_22 rfl (aw_getr fkX6_29 (nl hN rfl) kd_0 (Nat.le_of_ble_eq_true rfl) rfl dX6_comesAgainAfter_23 (aw_getr fkX6_127 (nl hN rfl) kd_14 (Nat.le_of_ble_eq_true rfl) rfl dX6_comesAgainAfter_26 (aw_aload_n dX6_comesAgainAfter_29 rfl (aw_getr fkX6_19 (nl hN rfl) kd_0 (Nat.le_of_ble_eq_true rfl) rfl dX6_comesAgainAfter_30 (aw_iload_n dX6_comesAgainAfter_33 rfl (aw_iload_n dX6_comesAgainAfter_34 rfl ?_)))))))
      obtain ⟨v5, h3, c4, hf⟩ := ob_some hf
      refine aw_callVi (N := mX5_rowBehind) (As := [.int x2, .int x1]) lkX6_168 okX5_rowBehind (TO.n qT hN) (TO.k qT) rfl (by rfl) (by rfl) (Nat.le_of_ble_eq_true rfl) ry_X6_comesAgainAfter_X5_rowBehind dX6_comesAgainAfter_35 (And.intro (Nat.le_refl _) (Nat.le_refl _)) (ct_X5_rowBehind hE hN F qT c4) ?_
      obtain ⟨g6, hf⟩ := ogd hf
      refine aw_iald (nl hN rfl) kd_15 g6 dX6_comesAgainAfter_38 ?_
      refine aw_icmp_eq 44 dX6_comesAgainAfter_39 rfl (fun g7 => ?_) (fun g7 => ?_)
      · replace hf := (if_pos g7).symm.trans hf
        refine aw_iinc (nI 1) dX6_comesAgainAfter_44 rfl (Nat.le_of_ble_eq_true rfl) ki_1 (aw_goto 2 dX6_comesAgainAfter_47 rfl ?_)
        exact aw_dk (ih _ _ hf) (And.intro rfl (And.intro rfl (And.intro rfl trivial)))
      · replace hf := (if_neg g7).symm.trans hf
        cases hf
        exact aw_iconst (nI 0) dX6_comesAgainAfter_42 ki_0 (aw_zret rfl (Or.inl rfl) dX6_comesAgainAfter_43)
set_option maxHeartbeats 4000000 in
set_option maxRecDepth 100000 in
theorem ct_X6_comesAgainAfter {E : EV} (hE : EI E) (hN : 39 ≤ eN E) (F : Nat) {tw : TW} (qT : TO tw.1) (qU : TO tw.2) {x1 : Int32} {h : HP} {v : Int32} {h' : HP} (hf : f_X6_comesAgainAfter F tw x1 h = some (v, h')) : CT E mX6_comesAgainAfter tw h [.ref 0, .int x1] (some (.int v)) tw h' := by
  refine CT.of hE (show plainFor yX6_comesAgainAfter = true by decide +kernel) (Nat.le_of_ble_eq_true rfl) 1 ?_
  show AW E mX6_comesAgainAfter (KM E mX6_comesAgainAfter (some (.int v)) tw h') tw h 0 [some (.ref 0), some (.int x1), none] []
  unfold f_X6_comesAgainAfter at hf
  refine aw_iconst (nI 0) dX6_comesAgainAfter_0 ki_0 (aw_istore_n dX6_comesAgainAfter_1 (Nat.le_of_ble_eq_true rfl) ?_)
  exact aw_dk (ct_X6_comesAgainAfter_2 hE hN F qT qU F _ _ hf) (And.intro rfl (And.intro rfl (And.intro rfl trivial)))
set_option maxHeartbeats 4000000 in
set_option maxRecDepth 100000 in
theorem ct_X6_again_2 {E : EV} (hE : EI E) (hN : 39 ≤ eN E) (F : Nat) {tw : TW} (qT : TO tw.1) (qU : TO tw.2)  {v : Int32} {h' : HP} : ∀ (n : Nat) (x1 : Int32) (h : HP), f_X6_again_2 F tw n x1 h = some (v, h') → AW E mX6_again (KM E mX6_again (some (.int v)) tw h') tw h 2 [some (.ref 0), some (.int x1)] [] := by
  intro n
  induction n with
  | zero => intro x1 h hf; exact absurd (show (none : Option (Int32 × HP)) = some _ from hf) (fun z => nomatch z)
  | succ n ih =>
    intro x1 h hf
    rw [f_X6_again_2] at hf
    refine aw_iload_n dX6_again_2 rfl (aw_aload_n dX6_again_3 rfl (aw_getr fkX6_19 (nl hN rfl) kd_0 (Nat.le_of_ble_eq_true rfl) rfl dX6_again_4 (aw_geti fkX6_147 (TO.n qT hN) (TO.k qT) (Nat.le_of_ble_eq_true rfl) rfl dX6_again_7 ?_)))
    refine aw_icmp_ge 29 dX6_again_10 rfl (fun g1 => ?_) (fun g1 => ?_)
    · replace hf := (if_pos g1).symm.trans hf
      cases hf
      exact aw_aload_n dX6_again_29 rfl (aw_getr fkX6_19 (nl hN rfl) kd_0 (Nat.le_of_ble_eq_true rfl) rfl dX6_again_30 (aw_geti fkX6_147 (TO.n qT hN) (TO.k qT) (Nat.le_of_ble_eq_true rfl) rfl dX6_again_33 (aw_iret rfl dX6_again_36)))
    · replace hf := (if_neg g1).symm.trans hf
      refine aw_aload_n dX6_again_13 rfl (aw_iload_n dX6_again_14 rfl ?_)
      obtain ⟨v4, h2, c3, hf⟩ := ob_some hf
      refine aw_callVi (N := mX6_comesAgainAfter) (As := [.int x1]) lkX6_203 okX6_comesAgainAfter (nl hN rfl) kd_0 rfl (by rfl) (by rfl) (Nat.le_of_ble_eq_true rfl) ry_X6_again_X6_comesAgainAfter dX6_again_15 (And.intro (Nat.le_refl _) (Nat.le_refl _)) (ct_X6_comesAgainAfter hE hN F qT qU c3) ?_
      refine aw_if_eq 23 dX6_again_18 rfl (fun g5 => ?_) (fun g5 => ?_)
      · replace hf := (if_pos g5).symm.trans hf
        refine aw_iinc (nI 1) dX6_again_23 rfl (Nat.le_of_ble_eq_true rfl) ki_1 (aw_goto 2 dX6_again_26 rfl ?_)
        exact aw_dk (ih _ _ hf) (And.intro rfl (And.intro rfl trivial))
      · replace hf := (if_neg g5).symm.trans hf
        cases hf
        exact aw_iload_n dX6_again_21 rfl (aw_iret rfl dX6_again_22)
set_option maxHeartbeats 4000000 in
set_option maxRecDepth 100000 in
theorem ct_X6_again {E : EV} (hE : EI E) (hN : 39 ≤ eN E) (F : Nat) {tw : TW} (qT : TO tw.1) (qU : TO tw.2)  {h : HP} {v : Int32} {h' : HP} (hf : f_X6_again F tw  h = some (v, h')) : CT E mX6_again tw h [.ref 0] (some (.int v)) tw h' := by
  refine CT.of hE (show plainFor yX6_again = true by decide +kernel) (Nat.le_of_ble_eq_true rfl) 1 ?_
  show AW E mX6_again (KM E mX6_again (some (.int v)) tw h') tw h 0 [some (.ref 0), none] []
  unfold f_X6_again at hf
  refine aw_iconst (nI 1) dX6_again_0 ki_1 (aw_istore_n dX6_again_1 (Nat.le_of_ble_eq_true rfl) ?_)
  exact aw_dk (ct_X6_again_2 hE hN F qT qU F _ _ hf) (And.intro rfl (And.intro rfl trivial))
set_option maxHeartbeats 4000000 in
set_option maxRecDepth 100000 in
theorem ct_X6_illTwos_37 {E : EV} (hE : EI E) (hN : 39 ≤ eN E) (F : Nat) {tw : TW} (qT : TO tw.1) (qU : TO tw.2) {x1 : Int32} {v : Int32} {h' : HP} {k_4 : Int32 → Int32 → HP → Option (Int32 × HP)} (hk_4 : ∀ (x2 : Int32) (x3 : Int32) (h : HP), k_4 x2 x3 h = some (v, h') → AW E mX6_illTwos (KM E mX6_illTwos (some (.int v)) tw h') tw h 4 [some (.ref 0), some (.int x1), some (.int x2), some (.int x3), none, none] []) : ∀ (n : Nat) (x2 : Int32) (x3 : Int32) (x4 : Int32) (x5 : Int32) (h : HP), f_X6_illTwos_37 F tw x1 k_4 n x2 x3 x4 x5 h = some (v, h') → AW E mX6_illTwos (KM E mX6_illTwos (some (.int v)) tw h') tw h 37 [some (.ref 0), some (.int x1), some (.int x2), some (.int x3), some (.int x4), some (.int x5)] [] := by
  intro n
  induction n with
  | zero => intro x2 x3 x4 x5 h hf; exact absurd (show (none : Option (Int32 × HP)) = some _ from hf) (fun z => nomatch z)
  | succ n ih =>
    intro x2 x3 x4 x5 h hf
    rw [f_X6_illTwos_37] at hf
    refine aw_iload dX6_illTwos_37 rfl (aw_aload_n dX6_illTwos_39 rfl (aw_getr fkX6_19 (nl hN rfl) kd_0 (Nat.le_of_ble_eq_true rfl) rfl dX6_illTwos_40 (aw_geti fkX6_144 (TO.n qT hN) (TO.k qT) (Nat.le_of_ble_eq_true rfl) rfl dX6_illTwos_43 ?_)))
    refine aw_icmp_ge 97 dX6_illTwos_46 rfl (fun g6 => ?_) (fun g6 => ?_)
    · replace hf := (if_pos g6).symm.trans hf
      refine aw_iinc (nI 1) dX6_illTwos_97 rfl (Nat.le_of_ble_eq_true rfl) ki_1 (aw_goto 4 dX6_illTwos_100 rfl ?_)
      exact aw_dk (hk_4 _ _ _ hf) (And.intro rfl (And.intro rfl (And.intro rfl (And.intro rfl trivial))))
    · replace hf := (if_neg g6).symm.trans hf
      refine aw_iload dX6_illTwos_49 rfl ?_
      refine aw_if_eq 97 dX6_illTwos_51 rfl (fun g7 => ?_) (fun g7 => ?_)
      · replace hf := (if_pos g7).symm.trans hf
        refine aw_iinc (nI 1) dX6_illTwos_97 rfl (Nat.le_of_ble_eq_true rfl) ki_1 (aw_goto 4 dX6_illTwos_100 rfl ?_)
        exact aw_dk (hk_4 _ _ _ hf) (And.intro rfl (And.intro rfl (And.intro rfl (And.intro rfl trivial))))
      · replace hf := (if_neg g7).symm.trans hf
        refine aw_aload_n dX6_illTwos_54 rfl (aw_getr fkX6_29 (nl hN rfl) kd_0 (Nat.le_of_ble_eq_true rfl) rfl dX6_illTwos_55 (aw_getr fkX6_127 (nl hN rfl) kd_14 (Nat.le_of_ble_eq_true rfl) rfl dX6_illTwos_58 (aw_iload_n dX6_illTwos_61 rfl ?_)))
        obtain ⟨g8, hf⟩ := ogd hf
        refine aw_iald (nl hN rfl) kd_15 g8 dX6_illTwos_62 (aw_iload dX6_illTwos_63 rfl (aw_ishr dX6_illTwos_65 (aw_iconst (nI 1) dX6_illTwos_66 ki_1 (aw_iand dX6_illTwos_67 (aw_iconst (nI 1) dX6_illTwos_68 ki_1 ?_)))))
        refine aw_icmp_ne 91 dX6_illTwos_69 rfl (fun g9 => ?_) (fun g9 => ?_)
        · replace hf := (if_neg g9).symm.trans hf
          refine aw_iinc (nI 1) dX6_illTwos_91 rfl (Nat.le_of_ble_eq_true rfl) ki_1 (aw_goto 37 dX6_illTwos_94 rfl ?_)
          exact aw_dk (ih _ _ _ _ _ hf) (And.intro rfl (And.intro rfl (And.intro rfl (And.intro rfl (And.intro rfl (And.intro rfl trivial))))))
        · replace hf := (if_pos g9).symm.trans hf
          refine aw_iload_n dX6_illTwos_72 rfl (aw_aload_n dX6_illTwos_73 rfl (aw_getr fkX6_19 (nl hN rfl) kd_0 (Nat.le_of_ble_eq_true rfl) rfl dX6_illTwos_74 (aw_getr fkX6_209 (TO.n qT hN) (TO.k qT) (Nat.le_of_ble_eq_true rfl) rfl dX6_illTwos_77 (aw_iload dX6_illTwos_80 rfl ?_))))
          obtain ⟨g10, hf⟩ := ogd hf
          refine aw_iald (TO.n3 qT hN) (TO.k3 qT) g10 dX6_illTwos_82 (aw_iload dX6_illTwos_83 rfl (aw_iand dX6_illTwos_85 ?_))
          obtain ⟨v13, h11, c12, hf⟩ := ob_some hf
          refine aw_callSi (N := mJ6_bitCount_0f7a4) (As := [.int ((h (tw.1 + 3) (ix x5)) &&& x4)]) lkX6_163 okJ6_bitCount_0f7a4 (by rfl) (by rfl) (Nat.le_of_ble_eq_true rfl) ry_X6_illTwos_J6_bitCount_0f7a4 dX6_illTwos_86 (And.intro (Nat.le_refl _) (Nat.le_refl _)) (ct_J6_bitCount_0f7a4 hE hN F c12) (aw_iadd dX6_illTwos_89 (aw_istore_n dX6_illTwos_90 (Nat.le_of_ble_eq_true rfl) (aw_iinc (nI 1) dX6_illTwos_91 rfl (Nat.le_of_ble_eq_true rfl) ki_1 (aw_goto 37 dX6_illTwos_94 rfl ?_))))
          exact aw_dk (ih _ _ _ _ _ hf) (And.intro rfl (And.intro rfl (And.intro rfl (And.intro rfl (And.intro rfl (And.intro rfl trivial))))))
set_option maxHeartbeats 4000000 in
set_option maxRecDepth 100000 in
theorem ct_X6_illTwos_4 {E : EV} (hE : EI E) (hN : 39 ≤ eN E) (F : Nat) {tw : TW} (qT : TO tw.1) (qU : TO tw.2) {x1 : Int32} {v : Int32} {h' : HP} : ∀ (n : Nat) (x2 : Int32) (x3 : Int32) (h : HP), f_X6_illTwos_4 F tw x1 n x2 x3 h = some (v, h') → AW E mX6_illTwos (KM E mX6_illTwos (some (.int v)) tw h') tw h 4 [some (.ref 0), some (.int x1), some (.int x2), some (.int x3), none, none] [] := by
  intro n
  induction n with
  | zero => intro x2 x3 h hf; exact absurd (show (none : Option (Int32 × HP)) = some _ from hf) (fun z => nomatch z)
  | succ n ih =>
    intro x2 x3 h hf
    rw [f_X6_illTwos_4] at hf
    refine aw_iload_n dX6_illTwos_4 rfl (aw_aload_n dX6_illTwos_5 rfl (aw_getr fkX6_19 (nl hN rfl) kd_0 (Nat.le_of_ble_eq_true rfl) rfl dX6_illTwos_6 (aw_geti fkX6_147 (TO.n qT hN) (TO.k qT) (Nat.le_of_ble_eq_true rfl) rfl dX6_illTwos_9 ?_)))
    refine aw_icmp_ge 103 dX6_illTwos_12 rfl (fun g1 => ?_) (fun g1 => ?_)
    · replace hf := (if_pos g1).symm.trans hf
      cases hf
      exact aw_iload_n dX6_illTwos_103 rfl (aw_iret rfl dX6_illTwos_104)
    · replace hf := (if_neg g1).symm.trans hf
      refine aw_aload_n dX6_illTwos_15 rfl (aw_getr fkX6_29 (nl hN rfl) kd_0 (Nat.le_of_ble_eq_true rfl) rfl dX6_illTwos_16 (aw_getr fkX6_127 (nl hN rfl) kd_14 (Nat.le_of_ble_eq_true rfl) rfl dX6_illTwos_19 (aw_aload_n dX6_illTwos_22 rfl (aw_getr fkX6_19 (nl hN rfl) kd_0 (Nat.le_of_ble_eq_true rfl) rfl dX6_illTwos_23 (aw_iload_n dX6_illTwos_26 rfl (aw_iload_n dX6_illTwos_27 rfl ?_))))))
      obtain ⟨v4, h2, c3, hf⟩ := ob_some hf
      refine aw_callVi (N := mX5_rowBehind) (As := [.int x3, .int x1]) lkX6_168 okX5_rowBehind (TO.n qT hN) (TO.k qT) rfl (by rfl) (by rfl) (Nat.le_of_ble_eq_true rfl) ry_X6_illTwos_X5_rowBehind dX6_illTwos_28 (And.intro (Nat.le_refl _) (Nat.le_refl _)) (ct_X5_rowBehind hE hN F qT c3) ?_
      obtain ⟨g5, hf⟩ := ogd hf
      refine aw_iald (nl hN rfl) kd_15 g5 dX6_illTwos_31 (aw_istore dX6_illTwos_32 (Nat.le_of_ble_eq_true rfl) (aw_iconst (nI 0) dX6_illTwos_34 ki_0 (aw_istore dX6_illTwos_35 (Nat.le_of_ble_eq_true rfl) ?_)))
      exact aw_dk (ct_X6_illTwos_37 hE hN F qT qU ih F _ _ _ _ _ hf) (And.intro rfl (And.intro rfl (And.intro rfl (And.intro rfl (And.intro rfl (And.intro rfl trivial))))))
set_option maxHeartbeats 4000000 in
set_option maxRecDepth 100000 in
theorem ct_X6_illTwos {E : EV} (hE : EI E) (hN : 39 ≤ eN E) (F : Nat) {tw : TW} (qT : TO tw.1) (qU : TO tw.2) {x1 : Int32} {h : HP} {v : Int32} {h' : HP} (hf : f_X6_illTwos F tw x1 h = some (v, h')) : CT E mX6_illTwos tw h [.ref 0, .int x1] (some (.int v)) tw h' := by
  refine CT.of hE (show plainFor yX6_illTwos = true by decide +kernel) (Nat.le_of_ble_eq_true rfl) 4 ?_
  show AW E mX6_illTwos (KM E mX6_illTwos (some (.int v)) tw h') tw h 0 [some (.ref 0), some (.int x1), none, none, none, none] []
  unfold f_X6_illTwos at hf
  refine aw_iconst (nI 0) dX6_illTwos_0 ki_0 (aw_istore_n dX6_illTwos_1 (Nat.le_of_ble_eq_true rfl) (aw_iconst (nI 0) dX6_illTwos_2 ki_0 (aw_istore_n dX6_illTwos_3 (Nat.le_of_ble_eq_true rfl) ?_)))
  exact aw_dk (ct_X6_illTwos_4 hE hN F qT qU F _ _ _ hf) (And.intro rfl (And.intro rfl (And.intro rfl (And.intro rfl trivial))))
set_option maxHeartbeats 4000000 in
set_option maxRecDepth 100000 in
theorem ct_X6_harsh {E : EV} (hE : EI E) (hN : 39 ≤ eN E) (F : Nat) {tw : TW} (qT : TO tw.1) (qU : TO tw.2)  {h : HP} {v : Int32} {h' : HP} (hf : f_X6_harsh F tw  h = some (v, h')) : CT E mX6_harsh tw h [.ref 0] (some (.int v)) tw h' := by
  refine CT.of hE (show plainFor yX6_harsh = true by decide +kernel) (Nat.le_of_ble_eq_true rfl) 0 ?_
  show AW E mX6_harsh (KM E mX6_harsh (some (.int v)) tw h') tw h 0 [some (.ref 0)] []
  unfold f_X6_harsh at hf
  refine aw_aload_n dX6_harsh_0 rfl (aw_iconst (nI 0) dX6_harsh_1 ki_0 ?_)
  obtain ⟨v3, h1, c2, hf⟩ := ob_some hf
  cases hf
  exact aw_callVi (N := mX6_illTwos) (As := [.int (nI 0)]) lkX6_206 okX6_illTwos (nl hN rfl) kd_0 rfl (by rfl) (by rfl) (Nat.le_of_ble_eq_true rfl) ry_X6_harsh_X6_illTwos dX6_harsh_2 (And.intro (Nat.le_refl _) (Nat.le_refl _)) (ct_X6_illTwos hE hN F qT qU c2) (aw_iconst (nI 2) dX6_harsh_5 ki_2 (aw_idiv (by decide) dX6_harsh_6 (aw_iret rfl dX6_harsh_7)))
set_option maxHeartbeats 4000000 in
set_option maxRecDepth 100000 in
theorem ct_X6_canon_22 {E : EV} (hE : EI E) (hN : 39 ≤ eN E) (F : Nat) {tw : TW} (qT : TO tw.1) (qU : TO tw.2) {x1 : Int32} {v : Int32} {h' : HP} : ∀ (n : Nat) (x2 : Int32) (x3 : Int32) (x4 : Int32) (h : HP), f_X6_canon_22 F tw x1 n x2 x3 x4 h = some (v, h') → AW E mX6_canon (KM E mX6_canon (some (.int v)) tw h') tw h 22 [some (.ref 0), some (.int x1), some (.int x2), some (.int x3), some (.int x4), none] [] := by
  intro n
  induction n with
  | zero => intro x2 x3 x4 h hf; exact absurd (show (none : Option (Int32 × HP)) = some _ from hf) (fun z => nomatch z)
  | succ n ih =>
    intro x2 x3 x4 h hf
    rw [f_X6_canon_22] at hf
    refine aw_iload dX6_canon_22 rfl (aw_aload_n dX6_canon_24 rfl (aw_getr fkX6_19 (nl hN rfl) kd_0 (Nat.le_of_ble_eq_true rfl) rfl dX6_canon_25 (aw_geti fkX6_147 (TO.n qT hN) (TO.k qT) (Nat.le_of_ble_eq_true rfl) rfl dX6_canon_28 ?_)))
    refine aw_icmp_ge 60 dX6_canon_31 rfl (fun g6 => ?_) (fun g6 => ?_)
    · replace hf := (if_pos g6).symm.trans hf
      refine aw_iload_n dX6_canon_60 rfl ?_
      refine aw_if_ne 68 dX6_canon_61 rfl (fun g7 => ?_) (fun g7 => ?_)
      · replace hf := (if_neg g7).symm.trans hf
        cases hf
        exact aw_iload_n dX6_canon_68 rfl (aw_iret rfl dX6_canon_69)
      · replace hf := (if_pos g7).symm.trans hf
        cases hf
        exact aw_iload_n dX6_canon_64 rfl (aw_goto 69 dX6_canon_65 rfl (aw_iret rfl dX6_canon_69))
    · replace hf := (if_neg g6).symm.trans hf
      refine aw_aload_n dX6_canon_34 rfl (aw_iload dX6_canon_35 rfl ?_)
      obtain ⟨v10, h8, c9, hf⟩ := ob_some hf
      have key11 : AW E mX6_canon (KM E mX6_canon (some (.int v)) tw h') tw h8 54 [some (.ref 0), some (.int x1), some (.int (if x3 ≤ v10 then x2 else x4)), some (.int (if x3 ≤ v10 then x3 else v10)), some (.int x4), some (.int v10)] [] := by
        refine aw_iinc (nI 1) dX6_canon_54 rfl (Nat.le_of_ble_eq_true rfl) ki_1 (aw_goto 22 dX6_canon_57 rfl ?_)
        exact aw_dk (ih _ _ _ _ hf) (And.intro rfl (And.intro rfl (And.intro rfl (And.intro rfl (And.intro rfl trivial)))))
      refine aw_callVi (N := mX6_illTwos) (As := [.int x4]) lkX6_206 okX6_illTwos (nl hN rfl) kd_0 rfl (by rfl) (by rfl) (Nat.le_of_ble_eq_true rfl) ry_X6_canon_X6_illTwos dX6_canon_37 (And.intro (Nat.le_refl _) (Nat.le_refl _)) (ct_X6_illTwos hE hN F qT qU c9) (aw_istore dX6_canon_40 (Nat.le_of_ble_eq_true rfl) (aw_iload dX6_canon_42 rfl (aw_iload_n dX6_canon_44 rfl ?_)))
      refine aw_icmp_ge 54 dX6_canon_45 rfl (fun g12 => ?_) (fun g12 => ?_)
      · skip
        simp only [if_pos g12] at key11 ⊢
        exact aw_dk key11 (And.intro rfl (And.intro rfl (And.intro rfl (And.intro rfl (And.intro rfl (And.intro rfl trivial))))))
      · skip
        refine aw_iload dX6_canon_48 rfl (aw_istore_n dX6_canon_50 (Nat.le_of_ble_eq_true rfl) (aw_iload dX6_canon_51 rfl (aw_istore_n dX6_canon_53 (Nat.le_of_ble_eq_true rfl) ?_)))
        simp only [if_neg g12] at key11 ⊢
        exact aw_dk key11 (And.intro rfl (And.intro rfl (And.intro rfl (And.intro rfl (And.intro rfl (And.intro rfl trivial))))))
set_option maxHeartbeats 4000000 in
set_option maxRecDepth 100000 in
theorem ct_X6_canon {E : EV} (hE : EI E) (hN : 39 ≤ eN E) (F : Nat) {tw : TW} (qT : TO tw.1) (qU : TO tw.2) {x1 : Int32} {h : HP} {v : Int32} {h' : HP} (hf : f_X6_canon F tw x1 h = some (v, h')) : CT E mX6_canon tw h [.ref 0, .int x1] (some (.int v)) tw h' := by
  refine CT.of hE (show plainFor yX6_canon = true by decide +kernel) (Nat.le_of_ble_eq_true rfl) 4 ?_
  show AW E mX6_canon (KM E mX6_canon (some (.int v)) tw h') tw h 0 [some (.ref 0), some (.int x1), none, none, none, none] []
  unfold f_X6_canon at hf
  refine aw_iload_n dX6_canon_0 rfl ?_
  refine aw_if_lt 9 dX6_canon_1 rfl (fun g1 => ?_) (fun g1 => ?_)
  · replace hf := (if_pos g1).symm.trans hf
    cases hf
    exact aw_iconst (-1) dX6_canon_9 ki_m1 (aw_iret rfl dX6_canon_10)
  · replace hf := (if_neg g1).symm.trans hf
    refine aw_iload_n dX6_canon_4 rfl (aw_iconst (nI 1) dX6_canon_5 ki_1 ?_)
    refine aw_icmp_le 11 dX6_canon_6 rfl (fun g2 => ?_) (fun g2 => ?_)
    · replace hf := (if_pos g2).symm.trans hf
      refine aw_iconst (nI 1) dX6_canon_11 ki_1 (aw_istore_n dX6_canon_12 (Nat.le_of_ble_eq_true rfl) (aw_aload_n dX6_canon_13 rfl (aw_iconst (nI 1) dX6_canon_14 ki_1 ?_)))
      obtain ⟨v5, h3, c4, hf⟩ := ob_some hf
      refine aw_callVi (N := mX6_illTwos) (As := [.int (nI 1)]) lkX6_206 okX6_illTwos (nl hN rfl) kd_0 rfl (by rfl) (by rfl) (Nat.le_of_ble_eq_true rfl) ry_X6_canon_X6_illTwos dX6_canon_15 (And.intro (Nat.le_refl _) (Nat.le_refl _)) (ct_X6_illTwos hE hN F qT qU c4) (aw_istore_n dX6_canon_18 (Nat.le_of_ble_eq_true rfl) (aw_iconst (nI 2) dX6_canon_19 ki_2 (aw_istore dX6_canon_20 (Nat.le_of_ble_eq_true rfl) ?_)))
      exact aw_dk (ct_X6_canon_22 hE hN F qT qU F _ _ _ _ hf) (And.intro rfl (And.intro rfl (And.intro rfl (And.intro rfl (And.intro rfl trivial)))))
    · replace hf := (if_neg g2).symm.trans hf
      cases hf
      exact aw_iconst (-1) dX6_canon_9 ki_m1 (aw_iret rfl dX6_canon_10)
set_option maxHeartbeats 4000000 in
set_option maxRecDepth 100000 in
theorem ct_X6_want {E : EV} (hE : EI E) (hN : 39 ≤ eN E) (F : Nat) {tw : TW} (qT : TO tw.1) (qU : TO tw.2) {x1 : Int32} {x2 : Int32} {h : HP} {v : Int32} {h' : HP} (hf : f_X6_want F tw x1 x2 h = some (v, h')) : CT E mX6_want tw h [.ref 0, .int x1, .int x2] (some (.int v)) tw h' := by
  refine CT.of hE (show plainFor yX6_want = true by decide +kernel) (Nat.le_of_ble_eq_true rfl) 1 ?_
  show AW E mX6_want (KM E mX6_want (some (.int v)) tw h') tw h 0 [some (.ref 0), some (.int x1), some (.int x2), none] []
  unfold f_X6_want at hf
  refine aw_aload_n dX6_want_0 rfl (aw_iload_n dX6_want_1 rfl ?_)
  obtain ⟨v3, h1, c2, hf⟩ := ob_some hf
  refine aw_callVi (N := mX6_isRow) (As := [.int x1]) lkX6_124 okX6_isRow (nl hN rfl) kd_0 rfl (by rfl) (by rfl) (Nat.le_of_ble_eq_true rfl) ry_X6_want_X6_isRow dX6_want_2 (And.intro (Nat.le_refl _) (Nat.le_refl _)) (ct_X6_isRow hE hN F qT qU c2) ?_
  refine aw_if_eq 16 dX6_want_5 rfl (fun g4 => ?_) (fun g4 => ?_)
  · replace hf := (if_pos g4).symm.trans hf
    cases hf
    exact aw_iconst (-1) dX6_want_16 ki_m1 (aw_iret rfl dX6_want_17)
  · replace hf := (if_neg g4).symm.trans hf
    refine aw_aload_n dX6_want_8 rfl (aw_iload_n dX6_want_9 rfl ?_)
    obtain ⟨v7, h5, c6, hf⟩ := ob_some hf
    refine aw_callVi (N := mX6_isSet) (As := [.int x2]) lkX6_212 okX6_isSet (nl hN rfl) kd_0 rfl (by rfl) (by rfl) (Nat.le_of_ble_eq_true rfl) ry_X6_want_X6_isSet dX6_want_10 (And.intro (Nat.le_refl _) (Nat.le_refl _)) (ct_X6_isSet hE hN F qT qU c6) ?_
    refine aw_if_ne 18 dX6_want_13 rfl (fun g8 => ?_) (fun g8 => ?_)
    · replace hf := (if_neg g8).symm.trans hf
      refine aw_aload_n dX6_want_18 rfl (aw_getr fkX6_48 (nl hN rfl) kd_0 (Nat.le_of_ble_eq_true rfl) rfl dX6_want_19 (aw_iload_n dX6_want_22 rfl ?_))
      obtain ⟨g9, hf⟩ := ogd hf
      cases hf
      exact aw_iald (nl hN rfl) kd_28 g9 dX6_want_23 (aw_istore_n dX6_want_24 (Nat.le_of_ble_eq_true rfl) (aw_aload_n dX6_want_25 rfl (aw_getr fkX6_48 (nl hN rfl) kd_0 (Nat.le_of_ble_eq_true rfl) rfl dX6_want_26 (aw_iload_n dX6_want_29 rfl (aw_iload_n dX6_want_30 rfl (aw_iast (nl hN rfl) kd_28 g9 dX6_want_31 (aw_iload_n dX6_want_32 rfl (aw_iret rfl dX6_want_33))))))))
    · replace hf := (if_pos g8).symm.trans hf
      cases hf
      exact aw_iconst (-1) dX6_want_16 ki_m1 (aw_iret rfl dX6_want_17)
set_option maxHeartbeats 4000000 in
set_option maxRecDepth 100000 in
theorem ct_X6_changesIfShifted_4 {E : EV} (hE : EI E) (hN : 39 ≤ eN E) (F : Nat) {tw : TW} (qT : TO tw.1) (qU : TO tw.2) {x1 : Int32} {v : Int32} {h' : HP} : ∀ (n : Nat) (x2 : Int32) (x3 : Int32) (h : HP), f_X6_changesIfShifted_4 F tw x1 n x2 x3 h = some (v, h') → AW E mX6_changesIfShifted (KM E mX6_changesIfShifted (some (.int v)) tw h') tw h 4 [some (.ref 0), some (.int x1), some (.int x2), some (.int x3)] [] := by
  intro n
  induction n with
  | zero => intro x2 x3 h hf; exact absurd (show (none : Option (Int32 × HP)) = some _ from hf) (fun z => nomatch z)
  | succ n ih =>
    intro x2 x3 h hf
    rw [f_X6_changesIfShifted_4] at hf
    refine aw_iload_n dX6_changesIfShifted_4 rfl (aw_aload_n dX6_changesIfShifted_5 rfl (aw_getr fkX6_19 (nl hN rfl) kd_0 (Nat.le_of_ble_eq_true rfl) rfl dX6_changesIfShifted_6 (aw_geti fkX6_147 (TO.n qT hN) (TO.k qT) (Nat.le_of_ble_eq_true rfl) rfl dX6_changesIfShifted_9 ?_)))
    refine aw_icmp_ge 51 dX6_changesIfShifted_12 rfl (fun g1 => ?_) (fun g1 => ?_)
    · replace hf := (if_pos g1).symm.trans hf
      cases hf
      exact aw_iload_n dX6_changesIfShifted_51 rfl (aw_iret rfl dX6_changesIfShifted_52)
    · replace hf := (if_neg g1).symm.trans hf
      refine aw_iload_n dX6_changesIfShifted_15 rfl (aw_aload_n dX6_changesIfShifted_16 rfl (aw_getr fkX6_29 (nl hN rfl) kd_0 (Nat.le_of_ble_eq_true rfl) rfl dX6_changesIfShifted_17 (aw_getr fkX6_127 (nl hN rfl) kd_14 (Nat.le_of_ble_eq_true rfl) rfl dX6_changesIfShifted_20 (aw_iload_n dX6_changesIfShifted_23 rfl ?_))))
      obtain ⟨g2, hf⟩ := ogd hf
      refine aw_iald (nl hN rfl) kd_15 g2 dX6_changesIfShifted_24 (aw_aload_n dX6_changesIfShifted_25 rfl (aw_getr fkX6_48 (nl hN rfl) kd_0 (Nat.le_of_ble_eq_true rfl) rfl dX6_changesIfShifted_26 (aw_aload_n dX6_changesIfShifted_29 rfl (aw_getr fkX6_19 (nl hN rfl) kd_0 (Nat.le_of_ble_eq_true rfl) rfl dX6_changesIfShifted_30 (aw_iload_n dX6_changesIfShifted_33 rfl (aw_iload_n dX6_changesIfShifted_34 rfl ?_))))))
      obtain ⟨v5, h3, c4, hf⟩ := ob_some hf
      refine aw_callVi (N := mX5_rowBehind) (As := [.int x3, .int x1]) lkX6_168 okX5_rowBehind (TO.n qT hN) (TO.k qT) rfl (by rfl) (by rfl) (Nat.le_of_ble_eq_true rfl) ry_X6_changesIfShifted_X5_rowBehind dX6_changesIfShifted_35 (And.intro (Nat.le_refl _) (Nat.le_refl _)) (ct_X5_rowBehind hE hN F qT c4) ?_
      obtain ⟨g6, hf⟩ := ogd hf
      refine aw_iald (nl hN rfl) kd_28 g6 dX6_changesIfShifted_38 (aw_ixor dX6_changesIfShifted_39 ?_)
      obtain ⟨v9, h7, c8, hf⟩ := ob_some hf
      refine aw_callSi (N := mJ6_bitCount_0f7a4) (As := [.int ((h 15 (ix x3)) ^^^ (h3 28 (ix v5)))]) lkX6_163 okJ6_bitCount_0f7a4 (by rfl) (by rfl) (Nat.le_of_ble_eq_true rfl) ry_X6_changesIfShifted_J6_bitCount_0f7a4 dX6_changesIfShifted_40 (And.intro (Nat.le_refl _) (Nat.le_refl _)) (ct_J6_bitCount_0f7a4 hE hN F c8) (aw_iadd dX6_changesIfShifted_43 (aw_istore_n dX6_changesIfShifted_44 (Nat.le_of_ble_eq_true rfl) (aw_iinc (nI 1) dX6_changesIfShifted_45 rfl (Nat.le_of_ble_eq_true rfl) ki_1 (aw_goto 4 dX6_changesIfShifted_48 rfl ?_))))
      exact aw_dk (ih _ _ _ hf) (And.intro rfl (And.intro rfl (And.intro rfl (And.intro rfl trivial))))
set_option maxHeartbeats 4000000 in
set_option maxRecDepth 100000 in
theorem ct_X6_changesIfShifted {E : EV} (hE : EI E) (hN : 39 ≤ eN E) (F : Nat) {tw : TW} (qT : TO tw.1) (qU : TO tw.2) {x1 : Int32} {h : HP} {v : Int32} {h' : HP} (hf : f_X6_changesIfShifted F tw x1 h = some (v, h')) : CT E mX6_changesIfShifted tw h [.ref 0, .int x1] (some (.int v)) tw h' := by
  refine CT.of hE (show plainFor yX6_changesIfShifted = true by decide +kernel) (Nat.le_of_ble_eq_true rfl) 2 ?_
  show AW E mX6_changesIfShifted (KM E mX6_changesIfShifted (some (.int v)) tw h') tw h 0 [some (.ref 0), some (.int x1), none, none] []
  unfold f_X6_changesIfShifted at hf
  refine aw_iconst (nI 0) dX6_changesIfShifted_0 ki_0 (aw_istore_n dX6_changesIfShifted_1 (Nat.le_of_ble_eq_true rfl) (aw_iconst (nI 0) dX6_changesIfShifted_2 ki_0 (aw_istore_n dX6_changesIfShifted_3 (Nat.le_of_ble_eq_true rfl) ?_)))
  exact aw_dk (ct_X6_changesIfShifted_4 hE hN F qT qU F _ _ _ hf) (And.intro rfl (And.intro rfl (And.intro rfl (And.intro rfl trivial))))
set_option maxHeartbeats 4000000 in
set_option maxRecDepth 100000 in
theorem ct_X6_changes_22 {E : EV} (hE : EI E) (hN : 39 ≤ eN E) (F : Nat) {tw : TW} (qT : TO tw.1) (qU : TO tw.2) {x1 : Int32} {v : Int32} {h' : HP} : ∀ (n : Nat) (x2 : Int32) (x3 : Int32) (x4 : Int32) (h : HP), f_X6_changes_22 F tw x1 n x2 x3 x4 h = some (v, h') → AW E mX6_changes (KM E mX6_changes (some (.int v)) tw h') tw h 22 [some (.ref 0), some (.int x1), some (.int x2), some (.int x3), some (.int x4), none] [] := by
  intro n
  induction n with
  | zero => intro x2 x3 x4 h hf; exact absurd (show (none : Option (Int32 × HP)) = some _ from hf) (fun z => nomatch z)
  | succ n ih =>
    intro x2 x3 x4 h hf
    rw [f_X6_changes_22] at hf
    refine aw_iload dX6_changes_22 rfl (aw_aload_n dX6_changes_24 rfl (aw_getr fkX6_19 (nl hN rfl) kd_0 (Nat.le_of_ble_eq_true rfl) rfl dX6_changes_25 (aw_geti fkX6_147 (TO.n qT hN) (TO.k qT) (Nat.le_of_ble_eq_true rfl) rfl dX6_changes_28 ?_)))
    refine aw_icmp_ge 60 dX6_changes_31 rfl (fun g6 => ?_) (fun g6 => ?_)
    · replace hf := (if_pos g6).symm.trans hf
      refine aw_iload_n dX6_changes_60 rfl ?_
      refine aw_if_ne 68 dX6_changes_61 rfl (fun g7 => ?_) (fun g7 => ?_)
      · replace hf := (if_neg g7).symm.trans hf
        cases hf
        exact aw_iload_n dX6_changes_68 rfl (aw_iret rfl dX6_changes_69)
      · replace hf := (if_pos g7).symm.trans hf
        cases hf
        exact aw_iload_n dX6_changes_64 rfl (aw_goto 69 dX6_changes_65 rfl (aw_iret rfl dX6_changes_69))
    · replace hf := (if_neg g6).symm.trans hf
      refine aw_aload_n dX6_changes_34 rfl (aw_iload dX6_changes_35 rfl ?_)
      obtain ⟨v10, h8, c9, hf⟩ := ob_some hf
      have key11 : AW E mX6_changes (KM E mX6_changes (some (.int v)) tw h') tw h8 54 [some (.ref 0), some (.int x1), some (.int (if x3 ≤ v10 then x2 else x4)), some (.int (if x3 ≤ v10 then x3 else v10)), some (.int x4), some (.int v10)] [] := by
        refine aw_iinc (nI 1) dX6_changes_54 rfl (Nat.le_of_ble_eq_true rfl) ki_1 (aw_goto 22 dX6_changes_57 rfl ?_)
        exact aw_dk (ih _ _ _ _ hf) (And.intro rfl (And.intro rfl (And.intro rfl (And.intro rfl (And.intro rfl trivial)))))
      refine aw_callVi (N := mX6_changesIfShifted) (As := [.int x4]) lkX6_215 okX6_changesIfShifted (nl hN rfl) kd_0 rfl (by rfl) (by rfl) (Nat.le_of_ble_eq_true rfl) ry_X6_changes_X6_changesIfShifted dX6_changes_37 (And.intro (Nat.le_refl _) (Nat.le_refl _)) (ct_X6_changesIfShifted hE hN F qT qU c9) (aw_istore dX6_changes_40 (Nat.le_of_ble_eq_true rfl) (aw_iload dX6_changes_42 rfl (aw_iload_n dX6_changes_44 rfl ?_)))
      refine aw_icmp_ge 54 dX6_changes_45 rfl (fun g12 => ?_) (fun g12 => ?_)
      · skip
        simp only [if_pos g12] at key11 ⊢
        exact aw_dk key11 (And.intro rfl (And.intro rfl (And.intro rfl (And.intro rfl (And.intro rfl (And.intro rfl trivial))))))
      · skip
        refine aw_iload dX6_changes_48 rfl (aw_istore_n dX6_changes_50 (Nat.le_of_ble_eq_true rfl) (aw_iload dX6_changes_51 rfl (aw_istore_n dX6_changes_53 (Nat.le_of_ble_eq_true rfl) ?_)))
        simp only [if_neg g12] at key11 ⊢
        exact aw_dk key11 (And.intro rfl (And.intro rfl (And.intro rfl (And.intro rfl (And.intro rfl (And.intro rfl trivial))))))
set_option maxHeartbeats 4000000 in
set_option maxRecDepth 100000 in
theorem ct_X6_changes {E : EV} (hE : EI E) (hN : 39 ≤ eN E) (F : Nat) {tw : TW} (qT : TO tw.1) (qU : TO tw.2) {x1 : Int32} {h : HP} {v : Int32} {h' : HP} (hf : f_X6_changes F tw x1 h = some (v, h')) : CT E mX6_changes tw h [.ref 0, .int x1] (some (.int v)) tw h' := by
  refine CT.of hE (show plainFor yX6_changes = true by decide +kernel) (Nat.le_of_ble_eq_true rfl) 4 ?_
  show AW E mX6_changes (KM E mX6_changes (some (.int v)) tw h') tw h 0 [some (.ref 0), some (.int x1), none, none, none, none] []
  unfold f_X6_changes at hf
  refine aw_iload_n dX6_changes_0 rfl ?_
  refine aw_if_lt 9 dX6_changes_1 rfl (fun g1 => ?_) (fun g1 => ?_)
  · replace hf := (if_pos g1).symm.trans hf
    cases hf
    exact aw_iconst (-1) dX6_changes_9 ki_m1 (aw_iret rfl dX6_changes_10)
  · replace hf := (if_neg g1).symm.trans hf
    refine aw_iload_n dX6_changes_4 rfl (aw_iconst (nI 1) dX6_changes_5 ki_1 ?_)
    refine aw_icmp_le 11 dX6_changes_6 rfl (fun g2 => ?_) (fun g2 => ?_)
    · replace hf := (if_pos g2).symm.trans hf
      refine aw_iconst (nI 0) dX6_changes_11 ki_0 (aw_istore_n dX6_changes_12 (Nat.le_of_ble_eq_true rfl) (aw_aload_n dX6_changes_13 rfl (aw_iconst (nI 0) dX6_changes_14 ki_0 ?_)))
      obtain ⟨v5, h3, c4, hf⟩ := ob_some hf
      refine aw_callVi (N := mX6_changesIfShifted) (As := [.int (nI 0)]) lkX6_215 okX6_changesIfShifted (nl hN rfl) kd_0 rfl (by rfl) (by rfl) (Nat.le_of_ble_eq_true rfl) ry_X6_changes_X6_changesIfShifted dX6_changes_15 (And.intro (Nat.le_refl _) (Nat.le_refl _)) (ct_X6_changesIfShifted hE hN F qT qU c4) (aw_istore_n dX6_changes_18 (Nat.le_of_ble_eq_true rfl) (aw_iconst (nI 1) dX6_changes_19 ki_1 (aw_istore dX6_changes_20 (Nat.le_of_ble_eq_true rfl) ?_)))
      exact aw_dk (ct_X6_changes_22 hE hN F qT qU F _ _ _ _ hf) (And.intro rfl (And.intro rfl (And.intro rfl (And.intro rfl (And.intro rfl trivial)))))
    · replace hf := (if_neg g2).symm.trans hf
      cases hf
      exact aw_iconst (-1) dX6_changes_9 ki_m1 (aw_iret rfl dX6_changes_10)
set_option maxHeartbeats 4000000 in
set_option maxRecDepth 100000 in
theorem ct_X6_letters {E : EV} (hE : EI E) (hN : 39 ≤ eN E) (F : Nat) {tw : TW} (qT : TO tw.1) (qU : TO tw.2)  {h : HP} {v : Int32} {h' : HP} (hf : f_X6_letters F tw  h = some (v, h')) : CT E mX6_letters tw h [.ref 0] (some (.int v)) tw h' := by
  refine CT.of hE (show plainFor yX6_letters = true by decide +kernel) (Nat.le_of_ble_eq_true rfl) 0 ?_
  show AW E mX6_letters (KM E mX6_letters (some (.int v)) tw h') tw h 0 [some (.ref 0)] []
  unfold f_X6_letters at hf
  refine aw_aload_n dX6_letters_0 rfl (aw_getr fkX6_58 (nl hN rfl) kd_0 (Nat.le_of_ble_eq_true rfl) rfl dX6_letters_1 (aw_aload_n dX6_letters_4 rfl (aw_getr fkX6_29 (nl hN rfl) kd_0 (Nat.le_of_ble_eq_true rfl) rfl dX6_letters_5 (aw_getr fkX6_127 (nl hN rfl) kd_14 (Nat.le_of_ble_eq_true rfl) rfl dX6_letters_8 (aw_aload_n dX6_letters_11 rfl (aw_getr fkX6_19 (nl hN rfl) kd_0 (Nat.le_of_ble_eq_true rfl) rfl dX6_letters_12 (aw_geti fkX6_147 (TO.n qT hN) (TO.k qT) (Nat.le_of_ble_eq_true rfl) rfl dX6_letters_15 ?_)))))))
  obtain ⟨v3, h1, c2, hf⟩ := ob_some hf
  cases hf
  exact aw_callVi (N := mX3_fewestLetters) (As := [.ref 15, .int (h tw.1 4)]) lkX6_218 okX3_fewestLetters (nl hN rfl) kd_30 rfl (by rfl) (by rfl) (Nat.le_of_ble_eq_true rfl) ry_X6_letters_X3_fewestLetters dX6_letters_18 (And.intro (Nat.le_refl _) (Nat.le_refl _)) (ct_X3_fewestLetters hE hN F (IA.of kd_15 (nl hN rfl)) c2) (aw_iret rfl dX6_letters_21)
set_option maxHeartbeats 4000000 in
set_option maxRecDepth 100000 in
theorem ct_X6_ringers {E : EV} (hE : EI E) (hN : 39 ≤ eN E) (F : Nat) {tw : TW} (qT : TO tw.1) (qU : TO tw.2)  {h : HP} {v : Int32} {h' : HP} (hf : f_X6_ringers F tw  h = some (v, h')) : CT E mX6_ringers tw h [.ref 0] (some (.int v)) tw h' := by
  refine CT.of hE (show plainFor yX6_ringers = true by decide +kernel) (Nat.le_of_ble_eq_true rfl) 0 ?_
  show AW E mX6_ringers (KM E mX6_ringers (some (.int v)) tw h') tw h 0 [some (.ref 0)] []
  unfold f_X6_ringers at hf
  refine aw_aload_n dX6_ringers_0 rfl (aw_getr fkX6_65 (nl hN rfl) kd_0 (Nat.le_of_ble_eq_true rfl) rfl dX6_ringers_1 (aw_aload_n dX6_ringers_4 rfl (aw_getr fkX6_29 (nl hN rfl) kd_0 (Nat.le_of_ble_eq_true rfl) rfl dX6_ringers_5 (aw_getr fkX6_127 (nl hN rfl) kd_14 (Nat.le_of_ble_eq_true rfl) rfl dX6_ringers_8 (aw_aload_n dX6_ringers_11 rfl (aw_getr fkX6_19 (nl hN rfl) kd_0 (Nat.le_of_ble_eq_true rfl) rfl dX6_ringers_12 ?_))))))
  obtain ⟨v3, h1, c2, hf⟩ := ob_some hf
  cases hf
  exact aw_callVi (N := mX1_fewestPeople) (As := [.ref 15, .ref tw.1]) lkX6_222 okX1_fewestPeople (nl hN rfl) kd_36 rfl (by rfl) (by rfl) (Nat.le_of_ble_eq_true rfl) ry_X6_ringers_X1_fewestPeople dX6_ringers_15 (And.intro (Nat.le_refl _) (Nat.le_refl _)) (ct_X1_fewestPeople hE hN F (IA.of kd_15 (nl hN rfl)) qT c2) (aw_iret rfl dX6_ringers_18)
set_option maxHeartbeats 4000000 in
set_option maxRecDepth 100000 in
theorem ct_X6_hear {E : EV} (hE : EI E) (hN : 39 ≤ eN E) (F : Nat) {tw : TW} (qT : TO tw.1) (qU : TO tw.2) {x1 : Int32} {h : HP} {v : Int32} {h' : HP} (hf : f_X6_hear F tw x1 h = some (v, h')) : CT E mX6_hear tw h [.ref 0, .int x1] (some (.int v)) tw h' := by
  refine CT.of hE (show plainFor yX6_hear = true by decide +kernel) (Nat.le_of_ble_eq_true rfl) 0 ?_
  show AW E mX6_hear (KM E mX6_hear (some (.int v)) tw h') tw h 0 [some (.ref 0), some (.int x1)] []
  unfold f_X6_hear at hf
  refine aw_aload_n dX6_hear_0 rfl (aw_iload_n dX6_hear_1 rfl ?_)
  obtain ⟨v3, h1, c2, hf⟩ := ob_some hf
  refine aw_callVi (N := mX6_isSet) (As := [.int x1]) lkX6_212 okX6_isSet (nl hN rfl) kd_0 rfl (by rfl) (by rfl) (Nat.le_of_ble_eq_true rfl) ry_X6_hear_X6_isSet dX6_hear_2 (And.intro (Nat.le_refl _) (Nat.le_refl _)) (ct_X6_isSet hE hN F qT qU c2) ?_
  refine aw_if_ne 10 dX6_hear_5 rfl (fun g4 => ?_) (fun g4 => ?_)
  · replace hf := (if_neg g4).symm.trans hf
    refine aw_aload_n dX6_hear_10 rfl (aw_geti fkX6_140 (nl hN rfl) kd_0 (Nat.le_of_ble_eq_true rfl) rfl dX6_hear_11 (aw_bipush (nI 8) dX6_hear_14 kb_8 ?_))
    refine aw_icmp_lt 22 dX6_hear_16 rfl (fun g5 => ?_) (fun g5 => ?_)
    · replace hf := (if_pos g5).symm.trans hf
      refine aw_aload_n dX6_hear_22 rfl (aw_getr fkX6_52 (nl hN rfl) kd_0 (Nat.le_of_ble_eq_true rfl) rfl dX6_hear_23 (aw_aload_n dX6_hear_26 rfl (aw_geti fkX6_140 (nl hN rfl) kd_0 (Nat.le_of_ble_eq_true rfl) rfl dX6_hear_27 (aw_iload_n dX6_hear_30 rfl ?_))))
      obtain ⟨g6, hf⟩ := ogd hf
      cases hf
      exact aw_iast (nl hN rfl) kd_29 g6 dX6_hear_31 (aw_aload_n dX6_hear_32 rfl (aw_dup dX6_hear_33 rfl (aw_geti fkX6_140 (nl hN rfl) kd_0 (Nat.le_of_ble_eq_true rfl) rfl dX6_hear_34 (aw_iconst (nI 1) dX6_hear_37 ki_1 (aw_iadd dX6_hear_38 (aw_puti fkX6_140 fw_6_9 (nl hN rfl) kd_0 (Nat.le_of_ble_eq_true rfl) rfl dX6_hear_39 (aw_aload_n dX6_hear_42 rfl (aw_geti fkX6_140 (nl hN rfl) kd_0 (Nat.le_of_ble_eq_true rfl) rfl dX6_hear_43 (aw_iret rfl dX6_hear_46)))))))))
    · replace hf := (if_neg g5).symm.trans hf
      cases hf
      exact aw_bipush (-3) dX6_hear_19 kb_m3 (aw_iret rfl dX6_hear_21)
  · replace hf := (if_pos g4).symm.trans hf
    cases hf
    exact aw_iconst (-1) dX6_hear_8 ki_m1 (aw_iret rfl dX6_hear_9)
set_option maxHeartbeats 4000000 in
set_option maxRecDepth 100000 in
theorem ct_X6_forget {E : EV} (hE : EI E) (hN : 39 ≤ eN E) (F : Nat) {tw : TW} (qT : TO tw.1) (qU : TO tw.2)  {h : HP} {v : Int32} {h' : HP} (hf : f_X6_forget F tw  h = some (v, h')) : CT E mX6_forget tw h [.ref 0] (some (.int v)) tw h' := by
  refine CT.of hE (show plainFor yX6_forget = true by decide +kernel) (Nat.le_of_ble_eq_true rfl) 1 ?_
  show AW E mX6_forget (KM E mX6_forget (some (.int v)) tw h') tw h 0 [some (.ref 0), none] []
  unfold f_X6_forget at hf
  cases hf
  exact aw_aload_n dX6_forget_0 rfl (aw_geti fkX6_140 (nl hN rfl) kd_0 (Nat.le_of_ble_eq_true rfl) rfl dX6_forget_1 (aw_istore_n dX6_forget_4 (Nat.le_of_ble_eq_true rfl) (aw_aload_n dX6_forget_5 rfl (aw_iconst (nI 0) dX6_forget_6 ki_0 (aw_puti fkX6_140 fw_6_9 (nl hN rfl) kd_0 (Nat.le_of_ble_eq_true rfl) rfl dX6_forget_7 (aw_iload_n dX6_forget_10 rfl (aw_iret rfl dX6_forget_11)))))))
set_option maxHeartbeats 4000000 in
set_option maxRecDepth 100000 in
theorem ct_X6_isHeardFrom_2 {E : EV} (hE : EI E) (hN : 39 ≤ eN E) (F : Nat) {tw : TW} (qT : TO tw.1) (qU : TO tw.2) {x1 : Int32} {v : Int32} {h' : HP} : ∀ (n : Nat) (x2 : Int32) (h : HP), f_X6_isHeardFrom_2 F tw x1 n x2 h = some (v, h') → AW E mX6_isHeardFrom (KM E mX6_isHeardFrom (some (.int v)) tw h') tw h 2 [some (.ref 0), some (.int x1), some (.int x2)] [] := by
  intro n
  induction n with
  | zero => intro x2 h hf; exact absurd (show (none : Option (Int32 × HP)) = some _ from hf) (fun z => nomatch z)
  | succ n ih =>
    intro x2 h hf
    rw [f_X6_isHeardFrom_2] at hf
    refine aw_iload_n dX6_isHeardFrom_2 rfl (aw_aload_n dX6_isHeardFrom_3 rfl (aw_geti fkX6_140 (nl hN rfl) kd_0 (Nat.le_of_ble_eq_true rfl) rfl dX6_isHeardFrom_4 ?_))
    refine aw_icmp_ge 44 dX6_isHeardFrom_7 rfl (fun g1 => ?_) (fun g1 => ?_)
    · replace hf := (if_pos g1).symm.trans hf
      cases hf
      exact aw_iconst (nI 1) dX6_isHeardFrom_44 ki_1 (aw_zret rfl (Or.inr rfl) dX6_isHeardFrom_45)
    · replace hf := (if_neg g1).symm.trans hf
      refine aw_aload_n dX6_isHeardFrom_10 rfl (aw_getr fkX6_29 (nl hN rfl) kd_0 (Nat.le_of_ble_eq_true rfl) rfl dX6_isHeardFrom_11 (aw_getr fkX6_127 (nl hN rfl) kd_14 (Nat.le_of_ble_eq_true rfl) rfl dX6_isHeardFrom_14 (aw_aload_n dX6_isHeardFrom_17 rfl (aw_getr fkX6_19 (nl hN rfl) kd_0 (Nat.le_of_ble_eq_true rfl) rfl dX6_isHeardFrom_18 (aw_iload_n dX6_isHeardFrom_21 rfl (aw_iload_n dX6_isHeardFrom_22 rfl ?_))))))
      obtain ⟨v4, h2, c3, hf⟩ := ob_some hf
      refine aw_callVi (N := mX5_rowBehind) (As := [.int x1, .int x2]) lkX6_168 okX5_rowBehind (TO.n qT hN) (TO.k qT) rfl (by rfl) (by rfl) (Nat.le_of_ble_eq_true rfl) ry_X6_isHeardFrom_X5_rowBehind dX6_isHeardFrom_23 (And.intro (Nat.le_refl _) (Nat.le_refl _)) (ct_X5_rowBehind hE hN F qT c3) ?_
      obtain ⟨g5, hf⟩ := ogd hf
      refine aw_iald (nl hN rfl) kd_15 g5 dX6_isHeardFrom_26 (aw_aload_n dX6_isHeardFrom_27 rfl (aw_getr fkX6_52 (nl hN rfl) kd_0 (Nat.le_of_ble_eq_true rfl) rfl dX6_isHeardFrom_28 (aw_iload_n dX6_isHeardFrom_31 rfl ?_)))
      obtain ⟨g6, hf⟩ := ogd hf
      refine aw_iald (nl hN rfl) kd_29 g6 dX6_isHeardFrom_32 ?_
      refine aw_icmp_eq 38 dX6_isHeardFrom_33 rfl (fun g7 => ?_) (fun g7 => ?_)
      · replace hf := (if_pos g7).symm.trans hf
        refine aw_iinc (nI 1) dX6_isHeardFrom_38 rfl (Nat.le_of_ble_eq_true rfl) ki_1 (aw_goto 2 dX6_isHeardFrom_41 rfl ?_)
        exact aw_dk (ih _ _ hf) (And.intro rfl (And.intro rfl (And.intro rfl trivial)))
      · replace hf := (if_neg g7).symm.trans hf
        cases hf
        exact aw_iconst (nI 0) dX6_isHeardFrom_36 ki_0 (aw_zret rfl (Or.inl rfl) dX6_isHeardFrom_37)
set_option maxHeartbeats 4000000 in
set_option maxRecDepth 100000 in
theorem ct_X6_isHeardFrom {E : EV} (hE : EI E) (hN : 39 ≤ eN E) (F : Nat) {tw : TW} (qT : TO tw.1) (qU : TO tw.2) {x1 : Int32} {h : HP} {v : Int32} {h' : HP} (hf : f_X6_isHeardFrom F tw x1 h = some (v, h')) : CT E mX6_isHeardFrom tw h [.ref 0, .int x1] (some (.int v)) tw h' := by
  refine CT.of hE (show plainFor yX6_isHeardFrom = true by decide +kernel) (Nat.le_of_ble_eq_true rfl) 1 ?_
  show AW E mX6_isHeardFrom (KM E mX6_isHeardFrom (some (.int v)) tw h') tw h 0 [some (.ref 0), some (.int x1), none] []
  unfold f_X6_isHeardFrom at hf
  refine aw_iconst (nI 0) dX6_isHeardFrom_0 ki_0 (aw_istore_n dX6_isHeardFrom_1 (Nat.le_of_ble_eq_true rfl) ?_)
  exact aw_dk (ct_X6_isHeardFrom_2 hE hN F qT qU F _ _ hf) (And.intro rfl (And.intro rfl (And.intro rfl trivial)))
