set_option maxHeartbeats 4000000 in
set_option maxRecDepth 100000 in
theorem ct_X7_in {E : EV} (hE : EI E) (hN : 56 ≤ eN E) (F : Nat) {tw : TW} {x0 : Int64} {x2 : Int64} {x4 : Int64} {h : HP} {v : Int32} {h' : HP} (hf : f_X7_in F x0 x2 x4 h = some (v, h')) : CT E mX7_in tw h [.long x0, .long x2, .long x4] (some (.int v)) tw h' := by
  refine CT.of hE (show plainFor yX7_in = true by decide +kernel) (Nat.le_of_ble_eq_true rfl) 0 ?_
  show AW E mX7_in (KM E mX7_in (some (.int v)) tw h') tw h 0 [some (.long x0), none, some (.long x2), none, some (.long x4), none] []
  unfold f_X7_in at hf
  refine aw_lload_n dX7_in_0 rfl (aw_lload_n dX7_in_1 rfl (aw_lcmp dX7_in_2 ?_))
  refine aw_if_lt 17 dX7_in_3 rfl (fun g1 => ?_) (fun g1 => ?_)
  · replace hf := (if_pos g1).symm.trans hf
    cases hf
    exact aw_iconst (nI 0) dX7_in_17 ki_0 (aw_zret rfl (Or.inl rfl) dX7_in_18)
  · replace hf := (if_neg g1).symm.trans hf
    refine aw_lload_n dX7_in_6 rfl (aw_lload dX7_in_7 rfl (aw_lcmp dX7_in_9 ?_))
    refine aw_if_gt 17 dX7_in_10 rfl (fun g2 => ?_) (fun g2 => ?_)
    · replace hf := (if_pos g2).symm.trans hf
      cases hf
      exact aw_iconst (nI 0) dX7_in_17 ki_0 (aw_zret rfl (Or.inl rfl) dX7_in_18)
    · replace hf := (if_neg g2).symm.trans hf
      cases hf
      exact aw_iconst (nI 1) dX7_in_13 ki_1 (aw_goto 18 dX7_in_14 rfl (aw_zret rfl (Or.inr rfl) dX7_in_18))
set_option maxHeartbeats 4000000 in
set_option maxRecDepth 100000 in
theorem ct_X7_isTwo {E : EV} (hE : EI E) (hN : 56 ≤ eN E) (F : Nat) {tw : TW} {x0 : Int32} {h : HP} {v : Int32} {h' : HP} (hf : f_X7_isTwo F x0 h = some (v, h')) : CT E mX7_isTwo tw h [.int x0] (some (.int v)) tw h' := by
  refine CT.of hE (show plainFor yX7_isTwo = true by decide +kernel) (Nat.le_of_ble_eq_true rfl) 0 ?_
  show AW E mX7_isTwo (KM E mX7_isTwo (some (.int v)) tw h') tw h 0 [some (.int x0)] []
  unfold f_X7_isTwo at hf
  refine aw_iload_n dX7_isTwo_0 rfl (aw_i2l dX7_isTwo_1 (aw_lconst (lN 0) dX7_isTwo_2 rfl (aw_lconst (lN 1) dX7_isTwo_3 rfl ?_)))
  obtain ⟨v3, h1, c2, hf⟩ := ob_some hf
  refine aw_callSi (N := mX7_in) (As := [.long x0.toInt64, .long (lN 0), .long (lN 1)]) lkX7_73 okX7_in (by rfl) (by rfl) (Nat.le_of_ble_eq_true rfl) ry_X7_isTwo_X7_in dX7_isTwo_4 (And.intro (Nat.le_refl _) (Nat.le_refl _)) (ct_X7_in hE hN F c2) ?_
  obtain ⟨g4, hf⟩ := ogd hf
  cases hf
  exact aw_zret rfl g4 dX7_isTwo_7
set_option maxHeartbeats 4000000 in
set_option maxRecDepth 100000 in
theorem ct_X7_has {E : EV} (hE : EI E) (hN : 56 ≤ eN E) (F : Nat) {tw : TW} {x0 : Int32} {x1 : Int32} {h : HP} {v : Int32} {h' : HP} (hf : f_X7_has F x0 x1 h = some (v, h')) : CT E mX7_has tw h [.int x0, .int x1] (some (.int v)) tw h' := by
  refine CT.of hE (show plainFor yX7_has = true by decide +kernel) (Nat.le_of_ble_eq_true rfl) 0 ?_
  show AW E mX7_has (KM E mX7_has (some (.int v)) tw h') tw h 0 [some (.int x0), some (.int x1)] []
  unfold f_X7_has at hf
  refine aw_iload_n dX7_has_0 rfl (aw_iload_n dX7_has_1 rfl (aw_ishr dX7_has_2 (aw_iconst (nI 1) dX7_has_3 ki_1 (aw_iand dX7_has_4 (aw_iconst (nI 1) dX7_has_5 ki_1 ?_)))))
  refine aw_icmp_ne 13 dX7_has_6 rfl (fun g1 => ?_) (fun g1 => ?_)
  · replace hf := (if_neg g1).symm.trans hf
    cases hf
    exact aw_iconst (nI 0) dX7_has_13 ki_0 (aw_zret rfl (Or.inl rfl) dX7_has_14)
  · replace hf := (if_pos g1).symm.trans hf
    cases hf
    exact aw_iconst (nI 1) dX7_has_9 ki_1 (aw_goto 14 dX7_has_10 rfl (aw_zret rfl (Or.inr rfl) dX7_has_14))
set_option maxHeartbeats 4000000 in
set_option maxRecDepth 100000 in
theorem ct_X7_bits_4 {E : EV} (hE : EI E) (hN : 56 ≤ eN E) (F : Nat) {tw : TW} {x0 : Int32} {v : Int32} {h' : HP} : ∀ (n : Nat) (x1 : Int32) (x2 : Int32) (h : HP), f_X7_bits_4 F x0 n x1 x2 h = some (v, h') → AW E mX7_bits (KM E mX7_bits (some (.int v)) tw h') tw h 4 [none, some (.int x1), some (.int x2)] [] := by
  intro n
  induction n with
  | zero => intro x1 x2 h hf; exact absurd (show (none : Option (Int32 × HP)) = some _ from hf) (fun z => nomatch z)
  | succ n ih =>
    intro x1 x2 h hf
    rw [f_X7_bits_4] at hf
    refine aw_iload_n dX7_bits_4 rfl ?_
    refine aw_if_eq 20 dX7_bits_5 rfl (fun g1 => ?_) (fun g1 => ?_)
    · replace hf := (if_pos g1).symm.trans hf
      cases hf
      exact aw_iload_n dX7_bits_20 rfl (aw_iret rfl dX7_bits_21)
    · replace hf := (if_neg g1).symm.trans hf
      refine aw_iinc (nI 1) dX7_bits_8 rfl (Nat.le_of_ble_eq_true rfl) ki_1 (aw_iload_n dX7_bits_11 rfl (aw_iload_n dX7_bits_12 rfl (aw_iconst (nI 1) dX7_bits_13 ki_1 (aw_isub dX7_bits_14 (aw_iand dX7_bits_15 (aw_istore_n dX7_bits_16 (Nat.le_of_ble_eq_true rfl) (aw_goto 4 dX7_bits_17 rfl ?_)))))))
      exact aw_dk (ih _ _ _ hf) (And.intro rfl (And.intro rfl trivial))
set_option maxHeartbeats 4000000 in
set_option maxRecDepth 100000 in
theorem ct_X7_bits {E : EV} (hE : EI E) (hN : 56 ≤ eN E) (F : Nat) {tw : TW} {x0 : Int32} {h : HP} {v : Int32} {h' : HP} (hf : f_X7_bits F x0 h = some (v, h')) : CT E mX7_bits tw h [.int x0] (some (.int v)) tw h' := by
  refine CT.of hE (show plainFor yX7_bits = true by decide +kernel) (Nat.le_of_ble_eq_true rfl) 2 ?_
  show AW E mX7_bits (KM E mX7_bits (some (.int v)) tw h') tw h 0 [some (.int x0), none, none] []
  unfold f_X7_bits at hf
  refine aw_iconst (nI 0) dX7_bits_0 ki_0 (aw_istore_n dX7_bits_1 (Nat.le_of_ble_eq_true rfl) (aw_iload_n dX7_bits_2 rfl (aw_istore_n dX7_bits_3 (Nat.le_of_ble_eq_true rfl) ?_)))
  exact aw_dk (ct_X7_bits_4 hE hN F F _ _ _ hf) (And.intro rfl (And.intro rfl trivial))
set_option maxHeartbeats 4000000 in
set_option maxRecDepth 100000 in
theorem ct_X7_write {E : EV} (hE : EI E) (hN : 56 ≤ eN E) (F : Nat) {tw : TW} {x1 : Int32} {h : HP} {v : Int32} {h' : HP} (hf : f_X7_write F x1 h = some (v, h')) : CT E mX7_write tw h [.ref 39, .int x1] (some (.int v)) tw h' := by
  refine CT.of hE (show plainFor yX7_write = true by decide +kernel) (Nat.le_of_ble_eq_true rfl) 0 ?_
  show AW E mX7_write (KM E mX7_write (some (.int v)) tw h') tw h 0 [some (.ref 39), some (.int x1)] []
  unfold f_X7_write at hf
  refine aw_iload_n dX7_write_0 rfl (aw_i2l dX7_write_1 (aw_ldc2 kcX7_77 dX7_write_2 (aw_ldc2 kcX7_79 dX7_write_5 ?_)))
  obtain ⟨v3, h1, c2, hf⟩ := ob_some hf
  refine aw_callSi (N := mX7_in) (As := [.long x1.toInt64, .long (lN 32), .long (lN 126)]) lkX7_73 okX7_in (by rfl) (by rfl) (Nat.le_of_ble_eq_true rfl) ry_X7_write_X7_in dX7_write_8 (And.intro (Nat.le_refl _) (Nat.le_refl _)) (ct_X7_in hE hN F c2) ?_
  refine aw_if_ne 16 dX7_write_11 rfl (fun g4 => ?_) (fun g4 => ?_)
  · replace hf := (if_neg g4).symm.trans hf
    refine aw_aload_n dX7_write_16 rfl (aw_geti fkX7_81 (nl hN rfl) kd_39 (Nat.le_of_ble_eq_true rfl) rfl dX7_write_17 (aw_sipush (nI 200) dX7_write_20 ks_200 ?_))
    refine aw_icmp_ne 29 dX7_write_23 rfl (fun g5 => ?_) (fun g5 => ?_)
    · replace hf := (if_neg g5).symm.trans hf
      refine aw_aload_n dX7_write_29 rfl (aw_getr fkX7_28 (nl hN rfl) kd_39 (Nat.le_of_ble_eq_true rfl) rfl dX7_write_30 (aw_aload_n dX7_write_33 rfl (aw_geti fkX7_81 (nl hN rfl) kd_39 (Nat.le_of_ble_eq_true rfl) rfl dX7_write_34 (aw_iload_n dX7_write_37 rfl ?_))))
      obtain ⟨g6, hf⟩ := ogd hf
      cases hf
      exact aw_iast (nl hN rfl) kd_46 g6 dX7_write_38 (aw_aload_n dX7_write_39 rfl (aw_dup dX7_write_40 rfl (aw_geti fkX7_81 (nl hN rfl) kd_39 (Nat.le_of_ble_eq_true rfl) rfl dX7_write_41 (aw_iconst (nI 1) dX7_write_44 ki_1 (aw_iadd dX7_write_45 (aw_puti fkX7_81 fw_7_10 (nl hN rfl) kd_39 (Nat.le_of_ble_eq_true rfl) rfl dX7_write_46 (aw_aload_n dX7_write_49 rfl (aw_geti fkX7_81 (nl hN rfl) kd_39 (Nat.le_of_ble_eq_true rfl) rfl dX7_write_50 (aw_iret rfl dX7_write_53)))))))))
    · replace hf := (if_pos g5).symm.trans hf
      cases hf
      exact aw_bipush (-3) dX7_write_26 kb_m3 (aw_iret rfl dX7_write_28)
  · replace hf := (if_pos g4).symm.trans hf
    cases hf
    exact aw_iconst (-1) dX7_write_14 ki_m1 (aw_iret rfl dX7_write_15)
set_option maxHeartbeats 4000000 in
set_option maxRecDepth 100000 in
theorem ct_X7_wipe {E : EV} (hE : EI E) (hN : 56 ≤ eN E) (F : Nat) {tw : TW}  {h : HP} {v : Int32} {h' : HP} (hf : f_X7_wipe F  h = some (v, h')) : CT E mX7_wipe tw h [.ref 39] (some (.int v)) tw h' := by
  refine CT.of hE (show plainFor yX7_wipe = true by decide +kernel) (Nat.le_of_ble_eq_true rfl) 1 ?_
  show AW E mX7_wipe (KM E mX7_wipe (some (.int v)) tw h') tw h 0 [some (.ref 39), none] []
  unfold f_X7_wipe at hf
  cases hf
  exact aw_aload_n dX7_wipe_0 rfl (aw_geti fkX7_81 (nl hN rfl) kd_39 (Nat.le_of_ble_eq_true rfl) rfl dX7_wipe_1 (aw_istore_n dX7_wipe_4 (Nat.le_of_ble_eq_true rfl) (aw_aload_n dX7_wipe_5 rfl (aw_iconst (nI 0) dX7_wipe_6 ki_0 (aw_puti fkX7_81 fw_7_10 (nl hN rfl) kd_39 (Nat.le_of_ble_eq_true rfl) rfl dX7_wipe_7 (aw_iload_n dX7_wipe_10 rfl (aw_iret rfl dX7_wipe_11)))))))
set_option maxHeartbeats 4000000 in
set_option maxRecDepth 100000 in
theorem ct_X7_clean_2 {E : EV} (hE : EI E) (hN : 56 ≤ eN E) (F : Nat) {tw : TW}  {h' : HP} : ∀ (n : Nat) (x1 : Int32) (h : HP), f_X7_clean_2 F n x1 h = some h' → AW E mX7_clean (KM E mX7_clean none tw h') tw h 2 [some (.ref 39), some (.int x1)] [] := by
  intro n
  induction n with
  | zero => intro x1 h hf; exact absurd (show (none : Option (HP)) = some _ from hf) (fun z => nomatch z)
  | succ n ih =>
    intro x1 h hf
    rw [f_X7_clean_2] at hf
    refine aw_iload_n dX7_clean_2 rfl (aw_bipush (nI 19) dX7_clean_3 kb_19 ?_)
    refine aw_icmp_ge 21 dX7_clean_5 rfl (fun g1 => ?_) (fun g1 => ?_)
    · replace hf := (if_pos g1).symm.trans hf
      cases hf
      refine aw_aload_n dX7_clean_21 rfl (aw_getr fkX7_13 (nl hN rfl) kd_39 (Nat.le_of_ble_eq_true rfl) rfl dX7_clean_22 (aw_iconst (nI 1) dX7_clean_25 ki_1 (aw_bipush (nI 16) dX7_clean_26 kb_16 (aw_iastk (j := 1) cx_1 (nl hN rfl) kd_41 ib_1_19 dX7_clean_28 (aw_aload_n dX7_clean_29 rfl (aw_getr fkX7_13 (nl hN rfl) kd_39 (Nat.le_of_ble_eq_true rfl) rfl dX7_clean_30 (aw_iconst (nI 2) dX7_clean_33 ki_2 (aw_iconst (nI 1) dX7_clean_34 ki_1 (aw_iastk (j := 2) cx_2 (nl hN rfl) kd_41 ib_2_19 dX7_clean_35 (aw_aload_n dX7_clean_36 rfl (aw_iconst (nI 0) dX7_clean_37 ki_0 ?_)))))))))))
      refine aw_puti fkX7_85 fw_7_3 (nl hN rfl) kd_39 (Nat.le_of_ble_eq_true rfl) rfl dX7_clean_38 (aw_aload_n dX7_clean_41 rfl (aw_iconst (nI 0) dX7_clean_42 ki_0 (aw_putz fkX7_88 fw_7_15 (nl hN rfl) kd_39 (Nat.le_of_ble_eq_true rfl) rfl (Or.inl rfl) dX7_clean_43 ?_)))
      exact aw_vret rfl dX7_clean_46
    · replace hf := (if_neg g1).symm.trans hf
      refine aw_aload_n dX7_clean_8 rfl (aw_getr fkX7_13 (nl hN rfl) kd_39 (Nat.le_of_ble_eq_true rfl) rfl dX7_clean_9 (aw_iload_n dX7_clean_12 rfl (aw_iconst (nI 0) dX7_clean_13 ki_0 ?_)))
      obtain ⟨g2, hf⟩ := ogd hf
      refine aw_iast (nl hN rfl) kd_41 g2 dX7_clean_14 (aw_iinc (nI 1) dX7_clean_15 rfl (Nat.le_of_ble_eq_true rfl) ki_1 (aw_goto 2 dX7_clean_18 rfl ?_))
      exact aw_dk (ih _ _ hf) (And.intro rfl (And.intro rfl trivial))
set_option maxHeartbeats 4000000 in
set_option maxRecDepth 100000 in
theorem ct_X7_clean {E : EV} (hE : EI E) (hN : 56 ≤ eN E) (F : Nat) {tw : TW}  {h : HP} {h' : HP} (hf : f_X7_clean F  h = some h') : CT E mX7_clean tw h [.ref 39] none tw h' := by
  refine CT.of hE (show plainFor yX7_clean = true by decide +kernel) (Nat.le_of_ble_eq_true rfl) 1 ?_
  show AW E mX7_clean (KM E mX7_clean none tw h') tw h 0 [some (.ref 39), none] []
  unfold f_X7_clean at hf
  refine aw_iconst (nI 0) dX7_clean_0 ki_0 (aw_istore_n dX7_clean_1 (Nat.le_of_ble_eq_true rfl) ?_)
  exact aw_dk (ct_X7_clean_2 hE hN F F _ _ hf) (And.intro rfl (And.intro rfl trivial))
set_option maxHeartbeats 4000000 in
set_option maxRecDepth 100000 in
theorem ct_X7_comes {E : EV} (hE : EI E) (hN : 56 ≤ eN E) (F : Nat) {tw : TW} {x1 : Int32} {x2 : Int32} {h : HP} {h' : HP} (hf : f_X7_comes F x1 x2 h = some h') : CT E mX7_comes tw h [.ref 39, .int x1, .int x2] none tw h' := by
  refine CT.of hE (show plainFor yX7_comes = true by decide +kernel) (Nat.le_of_ble_eq_true rfl) 1 ?_
  show AW E mX7_comes (KM E mX7_comes none tw h') tw h 0 [some (.ref 39), some (.int x1), some (.int x2), none] []
  unfold f_X7_comes at hf
  refine aw_aload_n dX7_comes_0 rfl (aw_getr fkX7_13 (nl hN rfl) kd_39 (Nat.le_of_ble_eq_true rfl) rfl dX7_comes_1 (aw_iconst (nI 0) dX7_comes_4 ki_0 (aw_ialdk (j := 0) cx_0 (nl hN rfl) kd_41 ib_0_19 dX7_comes_5 (aw_istore_n dX7_comes_6 (Nat.le_of_ble_eq_true rfl) (aw_aload_n dX7_comes_7 rfl (aw_getr fkX7_13 (nl hN rfl) kd_39 (Nat.le_of_ble_eq_true rfl) rfl dX7_comes_8 (aw_iconst (nI 3) dX7_comes_11 ki_3 (aw_iload_n dX7_comes_12 rfl (aw_iadd dX7_comes_13 (aw_iload_n dX7_comes_14 rfl ?_))))))))))
  obtain ⟨g1, hf⟩ := ogd hf
  refine aw_iast (nl hN rfl) kd_41 g1 dX7_comes_15 (aw_aload_n dX7_comes_16 rfl (aw_getr fkX7_13 (nl hN rfl) kd_39 (Nat.le_of_ble_eq_true rfl) rfl dX7_comes_17 (aw_bipush (nI 11) dX7_comes_20 kb_11 (aw_iload_n dX7_comes_22 rfl (aw_iadd dX7_comes_23 (aw_iload_n dX7_comes_24 rfl ?_))))))
  obtain ⟨g2, hf⟩ := ogd hf
  cases hf
  exact aw_iast (nl hN rfl) kd_41 g2 dX7_comes_25 (aw_aload_n dX7_comes_26 rfl (aw_getr fkX7_13 (nl hN rfl) kd_39 (Nat.le_of_ble_eq_true rfl) rfl dX7_comes_27 (aw_iconst (nI 0) dX7_comes_30 ki_0 (aw_dup2 dX7_comes_31 rfl rfl (aw_ialdk (j := 0) cx_0 (nl hN rfl) kd_41 ib_0_19 dX7_comes_32 (aw_iconst (nI 1) dX7_comes_33 ki_1 (aw_iadd dX7_comes_34 (aw_iastk (j := 0) cx_0 (nl hN rfl) kd_41 ib_0_19 dX7_comes_35 (aw_vret rfl dX7_comes_36)))))))))
set_option maxHeartbeats 4000000 in
set_option maxRecDepth 100000 in
theorem ct_X7_put {E : EV} (hE : EI E) (hN : 56 ≤ eN E) (F : Nat) {tw : TW} {x1 : Int32} {h : HP} {v : Int32} {h' : HP} (hf : f_X7_put F x1 h = some (v, h')) : CT E mX7_put tw h [.ref 39, .int x1] (some (.int v)) tw h' := by
  refine CT.of hE (show plainFor yX7_put = true by decide +kernel) (Nat.le_of_ble_eq_true rfl) 0 ?_
  show AW E mX7_put (KM E mX7_put (some (.int v)) tw h') tw h 0 [some (.ref 39), some (.int x1)] []
  unfold f_X7_put at hf
  refine aw_aload_n dX7_put_0 rfl (aw_geti fkX7_85 (nl hN rfl) kd_39 (Nat.le_of_ble_eq_true rfl) rfl dX7_put_1 (aw_bipush (nI 32) dX7_put_4 kb_32 ?_))
  refine aw_icmp_ne 11 dX7_put_6 rfl (fun g1 => ?_) (fun g1 => ?_)
  · replace hf := (if_neg g1).symm.trans hf
    refine aw_aload_n dX7_put_11 rfl (aw_getr fkX7_16 (nl hN rfl) kd_39 (Nat.le_of_ble_eq_true rfl) rfl dX7_put_12 (aw_aload_n dX7_put_15 rfl (aw_geti fkX7_85 (nl hN rfl) kd_39 (Nat.le_of_ble_eq_true rfl) rfl dX7_put_16 (aw_iload_n dX7_put_19 rfl ?_))))
    obtain ⟨g2, hf⟩ := ogd hf
    cases hf
    exact aw_iast (nl hN rfl) kd_42 g2 dX7_put_20 (aw_aload_n dX7_put_21 rfl (aw_dup dX7_put_22 rfl (aw_geti fkX7_85 (nl hN rfl) kd_39 (Nat.le_of_ble_eq_true rfl) rfl dX7_put_23 (aw_iconst (nI 1) dX7_put_26 ki_1 (aw_iadd dX7_put_27 (aw_puti fkX7_85 fw_7_3 (nl hN rfl) kd_39 (Nat.le_of_ble_eq_true rfl) rfl dX7_put_28 (aw_iconst (nI 1) dX7_put_31 ki_1 (aw_zret rfl (Or.inr rfl) dX7_put_32))))))))
  · replace hf := (if_pos g1).symm.trans hf
    cases hf
    exact aw_iconst (nI 0) dX7_put_9 ki_0 (aw_zret rfl (Or.inl rfl) dX7_put_10)
set_option maxHeartbeats 4000000 in
set_option maxRecDepth 100000 in
theorem ct_X7_here {E : EV} (hE : EI E) (hN : 56 ≤ eN E) (F : Nat) {tw : TW}  {h : HP} {v : Int32} {h' : HP} (hf : f_X7_here F  h = some (v, h')) : CT E mX7_here tw h [.ref 39] (some (.int v)) tw h' := by
  refine CT.of hE (show plainFor yX7_here = true by decide +kernel) (Nat.le_of_ble_eq_true rfl) 0 ?_
  show AW E mX7_here (KM E mX7_here (some (.int v)) tw h') tw h 0 [some (.ref 39)] []
  unfold f_X7_here at hf
  refine aw_aload_n dX7_here_0 rfl (aw_geti fkX7_92 (nl hN rfl) kd_39 (Nat.le_of_ble_eq_true rfl) rfl dX7_here_1 (aw_aload_n dX7_here_4 rfl (aw_geti fkX7_81 (nl hN rfl) kd_39 (Nat.le_of_ble_eq_true rfl) rfl dX7_here_5 ?_)))
  refine aw_icmp_ge 23 dX7_here_8 rfl (fun g1 => ?_) (fun g1 => ?_)
  · replace hf := (if_pos g1).symm.trans hf
    cases hf
    exact aw_iconst (-1) dX7_here_23 ki_m1 (aw_iret rfl dX7_here_24)
  · replace hf := (if_neg g1).symm.trans hf
    refine aw_aload_n dX7_here_11 rfl (aw_getr fkX7_28 (nl hN rfl) kd_39 (Nat.le_of_ble_eq_true rfl) rfl dX7_here_12 (aw_aload_n dX7_here_15 rfl (aw_geti fkX7_92 (nl hN rfl) kd_39 (Nat.le_of_ble_eq_true rfl) rfl dX7_here_16 ?_)))
    obtain ⟨g2, hf⟩ := ogd hf
    cases hf
    exact aw_iald (nl hN rfl) kd_46 g2 dX7_here_19 (aw_goto 24 dX7_here_20 rfl (aw_iret rfl dX7_here_24))
set_option maxHeartbeats 4000000 in
set_option maxRecDepth 100000 in
theorem ct_X7_takes_12 {E : EV} (hE : EI E) (hN : 56 ≤ eN E) (F : Nat) {tw : TW} {x1 : Int32} {v : Int32} {h' : HP} {k_2 : Int32 → HP → Option (Int32 × HP)} (hk_2 : ∀ (x2 : Int32) (h : HP), k_2 x2 h = some (v, h') → AW E mX7_takes (KM E mX7_takes (some (.int v)) tw h') tw h 2 [some (.ref 39), some (.int x1), some (.int x2), none, none] []) : ∀ (n : Nat) (x2 : Int32) (x3 : Int32) (x4 : Int32) (h : HP), f_X7_takes_12 F x1 k_2 n x2 x3 x4 h = some (v, h') → AW E mX7_takes (KM E mX7_takes (some (.int v)) tw h') tw h 12 [some (.ref 39), some (.int x1), some (.int x2), some (.int x3), some (.int x4)] [] := by
  intro n
  induction n with
  | zero => intro x2 x3 x4 h hf; exact absurd (show (none : Option (Int32 × HP)) = some _ from hf) (fun z => nomatch z)
  | succ n ih =>
    intro x2 x3 x4 h hf
    rw [f_X7_takes_12] at hf
    refine aw_aload_n dX7_takes_12 rfl ?_
    obtain ⟨v4, h2, c3, hf⟩ := ob_some hf
    refine aw_callVi (N := mX7_here) (As := []) lkX7_95 okX7_here (nl hN rfl) kd_39 rfl (by rfl) (by rfl) (Nat.le_of_ble_eq_true rfl) ry_X7_takes_X7_here dX7_takes_13 (And.intro (Nat.le_refl _) (Nat.le_refl _)) (ct_X7_here hE hN F c3) (aw_i2l dX7_takes_16 (aw_ldc2 kcX7_99 dX7_takes_17 (aw_ldc2 kcX7_101 dX7_takes_20 ?_)))
    obtain ⟨v7, h5, c6, hf⟩ := ob_some hf
    refine aw_callSi (N := mX7_in) (As := [.long v4.toInt64, .long (lN 48), .long (lN 57)]) lkX7_73 okX7_in (by rfl) (by rfl) (Nat.le_of_ble_eq_true rfl) ry_X7_takes_X7_in dX7_takes_23 (And.intro (Nat.le_refl _) (Nat.le_refl _)) (ct_X7_in hE hN F c6) ?_
    refine aw_if_eq 68 dX7_takes_26 rfl (fun g8 => ?_) (fun g8 => ?_)
    · replace hf := (if_pos g8).symm.trans hf
      refine aw_iload dX7_takes_68 rfl (aw_i2l dX7_takes_70 (aw_lconst (lN 1) dX7_takes_71 rfl (aw_ldc2 kcX7_103 dX7_takes_72 ?_)))
      obtain ⟨v11, h9, c10, hf⟩ := ob_some hf
      refine aw_callSi (N := mX7_in) (As := [.long x4.toInt64, .long (lN 1), .long (lN 2)]) lkX7_73 okX7_in (by rfl) (by rfl) (Nat.le_of_ble_eq_true rfl) ry_X7_takes_X7_in dX7_takes_75 (And.intro (Nat.le_refl _) (Nat.le_refl _)) (ct_X7_in hE hN F c10) ?_
      refine aw_if_eq 102 dX7_takes_78 rfl (fun g12 => ?_) (fun g12 => ?_)
      · replace hf := (if_pos g12).symm.trans hf
        cases hf
        exact aw_iconst (nI 0) dX7_takes_102 ki_0 (aw_zret rfl (Or.inl rfl) dX7_takes_103)
      · replace hf := (if_neg g12).symm.trans hf
        refine aw_aload_n dX7_takes_81 rfl ?_
        obtain ⟨v15, h13, c14, hf⟩ := ob_some hf
        have key22 : AW E mX7_takes (KM E mX7_takes (some (.int v)) tw h') tw h13 99 [some (.ref 39), some (.int x1), some (.int x2), some (.int x3), some (.int x4)] [.int (if (x1 - (nI 1)) ≤ x2 then (nI 59) else (nI 44)), .int v15] := by
          refine aw_icmp_eq 104 dX7_takes_99 rfl (fun g16 => ?_) (fun g16 => ?_)
          · replace hf := (if_pos g16).symm.trans hf
            refine aw_aload_n dX7_takes_104 rfl (aw_getr fkX7_37 (nl hN rfl) kd_39 (Nat.le_of_ble_eq_true rfl) rfl dX7_takes_105 (aw_iload_n dX7_takes_108 rfl (aw_iload_n dX7_takes_109 rfl ?_)))
            obtain ⟨g17, hf⟩ := ogd hf
            refine aw_iast (nl hN rfl) kd_49 g17 dX7_takes_110 (aw_aload_n dX7_takes_111 rfl (aw_dup dX7_takes_112 rfl (aw_geti fkX7_92 (nl hN rfl) kd_39 (Nat.le_of_ble_eq_true rfl) rfl dX7_takes_113 (aw_iconst (nI 1) dX7_takes_116 ki_1 (aw_iadd dX7_takes_117 (aw_puti fkX7_92 fw_7_14 (nl hN rfl) kd_39 (Nat.le_of_ble_eq_true rfl) rfl dX7_takes_118 (aw_iinc (nI 1) dX7_takes_121 rfl (Nat.le_of_ble_eq_true rfl) ki_1 (aw_goto 2 dX7_takes_124 rfl ?_))))))))
            exact aw_dk (hk_2 _ _ hf) (And.intro rfl (And.intro rfl (And.intro rfl trivial)))
          · replace hf := (if_neg g16).symm.trans hf
            cases hf
            exact aw_iconst (nI 0) dX7_takes_102 ki_0 (aw_zret rfl (Or.inl rfl) dX7_takes_103)
        refine aw_callVi (N := mX7_here) (As := []) lkX7_95 okX7_here (nl hN rfl) kd_39 rfl (by rfl) (by rfl) (Nat.le_of_ble_eq_true rfl) ry_X7_takes_X7_here dX7_takes_82 (And.intro (Nat.le_refl _) (Nat.le_refl _)) (ct_X7_here hE hN F c14) (aw_iload_n dX7_takes_85 rfl (aw_iload_n dX7_takes_86 rfl (aw_iconst (nI 1) dX7_takes_87 ki_1 (aw_isub dX7_takes_88 ?_))))
        refine aw_icmp_ge 97 dX7_takes_89 rfl (fun g23 => ?_) (fun g23 => ?_)
        · skip
          refine aw_bipush (nI 59) dX7_takes_97 kb_59 ?_
          simp only [if_pos g23] at key22 ⊢
          exact aw_dk key22 (And.intro rfl (And.intro rfl (And.intro rfl (And.intro rfl (And.intro rfl trivial)))))
        · skip
          refine aw_bipush (nI 44) dX7_takes_92 kb_44 (aw_goto 99 dX7_takes_94 rfl ?_)
          simp only [if_neg g23] at key22 ⊢
          exact aw_dk key22 (And.intro rfl (And.intro rfl (And.intro rfl (And.intro rfl (And.intro rfl trivial)))))
    · replace hf := (if_neg g8).symm.trans hf
      refine aw_iload dX7_takes_29 rfl (aw_iconst (nI 2) dX7_takes_31 ki_2 ?_)
      refine aw_icmp_ge 50 dX7_takes_32 rfl (fun g18 => ?_) (fun g18 => ?_)
      · replace hf := (if_pos g18).symm.trans hf
        refine aw_iload_n dX7_takes_50 rfl (aw_istore_n dX7_takes_51 (Nat.le_of_ble_eq_true rfl) (aw_iinc (nI 1) dX7_takes_52 rfl (Nat.le_of_ble_eq_true rfl) ki_1 (aw_aload_n dX7_takes_55 rfl (aw_dup dX7_takes_56 rfl (aw_geti fkX7_92 (nl hN rfl) kd_39 (Nat.le_of_ble_eq_true rfl) rfl dX7_takes_57 (aw_iconst (nI 1) dX7_takes_60 ki_1 (aw_iadd dX7_takes_61 (aw_puti fkX7_92 fw_7_14 (nl hN rfl) kd_39 (Nat.le_of_ble_eq_true rfl) rfl dX7_takes_62 (aw_goto 12 dX7_takes_65 rfl ?_)))))))))
        exact aw_dk (ih _ _ _ _ hf) (And.intro rfl (And.intro rfl (And.intro rfl (And.intro rfl (And.intro rfl trivial)))))
      · replace hf := (if_neg g18).symm.trans hf
        refine aw_bipush (nI 10) dX7_takes_35 kb_10 (aw_iload_n dX7_takes_37 rfl (aw_imul dX7_takes_38 (aw_aload_n dX7_takes_39 rfl ?_)))
        obtain ⟨v21, h19, c20, hf⟩ := ob_some hf
        refine aw_callVi (N := mX7_here) (As := []) lkX7_95 okX7_here (nl hN rfl) kd_39 rfl (by rfl) (by rfl) (Nat.le_of_ble_eq_true rfl) ry_X7_takes_X7_here dX7_takes_40 (And.intro (Nat.le_refl _) (Nat.le_refl _)) (ct_X7_here hE hN F c20) (aw_iadd dX7_takes_43 (aw_bipush (nI 48) dX7_takes_44 kb_48 (aw_isub dX7_takes_46 (aw_goto 51 dX7_takes_47 rfl (aw_istore_n dX7_takes_51 (Nat.le_of_ble_eq_true rfl) (aw_iinc (nI 1) dX7_takes_52 rfl (Nat.le_of_ble_eq_true rfl) ki_1 (aw_aload_n dX7_takes_55 rfl (aw_dup dX7_takes_56 rfl (aw_geti fkX7_92 (nl hN rfl) kd_39 (Nat.le_of_ble_eq_true rfl) rfl dX7_takes_57 (aw_iconst (nI 1) dX7_takes_60 ki_1 (aw_iadd dX7_takes_61 ?_)))))))))))
        refine aw_puti fkX7_92 fw_7_14 (nl hN rfl) kd_39 (Nat.le_of_ble_eq_true rfl) rfl dX7_takes_62 (aw_goto 12 dX7_takes_65 rfl ?_)
        exact aw_dk (ih _ _ _ _ hf) (And.intro rfl (And.intro rfl (And.intro rfl (And.intro rfl (And.intro rfl trivial)))))
set_option maxHeartbeats 4000000 in
set_option maxRecDepth 100000 in
theorem ct_X7_takes_2 {E : EV} (hE : EI E) (hN : 56 ≤ eN E) (F : Nat) {tw : TW} {x1 : Int32} {v : Int32} {h' : HP} : ∀ (n : Nat) (x2 : Int32) (h : HP), f_X7_takes_2 F x1 n x2 h = some (v, h') → AW E mX7_takes (KM E mX7_takes (some (.int v)) tw h') tw h 2 [some (.ref 39), some (.int x1), some (.int x2), none, none] [] := by
  intro n
  induction n with
  | zero => intro x2 h hf; exact absurd (show (none : Option (Int32 × HP)) = some _ from hf) (fun z => nomatch z)
  | succ n ih =>
    intro x2 h hf
    rw [f_X7_takes_2] at hf
    refine aw_iload_n dX7_takes_2 rfl (aw_iload_n dX7_takes_3 rfl ?_)
    refine aw_icmp_ge 127 dX7_takes_4 rfl (fun g1 => ?_) (fun g1 => ?_)
    · replace hf := (if_pos g1).symm.trans hf
      cases hf
      exact aw_iconst (nI 1) dX7_takes_127 ki_1 (aw_zret rfl (Or.inr rfl) dX7_takes_128)
    · replace hf := (if_neg g1).symm.trans hf
      refine aw_iconst (nI 0) dX7_takes_7 ki_0 (aw_istore_n dX7_takes_8 (Nat.le_of_ble_eq_true rfl) (aw_iconst (nI 0) dX7_takes_9 ki_0 (aw_istore dX7_takes_10 (Nat.le_of_ble_eq_true rfl) ?_)))
      exact aw_dk (ct_X7_takes_12 hE hN F ih F _ _ _ _ hf) (And.intro rfl (And.intro rfl (And.intro rfl (And.intro rfl (And.intro rfl trivial)))))
set_option maxHeartbeats 4000000 in
set_option maxRecDepth 100000 in
theorem ct_X7_takes {E : EV} (hE : EI E) (hN : 56 ≤ eN E) (F : Nat) {tw : TW} {x1 : Int32} {h : HP} {v : Int32} {h' : HP} (hf : f_X7_takes F x1 h = some (v, h')) : CT E mX7_takes tw h [.ref 39, .int x1] (some (.int v)) tw h' := by
  refine CT.of hE (show plainFor yX7_takes = true by decide +kernel) (Nat.le_of_ble_eq_true rfl) 3 ?_
  show AW E mX7_takes (KM E mX7_takes (some (.int v)) tw h') tw h 0 [some (.ref 39), some (.int x1), none, none, none] []
  unfold f_X7_takes at hf
  refine aw_iconst (nI 0) dX7_takes_0 ki_0 (aw_istore_n dX7_takes_1 (Nat.le_of_ble_eq_true rfl) ?_)
  exact aw_dk (ct_X7_takes_2 hE hN F F _ _ hf) (And.intro rfl (And.intro rfl (And.intro rfl trivial)))
set_option maxHeartbeats 4000000 in
set_option maxRecDepth 100000 in
theorem ct_X7_takesBell {E : EV} (hE : EI E) (hN : 56 ≤ eN E) (F : Nat) {tw : TW}  {h : HP} {v : Int32} {h' : HP} (hf : f_X7_takesBell F  h = some (v, h')) : CT E mX7_takesBell tw h [.ref 39] (some (.int v)) tw h' := by
  refine CT.of hE (show plainFor yX7_takesBell = true by decide +kernel) (Nat.le_of_ble_eq_true rfl) 0 ?_
  show AW E mX7_takesBell (KM E mX7_takesBell (some (.int v)) tw h') tw h 0 [some (.ref 39)] []
  unfold f_X7_takesBell at hf
  refine aw_aload_n dX7_takesBell_0 rfl (aw_iconst (nI 2) dX7_takesBell_1 ki_2 ?_)
  obtain ⟨v3, h1, c2, hf⟩ := ob_some hf
  refine aw_callVi (N := mX7_takes) (As := [.int (nI 2)]) lkX7_105 okX7_takes (nl hN rfl) kd_39 rfl (by rfl) (by rfl) (Nat.le_of_ble_eq_true rfl) ry_X7_takesBell_X7_takes dX7_takesBell_2 (And.intro (Nat.le_refl _) (Nat.le_refl _)) (ct_X7_takes hE hN F c2) ?_
  refine aw_if_eq 47 dX7_takesBell_5 rfl (fun g4 => ?_) (fun g4 => ?_)
  · replace hf := (if_pos g4).symm.trans hf
    cases hf
    exact aw_iconst (nI 0) dX7_takesBell_47 ki_0 (aw_zret rfl (Or.inl rfl) dX7_takesBell_48)
  · replace hf := (if_neg g4).symm.trans hf
    refine aw_aload_n dX7_takesBell_8 rfl (aw_getr fkX7_37 (nl hN rfl) kd_39 (Nat.le_of_ble_eq_true rfl) rfl dX7_takesBell_9 (aw_iconst (nI 0) dX7_takesBell_12 ki_0 (aw_ialdk (j := 0) cx_0 (nl hN rfl) kd_49 ib_0_2 dX7_takesBell_13 (aw_bipush (nI 40) dX7_takesBell_14 kb_40 ?_))))
    refine aw_icmp_gt 47 dX7_takesBell_16 rfl (fun g5 => ?_) (fun g5 => ?_)
    · replace hf := (if_pos g5).symm.trans hf
      cases hf
      exact aw_iconst (nI 0) dX7_takesBell_47 ki_0 (aw_zret rfl (Or.inl rfl) dX7_takesBell_48)
    · replace hf := (if_neg g5).symm.trans hf
      refine aw_aload_n dX7_takesBell_19 rfl (aw_getr fkX7_37 (nl hN rfl) kd_39 (Nat.le_of_ble_eq_true rfl) rfl dX7_takesBell_20 (aw_iconst (nI 1) dX7_takesBell_23 ki_1 (aw_ialdk (j := 1) cx_1 (nl hN rfl) kd_49 ib_1_2 dX7_takesBell_24 (aw_i2l dX7_takesBell_25 (aw_lconst (lN 1) dX7_takesBell_26 rfl (aw_ldc2 kcX7_103 dX7_takesBell_27 ?_))))))
      obtain ⟨v8, h6, c7, hf⟩ := ob_some hf
      refine aw_callSi (N := mX7_in) (As := [.long ((h1 49 1).toInt64), .long (lN 1), .long (lN 2)]) lkX7_73 okX7_in (by rfl) (by rfl) (Nat.le_of_ble_eq_true rfl) ry_X7_takesBell_X7_in dX7_takesBell_30 (And.intro (Nat.le_refl _) (Nat.le_refl _)) (ct_X7_in hE hN F c7) ?_
      refine aw_if_eq 47 dX7_takesBell_33 rfl (fun g9 => ?_) (fun g9 => ?_)
      · replace hf := (if_pos g9).symm.trans hf
        cases hf
        exact aw_iconst (nI 0) dX7_takesBell_47 ki_0 (aw_zret rfl (Or.inl rfl) dX7_takesBell_48)
      · replace hf := (if_neg g9).symm.trans hf
        refine aw_aload_n dX7_takesBell_36 rfl (aw_getr fkX7_13 (nl hN rfl) kd_39 (Nat.le_of_ble_eq_true rfl) rfl dX7_takesBell_37 (aw_iconst (nI 0) dX7_takesBell_40 ki_0 (aw_ialdk (j := 0) cx_0 (nl hN rfl) kd_41 ib_0_19 dX7_takesBell_41 (aw_bipush (nI 8) dX7_takesBell_42 kb_8 ?_))))
        refine aw_icmp_ne 49 dX7_takesBell_44 rfl (fun g10 => ?_) (fun g10 => ?_)
        · replace hf := (if_neg g10).symm.trans hf
          refine aw_aload_n dX7_takesBell_49 rfl (aw_aload_n dX7_takesBell_50 rfl (aw_getr fkX7_37 (nl hN rfl) kd_39 (Nat.le_of_ble_eq_true rfl) rfl dX7_takesBell_51 (aw_iconst (nI 0) dX7_takesBell_54 ki_0 (aw_ialdk (j := 0) cx_0 (nl hN rfl) kd_49 ib_0_2 dX7_takesBell_55 (aw_aload_n dX7_takesBell_56 rfl (aw_getr fkX7_37 (nl hN rfl) kd_39 (Nat.le_of_ble_eq_true rfl) rfl dX7_takesBell_57 (aw_iconst (nI 1) dX7_takesBell_60 ki_1 (aw_ialdk (j := 1) cx_1 (nl hN rfl) kd_49 ib_1_2 dX7_takesBell_61 ?_))))))))
          obtain ⟨h11, c12, hf⟩ := obv_some hf
          cases hf
          exact aw_callVv (N := mX7_comes) (As := [.int (h6 49 0), .int (h6 49 1)]) lkX7_62 okX7_comes (nl hN rfl) kd_39 rfl (by rfl) (by rfl) (Nat.le_of_ble_eq_true rfl) ry_X7_takesBell_X7_comes dX7_takesBell_62 (And.intro (Nat.le_refl _) (Nat.le_refl _)) (ct_X7_comes hE hN F c12) (aw_iconst (nI 1) dX7_takesBell_65 ki_1 (aw_zret rfl (Or.inr rfl) dX7_takesBell_66))
        · replace hf := (if_pos g10).symm.trans hf
          cases hf
          exact aw_iconst (nI 0) dX7_takesBell_47 ki_0 (aw_zret rfl (Or.inl rfl) dX7_takesBell_48)
set_option maxHeartbeats 4000000 in
set_option maxRecDepth 100000 in
theorem ct_X7_takesOne {E : EV} (hE : EI E) (hN : 56 ≤ eN E) (F : Nat) {tw : TW} {x1 : Int32} {x2 : Int32} {x3 : Int32} {h : HP} {v : Int32} {h' : HP} (hf : f_X7_takesOne F x1 x2 x3 h = some (v, h')) : CT E mX7_takesOne tw h [.ref 39, .int x1, .int x2, .int x3] (some (.int v)) tw h' := by
  refine CT.of hE (show plainFor yX7_takesOne = true by decide +kernel) (Nat.le_of_ble_eq_true rfl) 0 ?_
  show AW E mX7_takesOne (KM E mX7_takesOne (some (.int v)) tw h') tw h 0 [some (.ref 39), some (.int x1), some (.int x2), some (.int x3)] []
  unfold f_X7_takesOne at hf
  refine aw_aload_n dX7_takesOne_0 rfl (aw_iconst (nI 1) dX7_takesOne_1 ki_1 ?_)
  obtain ⟨v3, h1, c2, hf⟩ := ob_some hf
  refine aw_callVi (N := mX7_takes) (As := [.int (nI 1)]) lkX7_105 okX7_takes (nl hN rfl) kd_39 rfl (by rfl) (by rfl) (Nat.le_of_ble_eq_true rfl) ry_X7_takesOne_X7_takes dX7_takesOne_2 (And.intro (Nat.le_refl _) (Nat.le_refl _)) (ct_X7_takes hE hN F c2) ?_
  refine aw_if_eq 25 dX7_takesOne_5 rfl (fun g4 => ?_) (fun g4 => ?_)
  · replace hf := (if_pos g4).symm.trans hf
    cases hf
    exact aw_iconst (nI 0) dX7_takesOne_25 ki_0 (aw_zret rfl (Or.inl rfl) dX7_takesOne_26)
  · replace hf := (if_neg g4).symm.trans hf
    refine aw_aload_n dX7_takesOne_8 rfl (aw_getr fkX7_37 (nl hN rfl) kd_39 (Nat.le_of_ble_eq_true rfl) rfl dX7_takesOne_9 (aw_iconst (nI 0) dX7_takesOne_12 ki_0 (aw_ialdk (j := 0) cx_0 (nl hN rfl) kd_49 ib_0_2 dX7_takesOne_13 (aw_i2l dX7_takesOne_14 (aw_iload_n dX7_takesOne_15 rfl (aw_i2l dX7_takesOne_16 (aw_iload_n dX7_takesOne_17 rfl (aw_i2l dX7_takesOne_18 ?_))))))))
    obtain ⟨v7, h5, c6, hf⟩ := ob_some hf
    refine aw_callSi (N := mX7_in) (As := [.long ((h1 49 0).toInt64), .long x2.toInt64, .long x3.toInt64]) lkX7_73 okX7_in (by rfl) (by rfl) (Nat.le_of_ble_eq_true rfl) ry_X7_takesOne_X7_in dX7_takesOne_19 (And.intro (Nat.le_refl _) (Nat.le_refl _)) (ct_X7_in hE hN F c6) ?_
    refine aw_if_ne 27 dX7_takesOne_22 rfl (fun g8 => ?_) (fun g8 => ?_)
    · replace hf := (if_neg g8).symm.trans hf
      refine aw_aload_n dX7_takesOne_27 rfl (aw_getr fkX7_13 (nl hN rfl) kd_39 (Nat.le_of_ble_eq_true rfl) rfl dX7_takesOne_28 (aw_iload_n dX7_takesOne_31 rfl (aw_aload_n dX7_takesOne_32 rfl (aw_getr fkX7_37 (nl hN rfl) kd_39 (Nat.le_of_ble_eq_true rfl) rfl dX7_takesOne_33 (aw_iconst (nI 0) dX7_takesOne_36 ki_0 (aw_ialdk (j := 0) cx_0 (nl hN rfl) kd_49 ib_0_2 dX7_takesOne_37 ?_))))))
      obtain ⟨g9, hf⟩ := ogd hf
      cases hf
      exact aw_iast (nl hN rfl) kd_41 g9 dX7_takesOne_38 (aw_iconst (nI 1) dX7_takesOne_39 ki_1 (aw_zret rfl (Or.inr rfl) dX7_takesOne_40))
    · replace hf := (if_pos g8).symm.trans hf
      cases hf
      exact aw_iconst (nI 0) dX7_takesOne_25 ki_0 (aw_zret rfl (Or.inl rfl) dX7_takesOne_26)
set_option maxHeartbeats 4000000 in
set_option maxRecDepth 100000 in
theorem ct_X7_isBellHere {E : EV} (hE : EI E) (hN : 56 ≤ eN E) (F : Nat) {tw : TW}  {h : HP} {v : Int32} {h' : HP} (hf : f_X7_isBellHere F  h = some (v, h')) : CT E mX7_isBellHere tw h [.ref 39] (some (.int v)) tw h' := by
  refine CT.of hE (show plainFor yX7_isBellHere = true by decide +kernel) (Nat.le_of_ble_eq_true rfl) 0 ?_
  show AW E mX7_isBellHere (KM E mX7_isBellHere (some (.int v)) tw h') tw h 0 [some (.ref 39)] []
  unfold f_X7_isBellHere at hf
  refine aw_aload_n dX7_isBellHere_0 rfl ?_
  obtain ⟨v3, h1, c2, hf⟩ := ob_some hf
  refine aw_callVi (N := mX7_here) (As := []) lkX7_95 okX7_here (nl hN rfl) kd_39 rfl (by rfl) (by rfl) (Nat.le_of_ble_eq_true rfl) ry_X7_isBellHere_X7_here dX7_isBellHere_1 (And.intro (Nat.le_refl _) (Nat.le_refl _)) (ct_X7_here hE hN F c2) (aw_i2l dX7_isBellHere_4 (aw_ldc2 kcX7_108 dX7_isBellHere_5 (aw_bipush (nI 96) dX7_isBellHere_8 kb_96 (aw_aload_n dX7_isBellHere_10 rfl (aw_getr fkX7_13 (nl hN rfl) kd_39 (Nat.le_of_ble_eq_true rfl) rfl dX7_isBellHere_11 (aw_iconst (nI 0) dX7_isBellHere_14 ki_0 (aw_ialdk (j := 0) cx_0 (nl hN rfl) kd_41 ib_0_19 dX7_isBellHere_15 (aw_iadd dX7_isBellHere_16 (aw_i2l dX7_isBellHere_17 ?_)))))))))
  obtain ⟨v6, h4, c5, hf⟩ := ob_some hf
  refine aw_callSi (N := mX7_in) (As := [.long v3.toInt64, .long (lN 97), .long (((nI 96) + (h1 41 0)).toInt64)]) lkX7_73 okX7_in (by rfl) (by rfl) (Nat.le_of_ble_eq_true rfl) ry_X7_isBellHere_X7_in dX7_isBellHere_18 (And.intro (Nat.le_refl _) (Nat.le_refl _)) (ct_X7_in hE hN F c5) ?_
  obtain ⟨g7, hf⟩ := ogd hf
  cases hf
  exact aw_zret rfl g7 dX7_isBellHere_21
set_option maxHeartbeats 4000000 in
set_option maxRecDepth 100000 in
theorem ct_X7_chord_4 {E : EV} (hE : EI E) (hN : 56 ≤ eN E) (F : Nat) {tw : TW}  {v : Int32} {h' : HP} : ∀ (n : Nat) (x1 : Int32) (x2 : Int32) (h : HP), f_X7_chord_4 F n x1 x2 h = some (v, h') → AW E mX7_chord (KM E mX7_chord (some (.int v)) tw h') tw h 4 [some (.ref 39), some (.int x1), some (.int x2), none] [] := by
  intro n
  induction n with
  | zero => intro x1 x2 h hf; exact absurd (show (none : Option (Int32 × HP)) = some _ from hf) (fun z => nomatch z)
  | succ n ih =>
    intro x1 x2 h hf
    rw [f_X7_chord_4] at hf
    refine aw_aload_n dX7_chord_4 rfl ?_
    obtain ⟨v3, h1, c2, hf⟩ := ob_some hf
    refine aw_callVi (N := mX7_isBellHere) (As := []) lkX7_110 okX7_isBellHere (nl hN rfl) kd_39 rfl (by rfl) (by rfl) (Nat.le_of_ble_eq_true rfl) ry_X7_chord_X7_isBellHere dX7_chord_5 (And.intro (Nat.le_refl _) (Nat.le_refl _)) (ct_X7_isBellHere hE hN F c2) ?_
    refine aw_if_eq 47 dX7_chord_8 rfl (fun g4 => ?_) (fun g4 => ?_)
    · replace hf := (if_pos g4).symm.trans hf
      refine aw_aload_n dX7_chord_47 rfl ?_
      obtain ⟨v7, h5, c6, hf⟩ := ob_some hf
      refine aw_callVi (N := mX7_here) (As := []) lkX7_95 okX7_here (nl hN rfl) kd_39 rfl (by rfl) (by rfl) (Nat.le_of_ble_eq_true rfl) ry_X7_chord_X7_here dX7_chord_48 (And.intro (Nat.le_refl _) (Nat.le_refl _)) (ct_X7_here hE hN F c6) (aw_bipush (nI 93) dX7_chord_51 kb_93 ?_)
      refine aw_icmp_ne 64 dX7_chord_53 rfl (fun g8 => ?_) (fun g8 => ?_)
      · replace hf := (if_neg g8).symm.trans hf
        cases hf
        exact aw_iconst (-1) dX7_chord_64 ki_m1 (aw_iret rfl dX7_chord_65)
      · replace hf := (if_pos g8).symm.trans hf
        refine aw_iload_n dX7_chord_56 rfl ?_
        obtain ⟨v11, h9, c10, hf⟩ := ob_some hf
        refine aw_callSi (N := mX7_bits) (As := [.int x1]) lkX7_114 okX7_bits (by rfl) (by rfl) (Nat.le_of_ble_eq_true rfl) ry_X7_chord_X7_bits dX7_chord_57 (And.intro (Nat.le_refl _) (Nat.le_refl _)) (ct_X7_bits hE hN F c10) (aw_iconst (nI 2) dX7_chord_60 ki_2 ?_)
        refine aw_icmp_ge 66 dX7_chord_61 rfl (fun g12 => ?_) (fun g12 => ?_)
        · replace hf := (if_pos g12).symm.trans hf
          cases hf
          exact aw_aload_n dX7_chord_66 rfl (aw_dup dX7_chord_67 rfl (aw_geti fkX7_92 (nl hN rfl) kd_39 (Nat.le_of_ble_eq_true rfl) rfl dX7_chord_68 (aw_iconst (nI 1) dX7_chord_71 ki_1 (aw_iadd dX7_chord_72 (aw_puti fkX7_92 fw_7_14 (nl hN rfl) kd_39 (Nat.le_of_ble_eq_true rfl) rfl dX7_chord_73 (aw_iload_n dX7_chord_76 rfl (aw_iret rfl dX7_chord_77)))))))
        · replace hf := (if_neg g12).symm.trans hf
          cases hf
          exact aw_iconst (-1) dX7_chord_64 ki_m1 (aw_iret rfl dX7_chord_65)
    · replace hf := (if_neg g4).symm.trans hf
      refine aw_aload_n dX7_chord_11 rfl ?_
      obtain ⟨v15, h13, c14, hf⟩ := ob_some hf
      refine aw_callVi (N := mX7_here) (As := []) lkX7_95 okX7_here (nl hN rfl) kd_39 rfl (by rfl) (by rfl) (Nat.le_of_ble_eq_true rfl) ry_X7_chord_X7_here dX7_chord_12 (And.intro (Nat.le_refl _) (Nat.le_refl _)) (ct_X7_here hE hN F c14) (aw_bipush (nI 97) dX7_chord_15 kb_97 (aw_isub dX7_chord_17 (aw_istore_n dX7_chord_18 (Nat.le_of_ble_eq_true rfl) (aw_iload_n dX7_chord_19 rfl (aw_iload_n dX7_chord_20 rfl ?_)))))
      refine aw_icmp_gt 26 dX7_chord_21 rfl (fun g16 => ?_) (fun g16 => ?_)
      · replace hf := (if_pos g16).symm.trans hf
        refine aw_iload_n dX7_chord_26 rfl (aw_istore_n dX7_chord_27 (Nat.le_of_ble_eq_true rfl) (aw_iload_n dX7_chord_28 rfl (aw_iconst (nI 1) dX7_chord_29 ki_1 (aw_iload_n dX7_chord_30 rfl (aw_ishl dX7_chord_31 (aw_ior dX7_chord_32 (aw_istore_n dX7_chord_33 (Nat.le_of_ble_eq_true rfl) (aw_aload_n dX7_chord_34 rfl (aw_dup dX7_chord_35 rfl (aw_geti fkX7_92 (nl hN rfl) kd_39 (Nat.le_of_ble_eq_true rfl) rfl dX7_chord_36 (aw_iconst (nI 1) dX7_chord_39 ki_1 ?_)))))))))))
        refine aw_iadd dX7_chord_40 (aw_puti fkX7_92 fw_7_14 (nl hN rfl) kd_39 (Nat.le_of_ble_eq_true rfl) rfl dX7_chord_41 (aw_goto 4 dX7_chord_44 rfl ?_))
        exact aw_dk (ih _ _ _ hf) (And.intro rfl (And.intro rfl (And.intro rfl trivial)))
      · replace hf := (if_neg g16).symm.trans hf
        cases hf
        exact aw_iconst (-1) dX7_chord_24 ki_m1 (aw_iret rfl dX7_chord_25)
set_option maxHeartbeats 4000000 in
set_option maxRecDepth 100000 in
theorem ct_X7_chord {E : EV} (hE : EI E) (hN : 56 ≤ eN E) (F : Nat) {tw : TW}  {h : HP} {v : Int32} {h' : HP} (hf : f_X7_chord F  h = some (v, h')) : CT E mX7_chord tw h [.ref 39] (some (.int v)) tw h' := by
  refine CT.of hE (show plainFor yX7_chord = true by decide +kernel) (Nat.le_of_ble_eq_true rfl) 3 ?_
  show AW E mX7_chord (KM E mX7_chord (some (.int v)) tw h') tw h 0 [some (.ref 39), none, none, none] []
  unfold f_X7_chord at hf
  refine aw_iconst (nI 0) dX7_chord_0 ki_0 (aw_istore_n dX7_chord_1 (Nat.le_of_ble_eq_true rfl) (aw_iconst (-1) dX7_chord_2 ki_m1 (aw_istore_n dX7_chord_3 (Nat.le_of_ble_eq_true rfl) ?_)))
  exact aw_dk (ct_X7_chord_4 hE hN F F _ _ _ hf) (And.intro rfl (And.intro rfl (And.intro rfl trivial)))
set_option maxHeartbeats 4000000 in
set_option maxRecDepth 100000 in
theorem ct_X7_tellsAgain_17 {E : EV} (hE : EI E) (hN : 56 ≤ eN E) (F : Nat) {tw : TW} {x1 : Int32} {x2 : Int32} {v : Int32} {h' : HP} {k_8 : Int32 → Int32 → HP → Option (Int32 × HP)} (hk_8 : ∀ (x3 : Int32) (x4 : Int32) (h : HP), k_8 x3 x4 h = some (v, h') → AW E mX7_tellsAgain (KM E mX7_tellsAgain (some (.int v)) tw h') tw h 8 [some (.ref 39), some (.int x1), some (.int x2), some (.int x3), some (.int x4), none] []) : ∀ (n : Nat) (x3 : Int32) (x4 : Int32) (x5 : Int32) (h : HP), f_X7_tellsAgain_17 F x1 x2 k_8 n x3 x4 x5 h = some (v, h') → AW E mX7_tellsAgain (KM E mX7_tellsAgain (some (.int v)) tw h') tw h 17 [some (.ref 39), some (.int x1), some (.int x2), some (.int x3), some (.int x4), some (.int x5)] [] := by
  intro n
  induction n with
  | zero => intro x3 x4 x5 h hf; exact absurd (show (none : Option (Int32 × HP)) = some _ from hf) (fun z => nomatch z)
  | succ n ih =>
    intro x3 x4 x5 h hf
    rw [f_X7_tellsAgain_17] at hf
    refine aw_iload dX7_tellsAgain_17 rfl (aw_iload_n dX7_tellsAgain_19 rfl ?_)
    refine aw_icmp_ge 45 dX7_tellsAgain_20 rfl (fun g2 => ?_) (fun g2 => ?_)
    · replace hf := (if_pos g2).symm.trans hf
      refine aw_iinc (nI 1) dX7_tellsAgain_45 rfl (Nat.le_of_ble_eq_true rfl) ki_1 (aw_goto 8 dX7_tellsAgain_48 rfl ?_)
      exact aw_dk (hk_8 _ _ _ hf) (And.intro rfl (And.intro rfl (And.intro rfl (And.intro rfl (And.intro rfl trivial)))))
    · replace hf := (if_neg g2).symm.trans hf
      refine aw_aload_n dX7_tellsAgain_23 rfl (aw_aload_n dX7_tellsAgain_24 rfl (aw_getr fkX7_16 (nl hN rfl) kd_39 (Nat.le_of_ble_eq_true rfl) rfl dX7_tellsAgain_25 (aw_iload dX7_tellsAgain_28 rfl ?_)))
      obtain ⟨g3, hf⟩ := ogd hf
      refine aw_iald (nl hN rfl) kd_42 g3 dX7_tellsAgain_30 ?_
      obtain ⟨v6, h4, c5, hf⟩ := ob_some hf
      refine aw_callVi (N := mX7_put) (As := [.int (h 42 (ix x5))]) lkX7_66 okX7_put (nl hN rfl) kd_39 rfl (by rfl) (by rfl) (Nat.le_of_ble_eq_true rfl) ry_X7_tellsAgain_X7_put dX7_tellsAgain_31 (And.intro (Nat.le_refl _) (Nat.le_refl _)) (ct_X7_put hE hN F c5) ?_
      refine aw_if_ne 39 dX7_tellsAgain_34 rfl (fun g7 => ?_) (fun g7 => ?_)
      · replace hf := (if_neg g7).symm.trans hf
        refine aw_iinc (nI 1) dX7_tellsAgain_39 rfl (Nat.le_of_ble_eq_true rfl) ki_1 (aw_goto 17 dX7_tellsAgain_42 rfl ?_)
        exact aw_dk (ih _ _ _ _ hf) (And.intro rfl (And.intro rfl (And.intro rfl (And.intro rfl (And.intro rfl (And.intro rfl trivial))))))
      · replace hf := (if_pos g7).symm.trans hf
        cases hf
        exact aw_iconst (nI 0) dX7_tellsAgain_37 ki_0 (aw_zret rfl (Or.inl rfl) dX7_tellsAgain_38)
set_option maxHeartbeats 4000000 in
set_option maxRecDepth 100000 in
theorem ct_X7_tellsAgain_8 {E : EV} (hE : EI E) (hN : 56 ≤ eN E) (F : Nat) {tw : TW} {x1 : Int32} {x2 : Int32} {v : Int32} {h' : HP} : ∀ (n : Nat) (x3 : Int32) (x4 : Int32) (h : HP), f_X7_tellsAgain_8 F x1 x2 n x3 x4 h = some (v, h') → AW E mX7_tellsAgain (KM E mX7_tellsAgain (some (.int v)) tw h') tw h 8 [some (.ref 39), some (.int x1), some (.int x2), some (.int x3), some (.int x4), none] [] := by
  intro n
  induction n with
  | zero => intro x3 x4 h hf; exact absurd (show (none : Option (Int32 × HP)) = some _ from hf) (fun z => nomatch z)
  | succ n ih =>
    intro x3 x4 h hf
    rw [f_X7_tellsAgain_8] at hf
    refine aw_iload dX7_tellsAgain_8 rfl (aw_iload_n dX7_tellsAgain_10 rfl ?_)
    refine aw_icmp_ge 51 dX7_tellsAgain_11 rfl (fun g1 => ?_) (fun g1 => ?_)
    · replace hf := (if_pos g1).symm.trans hf
      cases hf
      exact aw_iconst (nI 1) dX7_tellsAgain_51 ki_1 (aw_zret rfl (Or.inr rfl) dX7_tellsAgain_52)
    · replace hf := (if_neg g1).symm.trans hf
      refine aw_iload_n dX7_tellsAgain_14 rfl (aw_istore dX7_tellsAgain_15 (Nat.le_of_ble_eq_true rfl) ?_)
      exact aw_dk (ct_X7_tellsAgain_17 hE hN F ih F _ _ _ _ hf) (And.intro rfl (And.intro rfl (And.intro rfl (And.intro rfl (And.intro rfl (And.intro rfl trivial))))))
set_option maxHeartbeats 4000000 in
set_option maxRecDepth 100000 in
theorem ct_X7_tellsAgain {E : EV} (hE : EI E) (hN : 56 ≤ eN E) (F : Nat) {tw : TW} {x1 : Int32} {x2 : Int32} {h : HP} {v : Int32} {h' : HP} (hf : f_X7_tellsAgain F x1 x2 h = some (v, h')) : CT E mX7_tellsAgain tw h [.ref 39, .int x1, .int x2] (some (.int v)) tw h' := by
  refine CT.of hE (show plainFor yX7_tellsAgain = true by decide +kernel) (Nat.le_of_ble_eq_true rfl) 3 ?_
  show AW E mX7_tellsAgain (KM E mX7_tellsAgain (some (.int v)) tw h') tw h 0 [some (.ref 39), some (.int x1), some (.int x2), none, none, none] []
  unfold f_X7_tellsAgain at hf
  refine aw_aload_n dX7_tellsAgain_0 rfl (aw_geti fkX7_85 (nl hN rfl) kd_39 (Nat.le_of_ble_eq_true rfl) rfl dX7_tellsAgain_1 (aw_istore_n dX7_tellsAgain_4 (Nat.le_of_ble_eq_true rfl) (aw_iconst (nI 1) dX7_tellsAgain_5 ki_1 (aw_istore dX7_tellsAgain_6 (Nat.le_of_ble_eq_true rfl) ?_))))
  exact aw_dk (ct_X7_tellsAgain_8 hE hN F F _ _ _ hf) (And.intro rfl (And.intro rfl (And.intro rfl (And.intro rfl (And.intro rfl trivial)))))
set_option maxHeartbeats 4000000 in
set_option maxRecDepth 100000 in
theorem ct_X7_takesTune_263 {E : EV} (hE : EI E) (hN : 56 ≤ eN E) (F : Nat) {tw : TW}  {v : Int32} {h' : HP} {k_16 : Int32 → HP → Option (Int32 × HP)} (hk_16 : ∀ (x1 : Int32) (h : HP), k_16 x1 h = some (v, h') → AW E mX7_takesTune (KM E mX7_takesTune (some (.int v)) tw h') tw h 16 [some (.ref 39), some (.int x1), none, none, none] []) : ∀ (x1 : Int32) (x3 : Int32) (h : HP), f_X7_takesTune_263 F k_16 x1 x3 h = some (v, h') → AW E mX7_takesTune (KM E mX7_takesTune (some (.int v)) tw h') tw h 263 [some (.ref 39), some (.int x1), none, some (.int x3), none] [] := by
  intro x1 x3 h hf
  unfold f_X7_takesTune_263 at hf
  refine aw_iload_n dX7_takesTune_263 rfl ?_
  refine aw_if_ne 269 dX7_takesTune_264 rfl (fun g47 => ?_) (fun g47 => ?_)
  · replace hf := (if_neg g47).symm.trans hf
    refine aw_goto 16 dX7_takesTune_269 rfl ?_
    exact aw_dk (hk_16 _ _ hf) (And.intro rfl (And.intro rfl trivial))
  · replace hf := (if_pos g47).symm.trans hf
    cases hf
    exact aw_iconst (nI 0) dX7_takesTune_267 ki_0 (aw_zret rfl (Or.inl rfl) dX7_takesTune_268)
set_option maxHeartbeats 4000000 in
set_option maxRecDepth 100000 in
theorem ct_X7_takesTune_129 {E : EV} (hE : EI E) (hN : 56 ≤ eN E) (F : Nat) {tw : TW}  {v : Int32} {h' : HP} {k_16 : Int32 → HP → Option (Int32 × HP)} (hk_16 : ∀ (x1 : Int32) (h : HP), k_16 x1 h = some (v, h') → AW E mX7_takesTune (KM E mX7_takesTune (some (.int v)) tw h') tw h 16 [some (.ref 39), some (.int x1), none, none, none] []) : ∀ (x1 : Int32) (s0 : Int32) (h : HP), f_X7_takesTune_129 F k_16 x1 s0 h = some (v, h') → AW E mX7_takesTune (KM E mX7_takesTune (some (.int v)) tw h') tw h 129 [some (.ref 39), some (.int x1), none, none, none] [.int s0] := by
  intro x1 s0 h hf
  unfold f_X7_takesTune_129 at hf
  refine aw_istore_n dX7_takesTune_129 (Nat.le_of_ble_eq_true rfl) (aw_goto 263 dX7_takesTune_130 rfl ?_)
  exact aw_dk (ct_X7_takesTune_263 hE hN F hk_16 _ _ _ hf) (And.intro rfl (And.intro rfl (And.intro rfl trivial)))
set_option maxHeartbeats 4000000 in
set_option maxRecDepth 100000 in
theorem ct_X7_takesTune_128 {E : EV} (hE : EI E) (hN : 56 ≤ eN E) (F : Nat) {tw : TW}  {v : Int32} {h' : HP} {k_16 : Int32 → HP → Option (Int32 × HP)} (hk_16 : ∀ (x1 : Int32) (h : HP), k_16 x1 h = some (v, h') → AW E mX7_takesTune (KM E mX7_takesTune (some (.int v)) tw h') tw h 16 [some (.ref 39), some (.int x1), none, none, none] []) : ∀ (x1 : Int32) (h : HP), f_X7_takesTune_128 F k_16 x1 h = some (v, h') → AW E mX7_takesTune (KM E mX7_takesTune (some (.int v)) tw h') tw h 128 [some (.ref 39), some (.int x1), none, none, none] [] := by
  intro x1 h hf
  unfold f_X7_takesTune_128 at hf
  refine aw_iconst (nI 0) dX7_takesTune_128 ki_0 ?_
  exact aw_dk (ct_X7_takesTune_129 hE hN F hk_16 _ _ _ hf) (And.intro rfl (And.intro rfl trivial))
set_option maxHeartbeats 4000000 in
set_option maxRecDepth 100000 in
theorem ct_X7_takesTune_262 {E : EV} (hE : EI E) (hN : 56 ≤ eN E) (F : Nat) {tw : TW}  {v : Int32} {h' : HP} {k_16 : Int32 → HP → Option (Int32 × HP)} (hk_16 : ∀ (x1 : Int32) (h : HP), k_16 x1 h = some (v, h') → AW E mX7_takesTune (KM E mX7_takesTune (some (.int v)) tw h') tw h 16 [some (.ref 39), some (.int x1), none, none, none] []) : ∀ (x1 : Int32) (s0 : Int32) (h : HP), f_X7_takesTune_262 F k_16 x1 s0 h = some (v, h') → AW E mX7_takesTune (KM E mX7_takesTune (some (.int v)) tw h') tw h 262 [some (.ref 39), some (.int x1), none, none, none] [.int s0] := by
  intro x1 s0 h hf
  unfold f_X7_takesTune_262 at hf
  refine aw_istore_n dX7_takesTune_262 (Nat.le_of_ble_eq_true rfl) ?_
  exact aw_dk (ct_X7_takesTune_263 hE hN F hk_16 _ _ _ hf) (And.intro rfl (And.intro rfl (And.intro rfl trivial)))
set_option maxHeartbeats 4000000 in
set_option maxRecDepth 100000 in
theorem ct_X7_takesTune_261 {E : EV} (hE : EI E) (hN : 56 ≤ eN E) (F : Nat) {tw : TW}  {v : Int32} {h' : HP} {k_16 : Int32 → HP → Option (Int32 × HP)} (hk_16 : ∀ (x1 : Int32) (h : HP), k_16 x1 h = some (v, h') → AW E mX7_takesTune (KM E mX7_takesTune (some (.int v)) tw h') tw h 16 [some (.ref 39), some (.int x1), none, none, none] []) : ∀ (x1 : Int32) (h : HP), f_X7_takesTune_261 F k_16 x1 h = some (v, h') → AW E mX7_takesTune (KM E mX7_takesTune (some (.int v)) tw h') tw h 261 [some (.ref 39), some (.int x1), none, none, none] [] := by
  intro x1 h hf
  unfold f_X7_takesTune_261 at hf
  refine aw_iconst (nI 0) dX7_takesTune_261 ki_0 ?_
  exact aw_dk (ct_X7_takesTune_262 hE hN F hk_16 _ _ _ hf) (And.intro rfl (And.intro rfl trivial))
set_option maxHeartbeats 4000000 in
set_option maxRecDepth 100000 in
theorem ct_X7_takesTune_172 {E : EV} (hE : EI E) (hN : 56 ≤ eN E) (F : Nat) {tw : TW}  {v : Int32} {h' : HP} {k_16 : Int32 → HP → Option (Int32 × HP)} (hk_16 : ∀ (x1 : Int32) (h : HP), k_16 x1 h = some (v, h') → AW E mX7_takesTune (KM E mX7_takesTune (some (.int v)) tw h') tw h 16 [some (.ref 39), some (.int x1), none, none, none] []) : ∀ (x1 : Int32) (x2 : Int32) (x3 : Int32) (h : HP), f_X7_takesTune_172 F k_16 x1 x2 x3 h = some (v, h') → AW E mX7_takesTune (KM E mX7_takesTune (some (.int v)) tw h') tw h 172 [some (.ref 39), some (.int x1), some (.int x2), some (.int x3), none] [] := by
  intro x1 x2 x3 h hf
  unfold f_X7_takesTune_172 at hf
  refine aw_iload_n dX7_takesTune_172 rfl (aw_bipush (nI 41) dX7_takesTune_173 kb_41 ?_)
  refine aw_icmp_ne 263 dX7_takesTune_175 rfl (fun g33 => ?_) (fun g33 => ?_)
  · replace hf := (if_neg g33).symm.trans hf
    exact aw_dk (ct_X7_takesTune_263 hE hN F hk_16 _ _ _ hf) (And.intro rfl (And.intro rfl (And.intro rfl trivial)))
  · replace hf := (if_pos g33).symm.trans hf
    refine aw_iload_n dX7_takesTune_178 rfl ?_
    refine aw_if_le 263 dX7_takesTune_179 rfl (fun g34 => ?_) (fun g34 => ?_)
    · replace hf := (if_pos g34).symm.trans hf
      exact aw_dk (ct_X7_takesTune_263 hE hN F hk_16 _ _ _ hf) (And.intro rfl (And.intro rfl (And.intro rfl trivial)))
    · replace hf := (if_neg g34).symm.trans hf
      refine aw_aload_n dX7_takesTune_182 rfl (aw_dup dX7_takesTune_183 rfl (aw_geti fkX7_92 (nl hN rfl) kd_39 (Nat.le_of_ble_eq_true rfl) rfl dX7_takesTune_184 (aw_iconst (nI 1) dX7_takesTune_187 ki_1 (aw_iadd dX7_takesTune_188 (aw_puti fkX7_92 fw_7_14 (nl hN rfl) kd_39 (Nat.le_of_ble_eq_true rfl) rfl dX7_takesTune_189 (aw_iinc (-1) dX7_takesTune_192 rfl (Nat.le_of_ble_eq_true rfl) ki_m1 (aw_aload_n dX7_takesTune_195 rfl ?_)))))))
      obtain ⟨v37, h35, c36, hf⟩ := ob_some hf
      refine aw_callVi (N := mX7_here) (As := []) lkX7_95 okX7_here (nl hN rfl) kd_39 rfl (by rfl) (by rfl) (Nat.le_of_ble_eq_true rfl) ry_X7_takesTune_X7_here dX7_takesTune_196 (And.intro (Nat.le_refl _) (Nat.le_refl _)) (ct_X7_here hE hN F c36) (aw_bipush (nI 48) dX7_takesTune_199 kb_48 (aw_isub dX7_takesTune_201 (aw_istore dX7_takesTune_202 (Nat.le_of_ble_eq_true rfl) (aw_aload_n dX7_takesTune_204 rfl (aw_dup dX7_takesTune_205 rfl (aw_geti fkX7_92 (nl hN rfl) kd_39 (Nat.le_of_ble_eq_true rfl) rfl dX7_takesTune_206 (aw_iconst (nI 1) dX7_takesTune_209 ki_1 (aw_iadd dX7_takesTune_210 (aw_puti fkX7_92 fw_7_14 (nl hN rfl) kd_39 (Nat.le_of_ble_eq_true rfl) rfl dX7_takesTune_211 (aw_iload dX7_takesTune_214 rfl (aw_i2l dX7_takesTune_216 ?_)))))))))))
      refine aw_ldc2 kcX7_103 dX7_takesTune_217 (aw_ldc2 kcX7_121 dX7_takesTune_220 ?_)
      obtain ⟨v40, h38, c39, hf⟩ := ob_some hf
      refine aw_callSi (N := mX7_in) (As := [.long ((v37 - (nI 48)).toInt64), .long (lN 2), .long (lN 9)]) lkX7_73 okX7_in (by rfl) (by rfl) (Nat.le_of_ble_eq_true rfl) ry_X7_takesTune_X7_in dX7_takesTune_223 (And.intro (Nat.le_refl _) (Nat.le_refl _)) (ct_X7_in hE hN F c39) ?_
      refine aw_if_eq 261 dX7_takesTune_226 rfl (fun g41 => ?_) (fun g41 => ?_)
      · replace hf := (if_pos g41).symm.trans hf
        exact aw_dk (ct_X7_takesTune_261 hE hN F hk_16 _ _ hf) (And.intro rfl (And.intro rfl trivial))
      · replace hf := (if_neg g41).symm.trans hf
        refine aw_aload_n dX7_takesTune_229 rfl (aw_geti fkX7_85 (nl hN rfl) kd_39 (Nat.le_of_ble_eq_true rfl) rfl dX7_takesTune_230 (aw_aload_n dX7_takesTune_233 rfl (aw_getr fkX7_40 (nl hN rfl) kd_39 (Nat.le_of_ble_eq_true rfl) rfl dX7_takesTune_234 (aw_iload_n dX7_takesTune_237 rfl ?_))))
        obtain ⟨g42, hf⟩ := ogd hf
        refine aw_iald (nl hN rfl) kd_50 g42 dX7_takesTune_238 ?_
        refine aw_icmp_le 261 dX7_takesTune_239 rfl (fun g43 => ?_) (fun g43 => ?_)
        · replace hf := (if_pos g43).symm.trans hf
          exact aw_dk (ct_X7_takesTune_261 hE hN F hk_16 _ _ hf) (And.intro rfl (And.intro rfl trivial))
        · replace hf := (if_neg g43).symm.trans hf
          refine aw_aload_n dX7_takesTune_242 rfl (aw_aload_n dX7_takesTune_243 rfl (aw_getr fkX7_40 (nl hN rfl) kd_39 (Nat.le_of_ble_eq_true rfl) rfl dX7_takesTune_244 (aw_iload_n dX7_takesTune_247 rfl (aw_iald (nl hN rfl) kd_50 g42 dX7_takesTune_248 (aw_iload dX7_takesTune_249 rfl ?_)))))
          obtain ⟨v46, h44, c45, hf⟩ := ob_some hf
          have key48 : AW E mX7_takesTune (KM E mX7_takesTune (some (.int v)) tw h') tw h44 262 [some (.ref 39), some (.int (x1 + (-1))), some (.int x2), some (.int x3), some (.int (v37 - (nI 48)))] [.int (if v46 = nI 0 then (nI 0) else (nI 1))] := by
            refine aw_istore_n dX7_takesTune_262 (Nat.le_of_ble_eq_true rfl) ?_
            exact aw_dk (ct_X7_takesTune_263 hE hN F hk_16 _ _ _ hf) (And.intro rfl (And.intro rfl (And.intro rfl trivial)))
          refine aw_callVi (N := mX7_tellsAgain) (As := [.int (h38 50 (ix (x1 + (-1)))), .int (v37 - (nI 48))]) lkX7_123 okX7_tellsAgain (nl hN rfl) kd_39 rfl (by rfl) (by rfl) (Nat.le_of_ble_eq_true rfl) ry_X7_takesTune_X7_tellsAgain dX7_takesTune_251 (And.intro (Nat.le_refl _) (Nat.le_refl _)) (ct_X7_tellsAgain hE hN F c45) ?_
          refine aw_if_eq 261 dX7_takesTune_254 rfl (fun g49 => ?_) (fun g49 => ?_)
          · skip
            refine aw_iconst (nI 0) dX7_takesTune_261 ki_0 ?_
            simp only [if_pos g49] at key48 ⊢
            exact aw_dk key48 (And.intro rfl (And.intro rfl (And.intro rfl (And.intro rfl (And.intro rfl trivial)))))
          · skip
            refine aw_iconst (nI 1) dX7_takesTune_257 ki_1 (aw_goto 262 dX7_takesTune_258 rfl ?_)
            simp only [if_neg g49] at key48 ⊢
            exact aw_dk key48 (And.intro rfl (And.intro rfl (And.intro rfl (And.intro rfl (And.intro rfl trivial)))))
set_option maxHeartbeats 4000000 in
set_option maxRecDepth 100000 in
theorem ct_X7_takesTune_16 {E : EV} (hE : EI E) (hN : 56 ≤ eN E) (F : Nat) {tw : TW}  {v : Int32} {h' : HP} : ∀ (n : Nat) (x1 : Int32) (h : HP), f_X7_takesTune_16 F n x1 h = some (v, h') → AW E mX7_takesTune (KM E mX7_takesTune (some (.int v)) tw h') tw h 16 [some (.ref 39), some (.int x1), none, none, none] [] := by
  intro n
  induction n with
  | zero => intro x1 h hf; exact absurd (show (none : Option (Int32 × HP)) = some _ from hf) (fun z => nomatch z)
  | succ n ih =>
    intro x1 h hf
    rw [f_X7_takesTune_16] at hf
    refine aw_aload_n dX7_takesTune_16 rfl ?_
    obtain ⟨v4, h2, c3, hf⟩ := ob_some hf
    refine aw_callVi (N := mX7_here) (As := []) lkX7_95 okX7_here (nl hN rfl) kd_39 rfl (by rfl) (by rfl) (Nat.le_of_ble_eq_true rfl) ry_X7_takesTune_X7_here dX7_takesTune_17 (And.intro (Nat.le_refl _) (Nat.le_refl _)) (ct_X7_here hE hN F c3) (aw_bipush (nI 59) dX7_takesTune_20 kb_59 ?_)
    refine aw_icmp_eq 272 dX7_takesTune_22 rfl (fun g5 => ?_) (fun g5 => ?_)
    · replace hf := (if_pos g5).symm.trans hf
      refine aw_aload_n dX7_takesTune_272 rfl (aw_dup dX7_takesTune_273 rfl (aw_geti fkX7_92 (nl hN rfl) kd_39 (Nat.le_of_ble_eq_true rfl) rfl dX7_takesTune_274 (aw_iconst (nI 1) dX7_takesTune_277 ki_1 (aw_iadd dX7_takesTune_278 (aw_puti fkX7_92 fw_7_14 (nl hN rfl) kd_39 (Nat.le_of_ble_eq_true rfl) rfl dX7_takesTune_279 (aw_iload_n dX7_takesTune_282 rfl ?_))))))
      refine aw_if_ne 297 dX7_takesTune_283 rfl (fun g6 => ?_) (fun g6 => ?_)
      · replace hf := (if_neg g6).symm.trans hf
        cases hf
        exact aw_iconst (nI 0) dX7_takesTune_297 ki_0 (aw_zret rfl (Or.inl rfl) dX7_takesTune_298)
      · replace hf := (if_pos g6).symm.trans hf
        refine aw_aload_n dX7_takesTune_286 rfl (aw_geti fkX7_85 (nl hN rfl) kd_39 (Nat.le_of_ble_eq_true rfl) rfl dX7_takesTune_287 ?_)
        refine aw_if_le 297 dX7_takesTune_290 rfl (fun g7 => ?_) (fun g7 => ?_)
        · replace hf := (if_pos g7).symm.trans hf
          cases hf
          exact aw_iconst (nI 0) dX7_takesTune_297 ki_0 (aw_zret rfl (Or.inl rfl) dX7_takesTune_298)
        · replace hf := (if_neg g7).symm.trans hf
          cases hf
          exact aw_iconst (nI 1) dX7_takesTune_293 ki_1 (aw_goto 298 dX7_takesTune_294 rfl (aw_zret rfl (Or.inr rfl) dX7_takesTune_298))
    · replace hf := (if_neg g5).symm.trans hf
      refine aw_aload_n dX7_takesTune_25 rfl ?_
      obtain ⟨v10, h8, c9, hf⟩ := ob_some hf
      refine aw_callVi (N := mX7_here) (As := []) lkX7_95 okX7_here (nl hN rfl) kd_39 rfl (by rfl) (by rfl) (Nat.le_of_ble_eq_true rfl) ry_X7_takesTune_X7_here dX7_takesTune_26 (And.intro (Nat.le_refl _) (Nat.le_refl _)) (ct_X7_here hE hN F c9) (aw_istore_n dX7_takesTune_29 (Nat.le_of_ble_eq_true rfl) (aw_iconst (nI 0) dX7_takesTune_30 ki_0 (aw_istore_n dX7_takesTune_31 (Nat.le_of_ble_eq_true rfl) (aw_aload_n dX7_takesTune_32 rfl ?_))))
      obtain ⟨v13, h11, c12, hf⟩ := ob_some hf
      refine aw_callVi (N := mX7_isBellHere) (As := []) lkX7_110 okX7_isBellHere (nl hN rfl) kd_39 rfl (by rfl) (by rfl) (Nat.le_of_ble_eq_true rfl) ry_X7_takesTune_X7_isBellHere dX7_takesTune_33 (And.intro (Nat.le_refl _) (Nat.le_refl _)) (ct_X7_isBellHere hE hN F c12) ?_
      refine aw_if_eq 63 dX7_takesTune_36 rfl (fun g14 => ?_) (fun g14 => ?_)
      · replace hf := (if_pos g14).symm.trans hf
        refine aw_iload_n dX7_takesTune_63 rfl (aw_bipush (nI 46) dX7_takesTune_64 kb_46 ?_)
        refine aw_icmp_ne 88 dX7_takesTune_66 rfl (fun g15 => ?_) (fun g15 => ?_)
        · replace hf := (if_neg g15).symm.trans hf
          refine aw_iload_n dX7_takesTune_88 rfl (aw_bipush (nI 91) dX7_takesTune_89 kb_91 ?_)
          refine aw_icmp_ne 133 dX7_takesTune_91 rfl (fun g16 => ?_) (fun g16 => ?_)
          · replace hf := (if_neg g16).symm.trans hf
            refine aw_iload_n dX7_takesTune_133 rfl (aw_bipush (nI 40) dX7_takesTune_134 kb_40 ?_)
            refine aw_icmp_ne 172 dX7_takesTune_136 rfl (fun g17 => ?_) (fun g17 => ?_)
            · replace hf := (if_neg g17).symm.trans hf
              exact aw_dk (ct_X7_takesTune_172 hE hN F ih _ _ _ _ hf) (And.intro rfl (And.intro rfl (And.intro rfl (And.intro rfl trivial))))
            · replace hf := (if_pos g17).symm.trans hf
              refine aw_iload_n dX7_takesTune_139 rfl (aw_iconst (nI 3) dX7_takesTune_140 ki_3 ?_)
              refine aw_icmp_ge 172 dX7_takesTune_141 rfl (fun g18 => ?_) (fun g18 => ?_)
              · replace hf := (if_pos g18).symm.trans hf
                exact aw_dk (ct_X7_takesTune_172 hE hN F ih _ _ _ _ hf) (And.intro rfl (And.intro rfl (And.intro rfl (And.intro rfl trivial))))
              · replace hf := (if_neg g18).symm.trans hf
                refine aw_aload_n dX7_takesTune_144 rfl (aw_dup dX7_takesTune_145 rfl (aw_geti fkX7_92 (nl hN rfl) kd_39 (Nat.le_of_ble_eq_true rfl) rfl dX7_takesTune_146 (aw_iconst (nI 1) dX7_takesTune_149 ki_1 (aw_iadd dX7_takesTune_150 (aw_puti fkX7_92 fw_7_14 (nl hN rfl) kd_39 (Nat.le_of_ble_eq_true rfl) rfl dX7_takesTune_151 (aw_aload_n dX7_takesTune_154 rfl (aw_getr fkX7_40 (nl hN rfl) kd_39 (Nat.le_of_ble_eq_true rfl) rfl dX7_takesTune_155 (aw_iload_n dX7_takesTune_158 rfl (aw_aload_n dX7_takesTune_159 rfl (aw_geti fkX7_85 (nl hN rfl) kd_39 (Nat.le_of_ble_eq_true rfl) rfl dX7_takesTune_160 ?_))))))))))
                obtain ⟨g19, hf⟩ := ogd hf
                refine aw_iast (nl hN rfl) kd_50 g19 dX7_takesTune_163 (aw_iinc (nI 1) dX7_takesTune_164 rfl (Nat.le_of_ble_eq_true rfl) ki_1 (aw_iconst (nI 1) dX7_takesTune_167 ki_1 (aw_istore_n dX7_takesTune_168 (Nat.le_of_ble_eq_true rfl) (aw_goto 263 dX7_takesTune_169 rfl ?_))))
                exact aw_dk (ct_X7_takesTune_263 hE hN F ih _ _ _ hf) (And.intro rfl (And.intro rfl (And.intro rfl trivial)))
          · replace hf := (if_pos g16).symm.trans hf
            refine aw_aload_n dX7_takesTune_94 rfl (aw_dup dX7_takesTune_95 rfl (aw_geti fkX7_92 (nl hN rfl) kd_39 (Nat.le_of_ble_eq_true rfl) rfl dX7_takesTune_96 (aw_iconst (nI 1) dX7_takesTune_99 ki_1 (aw_iadd dX7_takesTune_100 (aw_puti fkX7_92 fw_7_14 (nl hN rfl) kd_39 (Nat.le_of_ble_eq_true rfl) rfl dX7_takesTune_101 (aw_aload_n dX7_takesTune_104 rfl ?_))))))
            obtain ⟨v22, h20, c21, hf⟩ := ob_some hf
            refine aw_callVi (N := mX7_chord) (As := []) lkX7_118 okX7_chord (nl hN rfl) kd_39 rfl (by rfl) (by rfl) (Nat.le_of_ble_eq_true rfl) ry_X7_takesTune_X7_chord dX7_takesTune_105 (And.intro (Nat.le_refl _) (Nat.le_refl _)) (ct_X7_chord hE hN F c21) (aw_istore dX7_takesTune_108 (Nat.le_of_ble_eq_true rfl) (aw_iload dX7_takesTune_110 rfl ?_))
            refine aw_if_le 128 dX7_takesTune_112 rfl (fun g23 => ?_) (fun g23 => ?_)
            · replace hf := (if_pos g23).symm.trans hf
              exact aw_dk (ct_X7_takesTune_128 hE hN F ih _ _ hf) (And.intro rfl (And.intro rfl trivial))
            · replace hf := (if_neg g23).symm.trans hf
              refine aw_aload_n dX7_takesTune_115 rfl (aw_iload dX7_takesTune_116 rfl ?_)
              obtain ⟨v26, h24, c25, hf⟩ := ob_some hf
              have key50 : AW E mX7_takesTune (KM E mX7_takesTune (some (.int v)) tw h') tw h24 129 [some (.ref 39), some (.int x1), some (.int v10), some (.int (nI 0)), some (.int v22)] [.int (if v26 = nI 0 then (nI 0) else (nI 1))] := by
                refine aw_istore_n dX7_takesTune_129 (Nat.le_of_ble_eq_true rfl) (aw_goto 263 dX7_takesTune_130 rfl ?_)
                exact aw_dk (ct_X7_takesTune_263 hE hN F ih _ _ _ hf) (And.intro rfl (And.intro rfl (And.intro rfl trivial)))
              refine aw_callVi (N := mX7_put) (As := [.int v22]) lkX7_66 okX7_put (nl hN rfl) kd_39 rfl (by rfl) (by rfl) (Nat.le_of_ble_eq_true rfl) ry_X7_takesTune_X7_put dX7_takesTune_118 (And.intro (Nat.le_refl _) (Nat.le_refl _)) (ct_X7_put hE hN F c25) ?_
              refine aw_if_eq 128 dX7_takesTune_121 rfl (fun g51 => ?_) (fun g51 => ?_)
              · skip
                refine aw_iconst (nI 0) dX7_takesTune_128 ki_0 ?_
                simp only [if_pos g51] at key50 ⊢
                exact aw_dk key50 (And.intro rfl (And.intro rfl (And.intro rfl (And.intro rfl (And.intro rfl trivial)))))
              · skip
                refine aw_iconst (nI 1) dX7_takesTune_124 ki_1 (aw_goto 129 dX7_takesTune_125 rfl ?_)
                simp only [if_neg g51] at key50 ⊢
                exact aw_dk key50 (And.intro rfl (And.intro rfl (And.intro rfl (And.intro rfl (And.intro rfl trivial)))))
        · replace hf := (if_pos g15).symm.trans hf
          refine aw_aload_n dX7_takesTune_69 rfl (aw_dup dX7_takesTune_70 rfl (aw_geti fkX7_92 (nl hN rfl) kd_39 (Nat.le_of_ble_eq_true rfl) rfl dX7_takesTune_71 (aw_iconst (nI 1) dX7_takesTune_74 ki_1 (aw_iadd dX7_takesTune_75 (aw_puti fkX7_92 fw_7_14 (nl hN rfl) kd_39 (Nat.le_of_ble_eq_true rfl) rfl dX7_takesTune_76 (aw_aload_n dX7_takesTune_79 rfl (aw_iconst (nI 0) dX7_takesTune_80 ki_0 ?_)))))))
          obtain ⟨v29, h27, c28, hf⟩ := ob_some hf
          refine aw_callVi (N := mX7_put) (As := [.int (nI 0)]) lkX7_66 okX7_put (nl hN rfl) kd_39 rfl (by rfl) (by rfl) (Nat.le_of_ble_eq_true rfl) ry_X7_takesTune_X7_put dX7_takesTune_81 (And.intro (Nat.le_refl _) (Nat.le_refl _)) (ct_X7_put hE hN F c28) (aw_istore_n dX7_takesTune_84 (Nat.le_of_ble_eq_true rfl) (aw_goto 263 dX7_takesTune_85 rfl ?_))
          exact aw_dk (ct_X7_takesTune_263 hE hN F ih _ _ _ hf) (And.intro rfl (And.intro rfl (And.intro rfl trivial)))
      · replace hf := (if_neg g14).symm.trans hf
        refine aw_aload_n dX7_takesTune_39 rfl (aw_dup dX7_takesTune_40 rfl (aw_geti fkX7_92 (nl hN rfl) kd_39 (Nat.le_of_ble_eq_true rfl) rfl dX7_takesTune_41 (aw_iconst (nI 1) dX7_takesTune_44 ki_1 (aw_iadd dX7_takesTune_45 (aw_puti fkX7_92 fw_7_14 (nl hN rfl) kd_39 (Nat.le_of_ble_eq_true rfl) rfl dX7_takesTune_46 (aw_aload_n dX7_takesTune_49 rfl (aw_iconst (nI 1) dX7_takesTune_50 ki_1 (aw_iload_n dX7_takesTune_51 rfl (aw_bipush (nI 97) dX7_takesTune_52 kb_97 (aw_isub dX7_takesTune_54 (aw_ishl dX7_takesTune_55 ?_)))))))))))
        obtain ⟨v32, h30, c31, hf⟩ := ob_some hf
        refine aw_callVi (N := mX7_put) (As := [.int (jshl (nI 1) (v10 - (nI 97)))]) lkX7_66 okX7_put (nl hN rfl) kd_39 rfl (by rfl) (by rfl) (Nat.le_of_ble_eq_true rfl) ry_X7_takesTune_X7_put dX7_takesTune_56 (And.intro (Nat.le_refl _) (Nat.le_refl _)) (ct_X7_put hE hN F c31) (aw_istore_n dX7_takesTune_59 (Nat.le_of_ble_eq_true rfl) (aw_goto 263 dX7_takesTune_60 rfl ?_))
        exact aw_dk (ct_X7_takesTune_263 hE hN F ih _ _ _ hf) (And.intro rfl (And.intro rfl (And.intro rfl trivial)))
set_option maxHeartbeats 4000000 in
set_option maxRecDepth 100000 in
theorem ct_X7_takesTune {E : EV} (hE : EI E) (hN : 56 ≤ eN E) (F : Nat) {tw : TW}  {h : HP} {v : Int32} {h' : HP} (hf : f_X7_takesTune F  h = some (v, h')) : CT E mX7_takesTune tw h [.ref 39] (some (.int v)) tw h' := by
  refine CT.of hE (show plainFor yX7_takesTune = true by decide +kernel) (Nat.le_of_ble_eq_true rfl) 4 ?_
  show AW E mX7_takesTune (KM E mX7_takesTune (some (.int v)) tw h') tw h 0 [some (.ref 39), none, none, none, none] []
  unfold f_X7_takesTune at hf
  refine aw_aload_n dX7_takesTune_0 rfl (aw_geti fkX7_88 (nl hN rfl) kd_39 (Nat.le_of_ble_eq_true rfl) rfl dX7_takesTune_1 ?_)
  refine aw_if_eq 9 dX7_takesTune_4 rfl (fun g1 => ?_) (fun g1 => ?_)
  · replace hf := (if_pos g1).symm.trans hf
    refine aw_aload_n dX7_takesTune_9 rfl (aw_iconst (nI 1) dX7_takesTune_10 ki_1 (aw_putz fkX7_88 fw_7_15 (nl hN rfl) kd_39 (Nat.le_of_ble_eq_true rfl) rfl (Or.inr rfl) dX7_takesTune_11 (aw_iconst (nI 0) dX7_takesTune_14 ki_0 (aw_istore_n dX7_takesTune_15 (Nat.le_of_ble_eq_true rfl) ?_))))
    exact aw_dk (ct_X7_takesTune_16 hE hN F F _ _ hf) (And.intro rfl (And.intro rfl trivial))
  · replace hf := (if_neg g1).symm.trans hf
    cases hf
    exact aw_iconst (nI 0) dX7_takesTune_7 ki_0 (aw_zret rfl (Or.inl rfl) dX7_takesTune_8)
set_option maxHeartbeats 4000000 in
set_option maxRecDepth 100000 in
theorem ct_X7_takesItem {E : EV} (hE : EI E) (hN : 56 ≤ eN E) (F : Nat) {tw : TW}  {h : HP} {v : Int32} {h' : HP} (hf : f_X7_takesItem F  h = some (v, h')) : CT E mX7_takesItem tw h [.ref 39] (some (.int v)) tw h' := by
  refine CT.of hE (show plainFor yX7_takesItem = true by decide +kernel) (Nat.le_of_ble_eq_true rfl) 1 ?_
  show AW E mX7_takesItem (KM E mX7_takesItem (some (.int v)) tw h') tw h 0 [some (.ref 39), none] []
  unfold f_X7_takesItem at hf
  refine aw_aload_n dX7_takesItem_0 rfl ?_
  obtain ⟨v3, h1, c2, hf⟩ := ob_some hf
  refine aw_callVi (N := mX7_here) (As := []) lkX7_95 okX7_here (nl hN rfl) kd_39 rfl (by rfl) (by rfl) (Nat.le_of_ble_eq_true rfl) ry_X7_takesItem_X7_here dX7_takesItem_1 (And.intro (Nat.le_refl _) (Nat.le_refl _)) (ct_X7_here hE hN F c2) (aw_istore_n dX7_takesItem_4 (Nat.le_of_ble_eq_true rfl) (aw_aload_n dX7_takesItem_5 rfl (aw_dup dX7_takesItem_6 rfl (aw_geti fkX7_92 (nl hN rfl) kd_39 (Nat.le_of_ble_eq_true rfl) rfl dX7_takesItem_7 (aw_iconst (nI 1) dX7_takesItem_10 ki_1 (aw_iadd dX7_takesItem_11 (aw_puti fkX7_92 fw_7_14 (nl hN rfl) kd_39 (Nat.le_of_ble_eq_true rfl) rfl dX7_takesItem_12 (aw_iload_n dX7_takesItem_15 rfl ?_))))))))
  by_cases g4 : v3 = nI 98
  · replace hf := (if_pos g4).symm.trans hf
    refine aw_lookup (off := 44) 60 dX7_takesItem_16 (by decide) (by rw [g4]; decide) rfl ?_
    refine aw_aload_n dX7_takesItem_60 rfl ?_
    obtain ⟨v7, h5, c6, hf⟩ := ob_some hf
    refine aw_callVi (N := mX7_takesBell) (As := []) lkX7_127 okX7_takesBell (nl hN rfl) kd_39 rfl (by rfl) (by rfl) (Nat.le_of_ble_eq_true rfl) ry_X7_takesItem_X7_takesBell dX7_takesItem_61 (And.intro (Nat.le_refl _) (Nat.le_refl _)) (ct_X7_takesBell hE hN F c6) ?_
    obtain ⟨g8, hf⟩ := ogd hf
    cases hf
    exact aw_zret rfl g8 dX7_takesItem_64
  · replace hf := (if_neg g4).symm.trans hf
    by_cases g9 : v3 = nI 110
    · replace hf := (if_pos g9).symm.trans hf
      refine aw_lookup (off := 49) 65 dX7_takesItem_16 (by decide) (by rw [g9]; decide) rfl ?_
      refine aw_aload_n dX7_takesItem_65 rfl (aw_iconst (nI 1) dX7_takesItem_66 ki_1 (aw_iconst (nI 2) dX7_takesItem_67 ki_2 (aw_bipush (nI 32) dX7_takesItem_68 kb_32 ?_)))
      obtain ⟨v12, h10, c11, hf⟩ := ob_some hf
      refine aw_callVi (N := mX7_takesOne) (As := [.int (nI 1), .int (nI 2), .int (nI 32)]) lkX7_130 okX7_takesOne (nl hN rfl) kd_39 rfl (by rfl) (by rfl) (Nat.le_of_ble_eq_true rfl) ry_X7_takesItem_X7_takesOne dX7_takesItem_70 (And.intro (Nat.le_refl _) (Nat.le_refl _)) (ct_X7_takesOne hE hN F c11) ?_
      obtain ⟨g13, hf⟩ := ogd hf
      cases hf
      exact aw_zret rfl g13 dX7_takesItem_73
    · replace hf := (if_neg g9).symm.trans hf
      by_cases g14 : v3 = nI 114
      · replace hf := (if_pos g14).symm.trans hf
        refine aw_lookup (off := 58) 74 dX7_takesItem_16 (by decide) (by rw [g14]; decide) rfl ?_
        refine aw_aload_n dX7_takesItem_74 rfl (aw_iconst (nI 2) dX7_takesItem_75 ki_2 (aw_iconst (nI 0) dX7_takesItem_76 ki_0 (aw_bipush (nI 6) dX7_takesItem_77 kb_6 ?_)))
        obtain ⟨v17, h15, c16, hf⟩ := ob_some hf
        refine aw_callVi (N := mX7_takesOne) (As := [.int (nI 2), .int (nI 0), .int (nI 6)]) lkX7_130 okX7_takesOne (nl hN rfl) kd_39 rfl (by rfl) (by rfl) (Nat.le_of_ble_eq_true rfl) ry_X7_takesItem_X7_takesOne dX7_takesItem_79 (And.intro (Nat.le_refl _) (Nat.le_refl _)) (ct_X7_takesOne hE hN F c16) ?_
        obtain ⟨g18, hf⟩ := ogd hf
        cases hf
        exact aw_zret rfl g18 dX7_takesItem_82
      · replace hf := (if_neg g14).symm.trans hf
        by_cases g19 : v3 = nI 116
        · replace hf := (if_pos g19).symm.trans hf
          refine aw_lookup (off := 67) 83 dX7_takesItem_16 (by decide) (by rw [g19]; decide) rfl ?_
          refine aw_aload_n dX7_takesItem_83 rfl ?_
          obtain ⟨v22, h20, c21, hf⟩ := ob_some hf
          refine aw_callVi (N := mX7_takesTune) (As := []) lkX7_134 okX7_takesTune (nl hN rfl) kd_39 rfl (by rfl) (by rfl) (Nat.le_of_ble_eq_true rfl) ry_X7_takesItem_X7_takesTune dX7_takesItem_84 (And.intro (Nat.le_refl _) (Nat.le_refl _)) (ct_X7_takesTune hE hN F c21) ?_
          obtain ⟨g23, hf⟩ := ogd hf
          cases hf
          exact aw_zret rfl g23 dX7_takesItem_87
        · replace hf := (if_neg g19).symm.trans hf
          refine aw_lookup (off := 72) 88 dX7_takesItem_16 (by decide) (lk_out g4 g9 g14 g19) rfl ?_
          cases hf
          exact aw_iconst (nI 0) dX7_takesItem_88 ki_0 (aw_zret rfl (Or.inl rfl) dX7_takesItem_89)
set_option maxHeartbeats 4000000 in
set_option maxRecDepth 100000 in
theorem ct_X7_fault_9 {E : EV} (hE : EI E) (hN : 56 ≤ eN E) (F : Nat) {tw : TW}  {v : Int32} {h' : HP} : ∀ (n : Nat)  (h : HP), f_X7_fault_9 F n  h = some (v, h') → AW E mX7_fault (KM E mX7_fault (some (.int v)) tw h') tw h 9 [some (.ref 39), none] [] := by
  intro n
  induction n with
  | zero => intro  h hf; exact absurd (show (none : Option (Int32 × HP)) = some _ from hf) (fun z => nomatch z)
  | succ n ih =>
    intro  h hf
    rw [f_X7_fault_9] at hf
    refine aw_aload_n dX7_fault_9 rfl (aw_geti fkX7_92 (nl hN rfl) kd_39 (Nat.le_of_ble_eq_true rfl) rfl dX7_fault_10 (aw_aload_n dX7_fault_13 rfl (aw_geti fkX7_81 (nl hN rfl) kd_39 (Nat.le_of_ble_eq_true rfl) rfl dX7_fault_14 ?_)))
    refine aw_icmp_ge 37 dX7_fault_17 rfl (fun g3 => ?_) (fun g3 => ?_)
    · replace hf := (if_pos g3).symm.trans hf
      cases hf
      exact aw_bipush (-4) dX7_fault_37 kb_m4 (aw_iret rfl dX7_fault_39)
    · replace hf := (if_neg g3).symm.trans hf
      refine aw_aload_n dX7_fault_20 rfl (aw_geti fkX7_92 (nl hN rfl) kd_39 (Nat.le_of_ble_eq_true rfl) rfl dX7_fault_21 (aw_istore_n dX7_fault_24 (Nat.le_of_ble_eq_true rfl) (aw_aload_n dX7_fault_25 rfl ?_)))
      obtain ⟨v6, h4, c5, hf⟩ := ob_some hf
      refine aw_callVi (N := mX7_takesItem) (As := []) lkX7_137 okX7_takesItem (nl hN rfl) kd_39 rfl (by rfl) (by rfl) (Nat.le_of_ble_eq_true rfl) ry_X7_fault_X7_takesItem dX7_fault_26 (And.intro (Nat.le_refl _) (Nat.le_refl _)) (ct_X7_takesItem hE hN F c5) ?_
      refine aw_if_ne 34 dX7_fault_29 rfl (fun g7 => ?_) (fun g7 => ?_)
      · replace hf := (if_neg g7).symm.trans hf
        refine aw_goto 9 dX7_fault_34 rfl ?_
        exact aw_dk (ih _ hf) (And.intro rfl trivial)
      · replace hf := (if_pos g7).symm.trans hf
        cases hf
        exact aw_iload_n dX7_fault_32 rfl (aw_iret rfl dX7_fault_33)
set_option maxHeartbeats 4000000 in
set_option maxRecDepth 100000 in
theorem ct_X7_fault {E : EV} (hE : EI E) (hN : 56 ≤ eN E) (F : Nat) {tw : TW}  {h : HP} {v : Int32} {h' : HP} (hf : f_X7_fault F  h = some (v, h')) : CT E mX7_fault tw h [.ref 39] (some (.int v)) tw h' := by
  refine CT.of hE (show plainFor yX7_fault = true by decide +kernel) (Nat.le_of_ble_eq_true rfl) 1 ?_
  show AW E mX7_fault (KM E mX7_fault (some (.int v)) tw h') tw h 0 [some (.ref 39), none] []
  unfold f_X7_fault at hf
  refine aw_aload_n dX7_fault_0 rfl ?_
  obtain ⟨h1, c2, hf⟩ := obv_some hf
  refine aw_callVv (N := mX7_clean) (As := []) lkX7_59 okX7_clean (nl hN rfl) kd_39 rfl (by rfl) (by rfl) (Nat.le_of_ble_eq_true rfl) ry_X7_fault_X7_clean dX7_fault_1 (And.intro (Nat.le_refl _) (Nat.le_refl _)) (ct_X7_clean hE hN F c2) (aw_aload_n dX7_fault_4 rfl (aw_iconst (nI 0) dX7_fault_5 ki_0 (aw_puti fkX7_92 fw_7_14 (nl hN rfl) kd_39 (Nat.le_of_ble_eq_true rfl) rfl dX7_fault_6 ?_)))
  exact aw_dk (ct_X7_fault_9 hE hN F F _ hf) (And.intro rfl trivial)
set_option maxHeartbeats 4000000 in
set_option maxRecDepth 100000 in
theorem ct_X7_begins_79 {E : EV} (hE : EI E) (hN : 56 ≤ eN E) (F : Nat) {tw : TW}  {h' : HP} : ∀ (n : Nat) (x1 : Int32) (h : HP), f_X7_begins_79 F n x1 h = some h' → AW E mX7_begins (KM E mX7_begins none tw h') tw h 79 [some (.ref 39), some (.int x1)] [] := by
  intro n
  induction n with
  | zero => intro x1 h hf; exact absurd (show (none : Option (HP)) = some _ from hf) (fun z => nomatch z)
  | succ n ih =>
    intro x1 h hf
    rw [f_X7_begins_79] at hf
    refine aw_iload_n dX7_begins_79 rfl (aw_bipush (nI 32) dX7_begins_80 kb_32 ?_)
    refine aw_icmp_ge 124 dX7_begins_82 rfl (fun g5 => ?_) (fun g5 => ?_)
    · replace hf := (if_pos g5).symm.trans hf
      cases hf
      exact aw_aload_n dX7_begins_124 rfl (aw_iconst (nI 0) dX7_begins_125 ki_0 (aw_puti fkX7_140 fw_7_13 (nl hN rfl) kd_39 (Nat.le_of_ble_eq_true rfl) rfl dX7_begins_126 (aw_aload_n dX7_begins_129 rfl (aw_iconst (nI 0) dX7_begins_130 ki_0 (aw_puti fkX7_143 fw_7_6 (nl hN rfl) kd_39 (Nat.le_of_ble_eq_true rfl) rfl dX7_begins_131 (aw_aload_n dX7_begins_134 rfl (aw_iconst (nI 0) dX7_begins_135 ki_0 (aw_puti fkX7_146 fw_7_8 (nl hN rfl) kd_39 (Nat.le_of_ble_eq_true rfl) rfl dX7_begins_136 (aw_vret rfl dX7_begins_139)))))))))
    · replace hf := (if_neg g5).symm.trans hf
      refine aw_aload_n dX7_begins_85 rfl (aw_getr fkX7_19 (nl hN rfl) kd_39 (Nat.le_of_ble_eq_true rfl) rfl dX7_begins_86 (aw_iconst (nI 2) dX7_begins_89 ki_2 (aw_iload_n dX7_begins_90 rfl (aw_iadd dX7_begins_91 (aw_iload_n dX7_begins_92 rfl (aw_aload_n dX7_begins_93 rfl (aw_geti fkX7_85 (nl hN rfl) kd_39 (Nat.le_of_ble_eq_true rfl) rfl dX7_begins_94 ?_)))))))
      refine aw_icmp_ge 109 dX7_begins_97 rfl (fun g6 => ?_) (fun g6 => ?_)
      · replace hf := (if_pos g6).symm.trans hf
        refine aw_iconst (nI 0) dX7_begins_109 ki_0 ?_
        obtain ⟨g7, hf⟩ := ogd hf
        refine aw_iast (nl hN rfl) kd_43 g7 dX7_begins_110 (aw_aload_n dX7_begins_111 rfl (aw_getr fkX7_31 (nl hN rfl) kd_39 (Nat.le_of_ble_eq_true rfl) rfl dX7_begins_112 (aw_iload_n dX7_begins_115 rfl (aw_iconst (nI 0) dX7_begins_116 ki_0 ?_))))
        obtain ⟨g8, hf⟩ := ogd hf
        refine aw_iast (nl hN rfl) kd_47 g8 dX7_begins_117 (aw_iinc (nI 1) dX7_begins_118 rfl (Nat.le_of_ble_eq_true rfl) ki_1 (aw_goto 79 dX7_begins_121 rfl ?_))
        exact aw_dk (ih _ _ hf) (And.intro rfl (And.intro rfl trivial))
      · replace hf := (if_neg g6).symm.trans hf
        refine aw_aload_n dX7_begins_100 rfl (aw_getr fkX7_16 (nl hN rfl) kd_39 (Nat.le_of_ble_eq_true rfl) rfl dX7_begins_101 (aw_iload_n dX7_begins_104 rfl ?_))
        obtain ⟨g9, hf⟩ := ogd hf
        refine aw_iald (nl hN rfl) kd_42 g9 dX7_begins_105 (aw_goto 110 dX7_begins_106 rfl ?_)
        obtain ⟨g10, hf⟩ := ogd hf
        refine aw_iast (nl hN rfl) kd_43 g10 dX7_begins_110 (aw_aload_n dX7_begins_111 rfl (aw_getr fkX7_31 (nl hN rfl) kd_39 (Nat.le_of_ble_eq_true rfl) rfl dX7_begins_112 (aw_iload_n dX7_begins_115 rfl (aw_iconst (nI 0) dX7_begins_116 ki_0 (aw_iast (nl hN rfl) kd_47 g9 dX7_begins_117 (aw_iinc (nI 1) dX7_begins_118 rfl (Nat.le_of_ble_eq_true rfl) ki_1 (aw_goto 79 dX7_begins_121 rfl ?_)))))))
        exact aw_dk (ih _ _ hf) (And.intro rfl (And.intro rfl trivial))
set_option maxHeartbeats 4000000 in
set_option maxRecDepth 100000 in
theorem ct_X7_begins_28 {E : EV} (hE : EI E) (hN : 56 ≤ eN E) (F : Nat) {tw : TW}  {h' : HP} : ∀ (n : Nat) (x1 : Int32) (h : HP), f_X7_begins_28 F n x1 h = some h' → AW E mX7_begins (KM E mX7_begins none tw h') tw h 28 [some (.ref 39), some (.int x1)] [] := by
  intro n
  induction n with
  | zero => intro x1 h hf; exact absurd (show (none : Option (HP)) = some _ from hf) (fun z => nomatch z)
  | succ n ih =>
    intro x1 h hf
    rw [f_X7_begins_28] at hf
    refine aw_iload_n dX7_begins_28 rfl (aw_bipush (nI 66) dX7_begins_29 kb_66 ?_)
    refine aw_icmp_ge 65 dX7_begins_31 rfl (fun g3 => ?_) (fun g3 => ?_)
    · replace hf := (if_pos g3).symm.trans hf
      refine aw_aload_n dX7_begins_65 rfl (aw_getr fkX7_19 (nl hN rfl) kd_39 (Nat.le_of_ble_eq_true rfl) rfl dX7_begins_66 (aw_iconst (nI 0) dX7_begins_69 ki_0 (aw_aload_n dX7_begins_70 rfl (aw_getr fkX7_7 (nl hN rfl) kd_39 (Nat.le_of_ble_eq_true rfl) rfl dX7_begins_71 (aw_iconst (nI 1) dX7_begins_74 ki_1 (aw_ialdk (j := 1) cx_1 (nl hN rfl) kd_40 ib_1_19 dX7_begins_75 (aw_iastk (j := 0) cx_0 (nl hN rfl) kd_43 ib_0_66 dX7_begins_76 (aw_iconst (nI 0) dX7_begins_77 ki_0 (aw_istore_n dX7_begins_78 (Nat.le_of_ble_eq_true rfl) ?_)))))))))
      exact aw_dk (ct_X7_begins_79 hE hN F F _ _ hf) (And.intro rfl (And.intro rfl trivial))
    · replace hf := (if_neg g3).symm.trans hf
      have key11 : AW E mX7_begins (KM E mX7_begins none tw h') tw h 58 [some (.ref 39), some (.int x1)] [.int (if x1 < (nI 34) then (nI 0) else (if (nI 50) ≤ x1 then (nI 0) else (-1000))), .int x1, .ref 43] := by
        obtain ⟨g4, hf⟩ := ogd hf
        refine aw_iast (nl hN rfl) kd_43 g4 dX7_begins_58 (aw_iinc (nI 1) dX7_begins_59 rfl (Nat.le_of_ble_eq_true rfl) ki_1 (aw_goto 28 dX7_begins_62 rfl ?_))
        exact aw_dk (ih _ _ hf) (And.intro rfl (And.intro rfl trivial))
      refine aw_aload_n dX7_begins_34 rfl (aw_getr fkX7_19 (nl hN rfl) kd_39 (Nat.le_of_ble_eq_true rfl) rfl dX7_begins_35 (aw_iload_n dX7_begins_38 rfl (aw_iload_n dX7_begins_39 rfl (aw_bipush (nI 34) dX7_begins_40 kb_34 ?_))))
      refine aw_icmp_lt 57 dX7_begins_42 rfl (fun g12 => ?_) (fun g12 => ?_)
      · skip
        refine aw_iconst (nI 0) dX7_begins_57 ki_0 ?_
        simp only [if_pos g12] at key11 ⊢
        exact aw_dk key11 (And.intro rfl (And.intro rfl trivial))
      · skip
        refine aw_iload_n dX7_begins_45 rfl (aw_bipush (nI 50) dX7_begins_46 kb_50 ?_)
        refine aw_icmp_ge 57 dX7_begins_48 rfl (fun g13 => ?_) (fun g13 => ?_)
        · skip
          refine aw_iconst (nI 0) dX7_begins_57 ki_0 ?_
          simp only [if_neg g12, if_pos g13] at key11 ⊢
          exact aw_dk key11 (And.intro rfl (And.intro rfl trivial))
        · skip
          refine aw_sipush (-1000) dX7_begins_51 ks_m1000 (aw_goto 58 dX7_begins_54 rfl ?_)
          simp only [if_neg g12, if_neg g13] at key11 ⊢
          exact aw_dk key11 (And.intro rfl (And.intro rfl trivial))
set_option maxHeartbeats 4000000 in
set_option maxRecDepth 100000 in
theorem ct_X7_begins_2 {E : EV} (hE : EI E) (hN : 56 ≤ eN E) (F : Nat) {tw : TW}  {h' : HP} : ∀ (n : Nat) (x1 : Int32) (h : HP), f_X7_begins_2 F n x1 h = some h' → AW E mX7_begins (KM E mX7_begins none tw h') tw h 2 [some (.ref 39), some (.int x1)] [] := by
  intro n
  induction n with
  | zero => intro x1 h hf; exact absurd (show (none : Option (HP)) = some _ from hf) (fun z => nomatch z)
  | succ n ih =>
    intro x1 h hf
    rw [f_X7_begins_2] at hf
    refine aw_iload_n dX7_begins_2 rfl (aw_bipush (nI 19) dX7_begins_3 kb_19 ?_)
    refine aw_icmp_ge 26 dX7_begins_5 rfl (fun g1 => ?_) (fun g1 => ?_)
    · replace hf := (if_pos g1).symm.trans hf
      refine aw_iconst (nI 0) dX7_begins_26 ki_0 (aw_istore_n dX7_begins_27 (Nat.le_of_ble_eq_true rfl) ?_)
      exact aw_dk (ct_X7_begins_28 hE hN F F _ _ hf) (And.intro rfl (And.intro rfl trivial))
    · replace hf := (if_neg g1).symm.trans hf
      refine aw_aload_n dX7_begins_8 rfl (aw_getr fkX7_7 (nl hN rfl) kd_39 (Nat.le_of_ble_eq_true rfl) rfl dX7_begins_9 (aw_iload_n dX7_begins_12 rfl (aw_aload_n dX7_begins_13 rfl (aw_getr fkX7_13 (nl hN rfl) kd_39 (Nat.le_of_ble_eq_true rfl) rfl dX7_begins_14 (aw_iload_n dX7_begins_17 rfl ?_)))))
      obtain ⟨g2, hf⟩ := ogd hf
      refine aw_iald (nl hN rfl) kd_41 g2 dX7_begins_18 (aw_iast (nl hN rfl) kd_40 g2 dX7_begins_19 (aw_iinc (nI 1) dX7_begins_20 rfl (Nat.le_of_ble_eq_true rfl) ki_1 (aw_goto 2 dX7_begins_23 rfl ?_)))
      exact aw_dk (ih _ _ hf) (And.intro rfl (And.intro rfl trivial))
set_option maxHeartbeats 4000000 in
set_option maxRecDepth 100000 in
theorem ct_X7_begins {E : EV} (hE : EI E) (hN : 56 ≤ eN E) (F : Nat) {tw : TW}  {h : HP} {h' : HP} (hf : f_X7_begins F  h = some h') : CT E mX7_begins tw h [.ref 39] none tw h' := by
  refine CT.of hE (show plainFor yX7_begins = true by decide +kernel) (Nat.le_of_ble_eq_true rfl) 1 ?_
  show AW E mX7_begins (KM E mX7_begins none tw h') tw h 0 [some (.ref 39), none] []
  unfold f_X7_begins at hf
  refine aw_iconst (nI 0) dX7_begins_0 ki_0 (aw_istore_n dX7_begins_1 (Nat.le_of_ble_eq_true rfl) ?_)
  exact aw_dk (ct_X7_begins_2 hE hN F F _ _ hf) (And.intro rfl (And.intro rfl trivial))
set_option maxHeartbeats 4000000 in
set_option maxRecDepth 100000 in
theorem ct_X7_lay {E : EV} (hE : EI E) (hN : 56 ≤ eN E) (F : Nat) {tw : TW}  {h : HP} {v : Int32} {h' : HP} (hf : f_X7_lay F  h = some (v, h')) : CT E mX7_lay tw h [.ref 39] (some (.int v)) tw h' := by
  refine CT.of hE (show plainFor yX7_lay = true by decide +kernel) (Nat.le_of_ble_eq_true rfl) 0 ?_
  show AW E mX7_lay (KM E mX7_lay (some (.int v)) tw h') tw h 0 [some (.ref 39)] []
  unfold f_X7_lay at hf
  refine aw_aload_n dX7_lay_0 rfl ?_
  obtain ⟨v3, h1, c2, hf⟩ := ob_some hf
  refine aw_callVi (N := mX7_fault) (As := []) lkX7_149 okX7_fault (nl hN rfl) kd_39 rfl (by rfl) (by rfl) (Nat.le_of_ble_eq_true rfl) ry_X7_lay_X7_fault dX7_lay_1 (And.intro (Nat.le_refl _) (Nat.le_refl _)) (ct_X7_fault hE hN F c2) (aw_bipush (-4) dX7_lay_4 kb_m4 ?_)
  refine aw_icmp_ne 31 dX7_lay_6 rfl (fun g4 => ?_) (fun g4 => ?_)
  · replace hf := (if_neg g4).symm.trans hf
    cases hf
    exact aw_bipush (-2) dX7_lay_31 kb_m2 (aw_iret rfl dX7_lay_33)
  · replace hf := (if_pos g4).symm.trans hf
    refine aw_aload_n dX7_lay_9 rfl (aw_getr fkX7_13 (nl hN rfl) kd_39 (Nat.le_of_ble_eq_true rfl) rfl dX7_lay_10 (aw_iconst (nI 0) dX7_lay_13 ki_0 (aw_ialdk (j := 0) cx_0 (nl hN rfl) kd_41 ib_0_19 dX7_lay_14 ?_)))
    refine aw_if_eq 31 dX7_lay_15 rfl (fun g5 => ?_) (fun g5 => ?_)
    · replace hf := (if_pos g5).symm.trans hf
      cases hf
      exact aw_bipush (-2) dX7_lay_31 kb_m2 (aw_iret rfl dX7_lay_33)
    · replace hf := (if_neg g5).symm.trans hf
      refine aw_aload_n dX7_lay_18 rfl (aw_geti fkX7_85 (nl hN rfl) kd_39 (Nat.le_of_ble_eq_true rfl) rfl dX7_lay_19 (aw_aload_n dX7_lay_22 rfl (aw_getr fkX7_13 (nl hN rfl) kd_39 (Nat.le_of_ble_eq_true rfl) rfl dX7_lay_23 (aw_iconst (nI 1) dX7_lay_26 ki_1 (aw_ialdk (j := 1) cx_1 (nl hN rfl) kd_41 ib_1_19 dX7_lay_27 ?_)))))
      refine aw_icmp_le 34 dX7_lay_28 rfl (fun g6 => ?_) (fun g6 => ?_)
      · replace hf := (if_pos g6).symm.trans hf
        refine aw_aload_n dX7_lay_34 rfl ?_
        obtain ⟨h7, c8, hf⟩ := obv_some hf
        cases hf
        exact aw_callVv (N := mX7_begins) (As := []) lkX7_70 okX7_begins (nl hN rfl) kd_39 rfl (by rfl) (by rfl) (Nat.le_of_ble_eq_true rfl) ry_X7_lay_X7_begins dX7_lay_35 (And.intro (Nat.le_refl _) (Nat.le_refl _)) (ct_X7_begins hE hN F c8) (aw_aload_n dX7_lay_38 rfl (aw_geti fkX7_85 (nl hN rfl) kd_39 (Nat.le_of_ble_eq_true rfl) rfl dX7_lay_39 (aw_iret rfl dX7_lay_42)))
      · replace hf := (if_neg g6).symm.trans hf
        cases hf
        exact aw_bipush (-2) dX7_lay_31 kb_m2 (aw_iret rfl dX7_lay_33)
set_option maxHeartbeats 4000000 in
set_option maxRecDepth 100000 in
theorem ct_X7_isBell {E : EV} (hE : EI E) (hN : 56 ≤ eN E) (F : Nat) {tw : TW} {x1 : Int32} {h : HP} {v : Int32} {h' : HP} (hf : f_X7_isBell F x1 h = some (v, h')) : CT E mX7_isBell tw h [.ref 39, .int x1] (some (.int v)) tw h' := by
  refine CT.of hE (show plainFor yX7_isBell = true by decide +kernel) (Nat.le_of_ble_eq_true rfl) 0 ?_
  show AW E mX7_isBell (KM E mX7_isBell (some (.int v)) tw h') tw h 0 [some (.ref 39), some (.int x1)] []
  unfold f_X7_isBell at hf
  refine aw_iload_n dX7_isBell_0 rfl (aw_i2l dX7_isBell_1 (aw_lconst (lN 0) dX7_isBell_2 rfl (aw_aload_n dX7_isBell_3 rfl (aw_getr fkX7_7 (nl hN rfl) kd_39 (Nat.le_of_ble_eq_true rfl) rfl dX7_isBell_4 (aw_iconst (nI 0) dX7_isBell_7 ki_0 (aw_ialdk (j := 0) cx_0 (nl hN rfl) kd_40 ib_0_19 dX7_isBell_8 (aw_iconst (nI 1) dX7_isBell_9 ki_1 (aw_isub dX7_isBell_10 (aw_i2l dX7_isBell_11 ?_)))))))))
  obtain ⟨v3, h1, c2, hf⟩ := ob_some hf
  refine aw_callSi (N := mX7_in) (As := [.long x1.toInt64, .long (lN 0), .long (((h 40 0) - (nI 1)).toInt64)]) lkX7_73 okX7_in (by rfl) (by rfl) (Nat.le_of_ble_eq_true rfl) ry_X7_isBell_X7_in dX7_isBell_12 (And.intro (Nat.le_refl _) (Nat.le_refl _)) (ct_X7_in hE hN F c2) ?_
  obtain ⟨g4, hf⟩ := ogd hf
  cases hf
  exact aw_zret rfl g4 dX7_isBell_15
set_option maxHeartbeats 4000000 in
set_option maxRecDepth 100000 in
theorem ct_X7_isRow {E : EV} (hE : EI E) (hN : 56 ≤ eN E) (F : Nat) {tw : TW} {x1 : Int32} {h : HP} {v : Int32} {h' : HP} (hf : f_X7_isRow F x1 h = some (v, h')) : CT E mX7_isRow tw h [.ref 39, .int x1] (some (.int v)) tw h' := by
  refine CT.of hE (show plainFor yX7_isRow = true by decide +kernel) (Nat.le_of_ble_eq_true rfl) 0 ?_
  show AW E mX7_isRow (KM E mX7_isRow (some (.int v)) tw h') tw h 0 [some (.ref 39), some (.int x1)] []
  unfold f_X7_isRow at hf
  refine aw_iload_n dX7_isRow_0 rfl (aw_i2l dX7_isRow_1 (aw_lconst (lN 0) dX7_isRow_2 rfl (aw_aload_n dX7_isRow_3 rfl (aw_getr fkX7_7 (nl hN rfl) kd_39 (Nat.le_of_ble_eq_true rfl) rfl dX7_isRow_4 (aw_iconst (nI 1) dX7_isRow_7 ki_1 (aw_ialdk (j := 1) cx_1 (nl hN rfl) kd_40 ib_1_19 dX7_isRow_8 (aw_iconst (nI 1) dX7_isRow_9 ki_1 (aw_isub dX7_isRow_10 (aw_i2l dX7_isRow_11 ?_)))))))))
  obtain ⟨v3, h1, c2, hf⟩ := ob_some hf
  refine aw_callSi (N := mX7_in) (As := [.long x1.toInt64, .long (lN 0), .long (((h 40 1) - (nI 1)).toInt64)]) lkX7_73 okX7_in (by rfl) (by rfl) (Nat.le_of_ble_eq_true rfl) ry_X7_isRow_X7_in dX7_isRow_12 (And.intro (Nat.le_refl _) (Nat.le_refl _)) (ct_X7_in hE hN F c2) ?_
  obtain ⟨g4, hf⟩ := ogd hf
  cases hf
  exact aw_zret rfl g4 dX7_isRow_15
set_option maxHeartbeats 4000000 in
set_option maxRecDepth 100000 in
theorem ct_X7_isSet {E : EV} (hE : EI E) (hN : 56 ≤ eN E) (F : Nat) {tw : TW} {x1 : Int32} {h : HP} {v : Int32} {h' : HP} (hf : f_X7_isSet F x1 h = some (v, h')) : CT E mX7_isSet tw h [.ref 39, .int x1] (some (.int v)) tw h' := by
  refine CT.of hE (show plainFor yX7_isSet = true by decide +kernel) (Nat.le_of_ble_eq_true rfl) 0 ?_
  show AW E mX7_isSet (KM E mX7_isSet (some (.int v)) tw h') tw h 0 [some (.ref 39), some (.int x1)] []
  unfold f_X7_isSet at hf
  refine aw_iload_n dX7_isSet_0 rfl (aw_i2l dX7_isSet_1 (aw_lconst (lN 0) dX7_isSet_2 rfl (aw_iconst (nI 1) dX7_isSet_3 ki_1 (aw_aload_n dX7_isSet_4 rfl (aw_getr fkX7_7 (nl hN rfl) kd_39 (Nat.le_of_ble_eq_true rfl) rfl dX7_isSet_5 (aw_iconst (nI 0) dX7_isSet_8 ki_0 (aw_ialdk (j := 0) cx_0 (nl hN rfl) kd_40 ib_0_19 dX7_isSet_9 (aw_ishl dX7_isSet_10 (aw_iconst (nI 1) dX7_isSet_11 ki_1 (aw_isub dX7_isSet_12 (aw_i2l dX7_isSet_13 ?_)))))))))))
  obtain ⟨v3, h1, c2, hf⟩ := ob_some hf
  refine aw_callSi (N := mX7_in) (As := [.long x1.toInt64, .long (lN 0), .long (((jshl (nI 1) (h 40 0)) - (nI 1)).toInt64)]) lkX7_73 okX7_in (by rfl) (by rfl) (Nat.le_of_ble_eq_true rfl) ry_X7_isSet_X7_in dX7_isSet_14 (And.intro (Nat.le_refl _) (Nat.le_refl _)) (ct_X7_in hE hN F c2) ?_
  obtain ⟨g4, hf⟩ := ogd hf
  cases hf
  exact aw_zret rfl g4 dX7_isSet_17
set_option maxHeartbeats 4000000 in
set_option maxRecDepth 100000 in
theorem ct_X7_rings_46 {E : EV} (hE : EI E) (hN : 56 ≤ eN E) (F : Nat) {tw : TW} {r1 : Nat} (q1 : IA E r1) {x2 : Int32} {v : Int32} {h' : HP} {k_5 : Int32 → Int32 → HP → Option (Int32 × HP)} (hk_5 : ∀ (x3 : Int32) (x4 : Int32) (h : HP), k_5 x3 x4 h = some (v, h') → AW E mX7_rings (KM E mX7_rings (some (.int v)) tw h') tw h 5 [some (.ref 39), some (.ref r1), some (.int x2), some (.int x3), some (.int x4), none, none] []) : ∀ (n : Nat) (x3 : Int32) (x4 : Int32) (x5 : Int32) (x6 : Int32) (h : HP), f_X7_rings_46 F r1 x2 k_5 n x3 x4 x5 x6 h = some (v, h') → AW E mX7_rings (KM E mX7_rings (some (.int v)) tw h') tw h 46 [some (.ref 39), some (.ref r1), some (.int x2), some (.int x3), some (.int x4), some (.int x5), some (.int x6)] [] := by
  intro n
  induction n with
  | zero => intro x3 x4 x5 x6 h hf; exact absurd (show (none : Option (Int32 × HP)) = some _ from hf) (fun z => nomatch z)
  | succ n ih =>
    intro x3 x4 x5 x6 h hf
    rw [f_X7_rings_46] at hf
    refine aw_iload dX7_rings_46 rfl ?_
    refine aw_if_lt 91 dX7_rings_48 rfl (fun g10 => ?_) (fun g10 => ?_)
    · replace hf := (if_pos g10).symm.trans hf
      refine aw_iload dX7_rings_91 rfl ?_
      refine aw_if_ge 110 dX7_rings_93 rfl (fun g11 => ?_) (fun g11 => ?_)
      · replace hf := (if_pos g11).symm.trans hf
        refine aw_aload_n dX7_rings_110 rfl (aw_bipush (nI 34) dX7_rings_111 kb_34 (aw_iconst (nI 2) dX7_rings_113 ki_2 (aw_iload dX7_rings_114 rfl (aw_imul dX7_rings_116 (aw_iadd dX7_rings_117 (aw_iload dX7_rings_118 rfl (aw_iadd dX7_rings_120 (aw_aload_n dX7_rings_121 rfl (aw_iconst (nI 1) dX7_rings_122 ki_1 ?_)))))))))
        obtain ⟨g12, hf⟩ := ogd hf
        refine aw_ialdk (j := 1) cx_1 q1.2 q1.1 g12 dX7_rings_123 ?_
        obtain ⟨g13, hf⟩ := ogd hf
        refine aw_iast q1.2 q1.1 g13 dX7_rings_124 (aw_aload_n dX7_rings_125 rfl (aw_bipush (nI 50) dX7_rings_126 kb_50 (aw_iload dX7_rings_128 rfl (aw_iadd dX7_rings_130 (aw_dup2 dX7_rings_131 rfl rfl ?_)))))
        obtain ⟨g14, hf⟩ := ogd hf
        refine aw_iald q1.2 q1.1 g14 dX7_rings_132 (aw_iconst (nI 1) dX7_rings_133 ki_1 (aw_iadd dX7_rings_134 (aw_iast q1.2 q1.1 g14 dX7_rings_135 (aw_iload_n dX7_rings_136 rfl (aw_iconst (nI 1) dX7_rings_137 ki_1 (aw_iload dX7_rings_138 rfl (aw_ishl dX7_rings_140 (aw_ior dX7_rings_141 (aw_istore_n dX7_rings_142 (Nat.le_of_ble_eq_true rfl) (aw_iinc (nI 1) dX7_rings_143 rfl (Nat.le_of_ble_eq_true rfl) ki_1 (aw_goto 5 dX7_rings_146 rfl ?_)))))))))))
        exact aw_dk (hk_5 _ _ _ hf) (And.intro rfl (And.intro rfl (And.intro rfl (And.intro rfl (And.intro rfl trivial)))))
      · replace hf := (if_neg g11).symm.trans hf
        refine aw_aload_n dX7_rings_96 rfl (aw_bipush (nI 58) dX7_rings_97 kb_58 (aw_iload dX7_rings_99 rfl (aw_iadd dX7_rings_101 (aw_dup2 dX7_rings_102 rfl rfl ?_))))
        obtain ⟨g15, hf⟩ := ogd hf
        refine aw_iald q1.2 q1.1 g15 dX7_rings_103 (aw_iconst (nI 1) dX7_rings_104 ki_1 (aw_iadd dX7_rings_105 (aw_iast q1.2 q1.1 g15 dX7_rings_106 (aw_goto 143 dX7_rings_107 rfl (aw_iinc (nI 1) dX7_rings_143 rfl (Nat.le_of_ble_eq_true rfl) ki_1 (aw_goto 5 dX7_rings_146 rfl ?_))))))
        exact aw_dk (hk_5 _ _ _ hf) (And.intro rfl (And.intro rfl (And.intro rfl (And.intro rfl (And.intro rfl trivial)))))
    · replace hf := (if_neg g10).symm.trans hf
      refine aw_aload_n dX7_rings_51 rfl (aw_iconst (nI 1) dX7_rings_52 ki_1 ?_)
      obtain ⟨g16, hf⟩ := ogd hf
      refine aw_ialdk (j := 1) cx_1 q1.2 q1.1 g16 dX7_rings_53 (aw_aload_n dX7_rings_54 rfl (aw_bipush (nI 34) dX7_rings_55 kb_34 (aw_iconst (nI 2) dX7_rings_57 ki_2 (aw_iload dX7_rings_58 rfl (aw_imul dX7_rings_60 (aw_iadd dX7_rings_61 (aw_iload dX7_rings_62 rfl (aw_iadd dX7_rings_64 ?_))))))))
      obtain ⟨g17, hf⟩ := ogd hf
      have key18 : AW E mX7_rings (KM E mX7_rings (some (.int v)) tw h') tw h 83 [some (.ref 39), some (.ref r1), some (.int x2), some (.int x3), some (.int x4), some (.int x5), some (.int x6)] [.int (if ((h r1 1) - (h r1 (ix (((nI 34) + ((nI 2) * x4)) + x6)))) ≤ (h 40 2) then x5 else x6)] := by
        refine aw_istore dX7_rings_83 (Nat.le_of_ble_eq_true rfl) (aw_iinc (-1) dX7_rings_85 rfl (Nat.le_of_ble_eq_true rfl) ki_m1 (aw_goto 46 dX7_rings_88 rfl ?_))
        exact aw_dk (ih _ _ _ _ _ hf) (And.intro rfl (And.intro rfl (And.intro rfl (And.intro rfl (And.intro rfl (And.intro rfl (And.intro rfl trivial)))))))
      refine aw_iald q1.2 q1.1 g17 dX7_rings_65 (aw_isub dX7_rings_66 (aw_aload_n dX7_rings_67 rfl (aw_getr fkX7_7 (nl hN rfl) kd_39 (Nat.le_of_ble_eq_true rfl) rfl dX7_rings_68 (aw_iconst (nI 2) dX7_rings_71 ki_2 (aw_ialdk (j := 2) cx_2 (nl hN rfl) kd_40 ib_2_19 dX7_rings_72 ?_)))))
      refine aw_icmp_le 81 dX7_rings_73 rfl (fun g19 => ?_) (fun g19 => ?_)
      · skip
        refine aw_iload dX7_rings_81 rfl ?_
        simp only [if_pos g19] at key18 ⊢
        exact aw_dk key18 (And.intro rfl (And.intro rfl (And.intro rfl (And.intro rfl (And.intro rfl (And.intro rfl (And.intro rfl trivial)))))))
      · skip
        refine aw_iload dX7_rings_76 rfl (aw_goto 83 dX7_rings_78 rfl ?_)
        simp only [if_neg g19] at key18 ⊢
        exact aw_dk key18 (And.intro rfl (And.intro rfl (And.intro rfl (And.intro rfl (And.intro rfl (And.intro rfl (And.intro rfl trivial)))))))
set_option maxHeartbeats 4000000 in
set_option maxRecDepth 100000 in
theorem ct_X7_rings_5 {E : EV} (hE : EI E) (hN : 56 ≤ eN E) (F : Nat) {tw : TW} {r1 : Nat} (q1 : IA E r1) {x2 : Int32} {v : Int32} {h' : HP} : ∀ (n : Nat) (x3 : Int32) (x4 : Int32) (h : HP), f_X7_rings_5 F r1 x2 n x3 x4 h = some (v, h') → AW E mX7_rings (KM E mX7_rings (some (.int v)) tw h') tw h 5 [some (.ref 39), some (.ref r1), some (.int x2), some (.int x3), some (.int x4), none, none] [] := by
  intro n
  induction n with
  | zero => intro x3 x4 h hf; exact absurd (show (none : Option (Int32 × HP)) = some _ from hf) (fun z => nomatch z)
  | succ n ih =>
    intro x3 x4 h hf
    rw [f_X7_rings_5] at hf
    refine aw_iload dX7_rings_5 rfl (aw_aload_n dX7_rings_7 rfl (aw_getr fkX7_7 (nl hN rfl) kd_39 (Nat.le_of_ble_eq_true rfl) rfl dX7_rings_8 (aw_iconst (nI 0) dX7_rings_11 ki_0 (aw_ialdk (j := 0) cx_0 (nl hN rfl) kd_40 ib_0_19 dX7_rings_12 ?_))))
    refine aw_icmp_ge 149 dX7_rings_13 rfl (fun g1 => ?_) (fun g1 => ?_)
    · replace hf := (if_pos g1).symm.trans hf
      refine aw_aload_n dX7_rings_149 rfl (aw_iconst (nI 1) dX7_rings_150 ki_1 (aw_dup2 dX7_rings_151 rfl rfl ?_))
      obtain ⟨g2, hf⟩ := ogd hf
      refine aw_ialdk (j := 1) cx_1 q1.2 q1.1 g2 dX7_rings_152 (aw_iconst (nI 1) dX7_rings_153 ki_1 (aw_iadd dX7_rings_154 (aw_iastk (j := 1) cx_1 q1.2 q1.1 g2 dX7_rings_155 (aw_aload_n dX7_rings_156 rfl (aw_iconst (nI 0) dX7_rings_157 ki_0 (aw_iload_n dX7_rings_158 rfl ?_))))))
      obtain ⟨g3, hf⟩ := ogd hf
      cases hf
      exact aw_iastk (j := 0) cx_0 q1.2 q1.1 g3 dX7_rings_159 (aw_iload_n dX7_rings_160 rfl (aw_iret rfl dX7_rings_161))
    · replace hf := (if_neg g1).symm.trans hf
      refine aw_aload_n dX7_rings_16 rfl (aw_iconst (nI 2) dX7_rings_17 ki_2 (aw_iload_n dX7_rings_18 rfl (aw_iadd dX7_rings_19 ?_)))
      obtain ⟨g4, hf⟩ := ogd hf
      refine aw_iald q1.2 q1.1 g4 dX7_rings_20 (aw_iload dX7_rings_21 rfl ?_)
      obtain ⟨v7, h5, c6, hf⟩ := ob_some hf
      refine aw_callSi (N := mX7_has) (As := [.int (h r1 (ix ((nI 2) + x2))), .int x4]) lkX7_152 okX7_has (by rfl) (by rfl) (Nat.le_of_ble_eq_true rfl) ry_X7_rings_X7_has dX7_rings_23 (And.intro (Nat.le_refl _) (Nat.le_refl _)) (ct_X7_has hE hN F c6) ?_
      refine aw_if_eq 143 dX7_rings_26 rfl (fun g8 => ?_) (fun g8 => ?_)
      · replace hf := (if_pos g8).symm.trans hf
        refine aw_iinc (nI 1) dX7_rings_143 rfl (Nat.le_of_ble_eq_true rfl) ki_1 (aw_goto 5 dX7_rings_146 rfl ?_)
        exact aw_dk (ih _ _ _ hf) (And.intro rfl (And.intro rfl (And.intro rfl (And.intro rfl (And.intro rfl trivial)))))
      · replace hf := (if_neg g8).symm.trans hf
        refine aw_iconst (-1) dX7_rings_29 ki_m1 (aw_istore dX7_rings_30 (Nat.le_of_ble_eq_true rfl) (aw_aload_n dX7_rings_32 rfl (aw_getr fkX7_7 (nl hN rfl) kd_39 (Nat.le_of_ble_eq_true rfl) rfl dX7_rings_33 (aw_bipush (nI 11) dX7_rings_36 kb_11 (aw_iload dX7_rings_38 rfl (aw_iadd dX7_rings_40 ?_))))))
        obtain ⟨g9, hf⟩ := ogd hf
        refine aw_iald (nl hN rfl) kd_40 g9 dX7_rings_41 (aw_iconst (nI 1) dX7_rings_42 ki_1 (aw_isub dX7_rings_43 (aw_istore dX7_rings_44 (Nat.le_of_ble_eq_true rfl) ?_)))
        exact aw_dk (ct_X7_rings_46 hE hN F q1 ih F _ _ _ _ _ hf) (And.intro rfl (And.intro rfl (And.intro rfl (And.intro rfl (And.intro rfl (And.intro rfl (And.intro rfl trivial)))))))
set_option maxHeartbeats 4000000 in
set_option maxRecDepth 100000 in
theorem ct_X7_rings {E : EV} (hE : EI E) (hN : 56 ≤ eN E) (F : Nat) {tw : TW} {r1 : Nat} (q1 : IA E r1) {x2 : Int32} {h : HP} {v : Int32} {h' : HP} (hf : f_X7_rings F r1 x2 h = some (v, h')) : CT E mX7_rings tw h [.ref 39, .ref r1, .int x2] (some (.int v)) tw h' := by
  refine CT.of hE (show plainFor yX7_rings = true by decide +kernel) (Nat.le_of_ble_eq_true rfl) 4 ?_
  show AW E mX7_rings (KM E mX7_rings (some (.int v)) tw h') tw h 0 [some (.ref 39), some (.ref r1), some (.int x2), none, none, none, none] []
  unfold f_X7_rings at hf
  refine aw_iconst (nI 0) dX7_rings_0 ki_0 (aw_istore_n dX7_rings_1 (Nat.le_of_ble_eq_true rfl) (aw_iconst (nI 0) dX7_rings_2 ki_0 (aw_istore dX7_rings_3 (Nat.le_of_ble_eq_true rfl) ?_)))
  exact aw_dk (ct_X7_rings_5 hE hN F q1 F _ _ _ hf) (And.intro rfl (And.intro rfl (And.intro rfl (And.intro rfl (And.intro rfl trivial)))))
