set_option maxHeartbeats 4000000 in
set_option maxRecDepth 100000 in
theorem ct_J9_abs_0f7a4 {E : EV} (hE : EI E) {zN : Nat} (hN : zN ≤ eN E) (F : Nat) {tw : TW} {x0 : Int32} {h : HP} {v : Int32} {h' : HP} (hf : f_J9_abs_0f7a4 F x0 h = some (v, h')) : CT E mJ9_abs_0f7a4 tw h [.int x0] (some (.int v)) tw h' := by
  refine CT.of hE (show plainFor yJ9_abs_0f7a4 = true by decide +kernel) (Nat.le_of_ble_eq_true rfl) 0 ?_
  show AW E mJ9_abs_0f7a4 (KM E mJ9_abs_0f7a4 (some (.int v)) tw h') tw h 0 [some (.int x0)] []
  unfold f_J9_abs_0f7a4 at hf
  refine aw_iload_n dJ9_abs_0f7a4_0 rfl ?_
  refine aw_if_ge 9 dJ9_abs_0f7a4_1 rfl (fun g1 => ?_) (fun g1 => ?_)
  · replace hf := (if_pos g1).symm.trans hf
    cases hf
    exact aw_iload_n dJ9_abs_0f7a4_9 rfl (aw_iret rfl dJ9_abs_0f7a4_10)
  · replace hf := (if_neg g1).symm.trans hf
    cases hf
    exact aw_iload_n dJ9_abs_0f7a4_4 rfl (aw_ineg dJ9_abs_0f7a4_5 (aw_goto 10 dJ9_abs_0f7a4_6 rfl (aw_iret rfl dJ9_abs_0f7a4_10)))
set_option maxHeartbeats 4000000 in
set_option maxRecDepth 100000 in
theorem ct_X5_addBell_63 {E : EV} (hE : EI E) (hN : 39 ≤ eN E) (F : Nat) {tw : TW} {r0 : Nat} (q0 : TO r0) {x1 : Int32} {x2 : Int32} {v : Int32} {h' : HP} : ∀ (n : Nat) (x3 : Int32) (h : HP), f_X5_addBell_63 F r0 x1 x2 n x3 h = some (v, h') → AW E mX5_addBell (KM E mX5_addBell (some (.int v)) tw h') tw h 63 [some (.ref r0), some (.int x1), none, some (.int x3)] [] := by
  intro n
  induction n with
  | zero => intro x3 h hf; exact absurd (show (none : Option (Int32 × HP)) = some _ from hf) (fun z => nomatch z)
  | succ n ih =>
    intro x3 h hf
    rw [f_X5_addBell_63] at hf
    refine aw_iload_n dX5_addBell_63 rfl (aw_aload_n dX5_addBell_64 rfl (aw_geti fkX5_31 (TO.n q0 hN) (TO.k q0) (Nat.le_of_ble_eq_true rfl) rfl dX5_addBell_65 ?_))
    refine aw_icmp_ge 131 dX5_addBell_68 rfl (fun g9 => ?_) (fun g9 => ?_)
    · replace hf := (if_pos g9).symm.trans hf
      cases hf
      exact aw_aload_n dX5_addBell_131 rfl (aw_dup dX5_addBell_132 rfl (aw_geti fkX5_31 (TO.n q0 hN) (TO.k q0) (Nat.le_of_ble_eq_true rfl) rfl dX5_addBell_133 (aw_iconst (nI 1) dX5_addBell_136 ki_1 (aw_iadd dX5_addBell_137 (aw_puti fkX5_31 fw_5_0 (TO.n q0 hN) (TO.k q0) (Nat.le_of_ble_eq_true rfl) rfl dX5_addBell_138 (aw_iconst (nI 1) dX5_addBell_141 ki_1 (aw_zret rfl (Or.inr rfl) dX5_addBell_142)))))))
    · replace hf := (if_neg g9).symm.trans hf
      refine aw_sipush (nI 3142) dX5_addBell_71 ks_3142 (aw_aload_n dX5_addBell_74 rfl (aw_getr fkX5_9 (TO.n q0 hN) (TO.k q0) (Nat.le_of_ble_eq_true rfl) rfl dX5_addBell_75 (aw_iload_n dX5_addBell_78 rfl ?_)))
      obtain ⟨g10, hf⟩ := ogd hf
      refine aw_iald (TO.n1 q0 hN) (TO.k1 q0) g10 dX5_addBell_79 (aw_iload_n dX5_addBell_80 rfl (aw_isub dX5_addBell_81 ?_))
      obtain ⟨v13, h11, c12, hf⟩ := ob_some hf
      refine aw_callSi (N := mJ9_abs_0f7a4) (As := [.int ((h (r0 + 1) (ix x3)) - x1)]) lkX5_41 okJ9_abs_0f7a4 (by rfl) (by rfl) (Nat.le_of_ble_eq_true rfl) ry_X5_addBell_J9_abs_0f7a4 dX5_addBell_82 (And.intro (Nat.le_refl _) (Nat.le_refl _)) (ct_J9_abs_0f7a4 hE hN F c12) (aw_bipush (nI 12) dX5_addBell_85 kb_12 (aw_irem (by decide) dX5_addBell_87 (aw_ishr dX5_addBell_88 (aw_iconst (nI 1) dX5_addBell_89 ki_1 (aw_iand dX5_addBell_90 (aw_iconst (nI 1) dX5_addBell_91 ki_1 ?_))))))
      refine aw_icmp_ne 125 dX5_addBell_92 rfl (fun g14 => ?_) (fun g14 => ?_)
      · replace hf := (if_neg g14).symm.trans hf
        refine aw_iinc (nI 1) dX5_addBell_125 rfl (Nat.le_of_ble_eq_true rfl) ki_1 (aw_goto 63 dX5_addBell_128 rfl ?_)
        exact aw_dk (ih _ _ hf) (And.intro rfl (And.intro rfl (And.intro rfl trivial)))
      · replace hf := (if_pos g14).symm.trans hf
        refine aw_aload_n dX5_addBell_95 rfl (aw_getr fkX5_18 (TO.n q0 hN) (TO.k q0) (Nat.le_of_ble_eq_true rfl) rfl dX5_addBell_96 (aw_iload_n dX5_addBell_99 rfl (aw_dup2 dX5_addBell_100 rfl rfl (aw_iald (TO.n3 q0 hN) (TO.k3 q0) g10 dX5_addBell_101 (aw_iconst (nI 1) dX5_addBell_102 ki_1 (aw_aload_n dX5_addBell_103 rfl (aw_geti fkX5_31 (TO.n q0 hN) (TO.k q0) (Nat.le_of_ble_eq_true rfl) rfl dX5_addBell_104 (aw_ishl dX5_addBell_107 (aw_ior dX5_addBell_108 (aw_iast (TO.n3 q0 hN) (TO.k3 q0) g10 dX5_addBell_109 (aw_aload_n dX5_addBell_110 rfl ?_)))))))))))
        refine aw_getr fkX5_18 (TO.n q0 hN) (TO.k q0) (Nat.le_of_ble_eq_true rfl) rfl dX5_addBell_111 (aw_aload_n dX5_addBell_114 rfl (aw_geti fkX5_31 (TO.n q0 hN) (TO.k q0) (Nat.le_of_ble_eq_true rfl) rfl dX5_addBell_115 (aw_dup2 dX5_addBell_118 rfl rfl ?_)))
        obtain ⟨g15, hf⟩ := ogd hf
        refine aw_iald (TO.n3 q0 hN) (TO.k3 q0) g15 dX5_addBell_119 (aw_iconst (nI 1) dX5_addBell_120 ki_1 (aw_iload_n dX5_addBell_121 rfl (aw_ishl dX5_addBell_122 (aw_ior dX5_addBell_123 (aw_iast (TO.n3 q0 hN) (TO.k3 q0) g15 dX5_addBell_124 (aw_iinc (nI 1) dX5_addBell_125 rfl (Nat.le_of_ble_eq_true rfl) ki_1 (aw_goto 63 dX5_addBell_128 rfl ?_)))))))
        exact aw_dk (ih _ _ hf) (And.intro rfl (And.intro rfl (And.intro rfl trivial)))
set_option maxHeartbeats 4000000 in
set_option maxRecDepth 100000 in
theorem ct_X5_addBell {E : EV} (hE : EI E) (hN : 39 ≤ eN E) (F : Nat) {tw : TW} {r0 : Nat} (q0 : TO r0) {x1 : Int32} {x2 : Int32} {h : HP} {v : Int32} {h' : HP} (hf : f_X5_addBell F r0 x1 x2 h = some (v, h')) : CT E mX5_addBell tw h [.ref r0, .int x1, .int x2] (some (.int v)) tw h' := by
  refine CT.of hE (show plainFor yX5_addBell = true by decide +kernel) (Nat.le_of_ble_eq_true rfl) 1 ?_
  show AW E mX5_addBell (KM E mX5_addBell (some (.int v)) tw h') tw h 0 [some (.ref r0), some (.int x1), some (.int x2), none] []
  unfold f_X5_addBell at hf
  refine aw_aload_n dX5_addBell_0 rfl (aw_geti fkX5_31 (TO.n q0 hN) (TO.k q0) (Nat.le_of_ble_eq_true rfl) rfl dX5_addBell_1 (aw_bipush (nI 8) dX5_addBell_4 kb_8 ?_))
  refine aw_icmp_ge 29 dX5_addBell_6 rfl (fun g1 => ?_) (fun g1 => ?_)
  · replace hf := (if_pos g1).symm.trans hf
    cases hf
    exact aw_iconst (nI 0) dX5_addBell_29 ki_0 (aw_zret rfl (Or.inl rfl) dX5_addBell_30)
  · replace hf := (if_neg g1).symm.trans hf
    refine aw_iload_n dX5_addBell_9 rfl ?_
    refine aw_if_lt 29 dX5_addBell_10 rfl (fun g2 => ?_) (fun g2 => ?_)
    · replace hf := (if_pos g2).symm.trans hf
      cases hf
      exact aw_iconst (nI 0) dX5_addBell_29 ki_0 (aw_zret rfl (Or.inl rfl) dX5_addBell_30)
    · replace hf := (if_neg g2).symm.trans hf
      refine aw_iload_n dX5_addBell_13 rfl (aw_bipush (nI 40) dX5_addBell_14 kb_40 ?_)
      refine aw_icmp_gt 29 dX5_addBell_16 rfl (fun g3 => ?_) (fun g3 => ?_)
      · replace hf := (if_pos g3).symm.trans hf
        cases hf
        exact aw_iconst (nI 0) dX5_addBell_29 ki_0 (aw_zret rfl (Or.inl rfl) dX5_addBell_30)
      · replace hf := (if_neg g3).symm.trans hf
        refine aw_iload_n dX5_addBell_19 rfl (aw_iconst (nI 1) dX5_addBell_20 ki_1 ?_)
        refine aw_icmp_lt 29 dX5_addBell_21 rfl (fun g4 => ?_) (fun g4 => ?_)
        · replace hf := (if_pos g4).symm.trans hf
          cases hf
          exact aw_iconst (nI 0) dX5_addBell_29 ki_0 (aw_zret rfl (Or.inl rfl) dX5_addBell_30)
        · replace hf := (if_neg g4).symm.trans hf
          refine aw_iload_n dX5_addBell_24 rfl (aw_iconst (nI 2) dX5_addBell_25 ki_2 ?_)
          refine aw_icmp_le 31 dX5_addBell_26 rfl (fun g5 => ?_) (fun g5 => ?_)
          · replace hf := (if_pos g5).symm.trans hf
            refine aw_aload_n dX5_addBell_31 rfl (aw_getr fkX5_9 (TO.n q0 hN) (TO.k q0) (Nat.le_of_ble_eq_true rfl) rfl dX5_addBell_32 (aw_aload_n dX5_addBell_35 rfl (aw_geti fkX5_31 (TO.n q0 hN) (TO.k q0) (Nat.le_of_ble_eq_true rfl) rfl dX5_addBell_36 (aw_iload_n dX5_addBell_39 rfl ?_))))
            obtain ⟨g6, hf⟩ := ogd hf
            refine aw_iast (TO.n1 q0 hN) (TO.k1 q0) g6 dX5_addBell_40 (aw_aload_n dX5_addBell_41 rfl (aw_getr fkX5_15 (TO.n q0 hN) (TO.k q0) (Nat.le_of_ble_eq_true rfl) rfl dX5_addBell_42 (aw_aload_n dX5_addBell_45 rfl (aw_geti fkX5_31 (TO.n q0 hN) (TO.k q0) (Nat.le_of_ble_eq_true rfl) rfl dX5_addBell_46 (aw_iload_n dX5_addBell_49 rfl ?_)))))
            obtain ⟨g7, hf⟩ := ogd hf
            refine aw_iast (TO.n2 q0 hN) (TO.k2 q0) g7 dX5_addBell_50 (aw_aload_n dX5_addBell_51 rfl (aw_getr fkX5_18 (TO.n q0 hN) (TO.k q0) (Nat.le_of_ble_eq_true rfl) rfl dX5_addBell_52 (aw_aload_n dX5_addBell_55 rfl (aw_geti fkX5_31 (TO.n q0 hN) (TO.k q0) (Nat.le_of_ble_eq_true rfl) rfl dX5_addBell_56 (aw_iconst (nI 0) dX5_addBell_59 ki_0 ?_)))))
            obtain ⟨g8, hf⟩ := ogd hf
            refine aw_iast (TO.n3 q0 hN) (TO.k3 q0) g8 dX5_addBell_60 (aw_iconst (nI 0) dX5_addBell_61 ki_0 (aw_istore_n dX5_addBell_62 (Nat.le_of_ble_eq_true rfl) ?_))
            exact aw_dk (ct_X5_addBell_63 hE hN F q0 F _ _ hf) (And.intro rfl (And.intro rfl (And.intro rfl trivial)))
          · replace hf := (if_neg g5).symm.trans hf
            cases hf
            exact aw_iconst (nI 0) dX5_addBell_29 ki_0 (aw_zret rfl (Or.inl rfl) dX5_addBell_30)
set_option maxHeartbeats 4000000 in
set_option maxRecDepth 100000 in
theorem ct_X4_readBell {E : EV} (hE : EI E) (hN : 39 ≤ eN E) (F : Nat) {tw : TW} {r1 : Nat} (q1 : TO r1) {h : HP} {v : Int32} {h' : HP} (hf : f_X4_readBell F r1 h = some (v, h')) : CT E mX4_readBell tw h [.ref 1, .ref r1] (some (.int v)) tw h' := by
  refine CT.of hE (show plainFor yX4_readBell = true by decide +kernel) (Nat.le_of_ble_eq_true rfl) 1 ?_
  show AW E mX4_readBell (KM E mX4_readBell (some (.int v)) tw h') tw h 0 [some (.ref 1), some (.ref r1), none] []
  unfold f_X4_readBell at hf
  refine aw_aload_n dX4_readBell_0 rfl ?_
  obtain ⟨v3, h1, c2, hf⟩ := ob_some hf
  refine aw_callVi (N := mX4_readNumber) (As := []) lkX4_45 okX4_readNumber (nl hN rfl) kd_1 rfl (by rfl) (by rfl) (Nat.le_of_ble_eq_true rfl) ry_X4_readBell_X4_readNumber dX4_readBell_1 (And.intro (Nat.le_refl _) (Nat.le_refl _)) (ct_X4_readNumber hE hN F c2) (aw_istore_n dX4_readBell_4 (Nat.le_of_ble_eq_true rfl) (aw_aload_n dX4_readBell_5 rfl (aw_bipush (nI 44) dX4_readBell_6 kb_44 ?_)))
  obtain ⟨v6, h4, c5, hf⟩ := ob_some hf
  refine aw_callVi (N := mX4_accept) (As := [.int (nI 44)]) lkX4_34 okX4_accept (nl hN rfl) kd_1 rfl (by rfl) (by rfl) (Nat.le_of_ble_eq_true rfl) ry_X4_readBell_X4_accept dX4_readBell_8 (And.intro (Nat.le_refl _) (Nat.le_refl _)) (ct_X4_accept hE hN F c5) ?_
  refine aw_if_eq 30 dX4_readBell_11 rfl (fun g7 => ?_) (fun g7 => ?_)
  · replace hf := (if_pos g7).symm.trans hf
    cases hf
    exact aw_iconst (nI 0) dX4_readBell_30 ki_0 (aw_zret rfl (Or.inl rfl) dX4_readBell_31)
  · replace hf := (if_neg g7).symm.trans hf
    refine aw_aload_n dX4_readBell_14 rfl (aw_iload_n dX4_readBell_15 rfl (aw_aload_n dX4_readBell_16 rfl ?_))
    obtain ⟨v10, h8, c9, hf⟩ := ob_some hf
    refine aw_callVi (N := mX4_readNumber) (As := []) lkX4_45 okX4_readNumber (nl hN rfl) kd_1 rfl (by rfl) (by rfl) (Nat.le_of_ble_eq_true rfl) ry_X4_readBell_X4_readNumber dX4_readBell_17 (And.intro (Nat.le_refl _) (Nat.le_refl _)) (ct_X4_readNumber hE hN F c9) ?_
    obtain ⟨v13, h11, c12, hf⟩ := ob_some hf
    refine aw_callVi (N := mX5_addBell) (As := [.int v3, .int v10]) lkX4_57 okX5_addBell (TO.n q1 hN) (TO.k q1) rfl (by rfl) (by rfl) (Nat.le_of_ble_eq_true rfl) ry_X4_readBell_X5_addBell dX4_readBell_20 (And.intro (Nat.le_refl _) (Nat.le_refl _)) (ct_X5_addBell hE hN F q1 c12) ?_
    refine aw_if_eq 30 dX4_readBell_23 rfl (fun g14 => ?_) (fun g14 => ?_)
    · replace hf := (if_pos g14).symm.trans hf
      cases hf
      exact aw_iconst (nI 0) dX4_readBell_30 ki_0 (aw_zret rfl (Or.inl rfl) dX4_readBell_31)
    · replace hf := (if_neg g14).symm.trans hf
      cases hf
      exact aw_iconst (nI 1) dX4_readBell_26 ki_1 (aw_goto 31 dX4_readBell_27 rfl (aw_zret rfl (Or.inr rfl) dX4_readBell_31))
set_option maxHeartbeats 4000000 in
set_option maxRecDepth 100000 in
theorem ct_X5_tellRows {E : EV} (hE : EI E) (hN : 39 ≤ eN E) (F : Nat) {tw : TW} {r0 : Nat} (q0 : TO r0) {x1 : Int32} {h : HP} {v : Int32} {h' : HP} (hf : f_X5_tellRows F r0 x1 h = some (v, h')) : CT E mX5_tellRows tw h [.ref r0, .int x1] (some (.int v)) tw h' := by
  refine CT.of hE (show plainFor yX5_tellRows = true by decide +kernel) (Nat.le_of_ble_eq_true rfl) 0 ?_
  show AW E mX5_tellRows (KM E mX5_tellRows (some (.int v)) tw h') tw h 0 [some (.ref r0), some (.int x1)] []
  unfold f_X5_tellRows at hf
  refine aw_iload_n dX5_tellRows_0 rfl (aw_iconst (nI 2) dX5_tellRows_1 ki_2 ?_)
  refine aw_icmp_lt 11 dX5_tellRows_2 rfl (fun g1 => ?_) (fun g1 => ?_)
  · replace hf := (if_pos g1).symm.trans hf
    cases hf
    exact aw_iconst (nI 0) dX5_tellRows_11 ki_0 (aw_zret rfl (Or.inl rfl) dX5_tellRows_12)
  · replace hf := (if_neg g1).symm.trans hf
    refine aw_iload_n dX5_tellRows_5 rfl (aw_bipush (nI 32) dX5_tellRows_6 kb_32 ?_)
    refine aw_icmp_le 13 dX5_tellRows_8 rfl (fun g2 => ?_) (fun g2 => ?_)
    · replace hf := (if_pos g2).symm.trans hf
      cases hf
      exact aw_aload_n dX5_tellRows_13 rfl (aw_iload_n dX5_tellRows_14 rfl (aw_puti fkX5_21 fw_5_4 (TO.n q0 hN) (TO.k q0) (Nat.le_of_ble_eq_true rfl) rfl dX5_tellRows_15 (aw_iconst (nI 1) dX5_tellRows_18 ki_1 (aw_zret rfl (Or.inr rfl) dX5_tellRows_19))))
    · replace hf := (if_neg g2).symm.trans hf
      cases hf
      exact aw_iconst (nI 0) dX5_tellRows_11 ki_0 (aw_zret rfl (Or.inl rfl) dX5_tellRows_12)
set_option maxHeartbeats 4000000 in
set_option maxRecDepth 100000 in
theorem ct_X5_tellRest {E : EV} (hE : EI E) (hN : 39 ≤ eN E) (F : Nat) {tw : TW} {r0 : Nat} (q0 : TO r0) {x1 : Int32} {h : HP} {v : Int32} {h' : HP} (hf : f_X5_tellRest F r0 x1 h = some (v, h')) : CT E mX5_tellRest tw h [.ref r0, .int x1] (some (.int v)) tw h' := by
  refine CT.of hE (show plainFor yX5_tellRest = true by decide +kernel) (Nat.le_of_ble_eq_true rfl) 0 ?_
  show AW E mX5_tellRest (KM E mX5_tellRest (some (.int v)) tw h') tw h 0 [some (.ref r0), some (.int x1)] []
  unfold f_X5_tellRest at hf
  refine aw_iload_n dX5_tellRest_0 rfl ?_
  refine aw_if_lt 10 dX5_tellRest_1 rfl (fun g1 => ?_) (fun g1 => ?_)
  · replace hf := (if_pos g1).symm.trans hf
    cases hf
    exact aw_iconst (nI 0) dX5_tellRest_10 ki_0 (aw_zret rfl (Or.inl rfl) dX5_tellRest_11)
  · replace hf := (if_neg g1).symm.trans hf
    refine aw_iload_n dX5_tellRest_4 rfl (aw_bipush (nI 6) dX5_tellRest_5 kb_6 ?_)
    refine aw_icmp_le 12 dX5_tellRest_7 rfl (fun g2 => ?_) (fun g2 => ?_)
    · replace hf := (if_pos g2).symm.trans hf
      cases hf
      exact aw_aload_n dX5_tellRest_12 rfl (aw_iload_n dX5_tellRest_13 rfl (aw_puti fkX5_25 fw_5_5 (TO.n q0 hN) (TO.k q0) (Nat.le_of_ble_eq_true rfl) rfl dX5_tellRest_14 (aw_iconst (nI 1) dX5_tellRest_17 ki_1 (aw_zret rfl (Or.inr rfl) dX5_tellRest_18))))
    · replace hf := (if_neg g2).symm.trans hf
      cases hf
      exact aw_iconst (nI 0) dX5_tellRest_10 ki_0 (aw_zret rfl (Or.inl rfl) dX5_tellRest_11)
set_option maxHeartbeats 4000000 in
set_option maxRecDepth 100000 in
theorem ct_X5_addRow {E : EV} (hE : EI E) (hN : 39 ≤ eN E) (F : Nat) {tw : TW} {r0 : Nat} (q0 : TO r0) {x1 : Int32} {h : HP} {v : Int32} {h' : HP} (hf : f_X5_addRow F r0 x1 h = some (v, h')) : CT E mX5_addRow tw h [.ref r0, .int x1] (some (.int v)) tw h' := by
  refine CT.of hE (show plainFor yX5_addRow = true by decide +kernel) (Nat.le_of_ble_eq_true rfl) 0 ?_
  show AW E mX5_addRow (KM E mX5_addRow (some (.int v)) tw h') tw h 0 [some (.ref r0), some (.int x1)] []
  unfold f_X5_addRow at hf
  refine aw_aload_n dX5_addRow_0 rfl (aw_geti fkX5_38 (TO.n q0 hN) (TO.k q0) (Nat.le_of_ble_eq_true rfl) rfl dX5_addRow_1 (aw_bipush (nI 32) dX5_addRow_4 kb_32 ?_))
  refine aw_icmp_lt 11 dX5_addRow_6 rfl (fun g1 => ?_) (fun g1 => ?_)
  · replace hf := (if_pos g1).symm.trans hf
    refine aw_aload_n dX5_addRow_11 rfl (aw_getr fkX5_28 (TO.n q0 hN) (TO.k q0) (Nat.le_of_ble_eq_true rfl) rfl dX5_addRow_12 (aw_aload_n dX5_addRow_15 rfl (aw_geti fkX5_38 (TO.n q0 hN) (TO.k q0) (Nat.le_of_ble_eq_true rfl) rfl dX5_addRow_16 (aw_iload_n dX5_addRow_19 rfl ?_))))
    obtain ⟨g2, hf⟩ := ogd hf
    cases hf
    exact aw_iast (TO.n4 q0 hN) (TO.k4 q0) g2 dX5_addRow_20 (aw_aload_n dX5_addRow_21 rfl (aw_dup dX5_addRow_22 rfl (aw_geti fkX5_38 (TO.n q0 hN) (TO.k q0) (Nat.le_of_ble_eq_true rfl) rfl dX5_addRow_23 (aw_iconst (nI 1) dX5_addRow_26 ki_1 (aw_iadd dX5_addRow_27 (aw_puti fkX5_38 fw_5_7 (TO.n q0 hN) (TO.k q0) (Nat.le_of_ble_eq_true rfl) rfl dX5_addRow_28 (aw_iconst (nI 1) dX5_addRow_31 ki_1 (aw_zret rfl (Or.inr rfl) dX5_addRow_32))))))))
  · replace hf := (if_neg g1).symm.trans hf
    cases hf
    exact aw_iconst (nI 0) dX5_addRow_9 ki_0 (aw_zret rfl (Or.inl rfl) dX5_addRow_10)
set_option maxHeartbeats 4000000 in
set_option maxRecDepth 100000 in
theorem ct_X5_tellAgain_31 {E : EV} (hE : EI E) (hN : 39 ≤ eN E) (F : Nat) {tw : TW} {r0 : Nat} (q0 : TO r0) {x1 : Int32} {x2 : Int32} {v : Int32} {h' : HP} : ∀ (n : Nat) (x3 : Int32) (x4 : Int32) (h : HP), f_X5_tellAgain_31 F r0 x1 x2 n x3 x4 h = some (v, h') → AW E mX5_tellAgain (KM E mX5_tellAgain (some (.int v)) tw h') tw h 31 [some (.ref r0), some (.int x1), some (.int x2), some (.int x3), some (.int x4)] [] := by
  intro n
  induction n with
  | zero => intro x3 x4 h hf; exact absurd (show (none : Option (Int32 × HP)) = some _ from hf) (fun z => nomatch z)
  | succ n ih =>
    intro x3 x4 h hf
    rw [f_X5_tellAgain_31] at hf
    refine aw_iload dX5_tellAgain_31 rfl (aw_iload_n dX5_tellAgain_33 rfl (aw_iload_n dX5_tellAgain_34 rfl (aw_iconst (nI 1) dX5_tellAgain_35 ki_1 (aw_isub dX5_tellAgain_36 (aw_imul dX5_tellAgain_37 ?_)))))
    refine aw_icmp_ge 61 dX5_tellAgain_38 rfl (fun g4 => ?_) (fun g4 => ?_)
    · replace hf := (if_pos g4).symm.trans hf
      cases hf
      exact aw_iconst (nI 1) dX5_tellAgain_61 ki_1 (aw_zret rfl (Or.inr rfl) dX5_tellAgain_62)
    · replace hf := (if_neg g4).symm.trans hf
      refine aw_aload_n dX5_tellAgain_41 rfl (aw_aload_n dX5_tellAgain_42 rfl (aw_getr fkX5_28 (TO.n q0 hN) (TO.k q0) (Nat.le_of_ble_eq_true rfl) rfl dX5_tellAgain_43 (aw_iload_n dX5_tellAgain_46 rfl (aw_iload dX5_tellAgain_47 rfl (aw_iadd dX5_tellAgain_49 ?_)))))
      obtain ⟨g5, hf⟩ := ogd hf
      refine aw_iald (TO.n4 q0 hN) (TO.k4 q0) g5 dX5_tellAgain_50 ?_
      obtain ⟨v8, h6, c7, hf⟩ := ob_some hf
      refine aw_callVi (N := mX5_addRow) (As := [.int (h (r0 + 4) (ix (x1 + x4)))]) lkX5_47 okX5_addRow (TO.n q0 hN) (TO.k q0) rfl (by rfl) (by rfl) (Nat.le_of_ble_eq_true rfl) ry_X5_tellAgain_X5_addRow dX5_tellAgain_51 (And.intro (Nat.le_refl _) (Nat.le_refl _)) (ct_X5_addRow hE hN F q0 c7) (aw_pop dX5_tellAgain_54 rfl (aw_iinc (nI 1) dX5_tellAgain_55 rfl (Nat.le_of_ble_eq_true rfl) ki_1 (aw_goto 31 dX5_tellAgain_58 rfl ?_)))
      exact aw_dk (ih _ _ _ hf) (And.intro rfl (And.intro rfl (And.intro rfl (And.intro rfl (And.intro rfl trivial)))))
set_option maxHeartbeats 4000000 in
set_option maxRecDepth 100000 in
theorem ct_X5_tellAgain {E : EV} (hE : EI E) (hN : 39 ≤ eN E) (F : Nat) {tw : TW} {r0 : Nat} (q0 : TO r0) {x1 : Int32} {x2 : Int32} {h : HP} {v : Int32} {h' : HP} (hf : f_X5_tellAgain F r0 x1 x2 h = some (v, h')) : CT E mX5_tellAgain tw h [.ref r0, .int x1, .int x2] (some (.int v)) tw h' := by
  refine CT.of hE (show plainFor yX5_tellAgain = true by decide +kernel) (Nat.le_of_ble_eq_true rfl) 2 ?_
  show AW E mX5_tellAgain (KM E mX5_tellAgain (some (.int v)) tw h') tw h 0 [some (.ref r0), some (.int x1), some (.int x2), none, none] []
  unfold f_X5_tellAgain at hf
  refine aw_aload_n dX5_tellAgain_0 rfl (aw_geti fkX5_38 (TO.n q0 hN) (TO.k q0) (Nat.le_of_ble_eq_true rfl) rfl dX5_tellAgain_1 (aw_iload_n dX5_tellAgain_4 rfl (aw_isub dX5_tellAgain_5 (aw_istore_n dX5_tellAgain_6 (Nat.le_of_ble_eq_true rfl) (aw_iload_n dX5_tellAgain_7 rfl ?_)))))
  refine aw_if_lt 26 dX5_tellAgain_8 rfl (fun g1 => ?_) (fun g1 => ?_)
  · replace hf := (if_pos g1).symm.trans hf
    cases hf
    exact aw_iconst (nI 0) dX5_tellAgain_26 ki_0 (aw_zret rfl (Or.inl rfl) dX5_tellAgain_27)
  · replace hf := (if_neg g1).symm.trans hf
    refine aw_iload_n dX5_tellAgain_11 rfl (aw_iconst (nI 1) dX5_tellAgain_12 ki_1 ?_)
    refine aw_icmp_lt 26 dX5_tellAgain_13 rfl (fun g2 => ?_) (fun g2 => ?_)
    · replace hf := (if_pos g2).symm.trans hf
      cases hf
      exact aw_iconst (nI 0) dX5_tellAgain_26 ki_0 (aw_zret rfl (Or.inl rfl) dX5_tellAgain_27)
    · replace hf := (if_neg g2).symm.trans hf
      refine aw_iload_n dX5_tellAgain_16 rfl (aw_iload_n dX5_tellAgain_17 rfl (aw_iload_n dX5_tellAgain_18 rfl (aw_imul dX5_tellAgain_19 (aw_iadd dX5_tellAgain_20 (aw_bipush (nI 32) dX5_tellAgain_21 kb_32 ?_)))))
      refine aw_icmp_le 28 dX5_tellAgain_23 rfl (fun g3 => ?_) (fun g3 => ?_)
      · replace hf := (if_pos g3).symm.trans hf
        refine aw_iconst (nI 0) dX5_tellAgain_28 ki_0 (aw_istore dX5_tellAgain_29 (Nat.le_of_ble_eq_true rfl) ?_)
        exact aw_dk (ct_X5_tellAgain_31 hE hN F q0 F _ _ _ hf) (And.intro rfl (And.intro rfl (And.intro rfl (And.intro rfl (And.intro rfl trivial)))))
      · replace hf := (if_neg g3).symm.trans hf
        cases hf
        exact aw_iconst (nI 0) dX5_tellAgain_26 ki_0 (aw_zret rfl (Or.inl rfl) dX5_tellAgain_27)
set_option maxHeartbeats 4000000 in
set_option maxRecDepth 100000 in
theorem ct_X4_readBellLetter {E : EV} (hE : EI E) (hN : 39 ≤ eN E) (F : Nat) {tw : TW} {x1 : Int32} {h : HP} {v : Int32} {h' : HP} (hf : f_X4_readBellLetter F x1 h = some (v, h')) : CT E mX4_readBellLetter tw h [.ref 1, .int x1] (some (.int v)) tw h' := by
  refine CT.of hE (show plainFor yX4_readBellLetter = true by decide +kernel) (Nat.le_of_ble_eq_true rfl) 1 ?_
  show AW E mX4_readBellLetter (KM E mX4_readBellLetter (some (.int v)) tw h') tw h 0 [some (.ref 1), some (.int x1), none] []
  unfold f_X4_readBellLetter at hf
  refine aw_aload_n dX4_readBellLetter_0 rfl ?_
  obtain ⟨v3, h1, c2, hf⟩ := ob_some hf
  refine aw_callVi (N := mX4_peek) (As := []) lkX4_38 okX4_peek (nl hN rfl) kd_1 rfl (by rfl) (by rfl) (Nat.le_of_ble_eq_true rfl) ry_X4_readBellLetter_X4_peek dX4_readBellLetter_1 (And.intro (Nat.le_refl _) (Nat.le_refl _)) (ct_X4_peek hE hN F c2) (aw_bipush (nI 97) dX4_readBellLetter_4 kb_97 (aw_isub dX4_readBellLetter_6 (aw_istore_n dX4_readBellLetter_7 (Nat.le_of_ble_eq_true rfl) (aw_aload_n dX4_readBellLetter_8 rfl (aw_dup dX4_readBellLetter_9 rfl (aw_geti fkX4_27 (nl hN rfl) kd_1 (Nat.le_of_ble_eq_true rfl) rfl dX4_readBellLetter_10 (aw_iconst (nI 1) dX4_readBellLetter_13 ki_1 (aw_iadd dX4_readBellLetter_14 (aw_puti fkX4_27 fw_4_2 (nl hN rfl) kd_1 (Nat.le_of_ble_eq_true rfl) rfl dX4_readBellLetter_15 (aw_iload_n dX4_readBellLetter_18 rfl ?_))))))))))
  refine aw_if_lt 31 dX4_readBellLetter_19 rfl (fun g4 => ?_) (fun g4 => ?_)
  · replace hf := (if_pos g4).symm.trans hf
    cases hf
    exact aw_iconst (-1) dX4_readBellLetter_31 ki_m1 (aw_iret rfl dX4_readBellLetter_32)
  · replace hf := (if_neg g4).symm.trans hf
    refine aw_iload_n dX4_readBellLetter_22 rfl (aw_iload_n dX4_readBellLetter_23 rfl ?_)
    refine aw_icmp_ge 31 dX4_readBellLetter_24 rfl (fun g5 => ?_) (fun g5 => ?_)
    · replace hf := (if_pos g5).symm.trans hf
      cases hf
      exact aw_iconst (-1) dX4_readBellLetter_31 ki_m1 (aw_iret rfl dX4_readBellLetter_32)
    · replace hf := (if_neg g5).symm.trans hf
      cases hf
      exact aw_iload_n dX4_readBellLetter_27 rfl (aw_goto 32 dX4_readBellLetter_28 rfl (aw_iret rfl dX4_readBellLetter_32))
set_option maxHeartbeats 4000000 in
set_option maxRecDepth 100000 in
theorem ct_X4_readSet_91 {E : EV} (hE : EI E) (hN : 39 ≤ eN E) (F : Nat) {tw : TW} {x1 : Int32} {v : Int32} {h' : HP} : ∀ (x2 : Int32) (h : HP), f_X4_readSet_91 F x1 x2 h = some (v, h') → AW E mX4_readSet (KM E mX4_readSet (some (.int v)) tw h') tw h 91 [some (.ref 1), none, some (.int x2), none, none] [] := by
  intro x2 h hf
  unfold f_X4_readSet_91 at hf
  refine aw_aload_n dX4_readSet_91 rfl (aw_bipush (nI 93) dX4_readSet_92 kb_93 ?_)
  obtain ⟨v25, h23, c24, hf⟩ := ob_some hf
  refine aw_callVi (N := mX4_accept) (As := [.int (nI 93)]) lkX4_34 okX4_accept (nl hN rfl) kd_1 rfl (by rfl) (by rfl) (Nat.le_of_ble_eq_true rfl) ry_X4_readSet_X4_accept dX4_readSet_94 (And.intro (Nat.le_refl _) (Nat.le_refl _)) (ct_X4_accept hE hN F c24) ?_
  refine aw_if_eq 112 dX4_readSet_97 rfl (fun g26 => ?_) (fun g26 => ?_)
  · replace hf := (if_pos g26).symm.trans hf
    cases hf
    exact aw_iconst (-1) dX4_readSet_112 ki_m1 (aw_iret rfl dX4_readSet_113)
  · replace hf := (if_neg g26).symm.trans hf
    refine aw_iload_n dX4_readSet_100 rfl ?_
    obtain ⟨v29, h27, c28, hf⟩ := ob_some hf
    refine aw_callSi (N := mJ6_bitCount_0f7a4) (As := [.int x2]) lkX4_87 okJ6_bitCount_0f7a4 (by rfl) (by rfl) (Nat.le_of_ble_eq_true rfl) ry_X4_readSet_J6_bitCount_0f7a4 dX4_readSet_101 (And.intro (Nat.le_refl _) (Nat.le_refl _)) (ct_J6_bitCount_0f7a4 hE hN F c28) (aw_iconst (nI 2) dX4_readSet_104 ki_2 ?_)
    refine aw_icmp_lt 112 dX4_readSet_105 rfl (fun g30 => ?_) (fun g30 => ?_)
    · replace hf := (if_pos g30).symm.trans hf
      cases hf
      exact aw_iconst (-1) dX4_readSet_112 ki_m1 (aw_iret rfl dX4_readSet_113)
    · replace hf := (if_neg g30).symm.trans hf
      cases hf
      exact aw_iload_n dX4_readSet_108 rfl (aw_goto 113 dX4_readSet_109 rfl (aw_iret rfl dX4_readSet_113))
set_option maxHeartbeats 4000000 in
set_option maxRecDepth 100000 in
theorem ct_X4_readSet_42 {E : EV} (hE : EI E) (hN : 39 ≤ eN E) (F : Nat) {tw : TW} {x1 : Int32} {v : Int32} {h' : HP} : ∀ (n : Nat) (x2 : Int32) (x3 : Int32) (h : HP), f_X4_readSet_42 F x1 n x2 x3 h = some (v, h') → AW E mX4_readSet (KM E mX4_readSet (some (.int v)) tw h') tw h 42 [some (.ref 1), some (.int x1), some (.int x2), some (.int x3), none] [] := by
  intro n
  induction n with
  | zero => intro x2 x3 h hf; exact absurd (show (none : Option (Int32 × HP)) = some _ from hf) (fun z => nomatch z)
  | succ n ih =>
    intro x2 x3 h hf
    rw [f_X4_readSet_42] at hf
    refine aw_iload_n dX4_readSet_42 rfl (aw_bipush (nI 8) dX4_readSet_43 kb_8 ?_)
    refine aw_icmp_ge 91 dX4_readSet_45 rfl (fun g13 => ?_) (fun g13 => ?_)
    · replace hf := (if_pos g13).symm.trans hf
      exact aw_dk (ct_X4_readSet_91 hE hN F _ _ hf) (And.intro rfl (And.intro rfl trivial))
    · replace hf := (if_neg g13).symm.trans hf
      refine aw_aload_n dX4_readSet_48 rfl ?_
      obtain ⟨v16, h14, c15, hf⟩ := ob_some hf
      refine aw_callVi (N := mX4_peek) (As := []) lkX4_38 okX4_peek (nl hN rfl) kd_1 rfl (by rfl) (by rfl) (Nat.le_of_ble_eq_true rfl) ry_X4_readSet_X4_peek dX4_readSet_49 (And.intro (Nat.le_refl _) (Nat.le_refl _)) (ct_X4_peek hE hN F c15) (aw_bipush (nI 93) dX4_readSet_52 kb_93 ?_)
      refine aw_icmp_eq 91 dX4_readSet_54 rfl (fun g17 => ?_) (fun g17 => ?_)
      · replace hf := (if_pos g17).symm.trans hf
        exact aw_dk (ct_X4_readSet_91 hE hN F _ _ hf) (And.intro rfl (And.intro rfl trivial))
      · replace hf := (if_neg g17).symm.trans hf
        refine aw_aload_n dX4_readSet_57 rfl (aw_iload_n dX4_readSet_58 rfl ?_)
        obtain ⟨v20, h18, c19, hf⟩ := ob_some hf
        refine aw_callVi (N := mX4_readBellLetter) (As := [.int x1]) lkX4_84 okX4_readBellLetter (nl hN rfl) kd_1 rfl (by rfl) (by rfl) (Nat.le_of_ble_eq_true rfl) ry_X4_readSet_X4_readBellLetter dX4_readSet_59 (And.intro (Nat.le_refl _) (Nat.le_refl _)) (ct_X4_readBellLetter hE hN F c19) (aw_istore dX4_readSet_62 (Nat.le_of_ble_eq_true rfl) (aw_iload dX4_readSet_64 rfl ?_))
        refine aw_if_lt 76 dX4_readSet_66 rfl (fun g21 => ?_) (fun g21 => ?_)
        · replace hf := (if_pos g21).symm.trans hf
          cases hf
          exact aw_iconst (-1) dX4_readSet_76 ki_m1 (aw_iret rfl dX4_readSet_77)
        · replace hf := (if_neg g21).symm.trans hf
          refine aw_iload_n dX4_readSet_69 rfl (aw_iload dX4_readSet_70 rfl (aw_ishr dX4_readSet_72 ?_))
          refine aw_if_eq 78 dX4_readSet_73 rfl (fun g22 => ?_) (fun g22 => ?_)
          · replace hf := (if_pos g22).symm.trans hf
            refine aw_iload_n dX4_readSet_78 rfl (aw_iconst (nI 1) dX4_readSet_79 ki_1 (aw_iload dX4_readSet_80 rfl (aw_ishl dX4_readSet_82 (aw_ior dX4_readSet_83 (aw_istore_n dX4_readSet_84 (Nat.le_of_ble_eq_true rfl) (aw_iinc (nI 1) dX4_readSet_85 rfl (Nat.le_of_ble_eq_true rfl) ki_1 (aw_goto 42 dX4_readSet_88 rfl ?_)))))))
            exact aw_dk (ih _ _ _ hf) (And.intro rfl (And.intro rfl (And.intro rfl (And.intro rfl trivial))))
          · replace hf := (if_neg g22).symm.trans hf
            cases hf
            exact aw_iconst (-1) dX4_readSet_76 ki_m1 (aw_iret rfl dX4_readSet_77)
set_option maxHeartbeats 4000000 in
set_option maxRecDepth 100000 in
theorem ct_X4_readSet {E : EV} (hE : EI E) (hN : 39 ≤ eN E) (F : Nat) {tw : TW} {x1 : Int32} {h : HP} {v : Int32} {h' : HP} (hf : f_X4_readSet F x1 h = some (v, h')) : CT E mX4_readSet tw h [.ref 1, .int x1] (some (.int v)) tw h' := by
  refine CT.of hE (show plainFor yX4_readSet = true by decide +kernel) (Nat.le_of_ble_eq_true rfl) 3 ?_
  show AW E mX4_readSet (KM E mX4_readSet (some (.int v)) tw h') tw h 0 [some (.ref 1), some (.int x1), none, none, none] []
  unfold f_X4_readSet at hf
  refine aw_aload_n dX4_readSet_0 rfl (aw_bipush (nI 46) dX4_readSet_1 kb_46 ?_)
  obtain ⟨v3, h1, c2, hf⟩ := ob_some hf
  refine aw_callVi (N := mX4_accept) (As := [.int (nI 46)]) lkX4_34 okX4_accept (nl hN rfl) kd_1 rfl (by rfl) (by rfl) (Nat.le_of_ble_eq_true rfl) ry_X4_readSet_X4_accept dX4_readSet_3 (And.intro (Nat.le_refl _) (Nat.le_refl _)) (ct_X4_accept hE hN F c2) ?_
  refine aw_if_eq 11 dX4_readSet_6 rfl (fun g4 => ?_) (fun g4 => ?_)
  · replace hf := (if_pos g4).symm.trans hf
    refine aw_aload_n dX4_readSet_11 rfl (aw_bipush (nI 91) dX4_readSet_12 kb_91 ?_)
    obtain ⟨v7, h5, c6, hf⟩ := ob_some hf
    refine aw_callVi (N := mX4_accept) (As := [.int (nI 91)]) lkX4_34 okX4_accept (nl hN rfl) kd_1 rfl (by rfl) (by rfl) (Nat.le_of_ble_eq_true rfl) ry_X4_readSet_X4_accept dX4_readSet_14 (And.intro (Nat.le_refl _) (Nat.le_refl _)) (ct_X4_accept hE hN F c6) ?_
    refine aw_if_ne 38 dX4_readSet_17 rfl (fun g8 => ?_) (fun g8 => ?_)
    · replace hf := (if_neg g8).symm.trans hf
      refine aw_iconst (nI 0) dX4_readSet_38 ki_0 (aw_istore_n dX4_readSet_39 (Nat.le_of_ble_eq_true rfl) (aw_iconst (nI 0) dX4_readSet_40 ki_0 (aw_istore_n dX4_readSet_41 (Nat.le_of_ble_eq_true rfl) ?_)))
      exact aw_dk (ct_X4_readSet_42 hE hN F F _ _ _ hf) (And.intro rfl (And.intro rfl (And.intro rfl (And.intro rfl trivial))))
    · replace hf := (if_pos g8).symm.trans hf
      refine aw_aload_n dX4_readSet_20 rfl (aw_iload_n dX4_readSet_21 rfl ?_)
      obtain ⟨v11, h9, c10, hf⟩ := ob_some hf
      refine aw_callVi (N := mX4_readBellLetter) (As := [.int x1]) lkX4_84 okX4_readBellLetter (nl hN rfl) kd_1 rfl (by rfl) (by rfl) (Nat.le_of_ble_eq_true rfl) ry_X4_readSet_X4_readBellLetter dX4_readSet_22 (And.intro (Nat.le_refl _) (Nat.le_refl _)) (ct_X4_readBellLetter hE hN F c10) (aw_istore_n dX4_readSet_25 (Nat.le_of_ble_eq_true rfl) (aw_iload_n dX4_readSet_26 rfl ?_))
      refine aw_if_ge 34 dX4_readSet_27 rfl (fun g12 => ?_) (fun g12 => ?_)
      · replace hf := (if_pos g12).symm.trans hf
        cases hf
        exact aw_iconst (nI 1) dX4_readSet_34 ki_1 (aw_iload_n dX4_readSet_35 rfl (aw_ishl dX4_readSet_36 (aw_iret rfl dX4_readSet_37)))
      · replace hf := (if_neg g12).symm.trans hf
        cases hf
        exact aw_iconst (-1) dX4_readSet_30 ki_m1 (aw_goto 37 dX4_readSet_31 rfl (aw_iret rfl dX4_readSet_37))
  · replace hf := (if_neg g4).symm.trans hf
    cases hf
    exact aw_iconst (nI 0) dX4_readSet_9 ki_0 (aw_iret rfl dX4_readSet_10)
set_option maxHeartbeats 4000000 in
set_option maxRecDepth 100000 in
theorem ct_X4_readTune_149 {E : EV} (hE : EI E) (hN : 39 ≤ eN E) (F : Nat) {tw : TW} {r1 : Nat} (q1 : TO r1) {v : Int32} {h' : HP} : ∀ (x2 : Int32) (h : HP), f_X4_readTune_149 F r1 x2 h = some (v, h') → AW E mX4_readTune (KM E mX4_readTune (some (.int v)) tw h') tw h 149 [none, some (.ref r1), some (.int x2), none, none] [] := by
  intro x2 h hf
  unfold f_X4_readTune_149 at hf
  refine aw_iload_n dX4_readTune_149 rfl ?_
  refine aw_if_ne 164 dX4_readTune_150 rfl (fun g35 => ?_) (fun g35 => ?_)
  · replace hf := (if_neg g35).symm.trans hf
    cases hf
    exact aw_iconst (nI 0) dX4_readTune_164 ki_0 (aw_zret rfl (Or.inl rfl) dX4_readTune_165)
  · replace hf := (if_pos g35).symm.trans hf
    refine aw_aload_n dX4_readTune_153 rfl (aw_geti fkX4_65 (TO.n q1 hN) (TO.k q1) (Nat.le_of_ble_eq_true rfl) rfl dX4_readTune_154 ?_)
    refine aw_if_le 164 dX4_readTune_157 rfl (fun g36 => ?_) (fun g36 => ?_)
    · replace hf := (if_pos g36).symm.trans hf
      cases hf
      exact aw_iconst (nI 0) dX4_readTune_164 ki_0 (aw_zret rfl (Or.inl rfl) dX4_readTune_165)
    · replace hf := (if_neg g36).symm.trans hf
      cases hf
      exact aw_iconst (nI 1) dX4_readTune_160 ki_1 (aw_goto 165 dX4_readTune_161 rfl (aw_zret rfl (Or.inr rfl) dX4_readTune_165))
set_option maxHeartbeats 4000000 in
set_option maxRecDepth 100000 in
theorem ct_X4_readTune_18 {E : EV} (hE : EI E) (hN : 39 ≤ eN E) (F : Nat) {tw : TW} {r1 : Nat} (q1 : TO r1) {v : Int32} {h' : HP} : ∀ (n : Nat) (x2 : Int32) (x3 : Int32) (h : HP), f_X4_readTune_18 F r1 n x2 x3 h = some (v, h') → AW E mX4_readTune (KM E mX4_readTune (some (.int v)) tw h') tw h 18 [some (.ref 1), some (.ref r1), some (.int x2), some (.int x3), none] [] := by
  intro n
  induction n with
  | zero => intro x2 x3 h hf; exact absurd (show (none : Option (Int32 × HP)) = some _ from hf) (fun z => nomatch z)
  | succ n ih =>
    intro x2 x3 h hf
    rw [f_X4_readTune_18] at hf
    refine aw_iload_n dX4_readTune_18 rfl (aw_sipush (nI 200) dX4_readTune_19 ks_200 ?_)
    refine aw_icmp_ge 149 dX4_readTune_22 rfl (fun g2 => ?_) (fun g2 => ?_)
    · replace hf := (if_pos g2).symm.trans hf
      exact aw_dk (ct_X4_readTune_149 hE hN F q1 _ _ hf) (And.intro rfl (And.intro rfl trivial))
    · replace hf := (if_neg g2).symm.trans hf
      refine aw_aload_n dX4_readTune_25 rfl ?_
      obtain ⟨v5, h3, c4, hf⟩ := ob_some hf
      refine aw_callVi (N := mX4_peek) (As := []) lkX4_38 okX4_peek (nl hN rfl) kd_1 rfl (by rfl) (by rfl) (Nat.le_of_ble_eq_true rfl) ry_X4_readTune_X4_peek dX4_readTune_26 (And.intro (Nat.le_refl _) (Nat.le_refl _)) (ct_X4_peek hE hN F c4) (aw_bipush (nI 59) dX4_readTune_29 kb_59 ?_)
      refine aw_icmp_eq 149 dX4_readTune_31 rfl (fun g6 => ?_) (fun g6 => ?_)
      · replace hf := (if_pos g6).symm.trans hf
        exact aw_dk (ct_X4_readTune_149 hE hN F q1 _ _ hf) (And.intro rfl (And.intro rfl trivial))
      · replace hf := (if_neg g6).symm.trans hf
        refine aw_aload_n dX4_readTune_34 rfl (aw_bipush (nI 40) dX4_readTune_35 kb_40 ?_)
        obtain ⟨v9, h7, c8, hf⟩ := ob_some hf
        refine aw_callVi (N := mX4_accept) (As := [.int (nI 40)]) lkX4_34 okX4_accept (nl hN rfl) kd_1 rfl (by rfl) (by rfl) (Nat.le_of_ble_eq_true rfl) ry_X4_readTune_X4_accept dX4_readTune_37 (And.intro (Nat.le_refl _) (Nat.le_refl _)) (ct_X4_accept hE hN F c8) ?_
        refine aw_if_eq 66 dX4_readTune_40 rfl (fun g10 => ?_) (fun g10 => ?_)
        · replace hf := (if_pos g10).symm.trans hf
          refine aw_aload_n dX4_readTune_66 rfl (aw_bipush (nI 41) dX4_readTune_67 kb_41 ?_)
          obtain ⟨v13, h11, c12, hf⟩ := ob_some hf
          refine aw_callVi (N := mX4_accept) (As := [.int (nI 41)]) lkX4_34 okX4_accept (nl hN rfl) kd_1 rfl (by rfl) (by rfl) (Nat.le_of_ble_eq_true rfl) ry_X4_readTune_X4_accept dX4_readTune_69 (And.intro (Nat.le_refl _) (Nat.le_refl _)) (ct_X4_accept hE hN F c12) ?_
          refine aw_if_eq 117 dX4_readTune_72 rfl (fun g14 => ?_) (fun g14 => ?_)
          · replace hf := (if_pos g14).symm.trans hf
            refine aw_aload_n dX4_readTune_117 rfl (aw_aload_n dX4_readTune_118 rfl (aw_geti fkX4_74 (TO.n q1 hN) (TO.k q1) (Nat.le_of_ble_eq_true rfl) rfl dX4_readTune_119 ?_))
            obtain ⟨v17, h15, c16, hf⟩ := ob_some hf
            refine aw_callVi (N := mX4_readSet) (As := [.int (h11 r1 0)]) lkX4_77 okX4_readSet (nl hN rfl) kd_1 rfl (by rfl) (by rfl) (Nat.le_of_ble_eq_true rfl) ry_X4_readTune_X4_readSet dX4_readTune_122 (And.intro (Nat.le_refl _) (Nat.le_refl _)) (ct_X4_readSet hE hN F c16) (aw_istore dX4_readTune_125 (Nat.le_of_ble_eq_true rfl) (aw_iload dX4_readTune_127 rfl ?_))
            refine aw_if_lt 141 dX4_readTune_129 rfl (fun g18 => ?_) (fun g18 => ?_)
            · replace hf := (if_pos g18).symm.trans hf
              cases hf
              exact aw_iconst (nI 0) dX4_readTune_141 ki_0 (aw_zret rfl (Or.inl rfl) dX4_readTune_142)
            · replace hf := (if_neg g18).symm.trans hf
              refine aw_aload_n dX4_readTune_132 rfl (aw_iload dX4_readTune_133 rfl ?_)
              obtain ⟨v21, h19, c20, hf⟩ := ob_some hf
              refine aw_callVi (N := mX5_addRow) (As := [.int v17]) lkX4_81 okX5_addRow (TO.n q1 hN) (TO.k q1) rfl (by rfl) (by rfl) (Nat.le_of_ble_eq_true rfl) ry_X4_readTune_X5_addRow dX4_readTune_135 (And.intro (Nat.le_refl _) (Nat.le_refl _)) (ct_X5_addRow hE hN F q1 c20) ?_
              refine aw_if_ne 143 dX4_readTune_138 rfl (fun g22 => ?_) (fun g22 => ?_)
              · replace hf := (if_neg g22).symm.trans hf
                refine aw_iinc (nI 1) dX4_readTune_143 rfl (Nat.le_of_ble_eq_true rfl) ki_1 (aw_goto 18 dX4_readTune_146 rfl ?_)
                exact aw_dk (ih _ _ _ hf) (And.intro rfl (And.intro rfl (And.intro rfl (And.intro rfl trivial))))
              · replace hf := (if_pos g22).symm.trans hf
                cases hf
                exact aw_iconst (nI 0) dX4_readTune_141 ki_0 (aw_zret rfl (Or.inl rfl) dX4_readTune_142)
          · replace hf := (if_neg g14).symm.trans hf
            refine aw_aload_n dX4_readTune_75 rfl ?_
            obtain ⟨v25, h23, c24, hf⟩ := ob_some hf
            refine aw_callVi (N := mX4_readFigure) (As := []) lkX4_68 okX4_readFigure (nl hN rfl) kd_1 rfl (by rfl) (by rfl) (Nat.le_of_ble_eq_true rfl) ry_X4_readTune_X4_readFigure dX4_readTune_76 (And.intro (Nat.le_refl _) (Nat.le_refl _)) (ct_X4_readFigure hE hN F c24) (aw_istore dX4_readTune_79 (Nat.le_of_ble_eq_true rfl) (aw_iload_n dX4_readTune_81 rfl (aw_iconst (nI 1) dX4_readTune_82 ki_1 ?_)))
            refine aw_icmp_lt 109 dX4_readTune_83 rfl (fun g26 => ?_) (fun g26 => ?_)
            · replace hf := (if_pos g26).symm.trans hf
              cases hf
              exact aw_iconst (nI 0) dX4_readTune_109 ki_0 (aw_zret rfl (Or.inl rfl) dX4_readTune_110)
            · replace hf := (if_neg g26).symm.trans hf
              refine aw_iload dX4_readTune_86 rfl (aw_iconst (nI 2) dX4_readTune_88 ki_2 ?_)
              refine aw_icmp_lt 109 dX4_readTune_89 rfl (fun g27 => ?_) (fun g27 => ?_)
              · replace hf := (if_pos g27).symm.trans hf
                cases hf
                exact aw_iconst (nI 0) dX4_readTune_109 ki_0 (aw_zret rfl (Or.inl rfl) dX4_readTune_110)
              · replace hf := (if_neg g27).symm.trans hf
                refine aw_aload_n dX4_readTune_92 rfl (aw_aload_n dX4_readTune_93 rfl (aw_getr fkX4_15 (nl hN rfl) kd_1 (Nat.le_of_ble_eq_true rfl) rfl dX4_readTune_94 (aw_iload_n dX4_readTune_97 rfl (aw_iconst (nI 1) dX4_readTune_98 ki_1 (aw_isub dX4_readTune_99 ?_)))))
                obtain ⟨g28, hf⟩ := ogd hf
                refine aw_iald (nl hN rfl) kd_3 g28 dX4_readTune_100 (aw_iload dX4_readTune_101 rfl ?_)
                obtain ⟨v31, h29, c30, hf⟩ := ob_some hf
                refine aw_callVi (N := mX5_tellAgain) (As := [.int (h23 3 (ix (x2 - (nI 1)))), .int v25]) lkX4_71 okX5_tellAgain (TO.n q1 hN) (TO.k q1) rfl (by rfl) (by rfl) (Nat.le_of_ble_eq_true rfl) ry_X4_readTune_X5_tellAgain dX4_readTune_103 (And.intro (Nat.le_refl _) (Nat.le_refl _)) (ct_X5_tellAgain hE hN F q1 c30) ?_
                refine aw_if_ne 111 dX4_readTune_106 rfl (fun g32 => ?_) (fun g32 => ?_)
                · replace hf := (if_neg g32).symm.trans hf
                  refine aw_iinc (-1) dX4_readTune_111 rfl (Nat.le_of_ble_eq_true rfl) ki_m1 (aw_goto 143 dX4_readTune_114 rfl (aw_iinc (nI 1) dX4_readTune_143 rfl (Nat.le_of_ble_eq_true rfl) ki_1 (aw_goto 18 dX4_readTune_146 rfl ?_)))
                  exact aw_dk (ih _ _ _ hf) (And.intro rfl (And.intro rfl (And.intro rfl (And.intro rfl trivial))))
                · replace hf := (if_pos g32).symm.trans hf
                  cases hf
                  exact aw_iconst (nI 0) dX4_readTune_109 ki_0 (aw_zret rfl (Or.inl rfl) dX4_readTune_110)
        · replace hf := (if_neg g10).symm.trans hf
          refine aw_iload_n dX4_readTune_43 rfl (aw_iconst (nI 3) dX4_readTune_44 ki_3 ?_)
          refine aw_icmp_lt 50 dX4_readTune_45 rfl (fun g33 => ?_) (fun g33 => ?_)
          · replace hf := (if_pos g33).symm.trans hf
            refine aw_aload_n dX4_readTune_50 rfl (aw_getr fkX4_15 (nl hN rfl) kd_1 (Nat.le_of_ble_eq_true rfl) rfl dX4_readTune_51 (aw_iload_n dX4_readTune_54 rfl (aw_aload_n dX4_readTune_55 rfl (aw_geti fkX4_65 (TO.n q1 hN) (TO.k q1) (Nat.le_of_ble_eq_true rfl) rfl dX4_readTune_56 ?_))))
            obtain ⟨g34, hf⟩ := ogd hf
            refine aw_iast (nl hN rfl) kd_3 g34 dX4_readTune_59 (aw_iinc (nI 1) dX4_readTune_60 rfl (Nat.le_of_ble_eq_true rfl) ki_1 (aw_goto 143 dX4_readTune_63 rfl (aw_iinc (nI 1) dX4_readTune_143 rfl (Nat.le_of_ble_eq_true rfl) ki_1 (aw_goto 18 dX4_readTune_146 rfl ?_))))
            exact aw_dk (ih _ _ _ hf) (And.intro rfl (And.intro rfl (And.intro rfl (And.intro rfl trivial))))
          · replace hf := (if_neg g33).symm.trans hf
            cases hf
            exact aw_iconst (nI 0) dX4_readTune_48 ki_0 (aw_zret rfl (Or.inl rfl) dX4_readTune_49)
set_option maxHeartbeats 4000000 in
set_option maxRecDepth 100000 in
theorem ct_X4_readTune {E : EV} (hE : EI E) (hN : 39 ≤ eN E) (F : Nat) {tw : TW} {r1 : Nat} (q1 : TO r1) {h : HP} {v : Int32} {h' : HP} (hf : f_X4_readTune F r1 h = some (v, h')) : CT E mX4_readTune tw h [.ref 1, .ref r1] (some (.int v)) tw h' := by
  refine CT.of hE (show plainFor yX4_readTune = true by decide +kernel) (Nat.le_of_ble_eq_true rfl) 3 ?_
  show AW E mX4_readTune (KM E mX4_readTune (some (.int v)) tw h') tw h 0 [some (.ref 1), some (.ref r1), none, none, none] []
  unfold f_X4_readTune at hf
  refine aw_aload_n dX4_readTune_0 rfl (aw_geti fkX4_61 (TO.n q1 hN) (TO.k q1) (Nat.le_of_ble_eq_true rfl) rfl dX4_readTune_1 ?_)
  refine aw_if_eq 9 dX4_readTune_4 rfl (fun g1 => ?_) (fun g1 => ?_)
  · replace hf := (if_pos g1).symm.trans hf
    refine aw_aload_n dX4_readTune_9 rfl (aw_iconst (nI 1) dX4_readTune_10 ki_1 (aw_putz fkX4_61 fw_5_6 (TO.n q1 hN) (TO.k q1) (Nat.le_of_ble_eq_true rfl) rfl (Or.inr rfl) dX4_readTune_11 (aw_iconst (nI 0) dX4_readTune_14 ki_0 (aw_istore_n dX4_readTune_15 (Nat.le_of_ble_eq_true rfl) (aw_iconst (nI 0) dX4_readTune_16 ki_0 (aw_istore_n dX4_readTune_17 (Nat.le_of_ble_eq_true rfl) ?_))))))
    exact aw_dk (ct_X4_readTune_18 hE hN F q1 F _ _ _ hf) (And.intro rfl (And.intro rfl (And.intro rfl (And.intro rfl trivial))))
  · replace hf := (if_neg g1).symm.trans hf
    cases hf
    exact aw_iconst (nI 0) dX4_readTune_7 ki_0 (aw_zret rfl (Or.inl rfl) dX4_readTune_8)
set_option maxHeartbeats 4000000 in
set_option maxRecDepth 100000 in
theorem ct_X4_readItem {E : EV} (hE : EI E) (hN : 39 ≤ eN E) (F : Nat) {tw : TW} {r1 : Nat} (q1 : TO r1) {h : HP} {v : Int32} {h' : HP} (hf : f_X4_readItem F r1 h = some (v, h')) : CT E mX4_readItem tw h [.ref 1, .ref r1] (some (.int v)) tw h' := by
  refine CT.of hE (show plainFor yX4_readItem = true by decide +kernel) (Nat.le_of_ble_eq_true rfl) 1 ?_
  show AW E mX4_readItem (KM E mX4_readItem (some (.int v)) tw h') tw h 0 [some (.ref 1), some (.ref r1), none] []
  unfold f_X4_readItem at hf
  refine aw_aload_n dX4_readItem_0 rfl ?_
  obtain ⟨v3, h1, c2, hf⟩ := ob_some hf
  refine aw_callVi (N := mX4_peek) (As := []) lkX4_38 okX4_peek (nl hN rfl) kd_1 rfl (by rfl) (by rfl) (Nat.le_of_ble_eq_true rfl) ry_X4_readItem_X4_peek dX4_readItem_1 (And.intro (Nat.le_refl _) (Nat.le_refl _)) (ct_X4_peek hE hN F c2) (aw_istore_n dX4_readItem_4 (Nat.le_of_ble_eq_true rfl) (aw_aload_n dX4_readItem_5 rfl (aw_dup dX4_readItem_6 rfl (aw_geti fkX4_27 (nl hN rfl) kd_1 (Nat.le_of_ble_eq_true rfl) rfl dX4_readItem_7 (aw_iconst (nI 1) dX4_readItem_10 ki_1 (aw_iadd dX4_readItem_11 (aw_puti fkX4_27 fw_4_2 (nl hN rfl) kd_1 (Nat.le_of_ble_eq_true rfl) rfl dX4_readItem_12 (aw_iload_n dX4_readItem_15 rfl ?_))))))))
  by_cases g4 : v3 = nI 98
  · replace hf := (if_pos g4).symm.trans hf
    refine aw_lookup (off := 44) 60 dX4_readItem_16 (by decide) (by rw [g4]; decide) rfl ?_
    refine aw_aload_n dX4_readItem_60 rfl (aw_aload_n dX4_readItem_61 rfl ?_)
    obtain ⟨v7, h5, c6, hf⟩ := ob_some hf
    refine aw_callVi (N := mX4_readBell) (As := [.ref r1]) lkX4_42 okX4_readBell (nl hN rfl) kd_1 rfl (by rfl) (by rfl) (Nat.le_of_ble_eq_true rfl) ry_X4_readItem_X4_readBell dX4_readItem_62 (And.intro (Nat.le_refl _) (Nat.le_refl _)) (ct_X4_readBell hE hN F q1 c6) ?_
    obtain ⟨g8, hf⟩ := ogd hf
    cases hf
    exact aw_zret rfl g8 dX4_readItem_65
  · replace hf := (if_neg g4).symm.trans hf
    by_cases g9 : v3 = nI 110
    · replace hf := (if_pos g9).symm.trans hf
      refine aw_lookup (off := 50) 66 dX4_readItem_16 (by decide) (by rw [g9]; decide) rfl ?_
      refine aw_aload_n dX4_readItem_66 rfl (aw_aload_n dX4_readItem_67 rfl ?_)
      obtain ⟨v12, h10, c11, hf⟩ := ob_some hf
      refine aw_callVi (N := mX4_readNumber) (As := []) lkX4_45 okX4_readNumber (nl hN rfl) kd_1 rfl (by rfl) (by rfl) (Nat.le_of_ble_eq_true rfl) ry_X4_readItem_X4_readNumber dX4_readItem_68 (And.intro (Nat.le_refl _) (Nat.le_refl _)) (ct_X4_readNumber hE hN F c11) ?_
      obtain ⟨v15, h13, c14, hf⟩ := ob_some hf
      refine aw_callVi (N := mX5_tellRows) (As := [.int v12]) lkX4_48 okX5_tellRows (TO.n q1 hN) (TO.k q1) rfl (by rfl) (by rfl) (Nat.le_of_ble_eq_true rfl) ry_X4_readItem_X5_tellRows dX4_readItem_71 (And.intro (Nat.le_refl _) (Nat.le_refl _)) (ct_X5_tellRows hE hN F q1 c14) ?_
      obtain ⟨g16, hf⟩ := ogd hf
      cases hf
      exact aw_zret rfl g16 dX4_readItem_74
    · replace hf := (if_neg g9).symm.trans hf
      by_cases g17 : v3 = nI 114
      · replace hf := (if_pos g17).symm.trans hf
        refine aw_lookup (off := 59) 75 dX4_readItem_16 (by decide) (by rw [g17]; decide) rfl ?_
        refine aw_aload_n dX4_readItem_75 rfl (aw_aload_n dX4_readItem_76 rfl ?_)
        obtain ⟨v20, h18, c19, hf⟩ := ob_some hf
        refine aw_callVi (N := mX4_readNumber) (As := []) lkX4_45 okX4_readNumber (nl hN rfl) kd_1 rfl (by rfl) (by rfl) (Nat.le_of_ble_eq_true rfl) ry_X4_readItem_X4_readNumber dX4_readItem_77 (And.intro (Nat.le_refl _) (Nat.le_refl _)) (ct_X4_readNumber hE hN F c19) ?_
        obtain ⟨v23, h21, c22, hf⟩ := ob_some hf
        refine aw_callVi (N := mX5_tellRest) (As := [.int v20]) lkX4_51 okX5_tellRest (TO.n q1 hN) (TO.k q1) rfl (by rfl) (by rfl) (Nat.le_of_ble_eq_true rfl) ry_X4_readItem_X5_tellRest dX4_readItem_80 (And.intro (Nat.le_refl _) (Nat.le_refl _)) (ct_X5_tellRest hE hN F q1 c22) ?_
        obtain ⟨g24, hf⟩ := ogd hf
        cases hf
        exact aw_zret rfl g24 dX4_readItem_83
      · replace hf := (if_neg g17).symm.trans hf
        by_cases g25 : v3 = nI 116
        · replace hf := (if_pos g25).symm.trans hf
          refine aw_lookup (off := 68) 84 dX4_readItem_16 (by decide) (by rw [g25]; decide) rfl ?_
          refine aw_aload_n dX4_readItem_84 rfl (aw_aload_n dX4_readItem_85 rfl ?_)
          obtain ⟨v28, h26, c27, hf⟩ := ob_some hf
          refine aw_callVi (N := mX4_readTune) (As := [.ref r1]) lkX4_54 okX4_readTune (nl hN rfl) kd_1 rfl (by rfl) (by rfl) (Nat.le_of_ble_eq_true rfl) ry_X4_readItem_X4_readTune dX4_readItem_86 (And.intro (Nat.le_refl _) (Nat.le_refl _)) (ct_X4_readTune hE hN F q1 c27) ?_
          obtain ⟨g29, hf⟩ := ogd hf
          cases hf
          exact aw_zret rfl g29 dX4_readItem_89
        · replace hf := (if_neg g25).symm.trans hf
          refine aw_lookup (off := 74) 90 dX4_readItem_16 (by decide) (lk_out g4 g9 g17 g25) rfl ?_
          cases hf
          exact aw_iconst (nI 0) dX4_readItem_90 ki_0 (aw_zret rfl (Or.inl rfl) dX4_readItem_91)
set_option maxHeartbeats 4000000 in
set_option maxRecDepth 100000 in
theorem ct_X4_readInto_11 {E : EV} (hE : EI E) (hN : 39 ≤ eN E) (F : Nat) {tw : TW} {r1 : Nat} (q1 : TO r1) {v : Int32} {h' : HP} : ∀ (n : Nat) (x2 : Int32) (h : HP), f_X4_readInto_11 F r1 n x2 h = some (v, h') → AW E mX4_readInto (KM E mX4_readInto (some (.int v)) tw h') tw h 11 [some (.ref 1), some (.ref r1), some (.int x2), none] [] := by
  intro n
  induction n with
  | zero => intro x2 h hf; exact absurd (show (none : Option (Int32 × HP)) = some _ from hf) (fun z => nomatch z)
  | succ n ih =>
    intro x2 h hf
    rw [f_X4_readInto_11] at hf
    refine aw_iload_n dX4_readInto_11 rfl (aw_sipush (nI 200) dX4_readInto_12 ks_200 ?_)
    refine aw_icmp_ge 59 dX4_readInto_15 rfl (fun g3 => ?_) (fun g3 => ?_)
    · replace hf := (if_pos g3).symm.trans hf
      cases hf
      exact aw_bipush (-4) dX4_readInto_59 kb_m4 (aw_iret rfl dX4_readInto_61)
    · replace hf := (if_neg g3).symm.trans hf
      refine aw_aload_n dX4_readInto_18 rfl (aw_geti fkX4_27 (nl hN rfl) kd_1 (Nat.le_of_ble_eq_true rfl) rfl dX4_readInto_19 (aw_aload_n dX4_readInto_22 rfl (aw_geti fkX4_18 (nl hN rfl) kd_1 (Nat.le_of_ble_eq_true rfl) rfl dX4_readInto_23 ?_)))
      refine aw_icmp_ge 59 dX4_readInto_26 rfl (fun g4 => ?_) (fun g4 => ?_)
      · replace hf := (if_pos g4).symm.trans hf
        cases hf
        exact aw_bipush (-4) dX4_readInto_59 kb_m4 (aw_iret rfl dX4_readInto_61)
      · replace hf := (if_neg g4).symm.trans hf
        refine aw_aload_n dX4_readInto_29 rfl (aw_geti fkX4_27 (nl hN rfl) kd_1 (Nat.le_of_ble_eq_true rfl) rfl dX4_readInto_30 (aw_istore_n dX4_readInto_33 (Nat.le_of_ble_eq_true rfl) (aw_aload_n dX4_readInto_34 rfl (aw_aload_n dX4_readInto_35 rfl ?_))))
        obtain ⟨v7, h5, c6, hf⟩ := ob_some hf
        refine aw_callVi (N := mX4_readItem) (As := [.ref r1]) lkX4_30 okX4_readItem (nl hN rfl) kd_1 rfl (by rfl) (by rfl) (Nat.le_of_ble_eq_true rfl) ry_X4_readInto_X4_readItem dX4_readInto_36 (And.intro (Nat.le_refl _) (Nat.le_refl _)) (ct_X4_readItem hE hN F q1 c6) ?_
        refine aw_if_eq 51 dX4_readInto_39 rfl (fun g8 => ?_) (fun g8 => ?_)
        · replace hf := (if_pos g8).symm.trans hf
          cases hf
          exact aw_iload_n dX4_readInto_51 rfl (aw_iret rfl dX4_readInto_52)
        · replace hf := (if_neg g8).symm.trans hf
          refine aw_aload_n dX4_readInto_42 rfl (aw_bipush (nI 59) dX4_readInto_43 kb_59 ?_)
          obtain ⟨v11, h9, c10, hf⟩ := ob_some hf
          refine aw_callVi (N := mX4_accept) (As := [.int (nI 59)]) lkX4_34 okX4_accept (nl hN rfl) kd_1 rfl (by rfl) (by rfl) (Nat.le_of_ble_eq_true rfl) ry_X4_readInto_X4_accept dX4_readInto_45 (And.intro (Nat.le_refl _) (Nat.le_refl _)) (ct_X4_accept hE hN F c10) ?_
          refine aw_if_ne 53 dX4_readInto_48 rfl (fun g12 => ?_) (fun g12 => ?_)
          · replace hf := (if_neg g12).symm.trans hf
            refine aw_iinc (nI 1) dX4_readInto_53 rfl (Nat.le_of_ble_eq_true rfl) ki_1 (aw_goto 11 dX4_readInto_56 rfl ?_)
            exact aw_dk (ih _ _ hf) (And.intro rfl (And.intro rfl (And.intro rfl trivial)))
          · replace hf := (if_pos g12).symm.trans hf
            cases hf
            exact aw_iload_n dX4_readInto_51 rfl (aw_iret rfl dX4_readInto_52)
set_option maxHeartbeats 4000000 in
set_option maxRecDepth 100000 in
theorem ct_X4_readInto {E : EV} (hE : EI E) (hN : 39 ≤ eN E) (F : Nat) {tw : TW} {r1 : Nat} (q1 : TO r1) {h : HP} {v : Int32} {h' : HP} (hf : f_X4_readInto F r1 h = some (v, h')) : CT E mX4_readInto tw h [.ref 1, .ref r1] (some (.int v)) tw h' := by
  refine CT.of hE (show plainFor yX4_readInto = true by decide +kernel) (Nat.le_of_ble_eq_true rfl) 2 ?_
  show AW E mX4_readInto (KM E mX4_readInto (some (.int v)) tw h') tw h 0 [some (.ref 1), some (.ref r1), none, none] []
  unfold f_X4_readInto at hf
  refine aw_aload_n dX4_readInto_0 rfl ?_
  obtain ⟨h1, c2, hf⟩ := obv_some hf
  refine aw_callVv (N := mX5_clear) (As := []) lkX4_22 okX5_clear (TO.n q1 hN) (TO.k q1) rfl (by rfl) (by rfl) (Nat.le_of_ble_eq_true rfl) ry_X4_readInto_X5_clear dX4_readInto_1 (And.intro (Nat.le_refl _) (Nat.le_refl _)) (ct_X5_clear hE hN F q1 c2) (aw_aload_n dX4_readInto_4 rfl (aw_iconst (nI 0) dX4_readInto_5 ki_0 (aw_puti fkX4_27 fw_4_2 (nl hN rfl) kd_1 (Nat.le_of_ble_eq_true rfl) rfl dX4_readInto_6 (aw_iconst (nI 0) dX4_readInto_9 ki_0 (aw_istore_n dX4_readInto_10 (Nat.le_of_ble_eq_true rfl) ?_)))))
  exact aw_dk (ct_X4_readInto_11 hE hN F q1 F _ _ hf) (And.intro rfl (And.intro rfl (And.intro rfl trivial)))
set_option maxHeartbeats 4000000 in
set_option maxRecDepth 100000 in
theorem ct_X5_canBeLaid {E : EV} (hE : EI E) (hN : 39 ≤ eN E) (F : Nat) {tw : TW} {r0 : Nat} (q0 : TO r0) {h : HP} {v : Int32} {h' : HP} (hf : f_X5_canBeLaid F r0 h = some (v, h')) : CT E mX5_canBeLaid tw h [.ref r0] (some (.int v)) tw h' := by
  refine CT.of hE (show plainFor yX5_canBeLaid = true by decide +kernel) (Nat.le_of_ble_eq_true rfl) 0 ?_
  show AW E mX5_canBeLaid (KM E mX5_canBeLaid (some (.int v)) tw h') tw h 0 [some (.ref r0)] []
  unfold f_X5_canBeLaid at hf
  refine aw_aload_n dX5_canBeLaid_0 rfl (aw_geti fkX5_31 (TO.n q0 hN) (TO.k q0) (Nat.le_of_ble_eq_true rfl) rfl dX5_canBeLaid_1 ?_)
  refine aw_if_le 22 dX5_canBeLaid_4 rfl (fun g1 => ?_) (fun g1 => ?_)
  · replace hf := (if_pos g1).symm.trans hf
    cases hf
    exact aw_iconst (nI 0) dX5_canBeLaid_22 ki_0 (aw_zret rfl (Or.inl rfl) dX5_canBeLaid_23)
  · replace hf := (if_neg g1).symm.trans hf
    refine aw_aload_n dX5_canBeLaid_7 rfl (aw_geti fkX5_38 (TO.n q0 hN) (TO.k q0) (Nat.le_of_ble_eq_true rfl) rfl dX5_canBeLaid_8 (aw_aload_n dX5_canBeLaid_11 rfl (aw_geti fkX5_21 (TO.n q0 hN) (TO.k q0) (Nat.le_of_ble_eq_true rfl) rfl dX5_canBeLaid_12 ?_)))
    refine aw_icmp_gt 22 dX5_canBeLaid_15 rfl (fun g2 => ?_) (fun g2 => ?_)
    · replace hf := (if_pos g2).symm.trans hf
      cases hf
      exact aw_iconst (nI 0) dX5_canBeLaid_22 ki_0 (aw_zret rfl (Or.inl rfl) dX5_canBeLaid_23)
    · replace hf := (if_neg g2).symm.trans hf
      cases hf
      exact aw_iconst (nI 1) dX5_canBeLaid_18 ki_1 (aw_goto 23 dX5_canBeLaid_19 rfl (aw_zret rfl (Or.inr rfl) dX5_canBeLaid_23))
set_option maxHeartbeats 4000000 in
set_option maxRecDepth 100000 in
theorem ct_X5_everyBell {E : EV} (hE : EI E) (hN : 39 ≤ eN E) (F : Nat) {tw : TW} {r0 : Nat} (q0 : TO r0) {h : HP} {v : Int32} {h' : HP} (hf : f_X5_everyBell F r0 h = some (v, h')) : CT E mX5_everyBell tw h [.ref r0] (some (.int v)) tw h' := by
  refine CT.of hE (show plainFor yX5_everyBell = true by decide +kernel) (Nat.le_of_ble_eq_true rfl) 0 ?_
  show AW E mX5_everyBell (KM E mX5_everyBell (some (.int v)) tw h') tw h 0 [some (.ref r0)] []
  unfold f_X5_everyBell at hf
  cases hf
  exact aw_iconst (nI 1) dX5_everyBell_0 ki_1 (aw_aload_n dX5_everyBell_1 rfl (aw_geti fkX5_31 (TO.n q0 hN) (TO.k q0) (Nat.le_of_ble_eq_true rfl) rfl dX5_everyBell_2 (aw_ishl dX5_everyBell_5 (aw_iconst (nI 1) dX5_everyBell_6 ki_1 (aw_isub dX5_everyBell_7 (aw_iret rfl dX5_everyBell_8))))))
set_option maxHeartbeats 4000000 in
set_option maxRecDepth 100000 in
theorem ct_J9_floorMod_7cf53 {E : EV} (hE : EI E) {zN : Nat} (hN : zN ≤ eN E) (F : Nat) {tw : TW} {x0 : Int32} {x1 : Int32} {h : HP} {v : Int32} {h' : HP} (hf : f_J9_floorMod_7cf53 F x0 x1 h = some (v, h')) : CT E mJ9_floorMod_7cf53 tw h [.int x0, .int x1] (some (.int v)) tw h' := by
  refine CT.of hE (show plainFor yJ9_floorMod_7cf53 = true by decide +kernel) (Nat.le_of_ble_eq_true rfl) 1 ?_
  show AW E mJ9_floorMod_7cf53 (KM E mJ9_floorMod_7cf53 (some (.int v)) tw h') tw h 0 [some (.int x0), some (.int x1), none] []
  unfold f_J9_floorMod_7cf53 at hf
  refine aw_iload_n dJ9_floorMod_7cf53_0 rfl (aw_iload_n dJ9_floorMod_7cf53_1 rfl ?_)
  obtain ⟨g1, hf⟩ := ogd hf
  refine aw_irem g1 dJ9_floorMod_7cf53_2 (aw_istore_n dJ9_floorMod_7cf53_3 (Nat.le_of_ble_eq_true rfl) (aw_iload_n dJ9_floorMod_7cf53_4 rfl (aw_iload_n dJ9_floorMod_7cf53_5 rfl (aw_ixor dJ9_floorMod_7cf53_6 ?_))))
  refine aw_if_ge 18 dJ9_floorMod_7cf53_7 rfl (fun g2 => ?_) (fun g2 => ?_)
  · replace hf := (if_pos g2).symm.trans hf
    cases hf
    exact aw_iload_n dJ9_floorMod_7cf53_18 rfl (aw_iret rfl dJ9_floorMod_7cf53_19)
  · replace hf := (if_neg g2).symm.trans hf
    refine aw_iload_n dJ9_floorMod_7cf53_10 rfl ?_
    refine aw_if_eq 18 dJ9_floorMod_7cf53_11 rfl (fun g3 => ?_) (fun g3 => ?_)
    · replace hf := (if_pos g3).symm.trans hf
      cases hf
      exact aw_iload_n dJ9_floorMod_7cf53_18 rfl (aw_iret rfl dJ9_floorMod_7cf53_19)
    · replace hf := (if_neg g3).symm.trans hf
      cases hf
      exact aw_iload_n dJ9_floorMod_7cf53_14 rfl (aw_iload_n dJ9_floorMod_7cf53_15 rfl (aw_iadd dJ9_floorMod_7cf53_16 (aw_iret rfl dJ9_floorMod_7cf53_17)))
set_option maxHeartbeats 4000000 in
set_option maxRecDepth 100000 in
theorem ct_X5_rowBehind {E : EV} (hE : EI E) (hN : 39 ≤ eN E) (F : Nat) {tw : TW} {r0 : Nat} (q0 : TO r0) {x1 : Int32} {x2 : Int32} {h : HP} {v : Int32} {h' : HP} (hf : f_X5_rowBehind F r0 x1 x2 h = some (v, h')) : CT E mX5_rowBehind tw h [.ref r0, .int x1, .int x2] (some (.int v)) tw h' := by
  refine CT.of hE (show plainFor yX5_rowBehind = true by decide +kernel) (Nat.le_of_ble_eq_true rfl) 0 ?_
  show AW E mX5_rowBehind (KM E mX5_rowBehind (some (.int v)) tw h') tw h 0 [some (.ref r0), some (.int x1), some (.int x2)] []
  unfold f_X5_rowBehind at hf
  refine aw_aload_n dX5_rowBehind_0 rfl (aw_geti fkX5_21 (TO.n q0 hN) (TO.k q0) (Nat.le_of_ble_eq_true rfl) rfl dX5_rowBehind_1 ?_)
  refine aw_if_le 20 dX5_rowBehind_4 rfl (fun g1 => ?_) (fun g1 => ?_)
  · replace hf := (if_pos g1).symm.trans hf
    cases hf
    exact aw_iconst (nI 0) dX5_rowBehind_20 ki_0 (aw_iret rfl dX5_rowBehind_21)
  · replace hf := (if_neg g1).symm.trans hf
    refine aw_iload_n dX5_rowBehind_7 rfl (aw_iload_n dX5_rowBehind_8 rfl (aw_iadd dX5_rowBehind_9 (aw_aload_n dX5_rowBehind_10 rfl (aw_geti fkX5_21 (TO.n q0 hN) (TO.k q0) (Nat.le_of_ble_eq_true rfl) rfl dX5_rowBehind_11 ?_))))
    obtain ⟨v4, h2, c3, hf⟩ := ob_some hf
    cases hf
    exact aw_callSi (N := mJ9_floorMod_7cf53) (As := [.int (x1 + x2), .int (h r0 4)]) lkX5_51 okJ9_floorMod_7cf53 (by rfl) (by rfl) (Nat.le_of_ble_eq_true rfl) ry_X5_rowBehind_J9_floorMod_7cf53 dX5_rowBehind_14 (And.intro (Nat.le_refl _) (Nat.le_refl _)) (ct_J9_floorMod_7cf53 hE hN F c3) (aw_goto 21 dX5_rowBehind_17 rfl (aw_iret rfl dX5_rowBehind_21))
set_option maxHeartbeats 4000000 in
set_option maxRecDepth 100000 in
theorem ct_X5_highestTone_5 {E : EV} (hE : EI E) (hN : 39 ≤ eN E) (F : Nat) {tw : TW} {r0 : Nat} (q0 : TO r0) {x1 : Int32} {v : Int32} {h' : HP} : ∀ (n : Nat) (x2 : Int32) (x3 : Int32) (h : HP), f_X5_highestTone_5 F r0 x1 n x2 x3 h = some (v, h') → AW E mX5_highestTone (KM E mX5_highestTone (some (.int v)) tw h') tw h 5 [some (.ref r0), some (.int x1), some (.int x2), some (.int x3)] [] := by
  intro n
  induction n with
  | zero => intro x2 x3 h hf; exact absurd (show (none : Option (Int32 × HP)) = some _ from hf) (fun z => nomatch z)
  | succ n ih =>
    intro x2 x3 h hf
    rw [f_X5_highestTone_5] at hf
    refine aw_iload_n dX5_highestTone_5 rfl (aw_aload_n dX5_highestTone_6 rfl (aw_geti fkX5_31 (TO.n q0 hN) (TO.k q0) (Nat.le_of_ble_eq_true rfl) rfl dX5_highestTone_7 ?_))
    refine aw_icmp_ge 39 dX5_highestTone_10 rfl (fun g1 => ?_) (fun g1 => ?_)
    · replace hf := (if_pos g1).symm.trans hf
      cases hf
      exact aw_iload_n dX5_highestTone_39 rfl (aw_iret rfl dX5_highestTone_40)
    · replace hf := (if_neg g1).symm.trans hf
      refine aw_iload_n dX5_highestTone_13 rfl (aw_iload_n dX5_highestTone_14 rfl (aw_ishr dX5_highestTone_15 (aw_iconst (nI 1) dX5_highestTone_16 ki_1 (aw_iand dX5_highestTone_17 (aw_iconst (nI 1) dX5_highestTone_18 ki_1 ?_)))))
      refine aw_icmp_ne 33 dX5_highestTone_19 rfl (fun g2 => ?_) (fun g2 => ?_)
      · replace hf := (if_neg g2).symm.trans hf
        refine aw_iinc (nI 1) dX5_highestTone_33 rfl (Nat.le_of_ble_eq_true rfl) ki_1 (aw_goto 5 dX5_highestTone_36 rfl ?_)
        exact aw_dk (ih _ _ _ hf) (And.intro rfl (And.intro rfl (And.intro rfl (And.intro rfl trivial))))
      · replace hf := (if_pos g2).symm.trans hf
        refine aw_iload_n dX5_highestTone_22 rfl (aw_aload_n dX5_highestTone_23 rfl (aw_getr fkX5_9 (TO.n q0 hN) (TO.k q0) (Nat.le_of_ble_eq_true rfl) rfl dX5_highestTone_24 (aw_iload_n dX5_highestTone_27 rfl ?_)))
        obtain ⟨g3, hf⟩ := ogd hf
        refine aw_iald (TO.n1 q0 hN) (TO.k1 q0) g3 dX5_highestTone_28 ?_
        obtain ⟨v6, h4, c5, hf⟩ := ob_some hf
        refine aw_callSi (N := mJ9_max_7cf53) (As := [.int x2, .int (h (r0 + 1) (ix x3))]) lkX5_55 okJ9_max_7cf53 (by rfl) (by rfl) (Nat.le_of_ble_eq_true rfl) ry_X5_highestTone_J9_max_7cf53 dX5_highestTone_29 (And.intro (Nat.le_refl _) (Nat.le_refl _)) (ct_J9_max_7cf53 hE hN F c5) (aw_istore_n dX5_highestTone_32 (Nat.le_of_ble_eq_true rfl) (aw_iinc (nI 1) dX5_highestTone_33 rfl (Nat.le_of_ble_eq_true rfl) ki_1 (aw_goto 5 dX5_highestTone_36 rfl ?_)))
        exact aw_dk (ih _ _ _ hf) (And.intro rfl (And.intro rfl (And.intro rfl (And.intro rfl trivial))))
set_option maxHeartbeats 4000000 in
set_option maxRecDepth 100000 in
theorem ct_X5_highestTone {E : EV} (hE : EI E) (hN : 39 ≤ eN E) (F : Nat) {tw : TW} {r0 : Nat} (q0 : TO r0) {x1 : Int32} {h : HP} {v : Int32} {h' : HP} (hf : f_X5_highestTone F r0 x1 h = some (v, h')) : CT E mX5_highestTone tw h [.ref r0, .int x1] (some (.int v)) tw h' := by
  refine CT.of hE (show plainFor yX5_highestTone = true by decide +kernel) (Nat.le_of_ble_eq_true rfl) 2 ?_
  show AW E mX5_highestTone (KM E mX5_highestTone (some (.int v)) tw h') tw h 0 [some (.ref r0), some (.int x1), none, none] []
  unfold f_X5_highestTone at hf
  refine aw_bipush (-4) dX5_highestTone_0 kb_m4 (aw_istore_n dX5_highestTone_2 (Nat.le_of_ble_eq_true rfl) (aw_iconst (nI 0) dX5_highestTone_3 ki_0 (aw_istore_n dX5_highestTone_4 (Nat.le_of_ble_eq_true rfl) ?_)))
  exact aw_dk (ct_X5_highestTone_5 hE hN F q0 F _ _ _ hf) (And.intro rfl (And.intro rfl (And.intro rfl (And.intro rfl trivial))))
