set_option maxHeartbeats 4000000 in
set_option maxRecDepth 100000 in
theorem ct_X6_stood_4 {E : EV} (hE : EI E) (hN : 39 ≤ eN E) (F : Nat) {tw : TW} (qT : TO tw.1) (qU : TO tw.2)  {v : Int32} {h' : HP} : ∀ (n : Nat) (x1 : Int32) (x2 : Int32) (h : HP), f_X6_stood_4 F tw n x1 x2 h = some (v, h') → AW E mX6_stood (KM E mX6_stood (some (.int v)) tw h') tw h 4 [some (.ref 0), some (.int x1), some (.int x2)] [] := by
  intro n
  induction n with
  | zero => intro x1 x2 h hf; exact absurd (show (none : Option (Int32 × HP)) = some _ from hf) (fun z => nomatch z)
  | succ n ih =>
    intro x1 x2 h hf
    rw [f_X6_stood_4] at hf
    refine aw_iload_n dX6_stood_4 rfl (aw_aload_n dX6_stood_5 rfl (aw_getr fkX6_19 (nl hN rfl) kd_0 (Nat.le_of_ble_eq_true rfl) rfl dX6_stood_6 (aw_geti fkX6_147 (TO.n qT hN) (TO.k qT) (Nat.le_of_ble_eq_true rfl) rfl dX6_stood_9 ?_)))
    refine aw_icmp_ge 35 dX6_stood_12 rfl (fun g1 => ?_) (fun g1 => ?_)
    · replace hf := (if_pos g1).symm.trans hf
      cases hf
      exact aw_iload_n dX6_stood_35 rfl (aw_iret rfl dX6_stood_36)
    · replace hf := (if_neg g1).symm.trans hf
      refine aw_aload_n dX6_stood_15 rfl (aw_iload_n dX6_stood_16 rfl ?_)
      obtain ⟨v4, h2, c3, hf⟩ := ob_some hf
      have key5 : AW E mX6_stood (KM E mX6_stood (some (.int v)) tw h') tw h2 29 [some (.ref 0), some (.int (if v4 = nI 0 then x1 else x1 ||| (jshl (nI 1) x2))), some (.int x2)] [] := by
        refine aw_iinc (nI 1) dX6_stood_29 rfl (Nat.le_of_ble_eq_true rfl) ki_1 (aw_goto 4 dX6_stood_32 rfl ?_)
        exact aw_dk (ih _ _ _ hf) (And.intro rfl (And.intro rfl (And.intro rfl trivial)))
      refine aw_callVi (N := mX6_isHeardFrom) (As := [.int x2]) lkX6_226 okX6_isHeardFrom (nl hN rfl) kd_0 rfl (by rfl) (by rfl) (Nat.le_of_ble_eq_true rfl) ry_X6_stood_X6_isHeardFrom dX6_stood_17 (And.intro (Nat.le_refl _) (Nat.le_refl _)) (ct_X6_isHeardFrom hE hN F qT qU c3) ?_
      refine aw_if_eq 29 dX6_stood_20 rfl (fun g6 => ?_) (fun g6 => ?_)
      · skip
        simp only [if_pos g6] at key5 ⊢
        exact aw_dk key5 (And.intro rfl (And.intro rfl (And.intro rfl trivial)))
      · skip
        refine aw_iload_n dX6_stood_23 rfl (aw_iconst (nI 1) dX6_stood_24 ki_1 (aw_iload_n dX6_stood_25 rfl (aw_ishl dX6_stood_26 (aw_ior dX6_stood_27 (aw_istore_n dX6_stood_28 (Nat.le_of_ble_eq_true rfl) ?_)))))
        simp only [if_neg g6] at key5 ⊢
        exact aw_dk key5 (And.intro rfl (And.intro rfl (And.intro rfl trivial)))
set_option maxHeartbeats 4000000 in
set_option maxRecDepth 100000 in
theorem ct_X6_stood {E : EV} (hE : EI E) (hN : 39 ≤ eN E) (F : Nat) {tw : TW} (qT : TO tw.1) (qU : TO tw.2)  {h : HP} {v : Int32} {h' : HP} (hf : f_X6_stood F tw  h = some (v, h')) : CT E mX6_stood tw h [.ref 0] (some (.int v)) tw h' := by
  refine CT.of hE (show plainFor yX6_stood = true by decide +kernel) (Nat.le_of_ble_eq_true rfl) 2 ?_
  show AW E mX6_stood (KM E mX6_stood (some (.int v)) tw h') tw h 0 [some (.ref 0), none, none] []
  unfold f_X6_stood at hf
  refine aw_iconst (nI 0) dX6_stood_0 ki_0 (aw_istore_n dX6_stood_1 (Nat.le_of_ble_eq_true rfl) (aw_iconst (nI 0) dX6_stood_2 ki_0 (aw_istore_n dX6_stood_3 (Nat.le_of_ble_eq_true rfl) ?_)))
  exact aw_dk (ct_X6_stood_4 hE hN F qT qU F _ _ _ hf) (And.intro rfl (And.intro rfl (And.intro rfl trivial)))
set_option maxHeartbeats 4000000 in
set_option maxRecDepth 100000 in
theorem ct_X6_octaves_6 {E : EV} (hE : EI E) (hN : 39 ≤ eN E) (F : Nat) {tw : TW} (qT : TO tw.1) (qU : TO tw.2)  {v : Int32} {h' : HP} : ∀ (n : Nat) (x1 : Int32) (x2 : Int32) (x3 : Int32) (h : HP), f_X6_octaves_6 F tw n x1 x2 x3 h = some (v, h') → AW E mX6_octaves (KM E mX6_octaves (some (.int v)) tw h') tw h 6 [some (.ref 0), some (.int x1), some (.int x2), some (.int x3), none] [] := by
  intro n
  induction n with
  | zero => intro x1 x2 x3 h hf; exact absurd (show (none : Option (Int32 × HP)) = some _ from hf) (fun z => nomatch z)
  | succ n ih =>
    intro x1 x2 x3 h hf
    rw [f_X6_octaves_6] at hf
    refine aw_iload_n dX6_octaves_6 rfl (aw_aload_n dX6_octaves_7 rfl (aw_getr fkX6_19 (nl hN rfl) kd_0 (Nat.le_of_ble_eq_true rfl) rfl dX6_octaves_8 (aw_geti fkX6_144 (TO.n qT hN) (TO.k qT) (Nat.le_of_ble_eq_true rfl) rfl dX6_octaves_11 ?_)))
    refine aw_icmp_ge 51 dX6_octaves_14 rfl (fun g1 => ?_) (fun g1 => ?_)
    · replace hf := (if_pos g1).symm.trans hf
      refine aw_iload_n dX6_octaves_51 rfl ?_
      obtain ⟨v4, h2, c3, hf⟩ := ob_some hf
      cases hf
      exact aw_callSi (N := mJ6_bitCount_0f7a4) (As := [.int x2]) lkX6_163 okJ6_bitCount_0f7a4 (by rfl) (by rfl) (Nat.le_of_ble_eq_true rfl) ry_X6_octaves_J6_bitCount_0f7a4 dX6_octaves_52 (And.intro (Nat.le_refl _) (Nat.le_refl _)) (ct_J6_bitCount_0f7a4 hE hN F c3) (aw_iret rfl dX6_octaves_55)
    · replace hf := (if_neg g1).symm.trans hf
      refine aw_iconst (nI 1) dX6_octaves_17 ki_1 (aw_aload_n dX6_octaves_18 rfl (aw_getr fkX6_19 (nl hN rfl) kd_0 (Nat.le_of_ble_eq_true rfl) rfl dX6_octaves_19 (aw_getr fkX6_108 (TO.n qT hN) (TO.k qT) (Nat.le_of_ble_eq_true rfl) rfl dX6_octaves_22 (aw_iload_n dX6_octaves_25 rfl ?_))))
      obtain ⟨g5, hf⟩ := ogd hf
      refine aw_iald (TO.n1 qT hN) (TO.k1 qT) g5 dX6_octaves_26 (aw_bipush (nI 12) dX6_octaves_27 kb_12 (aw_irem (by decide) dX6_octaves_29 (aw_ishl dX6_octaves_30 (aw_istore dX6_octaves_31 (Nat.le_of_ble_eq_true rfl) (aw_iload_n dX6_octaves_33 rfl (aw_iload_n dX6_octaves_34 rfl (aw_iload dX6_octaves_35 rfl (aw_iand dX6_octaves_37 (aw_ior dX6_octaves_38 (aw_istore_n dX6_octaves_39 (Nat.le_of_ble_eq_true rfl) (aw_iload_n dX6_octaves_40 rfl ?_)))))))))))
      refine aw_iload dX6_octaves_41 rfl (aw_ior dX6_octaves_43 (aw_istore_n dX6_octaves_44 (Nat.le_of_ble_eq_true rfl) (aw_iinc (nI 1) dX6_octaves_45 rfl (Nat.le_of_ble_eq_true rfl) ki_1 (aw_goto 6 dX6_octaves_48 rfl ?_))))
      exact aw_dk (ih _ _ _ _ hf) (And.intro rfl (And.intro rfl (And.intro rfl (And.intro rfl trivial))))
set_option maxHeartbeats 4000000 in
set_option maxRecDepth 100000 in
theorem ct_X6_octaves {E : EV} (hE : EI E) (hN : 39 ≤ eN E) (F : Nat) {tw : TW} (qT : TO tw.1) (qU : TO tw.2)  {h : HP} {v : Int32} {h' : HP} (hf : f_X6_octaves F tw  h = some (v, h')) : CT E mX6_octaves tw h [.ref 0] (some (.int v)) tw h' := by
  refine CT.of hE (show plainFor yX6_octaves = true by decide +kernel) (Nat.le_of_ble_eq_true rfl) 4 ?_
  show AW E mX6_octaves (KM E mX6_octaves (some (.int v)) tw h') tw h 0 [some (.ref 0), none, none, none, none] []
  unfold f_X6_octaves at hf
  refine aw_iconst (nI 0) dX6_octaves_0 ki_0 (aw_istore_n dX6_octaves_1 (Nat.le_of_ble_eq_true rfl) (aw_iconst (nI 0) dX6_octaves_2 ki_0 (aw_istore_n dX6_octaves_3 (Nat.le_of_ble_eq_true rfl) (aw_iconst (nI 0) dX6_octaves_4 ki_0 (aw_istore_n dX6_octaves_5 (Nat.le_of_ble_eq_true rfl) ?_)))))
  exact aw_dk (ct_X6_octaves_6 hE hN F qT qU F _ _ _ _ hf) (And.intro rfl (And.intro rfl (And.intro rfl (And.intro rfl trivial))))
set_option maxHeartbeats 4000000 in
set_option maxRecDepth 100000 in
theorem ct_X6_melody_115 {E : EV} (hE : EI E) (hN : 39 ≤ eN E) (F : Nat) {tw : TW} (qT : TO tw.1) (qU : TO tw.2) {x1 : Int32} {v : Int32} {h' : HP} {k_25 : Int32 → Int32 → Int32 → Int32 → Int32 → HP → Option (Int32 × HP)} (hk_25 : ∀ (x2 : Int32) (x3 : Int32) (x4 : Int32) (x5 : Int32) (x6 : Int32) (h : HP), k_25 x2 x3 x4 x5 x6 h = some (v, h') → AW E mX6_melody (KM E mX6_melody (some (.int v)) tw h') tw h 25 [some (.ref 0), some (.int x1), some (.int x2), some (.int x3), some (.int x4), some (.int x5), some (.int x6), none] []) : ∀ (x2 : Int32) (x3 : Int32) (x4 : Int32) (x5 : Int32) (x6 : Int32) (x7 : Int32) (h : HP), f_X6_melody_115 F tw x1 k_25 x2 x3 x4 x5 x6 x7 h = some (v, h') → AW E mX6_melody (KM E mX6_melody (some (.int v)) tw h') tw h 115 [some (.ref 0), some (.int x1), some (.int x2), some (.int x3), some (.int x4), some (.int x5), some (.int x6), some (.int x7)] [] := by
  intro x2 x3 x4 x5 x6 x7 h hf
  unfold f_X6_melody_115 at hf
  have key18 : AW E mX6_melody (KM E mX6_melody (some (.int v)) tw h') tw h 129 [some (.ref 0), some (.int x1), some (.int x2), some (.int x3), some (.int x4), some (.int x5), some (.int x6), some (.int x7)] [.int (if x7 = (-4) then x5 else x7)] := by
    refine aw_istore dX6_melody_129 (Nat.le_of_ble_eq_true rfl) (aw_iinc (nI 1) dX6_melody_131 rfl (Nat.le_of_ble_eq_true rfl) ki_1 (aw_goto 25 dX6_melody_134 rfl ?_))
    exact aw_dk (hk_25 _ _ _ _ _ _ hf) (And.intro rfl (And.intro rfl (And.intro rfl (And.intro rfl (And.intro rfl (And.intro rfl (And.intro rfl trivial)))))))
  refine aw_iload dX6_melody_115 rfl (aw_bipush (-4) dX6_melody_117 kb_m4 ?_)
  refine aw_icmp_eq 127 dX6_melody_119 rfl (fun g19 => ?_) (fun g19 => ?_)
  · skip
    refine aw_iload dX6_melody_127 rfl ?_
    simp only [if_pos g19] at key18 ⊢
    exact aw_dk key18 (And.intro rfl (And.intro rfl (And.intro rfl (And.intro rfl (And.intro rfl (And.intro rfl (And.intro rfl (And.intro rfl trivial))))))))
  · skip
    refine aw_iload dX6_melody_122 rfl (aw_goto 129 dX6_melody_124 rfl ?_)
    simp only [if_neg g19] at key18 ⊢
    exact aw_dk key18 (And.intro rfl (And.intro rfl (And.intro rfl (And.intro rfl (And.intro rfl (And.intro rfl (And.intro rfl (And.intro rfl trivial))))))))
set_option maxHeartbeats 4000000 in
set_option maxRecDepth 100000 in
theorem ct_X6_melody_25 {E : EV} (hE : EI E) (hN : 39 ≤ eN E) (F : Nat) {tw : TW} (qT : TO tw.1) (qU : TO tw.2) {x1 : Int32} {v : Int32} {h' : HP} : ∀ (n : Nat) (x2 : Int32) (x3 : Int32) (x4 : Int32) (x5 : Int32) (x6 : Int32) (h : HP), f_X6_melody_25 F tw x1 n x2 x3 x4 x5 x6 h = some (v, h') → AW E mX6_melody (KM E mX6_melody (some (.int v)) tw h') tw h 25 [some (.ref 0), some (.int x1), some (.int x2), some (.int x3), some (.int x4), some (.int x5), some (.int x6), none] [] := by
  intro n
  induction n with
  | zero => intro x2 x3 x4 x5 x6 h hf; exact absurd (show (none : Option (Int32 × HP)) = some _ from hf) (fun z => nomatch z)
  | succ n ih =>
    intro x2 x3 x4 x5 x6 h hf
    rw [f_X6_melody_25] at hf
    refine aw_iload dX6_melody_25 rfl (aw_aload_n dX6_melody_27 rfl (aw_getr fkX6_19 (nl hN rfl) kd_0 (Nat.le_of_ble_eq_true rfl) rfl dX6_melody_28 (aw_geti fkX6_147 (TO.n qT hN) (TO.k qT) (Nat.le_of_ble_eq_true rfl) rfl dX6_melody_31 ?_)))
    refine aw_icmp_ge 137 dX6_melody_34 rfl (fun g3 => ?_) (fun g3 => ?_)
    · replace hf := (if_pos g3).symm.trans hf
      refine aw_iload_n dX6_melody_137 rfl ?_
      refine aw_if_ne 145 dX6_melody_138 rfl (fun g4 => ?_) (fun g4 => ?_)
      · replace hf := (if_neg g4).symm.trans hf
        refine aw_iload_n dX6_melody_145 rfl (aw_iconst (nI 1) dX6_melody_146 ki_1 ?_)
        refine aw_icmp_ne 154 dX6_melody_147 rfl (fun g5 => ?_) (fun g5 => ?_)
        · replace hf := (if_neg g5).symm.trans hf
          cases hf
          exact aw_iload dX6_melody_154 rfl (aw_iret rfl dX6_melody_156)
        · replace hf := (if_pos g5).symm.trans hf
          cases hf
          exact aw_iload_n dX6_melody_150 rfl (aw_goto 156 dX6_melody_151 rfl (aw_iret rfl dX6_melody_156))
      · replace hf := (if_pos g4).symm.trans hf
        cases hf
        exact aw_iload_n dX6_melody_141 rfl (aw_goto 156 dX6_melody_142 rfl (aw_iret rfl dX6_melody_156))
    · replace hf := (if_neg g3).symm.trans hf
      refine aw_aload_n dX6_melody_37 rfl (aw_getr fkX6_19 (nl hN rfl) kd_0 (Nat.le_of_ble_eq_true rfl) rfl dX6_melody_38 (aw_aload_n dX6_melody_41 rfl (aw_getr fkX6_29 (nl hN rfl) kd_0 (Nat.le_of_ble_eq_true rfl) rfl dX6_melody_42 (aw_getr fkX6_127 (nl hN rfl) kd_14 (Nat.le_of_ble_eq_true rfl) rfl dX6_melody_45 (aw_iload dX6_melody_48 rfl ?_)))))
      obtain ⟨g6, hf⟩ := ogd hf
      refine aw_iald (nl hN rfl) kd_15 g6 dX6_melody_50 ?_
      obtain ⟨v9, h7, c8, hf⟩ := ob_some hf
      refine aw_callVi (N := mX5_highestTone) (As := [.int (h 15 (ix x6))]) lkX6_229 okX5_highestTone (TO.n qT hN) (TO.k qT) rfl (by rfl) (by rfl) (Nat.le_of_ble_eq_true rfl) ry_X6_melody_X5_highestTone dX6_melody_51 (And.intro (Nat.le_refl _) (Nat.le_refl _)) (ct_X5_highestTone hE hN F qT c8) (aw_istore dX6_melody_54 (Nat.le_of_ble_eq_true rfl) (aw_iload dX6_melody_56 rfl (aw_bipush (-4) dX6_melody_58 kb_m4 ?_)))
      refine aw_icmp_eq 115 dX6_melody_60 rfl (fun g10 => ?_) (fun g10 => ?_)
      · replace hf := (if_pos g10).symm.trans hf
        exact aw_dk (ct_X6_melody_115 hE hN F qT qU ih _ _ _ _ _ _ _ hf) (And.intro rfl (And.intro rfl (And.intro rfl (And.intro rfl (And.intro rfl (And.intro rfl (And.intro rfl (And.intro rfl trivial))))))))
      · replace hf := (if_neg g10).symm.trans hf
        refine aw_iload dX6_melody_63 rfl (aw_bipush (-4) dX6_melody_65 kb_m4 ?_)
        refine aw_icmp_eq 115 dX6_melody_67 rfl (fun g11 => ?_) (fun g11 => ?_)
        · replace hf := (if_pos g11).symm.trans hf
          exact aw_dk (ct_X6_melody_115 hE hN F qT qU ih _ _ _ _ _ _ _ hf) (And.intro rfl (And.intro rfl (And.intro rfl (And.intro rfl (And.intro rfl (And.intro rfl (And.intro rfl (And.intro rfl trivial))))))))
        · replace hf := (if_neg g11).symm.trans hf
          have key20 : AW E mX6_melody (KM E mX6_melody (some (.int v)) tw h') tw h7 83 [some (.ref 0), some (.int x1), some (.int x2), some (.int x3), some (.int x4), some (.int x5), some (.int x6), some (.int v9)] [.int (if v9 ≤ x5 then (nI 0) else (nI 1)), .int x2] := by
            have key21 : AW E mX6_melody (KM E mX6_melody (some (.int v)) tw h') tw h7 98 [some (.ref 0), some (.int x1), some (.int (x2 + (if v9 ≤ x5 then (nI 0) else (nI 1)))), some (.int x3), some (.int x4), some (.int x5), some (.int x6), some (.int v9)] [.int (if x5 ≤ v9 then (nI 0) else (nI 1)), .int x3] := by
              refine aw_iadd dX6_melody_98 (aw_istore_n dX6_melody_99 (Nat.le_of_ble_eq_true rfl) (aw_iload dX6_melody_100 rfl (aw_iload dX6_melody_102 rfl (aw_iload dX6_melody_104 rfl (aw_isub dX6_melody_106 ?_)))))
              obtain ⟨v14, h12, c13, hf⟩ := ob_some hf
              refine aw_callSi (N := mJ9_abs_0f7a4) (As := [.int (v9 - x5)]) lkX6_232 okJ9_abs_0f7a4 (by rfl) (by rfl) (Nat.le_of_ble_eq_true rfl) ry_X6_melody_J9_abs_0f7a4 dX6_melody_107 (And.intro (Nat.le_refl _) (Nat.le_refl _)) (ct_J9_abs_0f7a4 hE hN F c13) ?_
              obtain ⟨v17, h15, c16, hf⟩ := ob_some hf
              refine aw_callSi (N := mJ9_max_7cf53) (As := [.int x4, .int v14]) lkX6_195 okJ9_max_7cf53 (by rfl) (by rfl) (Nat.le_of_ble_eq_true rfl) ry_X6_melody_J9_max_7cf53 dX6_melody_110 (And.intro (Nat.le_refl _) (Nat.le_refl _)) (ct_J9_max_7cf53 hE hN F c16) (aw_istore dX6_melody_113 (Nat.le_of_ble_eq_true rfl) ?_)
              exact aw_dk (ct_X6_melody_115 hE hN F qT qU ih _ _ _ _ _ _ _ hf) (And.intro rfl (And.intro rfl (And.intro rfl (And.intro rfl (And.intro rfl (And.intro rfl (And.intro rfl (And.intro rfl trivial))))))))
            refine aw_iadd dX6_melody_83 (aw_istore_n dX6_melody_84 (Nat.le_of_ble_eq_true rfl) (aw_iload_n dX6_melody_85 rfl (aw_iload dX6_melody_86 rfl (aw_iload dX6_melody_88 rfl ?_))))
            refine aw_icmp_ge 97 dX6_melody_90 rfl (fun g22 => ?_) (fun g22 => ?_)
            · skip
              refine aw_iconst (nI 0) dX6_melody_97 ki_0 ?_
              simp only [if_pos g22] at key21 ⊢
              exact aw_dk key21 (And.intro rfl (And.intro rfl (And.intro rfl (And.intro rfl (And.intro rfl (And.intro rfl (And.intro rfl (And.intro rfl trivial))))))))
            · skip
              refine aw_iconst (nI 1) dX6_melody_93 ki_1 (aw_goto 98 dX6_melody_94 rfl ?_)
              simp only [if_neg g22] at key21 ⊢
              exact aw_dk key21 (And.intro rfl (And.intro rfl (And.intro rfl (And.intro rfl (And.intro rfl (And.intro rfl (And.intro rfl (And.intro rfl trivial))))))))
          refine aw_iload_n dX6_melody_70 rfl (aw_iload dX6_melody_71 rfl (aw_iload dX6_melody_73 rfl ?_))
          refine aw_icmp_le 82 dX6_melody_75 rfl (fun g23 => ?_) (fun g23 => ?_)
          · skip
            refine aw_iconst (nI 0) dX6_melody_82 ki_0 ?_
            simp only [if_pos g23] at key20 ⊢
            exact aw_dk key20 (And.intro rfl (And.intro rfl (And.intro rfl (And.intro rfl (And.intro rfl (And.intro rfl (And.intro rfl (And.intro rfl trivial))))))))
          · skip
            refine aw_iconst (nI 1) dX6_melody_78 ki_1 (aw_goto 83 dX6_melody_79 rfl ?_)
            simp only [if_neg g23] at key20 ⊢
            exact aw_dk key20 (And.intro rfl (And.intro rfl (And.intro rfl (And.intro rfl (And.intro rfl (And.intro rfl (And.intro rfl (And.intro rfl trivial))))))))
set_option maxHeartbeats 4000000 in
set_option maxRecDepth 100000 in
theorem ct_X6_melody {E : EV} (hE : EI E) (hN : 39 ≤ eN E) (F : Nat) {tw : TW} (qT : TO tw.1) (qU : TO tw.2) {x1 : Int32} {h : HP} {v : Int32} {h' : HP} (hf : f_X6_melody F tw x1 h = some (v, h')) : CT E mX6_melody tw h [.ref 0, .int x1] (some (.int v)) tw h' := by
  refine CT.of hE (show plainFor yX6_melody = true by decide +kernel) (Nat.le_of_ble_eq_true rfl) 6 ?_
  show AW E mX6_melody (KM E mX6_melody (some (.int v)) tw h') tw h 0 [some (.ref 0), some (.int x1), none, none, none, none, none, none] []
  unfold f_X6_melody at hf
  refine aw_iload_n dX6_melody_0 rfl ?_
  refine aw_if_lt 9 dX6_melody_1 rfl (fun g1 => ?_) (fun g1 => ?_)
  · replace hf := (if_pos g1).symm.trans hf
    cases hf
    exact aw_iconst (-1) dX6_melody_9 ki_m1 (aw_iret rfl dX6_melody_10)
  · replace hf := (if_neg g1).symm.trans hf
    refine aw_iload_n dX6_melody_4 rfl (aw_iconst (nI 2) dX6_melody_5 ki_2 ?_)
    refine aw_icmp_le 11 dX6_melody_6 rfl (fun g2 => ?_) (fun g2 => ?_)
    · replace hf := (if_pos g2).symm.trans hf
      refine aw_iconst (nI 0) dX6_melody_11 ki_0 (aw_istore_n dX6_melody_12 (Nat.le_of_ble_eq_true rfl) (aw_iconst (nI 0) dX6_melody_13 ki_0 (aw_istore_n dX6_melody_14 (Nat.le_of_ble_eq_true rfl) (aw_iconst (nI 0) dX6_melody_15 ki_0 (aw_istore dX6_melody_16 (Nat.le_of_ble_eq_true rfl) (aw_bipush (-4) dX6_melody_18 kb_m4 (aw_istore dX6_melody_20 (Nat.le_of_ble_eq_true rfl) (aw_iconst (nI 0) dX6_melody_22 ki_0 (aw_istore dX6_melody_23 (Nat.le_of_ble_eq_true rfl) ?_)))))))))
      exact aw_dk (ct_X6_melody_25 hE hN F qT qU F _ _ _ _ _ _ hf) (And.intro rfl (And.intro rfl (And.intro rfl (And.intro rfl (And.intro rfl (And.intro rfl (And.intro rfl trivial)))))))
    · replace hf := (if_neg g2).symm.trans hf
      cases hf
      exact aw_iconst (-1) dX6_melody_9 ki_m1 (aw_iret rfl dX6_melody_10)
set_option maxHeartbeats 4000000 in
set_option maxRecDepth 100000 in
theorem ct_X6_draw {E : EV} (hE : EI E) (hN : 39 ≤ eN E) (F : Nat) {tw : TW} {x0 : Int32} {x1 : Int32} {h : HP} {v : Int32} {h' : HP} (hf : f_X6_draw F x0 x1 h = some (v, h')) : CT E mX6_draw tw h [.int x0, .int x1] (some (.int v)) tw h' := by
  refine CT.of hE (show plainFor yX6_draw = true by decide +kernel) (Nat.le_of_ble_eq_true rfl) 2 ?_
  show AW E mX6_draw (KM E mX6_draw (some (.int v)) tw h') tw h 0 [some (.int x0), some (.int x1), none, none] []
  unfold f_X6_draw at hf
  cases hf
  refine aw_ldc2 kcX6_247 dX6_draw_0 (aw_iload_n dX6_draw_3 rfl (aw_i2l dX6_draw_4 (aw_lmul dX6_draw_5 (aw_ldc2 kcX6_249 dX6_draw_6 (aw_iload_n dX6_draw_9 rfl (aw_i2l dX6_draw_10 (aw_lmul dX6_draw_11 (aw_ladd dX6_draw_12 (aw_lconst (lN 1) dX6_draw_13 rfl (aw_ladd dX6_draw_14 (aw_lstore_n dX6_draw_15 (Nat.le_of_ble_eq_true rfl) ?_)))))))))))
  refine aw_lload_n dX6_draw_16 rfl (aw_lload_n dX6_draw_17 rfl (aw_lmul dX6_draw_18 (aw_ldc2 kcX6_251 dX6_draw_19 (aw_lrem (by decide) dX6_draw_22 (aw_ldc2 kcX6_253 dX6_draw_23 (aw_ldiv (by decide) dX6_draw_26 (aw_l2i dX6_draw_27 ?_)))))))
  exact aw_iret rfl dX6_draw_28
set_option maxHeartbeats 4000000 in
set_option maxRecDepth 100000 in
theorem ct_X6_winter_109 {E : EV} (hE : EI E) (hN : 39 ≤ eN E) (F : Nat) {tw : TW} (qT : TO tw.1) (qU : TO tw.2) {x1 : Int32} {x2 : Int32} {x3 : Int32} {v : Int32} {h' : HP} : ∀ (n : Nat) (x4 : Int32) (x5 : Int32) (x6 : Int32) (h : HP), f_X6_winter_109 F tw x1 x2 x3 n x4 x5 x6 h = some (v, h') → AW E mX6_winter (KM E mX6_winter (some (.int v)) tw h') tw h 109 [some (.ref 0), none, none, some (.int x3), some (.int x4), some (.int x5), some (.int x6)] [] := by
  intro n
  induction n with
  | zero => intro x4 x5 x6 h hf; exact absurd (show (none : Option (Int32 × HP)) = some _ from hf) (fun z => nomatch z)
  | succ n ih =>
    intro x4 x5 x6 h hf
    rw [f_X6_winter_109] at hf
    refine aw_iload dX6_winter_109 rfl (aw_aload_n dX6_winter_111 rfl (aw_getr fkX6_19 (nl hN rfl) kd_0 (Nat.le_of_ble_eq_true rfl) rfl dX6_winter_112 (aw_geti fkX6_147 (TO.n qT hN) (TO.k qT) (Nat.le_of_ble_eq_true rfl) rfl dX6_winter_115 ?_)))
    refine aw_icmp_ge 168 dX6_winter_118 rfl (fun g17 => ?_) (fun g17 => ?_)
    · replace hf := (if_pos g17).symm.trans hf
      refine aw_iload_n dX6_winter_168 rfl ?_
      refine aw_if_ne 177 dX6_winter_169 rfl (fun g18 => ?_) (fun g18 => ?_)
      · replace hf := (if_neg g18).symm.trans hf
        cases hf
        exact aw_iload dX6_winter_177 rfl (aw_iret rfl dX6_winter_179)
      · replace hf := (if_pos g18).symm.trans hf
        cases hf
        exact aw_iload dX6_winter_172 rfl (aw_goto 179 dX6_winter_174 rfl (aw_iret rfl dX6_winter_179))
    · replace hf := (if_neg g17).symm.trans hf
      refine aw_iload dX6_winter_121 rfl (aw_aload_n dX6_winter_123 rfl (aw_getr fkX6_33 (nl hN rfl) kd_0 (Nat.le_of_ble_eq_true rfl) rfl dX6_winter_124 (aw_getr fkX6_127 (nl hN rfl) kd_19 (Nat.le_of_ble_eq_true rfl) rfl dX6_winter_127 (aw_iload dX6_winter_130 rfl ?_))))
      obtain ⟨g19, hf⟩ := ogd hf
      refine aw_iald (nl hN rfl) kd_20 g19 dX6_winter_132 ?_
      obtain ⟨v22, h20, c21, hf⟩ := ob_some hf
      have key23 : AW E mX6_winter (KM E mX6_winter (some (.int v)) tw h') tw h20 159 [some (.ref 0), none, none, some (.int x3), some (.int (x4 + v22)), some (.int x5), some (.int x6)] [.int (if (h20 20 (ix x6)) = nI 0 then (nI 1) else (nI 0)), .int x5] := by
        refine aw_iadd dX6_winter_159 (aw_istore dX6_winter_160 (Nat.le_of_ble_eq_true rfl) (aw_iinc (nI 1) dX6_winter_162 rfl (Nat.le_of_ble_eq_true rfl) ki_1 (aw_goto 109 dX6_winter_165 rfl ?_)))
        exact aw_dk (ih _ _ _ _ hf) (And.intro rfl (And.intro rfl (And.intro rfl (And.intro rfl (And.intro rfl trivial)))))
      refine aw_callSi (N := mJ6_bitCount_0f7a4) (As := [.int (h 20 (ix x6))]) lkX6_163 okJ6_bitCount_0f7a4 (by rfl) (by rfl) (Nat.le_of_ble_eq_true rfl) ry_X6_winter_J6_bitCount_0f7a4 dX6_winter_133 (And.intro (Nat.le_refl _) (Nat.le_refl _)) (ct_J6_bitCount_0f7a4 hE hN F c21) (aw_iadd dX6_winter_136 (aw_istore dX6_winter_137 (Nat.le_of_ble_eq_true rfl) (aw_iload dX6_winter_139 rfl (aw_aload_n dX6_winter_141 rfl (aw_getr fkX6_33 (nl hN rfl) kd_0 (Nat.le_of_ble_eq_true rfl) rfl dX6_winter_142 (aw_getr fkX6_127 (nl hN rfl) kd_19 (Nat.le_of_ble_eq_true rfl) rfl dX6_winter_145 (aw_iload dX6_winter_148 rfl (aw_iald (nl hN rfl) kd_20 g19 dX6_winter_150 ?_))))))))
      refine aw_if_ne 158 dX6_winter_151 rfl (fun g24 => ?_) (fun g24 => ?_)
      · skip
        refine aw_iconst (nI 0) dX6_winter_158 ki_0 ?_
        simp only [if_neg g24] at key23 ⊢
        exact aw_dk key23 (And.intro rfl (And.intro rfl (And.intro rfl (And.intro rfl (And.intro rfl trivial)))))
      · skip
        refine aw_iconst (nI 1) dX6_winter_154 ki_1 (aw_goto 159 dX6_winter_155 rfl ?_)
        simp only [if_pos g24] at key23 ⊢
        exact aw_dk key23 (And.intro rfl (And.intro rfl (And.intro rfl (And.intro rfl (And.intro rfl trivial)))))
set_option maxHeartbeats 4000000 in
set_option maxRecDepth 100000 in
theorem ct_X6_winter_47 {E : EV} (hE : EI E) (hN : 39 ≤ eN E) (F : Nat) {tw : TW} (qT : TO tw.1) (qU : TO tw.2) {x1 : Int32} {x2 : Int32} {x3 : Int32} {v : Int32} {h' : HP} : ∀ (n : Nat) (x4 : Int32) (h : HP), f_X6_winter_47 F tw x1 x2 x3 n x4 h = some (v, h') → AW E mX6_winter (KM E mX6_winter (some (.int v)) tw h') tw h 47 [some (.ref 0), some (.int x1), some (.int x2), some (.int x3), some (.int x4), none, none] [] := by
  intro n
  induction n with
  | zero => intro x4 h hf; exact absurd (show (none : Option (Int32 × HP)) = some _ from hf) (fun z => nomatch z)
  | succ n ih =>
    intro x4 h hf
    rw [f_X6_winter_47] at hf
    refine aw_iload dX6_winter_47 rfl (aw_iload_n dX6_winter_49 rfl ?_)
    refine aw_icmp_ge 100 dX6_winter_50 rfl (fun g9 => ?_) (fun g9 => ?_)
    · replace hf := (if_pos g9).symm.trans hf
      refine aw_iconst (nI 0) dX6_winter_100 ki_0 (aw_istore dX6_winter_101 (Nat.le_of_ble_eq_true rfl) (aw_iconst (nI 0) dX6_winter_103 ki_0 (aw_istore dX6_winter_104 (Nat.le_of_ble_eq_true rfl) (aw_iconst (nI 0) dX6_winter_106 ki_0 (aw_istore dX6_winter_107 (Nat.le_of_ble_eq_true rfl) ?_)))))
      exact aw_dk (ct_X6_winter_109 hE hN F qT qU F _ _ _ _ hf) (And.intro rfl (And.intro rfl (And.intro rfl (And.intro rfl (And.intro rfl trivial)))))
    · replace hf := (if_neg g9).symm.trans hf
      refine aw_aload_n dX6_winter_53 rfl (aw_getr fkX6_19 (nl hN rfl) kd_0 (Nat.le_of_ble_eq_true rfl) rfl dX6_winter_54 (aw_iconst (nI 0) dX6_winter_57 ki_0 (aw_iload_n dX6_winter_58 rfl (aw_iload dX6_winter_59 rfl ?_))))
      obtain ⟨v12, h10, c11, hf⟩ := ob_some hf
      refine aw_callSi (N := mX6_draw) (As := [.int x1, .int x4]) lkX6_235 okX6_draw (by rfl) (by rfl) (Nat.le_of_ble_eq_true rfl) ry_X6_winter_X6_draw dX6_winter_61 (And.intro (Nat.le_refl _) (Nat.le_refl _)) (ct_X6_draw hE hN F c11) ?_
      obtain ⟨v15, h13, c14, hf⟩ := ob_some hf
      refine aw_callVi (N := mX5_rowBehind) (As := [.int (nI 0), .int v12]) lkX6_168 okX5_rowBehind (TO.n qT hN) (TO.k qT) rfl (by rfl) (by rfl) (Nat.le_of_ble_eq_true rfl) ry_X6_winter_X5_rowBehind dX6_winter_64 (And.intro (Nat.le_refl _) (Nat.le_refl _)) (ct_X5_rowBehind hE hN F qT c14) (aw_istore dX6_winter_67 (Nat.le_of_ble_eq_true rfl) (aw_aload_n dX6_winter_69 rfl (aw_getr fkX6_33 (nl hN rfl) kd_0 (Nat.le_of_ble_eq_true rfl) rfl dX6_winter_70 (aw_getr fkX6_127 (nl hN rfl) kd_19 (Nat.le_of_ble_eq_true rfl) rfl dX6_winter_73 (aw_iload dX6_winter_76 rfl (aw_dup2 dX6_winter_78 rfl rfl ?_))))))
      obtain ⟨g16, hf⟩ := ogd hf
      refine aw_iald (nl hN rfl) kd_20 g16 dX6_winter_79 (aw_aload_n dX6_winter_80 rfl (aw_getr fkX6_33 (nl hN rfl) kd_0 (Nat.le_of_ble_eq_true rfl) rfl dX6_winter_81 (aw_getr fkX6_127 (nl hN rfl) kd_19 (Nat.le_of_ble_eq_true rfl) rfl dX6_winter_84 (aw_iload dX6_winter_87 rfl (aw_iald (nl hN rfl) kd_20 g16 dX6_winter_89 (aw_iconst (nI 1) dX6_winter_90 ki_1 (aw_isub dX6_winter_91 (aw_iand dX6_winter_92 (aw_iast (nl hN rfl) kd_20 g16 dX6_winter_93 (aw_iinc (nI 1) dX6_winter_94 rfl (Nat.le_of_ble_eq_true rfl) ki_1 (aw_goto 47 dX6_winter_97 rfl ?_)))))))))))
      exact aw_dk (ih _ _ hf) (And.intro rfl (And.intro rfl (And.intro rfl (And.intro rfl (And.intro rfl trivial)))))
set_option maxHeartbeats 4000000 in
set_option maxRecDepth 100000 in
theorem ct_X6_winter {E : EV} (hE : EI E) (hN : 39 ≤ eN E) (F : Nat) {tw : TW} (qT : TO tw.1) (qU : TO tw.2) {x1 : Int32} {x2 : Int32} {x3 : Int32} {h : HP} {v : Int32} {h' : HP} (hf : f_X6_winter F tw x1 x2 x3 h = some (v, h')) : CT E mX6_winter tw h [.ref 0, .int x1, .int x2, .int x3] (some (.int v)) tw h' := by
  refine CT.of hE (show plainFor yX6_winter = true by decide +kernel) (Nat.le_of_ble_eq_true rfl) 3 ?_
  show AW E mX6_winter (KM E mX6_winter (some (.int v)) tw h') tw h 0 [some (.ref 0), some (.int x1), some (.int x2), some (.int x3), none, none, none] []
  unfold f_X6_winter at hf
  refine aw_iload_n dX6_winter_0 rfl ?_
  refine aw_if_lt 31 dX6_winter_1 rfl (fun g1 => ?_) (fun g1 => ?_)
  · replace hf := (if_pos g1).symm.trans hf
    cases hf
    exact aw_iconst (-1) dX6_winter_31 ki_m1 (aw_iret rfl dX6_winter_32)
  · replace hf := (if_neg g1).symm.trans hf
    refine aw_iload_n dX6_winter_4 rfl (aw_sipush (nI 9999) dX6_winter_5 ks_9999 ?_)
    refine aw_icmp_gt 31 dX6_winter_8 rfl (fun g2 => ?_) (fun g2 => ?_)
    · replace hf := (if_pos g2).symm.trans hf
      cases hf
      exact aw_iconst (-1) dX6_winter_31 ki_m1 (aw_iret rfl dX6_winter_32)
    · replace hf := (if_neg g2).symm.trans hf
      refine aw_iload_n dX6_winter_11 rfl (aw_iconst (nI 1) dX6_winter_12 ki_1 ?_)
      refine aw_icmp_lt 31 dX6_winter_13 rfl (fun g3 => ?_) (fun g3 => ?_)
      · replace hf := (if_pos g3).symm.trans hf
        cases hf
        exact aw_iconst (-1) dX6_winter_31 ki_m1 (aw_iret rfl dX6_winter_32)
      · replace hf := (if_neg g3).symm.trans hf
        refine aw_iload_n dX6_winter_16 rfl (aw_bipush (nI 60) dX6_winter_17 kb_60 ?_)
        refine aw_icmp_gt 31 dX6_winter_19 rfl (fun g4 => ?_) (fun g4 => ?_)
        · replace hf := (if_pos g4).symm.trans hf
          cases hf
          exact aw_iconst (-1) dX6_winter_31 ki_m1 (aw_iret rfl dX6_winter_32)
        · replace hf := (if_neg g4).symm.trans hf
          refine aw_iload_n dX6_winter_22 rfl ?_
          refine aw_if_lt 31 dX6_winter_23 rfl (fun g5 => ?_) (fun g5 => ?_)
          · replace hf := (if_pos g5).symm.trans hf
            cases hf
            exact aw_iconst (-1) dX6_winter_31 ki_m1 (aw_iret rfl dX6_winter_32)
          · replace hf := (if_neg g5).symm.trans hf
            refine aw_iload_n dX6_winter_26 rfl (aw_iconst (nI 1) dX6_winter_27 ki_1 ?_)
            refine aw_icmp_le 33 dX6_winter_28 rfl (fun g6 => ?_) (fun g6 => ?_)
            · replace hf := (if_pos g6).symm.trans hf
              refine aw_aload_n dX6_winter_33 rfl (aw_getr fkX6_33 (nl hN rfl) kd_0 (Nat.le_of_ble_eq_true rfl) rfl dX6_winter_34 (aw_aload_n dX6_winter_37 rfl (aw_getr fkX6_29 (nl hN rfl) kd_0 (Nat.le_of_ble_eq_true rfl) rfl dX6_winter_38 ?_)))
              obtain ⟨h7, c8, hf⟩ := obv_some hf
              refine aw_callVv (N := mX0_copy) (As := [.ref 14]) lkX6_185 okX0_copy (nl hN rfl) kd_19 rfl (by rfl) (by rfl) (Nat.le_of_ble_eq_true rfl) ry_X6_winter_X0_copy dX6_winter_41 (And.intro (Nat.le_refl _) (Nat.le_refl _)) (ct_X0_copy hE hN F (Or.inr rfl) (Or.inl rfl) c8) (aw_iconst (nI 0) dX6_winter_44 ki_0 (aw_istore dX6_winter_45 (Nat.le_of_ble_eq_true rfl) ?_))
              exact aw_dk (ct_X6_winter_47 hE hN F qT qU F _ _ hf) (And.intro rfl (And.intro rfl (And.intro rfl (And.intro rfl (And.intro rfl trivial)))))
            · replace hf := (if_neg g6).symm.trans hf
              cases hf
              exact aw_iconst (-1) dX6_winter_31 ki_m1 (aw_iret rfl dX6_winter_32)
set_option maxHeartbeats 4000000 in
set_option maxRecDepth 100000 in
theorem ct_X6_keep {E : EV} (hE : EI E) (hN : 39 ≤ eN E) (F : Nat) {tw : TW} (qT : TO tw.1) (qU : TO tw.2)  {h : HP} {v : Int32} {h' : HP} (hf : f_X6_keep F tw  h = some (v, h')) : CT E mX6_keep tw h [.ref 0] (some (.int v)) tw h' := by
  refine CT.of hE (show plainFor yX6_keep = true by decide +kernel) (Nat.le_of_ble_eq_true rfl) 0 ?_
  show AW E mX6_keep (KM E mX6_keep (some (.int v)) tw h') tw h 0 [some (.ref 0)] []
  unfold f_X6_keep at hf
  refine aw_aload_n dX6_keep_0 rfl (aw_getr fkX6_45 (nl hN rfl) kd_0 (Nat.le_of_ble_eq_true rfl) rfl dX6_keep_1 (aw_geti fkX6_182 (nl hN rfl) kd_26 (Nat.le_of_ble_eq_true rfl) rfl dX6_keep_4 (aw_iconst (nI 2) dX6_keep_7 ki_2 ?_)))
  refine aw_icmp_lt 14 dX6_keep_8 rfl (fun g1 => ?_) (fun g1 => ?_)
  · replace hf := (if_pos g1).symm.trans hf
    refine aw_aload_n dX6_keep_14 rfl (aw_getr fkX6_45 (nl hN rfl) kd_0 (Nat.le_of_ble_eq_true rfl) rfl dX6_keep_15 (aw_aload_n dX6_keep_18 rfl (aw_getr fkX6_29 (nl hN rfl) kd_0 (Nat.le_of_ble_eq_true rfl) rfl dX6_keep_19 ?_)))
    obtain ⟨h2, c3, hf⟩ := obv_some hf
    cases hf
    exact aw_callVv (N := mX2_put) (As := [.ref 14]) lkX6_153 okX2_put (nl hN rfl) kd_26 rfl (by rfl) (by rfl) (Nat.le_of_ble_eq_true rfl) ry_X6_keep_X2_put dX6_keep_22 (And.intro (Nat.le_refl _) (Nat.le_refl _)) (ct_X2_put hE hN F (Or.inr rfl) (Or.inl rfl) c3) (aw_aload_n dX6_keep_25 rfl (aw_getr fkX6_45 (nl hN rfl) kd_0 (Nat.le_of_ble_eq_true rfl) rfl dX6_keep_26 (aw_geti fkX6_182 (nl hN rfl) kd_26 (Nat.le_of_ble_eq_true rfl) rfl dX6_keep_29 (aw_iret rfl dX6_keep_32))))
  · replace hf := (if_neg g1).symm.trans hf
    cases hf
    exact aw_bipush (-3) dX6_keep_11 kb_m3 (aw_iret rfl dX6_keep_13)
set_option maxHeartbeats 4000000 in
set_option maxRecDepth 100000 in
theorem ct_X6_back {E : EV} (hE : EI E) (hN : 39 ≤ eN E) (F : Nat) {tw : TW} (qT : TO tw.1) (qU : TO tw.2)  {h : HP} {v : Int32} {h' : HP} (hf : f_X6_back F tw  h = some (v, h')) : CT E mX6_back tw h [.ref 0] (some (.int v)) tw h' := by
  refine CT.of hE (show plainFor yX6_back = true by decide +kernel) (Nat.le_of_ble_eq_true rfl) 0 ?_
  show AW E mX6_back (KM E mX6_back (some (.int v)) tw h') tw h 0 [some (.ref 0)] []
  unfold f_X6_back at hf
  refine aw_aload_n dX6_back_0 rfl (aw_getr fkX6_45 (nl hN rfl) kd_0 (Nat.le_of_ble_eq_true rfl) rfl dX6_back_1 (aw_aload_n dX6_back_4 rfl (aw_getr fkX6_29 (nl hN rfl) kd_0 (Nat.le_of_ble_eq_true rfl) rfl dX6_back_5 ?_)))
  obtain ⟨v3, h1, c2, hf⟩ := ob_some hf
  refine aw_callVi (N := mX2_takeInto) (As := [.ref 14]) lkX6_178 okX2_takeInto (nl hN rfl) kd_26 rfl (by rfl) (by rfl) (Nat.le_of_ble_eq_true rfl) ry_X6_back_X2_takeInto dX6_back_8 (And.intro (Nat.le_refl _) (Nat.le_refl _)) (ct_X2_takeInto hE hN F (Or.inr rfl) (Or.inl rfl) c2) ?_
  refine aw_if_ne 17 dX6_back_11 rfl (fun g4 => ?_) (fun g4 => ?_)
  · replace hf := (if_neg g4).symm.trans hf
    refine aw_aload_n dX6_back_17 rfl (aw_getr fkX6_41 (nl hN rfl) kd_0 (Nat.le_of_ble_eq_true rfl) rfl dX6_back_18 ?_)
    obtain ⟨h5, c6, hf⟩ := obv_some hf
    cases hf
    exact aw_callVv (N := mX2_clear) (As := []) lkX6_143 okX2_clear (nl hN rfl) kd_24 rfl (by rfl) (by rfl) (Nat.le_of_ble_eq_true rfl) ry_X6_back_X2_clear dX6_back_21 (And.intro (Nat.le_refl _) (Nat.le_refl _)) (ct_X2_clear hE hN F (Or.inl rfl) c6) (aw_aload_n dX6_back_24 rfl (aw_getr fkX6_45 (nl hN rfl) kd_0 (Nat.le_of_ble_eq_true rfl) rfl dX6_back_25 (aw_geti fkX6_182 (nl hN rfl) kd_26 (Nat.le_of_ble_eq_true rfl) rfl dX6_back_28 (aw_iret rfl dX6_back_31))))
  · replace hf := (if_pos g4).symm.trans hf
    cases hf
    exact aw_bipush (-2) dX6_back_14 kb_m2 (aw_iret rfl dX6_back_16)
set_option maxHeartbeats 4000000 in
set_option maxRecDepth 100000 in
theorem ct_X6_count {E : EV} (hE : EI E) (hN : 39 ≤ eN E) (F : Nat) {tw : TW} (qT : TO tw.1) (qU : TO tw.2) {x1 : Int32} {h : HP} {v : Int32} {h' : HP} (hf : f_X6_count F tw x1 h = some (v, h')) : CT E mX6_count tw h [.ref 0, .int x1] (some (.int v)) tw h' := by
  refine CT.of hE (show plainFor yX6_count = true by decide +kernel) (Nat.le_of_ble_eq_true rfl) 0 ?_
  show AW E mX6_count (KM E mX6_count (some (.int v)) tw h') tw h 0 [some (.ref 0), some (.int x1)] []
  unfold f_X6_count at hf
  refine aw_iload_n dX6_count_0 rfl ?_
  by_cases g1 : x1 = nI 0
  · replace hf := (if_pos g1).symm.trans hf
    refine aw_tableIn (off := 55) 56 dX6_count_1 (by rw [g1]; decide) (by rw [g1]; decide) (by rw [g1]; decide) rfl ?_
    cases hf
    exact aw_aload_n dX6_count_56 rfl (aw_getr fkX6_19 (nl hN rfl) kd_0 (Nat.le_of_ble_eq_true rfl) rfl dX6_count_57 (aw_geti fkX6_144 (TO.n qT hN) (TO.k qT) (Nat.le_of_ble_eq_true rfl) rfl dX6_count_60 (aw_iret rfl dX6_count_63)))
  · replace hf := (if_neg g1).symm.trans hf
    by_cases g2 : x1 = nI 1
    · replace hf := (if_pos g2).symm.trans hf
      refine aw_tableIn (off := 63) 64 dX6_count_1 (by rw [g2]; decide) (by rw [g2]; decide) (by rw [g2]; decide) rfl ?_
      cases hf
      exact aw_aload_n dX6_count_64 rfl (aw_getr fkX6_19 (nl hN rfl) kd_0 (Nat.le_of_ble_eq_true rfl) rfl dX6_count_65 (aw_geti fkX6_147 (TO.n qT hN) (TO.k qT) (Nat.le_of_ble_eq_true rfl) rfl dX6_count_68 (aw_iret rfl dX6_count_71)))
    · replace hf := (if_neg g2).symm.trans hf
      by_cases g3 : x1 = nI 2
      · replace hf := (if_pos g3).symm.trans hf
        refine aw_tableIn (off := 71) 72 dX6_count_1 (by rw [g3]; decide) (by rw [g3]; decide) (by rw [g3]; decide) rfl ?_
        cases hf
        exact aw_aload_n dX6_count_72 rfl (aw_getr fkX6_19 (nl hN rfl) kd_0 (Nat.le_of_ble_eq_true rfl) rfl dX6_count_73 (aw_geti fkX6_238 (TO.n qT hN) (TO.k qT) (Nat.le_of_ble_eq_true rfl) rfl dX6_count_76 (aw_iret rfl dX6_count_79)))
      · replace hf := (if_neg g3).symm.trans hf
        by_cases g4 : x1 = nI 3
        · replace hf := (if_pos g4).symm.trans hf
          refine aw_tableIn (off := 79) 80 dX6_count_1 (by rw [g4]; decide) (by rw [g4]; decide) (by rw [g4]; decide) rfl ?_
          refine aw_aload_n dX6_count_80 rfl ?_
          obtain ⟨v7, h5, c6, hf⟩ := ob_some hf
          cases hf
          exact aw_callVi (N := mX6_allPins) (As := []) lkX6_192 okX6_allPins (nl hN rfl) kd_0 rfl (by rfl) (by rfl) (Nat.le_of_ble_eq_true rfl) ry_X6_count_X6_allPins dX6_count_81 (And.intro (Nat.le_refl _) (Nat.le_refl _)) (ct_X6_allPins hE hN F qT qU c6) (aw_iret rfl dX6_count_84)
        · replace hf := (if_neg g4).symm.trans hf
          by_cases g8 : x1 = nI 4
          · replace hf := (if_pos g8).symm.trans hf
            refine aw_tableIn (off := 84) 85 dX6_count_1 (by rw [g8]; decide) (by rw [g8]; decide) (by rw [g8]; decide) rfl ?_
            cases hf
            exact aw_aload_n dX6_count_85 rfl (aw_getr fkX6_29 (nl hN rfl) kd_0 (Nat.le_of_ble_eq_true rfl) rfl dX6_count_86 (aw_geti fkX6_241 (nl hN rfl) kd_14 (Nat.le_of_ble_eq_true rfl) rfl dX6_count_89 (aw_iret rfl dX6_count_92)))
          · replace hf := (if_neg g8).symm.trans hf
            by_cases g9 : x1 = nI 5
            · replace hf := (if_pos g9).symm.trans hf
              refine aw_tableIn (off := 92) 93 dX6_count_1 (by rw [g9]; decide) (by rw [g9]; decide) (by rw [g9]; decide) rfl ?_
              cases hf
              exact aw_aload_n dX6_count_93 rfl (aw_getr fkX6_29 (nl hN rfl) kd_0 (Nat.le_of_ble_eq_true rfl) rfl dX6_count_94 (aw_geti fkX6_244 (nl hN rfl) kd_14 (Nat.le_of_ble_eq_true rfl) rfl dX6_count_97 (aw_iret rfl dX6_count_100)))
            · replace hf := (if_neg g9).symm.trans hf
              by_cases g10 : x1 = nI 6
              · replace hf := (if_pos g10).symm.trans hf
                refine aw_tableIn (off := 100) 101 dX6_count_1 (by rw [g10]; decide) (by rw [g10]; decide) (by rw [g10]; decide) rfl ?_
                cases hf
                exact aw_aload_n dX6_count_101 rfl (aw_geti fkX6_140 (nl hN rfl) kd_0 (Nat.le_of_ble_eq_true rfl) rfl dX6_count_102 (aw_iret rfl dX6_count_105))
              · replace hf := (if_neg g10).symm.trans hf
                by_cases g11 : x1 = nI 7
                · replace hf := (if_pos g11).symm.trans hf
                  refine aw_tableIn (off := 105) 106 dX6_count_1 (by rw [g11]; decide) (by rw [g11]; decide) (by rw [g11]; decide) rfl ?_
                  cases hf
                  exact aw_aload_n dX6_count_106 rfl (aw_getr fkX6_41 (nl hN rfl) kd_0 (Nat.le_of_ble_eq_true rfl) rfl dX6_count_107 (aw_geti fkX6_182 (nl hN rfl) kd_24 (Nat.le_of_ble_eq_true rfl) rfl dX6_count_110 (aw_iret rfl dX6_count_113)))
                · replace hf := (if_neg g11).symm.trans hf
                  by_cases g12 : x1 = nI 8
                  · replace hf := (if_pos g12).symm.trans hf
                    refine aw_tableIn (off := 113) 114 dX6_count_1 (by rw [g12]; decide) (by rw [g12]; decide) (by rw [g12]; decide) rfl ?_
                    cases hf
                    exact aw_aload_n dX6_count_114 rfl (aw_getr fkX6_45 (nl hN rfl) kd_0 (Nat.le_of_ble_eq_true rfl) rfl dX6_count_115 (aw_geti fkX6_182 (nl hN rfl) kd_26 (Nat.le_of_ble_eq_true rfl) rfl dX6_count_118 (aw_iret rfl dX6_count_121)))
                  · replace hf := (if_neg g12).symm.trans hf
                    by_cases g13 : x1 = nI 9
                    · replace hf := (if_pos g13).symm.trans hf
                      refine aw_tableIn (off := 121) 122 dX6_count_1 (by rw [g13]; decide) (by rw [g13]; decide) (by rw [g13]; decide) rfl ?_
                      cases hf
                      exact aw_aload_n dX6_count_122 rfl (aw_getr fkX6_10 (nl hN rfl) kd_0 (Nat.le_of_ble_eq_true rfl) rfl dX6_count_123 (aw_geti fkX6_95 (nl hN rfl) kd_1 (Nat.le_of_ble_eq_true rfl) rfl dX6_count_126 (aw_iret rfl dX6_count_129)))
                    · replace hf := (if_neg g13).symm.trans hf
                      refine aw_tableOut 130 dX6_count_1 (tbl_out 9 [nI 0, nI 1, nI 2, nI 3, nI 4, nI 5, nI 6, nI 7, nI 8, nI 9] (by rfl) (by intro k hk; simp only [List.mem_cons, List.not_mem_nil, or_false] at hk; rcases hk with rfl | rfl | rfl | rfl | rfl | rfl | rfl | rfl | rfl | rfl <;> assumption)) rfl ?_
                      cases hf
                      exact aw_iconst (-1) dX6_count_130 ki_m1 (aw_iret rfl dX6_count_131)
