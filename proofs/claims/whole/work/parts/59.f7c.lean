set_option maxHeartbeats 4000000 in
set_option maxRecDepth 100000 in
theorem ct_X7_fewest_106 {E : EV} (hE : EI E) (hN : 56 ≤ eN E) (F : Nat) {tw : TW} {x1 : Int32} {x2 : Int32} {x3 : Int32} {v : Int32} {h' : HP} : ∀ (n : Nat) (x4 : Int32) (x5 : Int32) (x6 : Int32) (h : HP), f_X7_fewest_106 F x1 x2 x3 n x4 x5 x6 h = some (v, h') → AW E mX7_fewest (KM E mX7_fewest (some (.int v)) tw h') tw h 106 [some (.ref 39), some (.int x1), some (.int x2), some (.int x3), some (.int x4), some (.int x5), some (.int x6), none, none] [] := by
  intro n
  induction n with
  | zero => intro x4 x5 x6 h hf; exact absurd (show (none : Option (Int32 × HP)) = some _ from hf) (fun z => nomatch z)
  | succ n ih =>
    intro x4 x5 x6 h hf
    rw [f_X7_fewest_106] at hf
    refine aw_iload dX7_fewest_106 rfl (aw_bipush (nI 10) dX7_fewest_108 kb_10 ?_)
    refine aw_icmp_ge 185 dX7_fewest_110 rfl (fun g16 => ?_) (fun g16 => ?_)
    · replace hf := (if_pos g16).symm.trans hf
      cases hf
      exact aw_iload dX7_fewest_185 rfl (aw_iret rfl dX7_fewest_187)
    · replace hf := (if_neg g16).symm.trans hf
      refine aw_iload_n dX7_fewest_113 rfl ?_
      refine aw_if_le 185 dX7_fewest_114 rfl (fun g17 => ?_) (fun g17 => ?_)
      · replace hf := (if_pos g17).symm.trans hf
        cases hf
        exact aw_iload dX7_fewest_185 rfl (aw_iret rfl dX7_fewest_187)
      · replace hf := (if_neg g17).symm.trans hf
        refine aw_iload dX7_fewest_117 rfl (aw_iload dX7_fewest_119 rfl ?_)
        obtain ⟨g18, hf⟩ := ogd hf
        refine aw_idiv g18 dX7_fewest_121 (aw_istore dX7_fewest_122 (Nat.le_of_ble_eq_true rfl) (aw_iload dX7_fewest_124 rfl (aw_iload dX7_fewest_126 rfl (aw_irem g18 dX7_fewest_128 ?_))))
        refine aw_if_ne 179 dX7_fewest_129 rfl (fun g19 => ?_) (fun g19 => ?_)
        · replace hf := (if_neg g19).symm.trans hf
          refine aw_iinc (nI 1) dX7_fewest_179 rfl (Nat.le_of_ble_eq_true rfl) ki_1 (aw_goto 106 dX7_fewest_182 rfl ?_)
          exact aw_dk (ih _ _ _ _ hf) (And.intro rfl (And.intro rfl (And.intro rfl (And.intro rfl (And.intro rfl (And.intro rfl (And.intro rfl trivial)))))))
        · replace hf := (if_pos g19).symm.trans hf
          refine aw_aload_n dX7_fewest_132 rfl (aw_iload_n dX7_fewest_133 rfl (aw_iload_n dX7_fewest_134 rfl (aw_iload dX7_fewest_135 rfl ?_)))
          obtain ⟨v22, h20, c21, hf⟩ := ob_some hf
          refine aw_callVi (N := mX7_isAgain) (As := [.int x2, .int x3, .int (x4 / x6)]) lkX7_207 okX7_isAgain (nl hN rfl) kd_39 rfl (by rfl) (by rfl) (Nat.le_of_ble_eq_true rfl) ry_X7_fewest_X7_isAgain dX7_fewest_137 (And.intro (Nat.le_refl _) (Nat.le_refl _)) (ct_X7_isAgain hE hN F c21) ?_
          refine aw_if_eq 179 dX7_fewest_140 rfl (fun g23 => ?_) (fun g23 => ?_)
          · replace hf := (if_pos g23).symm.trans hf
            refine aw_iinc (nI 1) dX7_fewest_179 rfl (Nat.le_of_ble_eq_true rfl) ki_1 (aw_goto 106 dX7_fewest_182 rfl ?_)
            exact aw_dk (ih _ _ _ _ hf) (And.intro rfl (And.intro rfl (And.intro rfl (And.intro rfl (And.intro rfl (And.intro rfl (And.intro rfl trivial)))))))
          · replace hf := (if_neg g23).symm.trans hf
            refine aw_iconst (nI 3) dX7_fewest_143 ki_3 (aw_aload_n dX7_fewest_144 rfl (aw_getr fkX7_49 (nl hN rfl) kd_39 (Nat.le_of_ble_eq_true rfl) rfl dX7_fewest_145 (aw_iload_n dX7_fewest_148 rfl (aw_iconst (nI 1) dX7_fewest_149 ki_1 (aw_isub dX7_fewest_150 (aw_iload_n dX7_fewest_151 rfl (aw_iload_n dX7_fewest_152 rfl (aw_iload dX7_fewest_153 rfl (aw_iadd dX7_fewest_155 ?_)))))))))
            obtain ⟨v26, h24, c25, hf⟩ := ob_some hf
            refine aw_callSi (N := mX7_cell) (As := [.int (x1 - (nI 1)), .int x2, .int (x2 + (x4 / x6))]) lkX7_203 okX7_cell (by rfl) (by rfl) (Nat.le_of_ble_eq_true rfl) ry_X7_fewest_X7_cell dX7_fewest_156 (And.intro (Nat.le_refl _) (Nat.le_refl _)) (ct_X7_cell hE hN F c25) ?_
            obtain ⟨g27, hf⟩ := ogd hf
            have key28 : AW E mX7_fewest (KM E mX7_fewest (some (.int v)) tw h') tw h24 177 [some (.ref 39), some (.int x1), some (.int x2), some (.int x3), some (.int x4), some (.int x5), some (.int x6), some (.int (x4 / x6)), some (.int ((nI 3) + (h24 53 (ix v26))))] [.int (if x5 ≤ ((nI 3) + (h24 53 (ix v26))) then x5 else (nI 3) + (h24 53 (ix v26)))] := by
              refine aw_istore dX7_fewest_177 (Nat.le_of_ble_eq_true rfl) (aw_iinc (nI 1) dX7_fewest_179 rfl (Nat.le_of_ble_eq_true rfl) ki_1 (aw_goto 106 dX7_fewest_182 rfl ?_))
              exact aw_dk (ih _ _ _ _ hf) (And.intro rfl (And.intro rfl (And.intro rfl (And.intro rfl (And.intro rfl (And.intro rfl (And.intro rfl trivial)))))))
            refine aw_iald (nl hN rfl) kd_53 g27 dX7_fewest_159 (aw_iadd dX7_fewest_160 (aw_istore dX7_fewest_161 (Nat.le_of_ble_eq_true rfl) (aw_iload dX7_fewest_163 rfl (aw_iload dX7_fewest_165 rfl ?_))))
            refine aw_icmp_ge 175 dX7_fewest_167 rfl (fun g29 => ?_) (fun g29 => ?_)
            · skip
              refine aw_iload dX7_fewest_175 rfl ?_
              simp only [if_pos g29] at key28 ⊢
              exact aw_dk key28 (And.intro rfl (And.intro rfl (And.intro rfl (And.intro rfl (And.intro rfl (And.intro rfl (And.intro rfl (And.intro rfl (And.intro rfl trivial)))))))))
            · skip
              refine aw_iload dX7_fewest_170 rfl (aw_goto 177 dX7_fewest_172 rfl ?_)
              simp only [if_neg g29] at key28 ⊢
              exact aw_dk key28 (And.intro rfl (And.intro rfl (And.intro rfl (And.intro rfl (And.intro rfl (And.intro rfl (And.intro rfl (And.intro rfl (And.intro rfl trivial)))))))))
set_option maxHeartbeats 4000000 in
set_option maxRecDepth 100000 in
theorem ct_X7_fewest_48 {E : EV} (hE : EI E) (hN : 56 ≤ eN E) (F : Nat) {tw : TW} {x1 : Int32} {x2 : Int32} {x3 : Int32} {v : Int32} {h' : HP} : ∀ (n : Nat) (x4 : Int32) (x5 : Int32) (x6 : Int32) (h : HP), f_X7_fewest_48 F x1 x2 x3 n x4 x5 x6 h = some (v, h') → AW E mX7_fewest (KM E mX7_fewest (some (.int v)) tw h') tw h 48 [some (.ref 39), some (.int x1), some (.int x2), some (.int x3), some (.int x4), some (.int x5), some (.int x6), none, none] [] := by
  intro n
  induction n with
  | zero => intro x4 x5 x6 h hf; exact absurd (show (none : Option (Int32 × HP)) = some _ from hf) (fun z => nomatch z)
  | succ n ih =>
    intro x4 x5 x6 h hf
    rw [f_X7_fewest_48] at hf
    refine aw_iload dX7_fewest_48 rfl (aw_iload_n dX7_fewest_50 rfl ?_)
    refine aw_icmp_ge 103 dX7_fewest_51 rfl (fun g7 => ?_) (fun g7 => ?_)
    · replace hf := (if_pos g7).symm.trans hf
      refine aw_iconst (nI 2) dX7_fewest_103 ki_2 (aw_istore dX7_fewest_104 (Nat.le_of_ble_eq_true rfl) ?_)
      exact aw_dk (ct_X7_fewest_106 hE hN F F _ _ _ _ hf) (And.intro rfl (And.intro rfl (And.intro rfl (And.intro rfl (And.intro rfl (And.intro rfl (And.intro rfl trivial)))))))
    · replace hf := (if_neg g7).symm.trans hf
      refine aw_aload_n dX7_fewest_54 rfl (aw_getr fkX7_49 (nl hN rfl) kd_39 (Nat.le_of_ble_eq_true rfl) rfl dX7_fewest_55 (aw_iload_n dX7_fewest_58 rfl (aw_iload_n dX7_fewest_59 rfl (aw_iload dX7_fewest_60 rfl ?_))))
      obtain ⟨v10, h8, c9, hf⟩ := ob_some hf
      refine aw_callSi (N := mX7_cell) (As := [.int x1, .int x2, .int x6]) lkX7_203 okX7_cell (by rfl) (by rfl) (Nat.le_of_ble_eq_true rfl) ry_X7_fewest_X7_cell dX7_fewest_62 (And.intro (Nat.le_refl _) (Nat.le_refl _)) (ct_X7_cell hE hN F c9) ?_
      obtain ⟨g11, hf⟩ := ogd hf
      refine aw_iald (nl hN rfl) kd_53 g11 dX7_fewest_65 (aw_aload_n dX7_fewest_66 rfl (aw_getr fkX7_49 (nl hN rfl) kd_39 (Nat.le_of_ble_eq_true rfl) rfl dX7_fewest_67 (aw_iload_n dX7_fewest_70 rfl (aw_iload dX7_fewest_71 rfl (aw_iload_n dX7_fewest_73 rfl ?_)))))
      obtain ⟨v14, h12, c13, hf⟩ := ob_some hf
      refine aw_callSi (N := mX7_cell) (As := [.int x1, .int x6, .int x3]) lkX7_203 okX7_cell (by rfl) (by rfl) (Nat.le_of_ble_eq_true rfl) ry_X7_fewest_X7_cell dX7_fewest_74 (And.intro (Nat.le_refl _) (Nat.le_refl _)) (ct_X7_cell hE hN F c13) ?_
      obtain ⟨g15, hf⟩ := ogd hf
      have key30 : AW E mX7_fewest (KM E mX7_fewest (some (.int v)) tw h') tw h12 95 [some (.ref 39), some (.int x1), some (.int x2), some (.int x3), some (.int x4), some (.int x5), some (.int x6), some (.int ((h8 53 (ix v10)) + (h12 53 (ix v14)))), none] [.int (if x5 ≤ ((h8 53 (ix v10)) + (h12 53 (ix v14))) then x5 else (h8 53 (ix v10)) + (h12 53 (ix v14)))] := by
        refine aw_istore dX7_fewest_95 (Nat.le_of_ble_eq_true rfl) (aw_iinc (nI 1) dX7_fewest_97 rfl (Nat.le_of_ble_eq_true rfl) ki_1 (aw_goto 48 dX7_fewest_100 rfl ?_))
        exact aw_dk (ih _ _ _ _ hf) (And.intro rfl (And.intro rfl (And.intro rfl (And.intro rfl (And.intro rfl (And.intro rfl (And.intro rfl trivial)))))))
      refine aw_iald (nl hN rfl) kd_53 g15 dX7_fewest_77 (aw_iadd dX7_fewest_78 (aw_istore dX7_fewest_79 (Nat.le_of_ble_eq_true rfl) (aw_iload dX7_fewest_81 rfl (aw_iload dX7_fewest_83 rfl ?_))))
      refine aw_icmp_ge 93 dX7_fewest_85 rfl (fun g31 => ?_) (fun g31 => ?_)
      · skip
        refine aw_iload dX7_fewest_93 rfl ?_
        simp only [if_pos g31] at key30 ⊢
        exact aw_dk key30 (And.intro rfl (And.intro rfl (And.intro rfl (And.intro rfl (And.intro rfl (And.intro rfl (And.intro rfl (And.intro rfl trivial))))))))
      · skip
        refine aw_iload dX7_fewest_88 rfl (aw_goto 95 dX7_fewest_90 rfl ?_)
        simp only [if_neg g31] at key30 ⊢
        exact aw_dk key30 (And.intro rfl (And.intro rfl (And.intro rfl (And.intro rfl (And.intro rfl (And.intro rfl (And.intro rfl (And.intro rfl trivial))))))))
set_option maxHeartbeats 4000000 in
set_option maxRecDepth 100000 in
theorem ct_X7_fewest {E : EV} (hE : EI E) (hN : 56 ≤ eN E) (F : Nat) {tw : TW} {x1 : Int32} {x2 : Int32} {x3 : Int32} {h : HP} {v : Int32} {h' : HP} (hf : f_X7_fewest F x1 x2 x3 h = some (v, h')) : CT E mX7_fewest tw h [.ref 39, .int x1, .int x2, .int x3] (some (.int v)) tw h' := by
  refine CT.of hE (show plainFor yX7_fewest = true by decide +kernel) (Nat.le_of_ble_eq_true rfl) 5 ?_
  show AW E mX7_fewest (KM E mX7_fewest (some (.int v)) tw h') tw h 0 [some (.ref 39), some (.int x1), some (.int x2), some (.int x3), none, none, none, none, none] []
  unfold f_X7_fewest at hf
  refine aw_iload_n dX7_fewest_0 rfl (aw_iload_n dX7_fewest_1 rfl (aw_isub dX7_fewest_2 (aw_istore dX7_fewest_3 (Nat.le_of_ble_eq_true rfl) (aw_iload dX7_fewest_5 rfl (aw_iconst (nI 1) dX7_fewest_7 ki_1 ?_)))))
  refine aw_icmp_ne 39 dX7_fewest_8 rfl (fun g1 => ?_) (fun g1 => ?_)
  · replace hf := (if_neg g1).symm.trans hf
    refine aw_ldc kcX7_199 dX7_fewest_39 (aw_istore dX7_fewest_41 (Nat.le_of_ble_eq_true rfl) (aw_iload_n dX7_fewest_43 rfl (aw_iconst (nI 1) dX7_fewest_44 ki_1 (aw_iadd dX7_fewest_45 (aw_istore dX7_fewest_46 (Nat.le_of_ble_eq_true rfl) ?_)))))
    exact aw_dk (ct_X7_fewest_48 hE hN F F _ _ _ _ hf) (And.intro rfl (And.intro rfl (And.intro rfl (And.intro rfl (And.intro rfl (And.intro rfl (And.intro rfl trivial)))))))
  · replace hf := (if_pos g1).symm.trans hf
    refine aw_aload_n dX7_fewest_11 rfl (aw_getr fkX7_19 (nl hN rfl) kd_39 (Nat.le_of_ble_eq_true rfl) rfl dX7_fewest_12 (aw_iconst (nI 2) dX7_fewest_15 ki_2 (aw_iload_n dX7_fewest_16 rfl (aw_iadd dX7_fewest_17 ?_))))
    obtain ⟨g2, hf⟩ := ogd hf
    refine aw_iald (nl hN rfl) kd_43 g2 dX7_fewest_18 ?_
    obtain ⟨v5, h3, c4, hf⟩ := ob_some hf
    refine aw_callSi (N := mX7_bits) (As := [.int (h 43 (ix ((nI 2) + x2)))]) lkX7_114 okX7_bits (by rfl) (by rfl) (Nat.le_of_ble_eq_true rfl) ry_X7_fewest_X7_bits dX7_fewest_19 (And.intro (Nat.le_refl _) (Nat.le_refl _)) (ct_X7_bits hE hN F c4) (aw_istore dX7_fewest_22 (Nat.le_of_ble_eq_true rfl) (aw_iload dX7_fewest_24 rfl (aw_iconst (nI 2) dX7_fewest_26 ki_2 ?_)))
    refine aw_icmp_ge 34 dX7_fewest_27 rfl (fun g6 => ?_) (fun g6 => ?_)
    · replace hf := (if_pos g6).symm.trans hf
      cases hf
      exact aw_iload dX7_fewest_34 rfl (aw_iconst (nI 2) dX7_fewest_36 ki_2 (aw_iadd dX7_fewest_37 (aw_iret rfl dX7_fewest_38)))
    · replace hf := (if_neg g6).symm.trans hf
      cases hf
      exact aw_iconst (nI 1) dX7_fewest_30 ki_1 (aw_goto 38 dX7_fewest_31 rfl (aw_iret rfl dX7_fewest_38))
set_option maxHeartbeats 4000000 in
set_option maxRecDepth 100000 in
theorem ct_X7_letters_21 {E : EV} (hE : EI E) (hN : 56 ≤ eN E) (F : Nat) {tw : TW}  {v : Int32} {h' : HP} {k_9 : Int32 → Int32 → HP → Option (Int32 × HP)} (hk_9 : ∀ (x1 : Int32) (x2 : Int32) (h : HP), k_9 x1 x2 h = some (v, h') → AW E mX7_letters (KM E mX7_letters (some (.int v)) tw h') tw h 9 [some (.ref 39), some (.int x1), some (.int x2), none] []) : ∀ (n : Nat) (x1 : Int32) (x2 : Int32) (x3 : Int32) (h : HP), f_X7_letters_21 F k_9 n x1 x2 x3 h = some (v, h') → AW E mX7_letters (KM E mX7_letters (some (.int v)) tw h') tw h 21 [some (.ref 39), some (.int x1), some (.int x2), some (.int x3)] [] := by
  intro n
  induction n with
  | zero => intro x1 x2 x3 h hf; exact absurd (show (none : Option (Int32 × HP)) = some _ from hf) (fun z => nomatch z)
  | succ n ih =>
    intro x1 x2 x3 h hf
    rw [f_X7_letters_21] at hf
    refine aw_iload_n dX7_letters_21 rfl (aw_iload_n dX7_letters_22 rfl (aw_iadd dX7_letters_23 (aw_aload_n dX7_letters_24 rfl (aw_getr fkX7_7 (nl hN rfl) kd_39 (Nat.le_of_ble_eq_true rfl) rfl dX7_letters_25 (aw_iconst (nI 1) dX7_letters_28 ki_1 (aw_ialdk (j := 1) cx_1 (nl hN rfl) kd_40 ib_1_19 dX7_letters_29 ?_))))))
    refine aw_icmp_gt 61 dX7_letters_30 rfl (fun g7 => ?_) (fun g7 => ?_)
    · replace hf := (if_pos g7).symm.trans hf
      refine aw_iinc (nI 1) dX7_letters_61 rfl (Nat.le_of_ble_eq_true rfl) ki_1 (aw_goto 9 dX7_letters_64 rfl ?_)
      exact aw_dk (hk_9 _ _ _ hf) (And.intro rfl (And.intro rfl (And.intro rfl trivial)))
    · replace hf := (if_neg g7).symm.trans hf
      refine aw_aload_n dX7_letters_33 rfl (aw_getr fkX7_49 (nl hN rfl) kd_39 (Nat.le_of_ble_eq_true rfl) rfl dX7_letters_34 (aw_iload_n dX7_letters_37 rfl (aw_iload_n dX7_letters_38 rfl (aw_iload_n dX7_letters_39 rfl (aw_iload_n dX7_letters_40 rfl (aw_iadd dX7_letters_41 ?_))))))
      obtain ⟨v10, h8, c9, hf⟩ := ob_some hf
      refine aw_callSi (N := mX7_cell) (As := [.int x1, .int x3, .int (x3 + x2)]) lkX7_203 okX7_cell (by rfl) (by rfl) (Nat.le_of_ble_eq_true rfl) ry_X7_letters_X7_cell dX7_letters_42 (And.intro (Nat.le_refl _) (Nat.le_refl _)) (ct_X7_cell hE hN F c9) (aw_aload_n dX7_letters_45 rfl (aw_iload_n dX7_letters_46 rfl (aw_iload_n dX7_letters_47 rfl (aw_iload_n dX7_letters_48 rfl (aw_iload_n dX7_letters_49 rfl (aw_iadd dX7_letters_50 ?_))))))
      obtain ⟨v13, h11, c12, hf⟩ := ob_some hf
      refine aw_callVi (N := mX7_fewest) (As := [.int x1, .int x3, .int (x3 + x2)]) lkX7_210 okX7_fewest (nl hN rfl) kd_39 rfl (by rfl) (by rfl) (Nat.le_of_ble_eq_true rfl) ry_X7_letters_X7_fewest dX7_letters_51 (And.intro (Nat.le_refl _) (Nat.le_refl _)) (ct_X7_fewest hE hN F c12) ?_
      obtain ⟨g14, hf⟩ := ogd hf
      refine aw_iast (nl hN rfl) kd_53 g14 dX7_letters_54 (aw_iinc (nI 1) dX7_letters_55 rfl (Nat.le_of_ble_eq_true rfl) ki_1 (aw_goto 21 dX7_letters_58 rfl ?_))
      exact aw_dk (ih _ _ _ _ hf) (And.intro rfl (And.intro rfl (And.intro rfl (And.intro rfl trivial))))
set_option maxHeartbeats 4000000 in
set_option maxRecDepth 100000 in
theorem ct_X7_letters_9 {E : EV} (hE : EI E) (hN : 56 ≤ eN E) (F : Nat) {tw : TW}  {v : Int32} {h' : HP} {k_2 : Int32 → HP → Option (Int32 × HP)} (hk_2 : ∀ (x1 : Int32) (h : HP), k_2 x1 h = some (v, h') → AW E mX7_letters (KM E mX7_letters (some (.int v)) tw h') tw h 2 [some (.ref 39), some (.int x1), none, none] []) : ∀ (n : Nat) (x1 : Int32) (x2 : Int32) (h : HP), f_X7_letters_9 F k_2 n x1 x2 h = some (v, h') → AW E mX7_letters (KM E mX7_letters (some (.int v)) tw h') tw h 9 [some (.ref 39), some (.int x1), some (.int x2), none] [] := by
  intro n
  induction n with
  | zero => intro x1 x2 h hf; exact absurd (show (none : Option (Int32 × HP)) = some _ from hf) (fun z => nomatch z)
  | succ n ih =>
    intro x1 x2 h hf
    rw [f_X7_letters_9] at hf
    refine aw_iload_n dX7_letters_9 rfl (aw_aload_n dX7_letters_10 rfl (aw_getr fkX7_7 (nl hN rfl) kd_39 (Nat.le_of_ble_eq_true rfl) rfl dX7_letters_11 (aw_iconst (nI 1) dX7_letters_14 ki_1 (aw_ialdk (j := 1) cx_1 (nl hN rfl) kd_40 ib_1_19 dX7_letters_15 ?_))))
    refine aw_icmp_gt 67 dX7_letters_16 rfl (fun g6 => ?_) (fun g6 => ?_)
    · replace hf := (if_pos g6).symm.trans hf
      refine aw_iinc (nI 1) dX7_letters_67 rfl (Nat.le_of_ble_eq_true rfl) ki_1 (aw_goto 2 dX7_letters_70 rfl ?_)
      exact aw_dk (hk_2 _ _ hf) (And.intro rfl (And.intro rfl trivial))
    · replace hf := (if_neg g6).symm.trans hf
      refine aw_iconst (nI 0) dX7_letters_19 ki_0 (aw_istore_n dX7_letters_20 (Nat.le_of_ble_eq_true rfl) ?_)
      exact aw_dk (ct_X7_letters_21 hE hN F ih F _ _ _ _ hf) (And.intro rfl (And.intro rfl (And.intro rfl (And.intro rfl trivial))))
set_option maxHeartbeats 4000000 in
set_option maxRecDepth 100000 in
theorem ct_X7_letters_2 {E : EV} (hE : EI E) (hN : 56 ≤ eN E) (F : Nat) {tw : TW}  {v : Int32} {h' : HP} : ∀ (n : Nat) (x1 : Int32) (h : HP), f_X7_letters_2 F n x1 h = some (v, h') → AW E mX7_letters (KM E mX7_letters (some (.int v)) tw h') tw h 2 [some (.ref 39), some (.int x1), none, none] [] := by
  intro n
  induction n with
  | zero => intro x1 h hf; exact absurd (show (none : Option (Int32 × HP)) = some _ from hf) (fun z => nomatch z)
  | succ n ih =>
    intro x1 h hf
    rw [f_X7_letters_2] at hf
    refine aw_iload_n dX7_letters_2 rfl (aw_iconst (nI 4) dX7_letters_3 ki_4 ?_)
    refine aw_icmp_ge 73 dX7_letters_4 rfl (fun g1 => ?_) (fun g1 => ?_)
    · replace hf := (if_pos g1).symm.trans hf
      refine aw_aload_n dX7_letters_73 rfl (aw_getr fkX7_49 (nl hN rfl) kd_39 (Nat.le_of_ble_eq_true rfl) rfl dX7_letters_74 (aw_iconst (nI 3) dX7_letters_77 ki_3 (aw_iconst (nI 0) dX7_letters_78 ki_0 (aw_aload_n dX7_letters_79 rfl (aw_getr fkX7_7 (nl hN rfl) kd_39 (Nat.le_of_ble_eq_true rfl) rfl dX7_letters_80 (aw_iconst (nI 1) dX7_letters_83 ki_1 (aw_ialdk (j := 1) cx_1 (nl hN rfl) kd_40 ib_1_19 dX7_letters_84 ?_)))))))
      obtain ⟨v4, h2, c3, hf⟩ := ob_some hf
      refine aw_callSi (N := mX7_cell) (As := [.int (nI 3), .int (nI 0), .int (h 40 1)]) lkX7_203 okX7_cell (by rfl) (by rfl) (Nat.le_of_ble_eq_true rfl) ry_X7_letters_X7_cell dX7_letters_85 (And.intro (Nat.le_refl _) (Nat.le_refl _)) (ct_X7_cell hE hN F c3) ?_
      obtain ⟨g5, hf⟩ := ogd hf
      cases hf
      exact aw_iald (nl hN rfl) kd_53 g5 dX7_letters_88 (aw_iret rfl dX7_letters_89)
    · replace hf := (if_neg g1).symm.trans hf
      refine aw_iconst (nI 1) dX7_letters_7 ki_1 (aw_istore_n dX7_letters_8 (Nat.le_of_ble_eq_true rfl) ?_)
      exact aw_dk (ct_X7_letters_9 hE hN F ih F _ _ _ hf) (And.intro rfl (And.intro rfl (And.intro rfl trivial)))
set_option maxHeartbeats 4000000 in
set_option maxRecDepth 100000 in
theorem ct_X7_letters {E : EV} (hE : EI E) (hN : 56 ≤ eN E) (F : Nat) {tw : TW}  {h : HP} {v : Int32} {h' : HP} (hf : f_X7_letters F  h = some (v, h')) : CT E mX7_letters tw h [.ref 39] (some (.int v)) tw h' := by
  refine CT.of hE (show plainFor yX7_letters = true by decide +kernel) (Nat.le_of_ble_eq_true rfl) 3 ?_
  show AW E mX7_letters (KM E mX7_letters (some (.int v)) tw h') tw h 0 [some (.ref 39), none, none, none] []
  unfold f_X7_letters at hf
  refine aw_iconst (nI 0) dX7_letters_0 ki_0 (aw_istore_n dX7_letters_1 (Nat.le_of_ble_eq_true rfl) ?_)
  exact aw_dk (ct_X7_letters_2 hE hN F F _ _ hf) (And.intro rfl (And.intro rfl trivial))
set_option maxHeartbeats 4000000 in
set_option maxRecDepth 100000 in
theorem ct_X7_areOne_4 {E : EV} (hE : EI E) (hN : 56 ≤ eN E) (F : Nat) {tw : TW} {x1 : Int32} {v : Int32} {h' : HP} : ∀ (n : Nat) (x2 : Int32) (x3 : Int32) (h : HP), f_X7_areOne_4 F x1 n x2 x3 h = some (v, h') → AW E mX7_areOne (KM E mX7_areOne (some (.int v)) tw h') tw h 4 [some (.ref 39), some (.int x1), some (.int x2), some (.int x3)] [] := by
  intro n
  induction n with
  | zero => intro x2 x3 h hf; exact absurd (show (none : Option (Int32 × HP)) = some _ from hf) (fun z => nomatch z)
  | succ n ih =>
    intro x2 x3 h hf
    rw [f_X7_areOne_4] at hf
    refine aw_iload_n dX7_areOne_4 rfl (aw_aload_n dX7_areOne_5 rfl (aw_getr fkX7_7 (nl hN rfl) kd_39 (Nat.le_of_ble_eq_true rfl) rfl dX7_areOne_6 (aw_iconst (nI 1) dX7_areOne_9 ki_1 (aw_ialdk (j := 1) cx_1 (nl hN rfl) kd_40 ib_1_19 dX7_areOne_10 ?_))))
    refine aw_icmp_ge 47 dX7_areOne_11 rfl (fun g1 => ?_) (fun g1 => ?_)
    · replace hf := (if_pos g1).symm.trans hf
      refine aw_iload_n dX7_areOne_47 rfl ?_
      obtain ⟨g2, hf⟩ := ogd hf
      cases hf
      exact aw_zret rfl g2 dX7_areOne_48
    · replace hf := (if_neg g1).symm.trans hf
      refine aw_iload_n dX7_areOne_14 rfl ?_
      refine aw_if_eq 39 dX7_areOne_15 rfl (fun g3 => ?_) (fun g3 => ?_)
      · replace hf := (if_pos g3).symm.trans hf
        refine aw_iconst (nI 0) dX7_areOne_39 ki_0 (aw_istore_n dX7_areOne_40 (Nat.le_of_ble_eq_true rfl) (aw_iinc (nI 1) dX7_areOne_41 rfl (Nat.le_of_ble_eq_true rfl) ki_1 (aw_goto 4 dX7_areOne_44 rfl ?_)))
        exact aw_dk (ih _ _ _ hf) (And.intro rfl (And.intro rfl (And.intro rfl (And.intro rfl trivial))))
      · replace hf := (if_neg g3).symm.trans hf
        refine aw_iload_n dX7_areOne_18 rfl (aw_aload_n dX7_areOne_19 rfl (aw_getr fkX7_19 (nl hN rfl) kd_39 (Nat.le_of_ble_eq_true rfl) rfl dX7_areOne_20 (aw_iconst (nI 2) dX7_areOne_23 ki_2 (aw_iload_n dX7_areOne_24 rfl (aw_iadd dX7_areOne_25 ?_)))))
        obtain ⟨g4, hf⟩ := ogd hf
        refine aw_iald (nl hN rfl) kd_43 g4 dX7_areOne_26 (aw_iand dX7_areOne_27 ?_)
        obtain ⟨v7, h5, c6, hf⟩ := ob_some hf
        have key8 : AW E mX7_areOne (KM E mX7_areOne (some (.int v)) tw h') tw h5 40 [some (.ref 39), some (.int x1), some (.int x2), some (.int x3)] [.int (if (nI 2) ≤ v7 then (nI 0) else (nI 1))] := by
          refine aw_istore_n dX7_areOne_40 (Nat.le_of_ble_eq_true rfl) (aw_iinc (nI 1) dX7_areOne_41 rfl (Nat.le_of_ble_eq_true rfl) ki_1 (aw_goto 4 dX7_areOne_44 rfl ?_))
          exact aw_dk (ih _ _ _ hf) (And.intro rfl (And.intro rfl (And.intro rfl (And.intro rfl trivial))))
        refine aw_callSi (N := mX7_bits) (As := [.int (x1 &&& (h 43 (ix ((nI 2) + x3))))]) lkX7_114 okX7_bits (by rfl) (by rfl) (Nat.le_of_ble_eq_true rfl) ry_X7_areOne_X7_bits dX7_areOne_28 (And.intro (Nat.le_refl _) (Nat.le_refl _)) (ct_X7_bits hE hN F c6) (aw_iconst (nI 2) dX7_areOne_31 ki_2 ?_)
        refine aw_icmp_ge 39 dX7_areOne_32 rfl (fun g9 => ?_) (fun g9 => ?_)
        · skip
          refine aw_iconst (nI 0) dX7_areOne_39 ki_0 ?_
          simp only [if_pos g9] at key8 ⊢
          exact aw_dk key8 (And.intro rfl (And.intro rfl (And.intro rfl (And.intro rfl trivial))))
        · skip
          refine aw_iconst (nI 1) dX7_areOne_35 ki_1 (aw_goto 40 dX7_areOne_36 rfl ?_)
          simp only [if_neg g9] at key8 ⊢
          exact aw_dk key8 (And.intro rfl (And.intro rfl (And.intro rfl (And.intro rfl trivial))))
set_option maxHeartbeats 4000000 in
set_option maxRecDepth 100000 in
theorem ct_X7_areOne {E : EV} (hE : EI E) (hN : 56 ≤ eN E) (F : Nat) {tw : TW} {x1 : Int32} {h : HP} {v : Int32} {h' : HP} (hf : f_X7_areOne F x1 h = some (v, h')) : CT E mX7_areOne tw h [.ref 39, .int x1] (some (.int v)) tw h' := by
  refine CT.of hE (show plainFor yX7_areOne = true by decide +kernel) (Nat.le_of_ble_eq_true rfl) 2 ?_
  show AW E mX7_areOne (KM E mX7_areOne (some (.int v)) tw h') tw h 0 [some (.ref 39), some (.int x1), none, none] []
  unfold f_X7_areOne at hf
  refine aw_iconst (nI 1) dX7_areOne_0 ki_1 (aw_istore_n dX7_areOne_1 (Nat.le_of_ble_eq_true rfl) (aw_iconst (nI 0) dX7_areOne_2 ki_0 (aw_istore_n dX7_areOne_3 (Nat.le_of_ble_eq_true rfl) ?_)))
  exact aw_dk (ct_X7_areOne_4 hE hN F F _ _ _ hf) (And.intro rfl (And.intro rfl (And.intro rfl (And.intro rfl trivial))))
set_option maxHeartbeats 4000000 in
set_option maxRecDepth 100000 in
theorem ct_X7_ringers_78 {E : EV} (hE : EI E) (hN : 56 ≤ eN E) (F : Nat) {tw : TW}  {v : Int32} {h' : HP} {k_39 : Int32 → Int32 → Int32 → HP → Option (Int32 × HP)} (hk_39 : ∀ (x1 : Int32) (x2 : Int32) (x3 : Int32) (h : HP), k_39 x1 x2 x3 h = some (v, h') → AW E mX7_ringers (KM E mX7_ringers (some (.int v)) tw h') tw h 39 [some (.ref 39), some (.int x1), some (.int x2), some (.int x3), none] []) : ∀ (x1 : Int32) (x2 : Int32) (x3 : Int32) (s0 : Int32) (h : HP), f_X7_ringers_78 F k_39 x1 x2 x3 s0 h = some (v, h') → AW E mX7_ringers (KM E mX7_ringers (some (.int v)) tw h') tw h 78 [some (.ref 39), some (.int x1), some (.int x2), some (.int x3), none] [.int s0] := by
  intro x1 x2 x3 s0 h hf
  unfold f_X7_ringers_78 at hf
  refine aw_istore dX7_ringers_78 (Nat.le_of_ble_eq_true rfl) (aw_aload_n dX7_ringers_80 rfl (aw_getr fkX7_52 (nl hN rfl) kd_39 (Nat.le_of_ble_eq_true rfl) rfl dX7_ringers_81 (aw_iload_n dX7_ringers_84 rfl (aw_iload dX7_ringers_85 rfl (aw_aload_n dX7_ringers_87 rfl (aw_getr fkX7_52 (nl hN rfl) kd_39 (Nat.le_of_ble_eq_true rfl) rfl dX7_ringers_88 (aw_iload_n dX7_ringers_91 rfl ?_)))))))
  obtain ⟨g13, hf⟩ := ogd hf
  have key14 : AW E mX7_ringers (KM E mX7_ringers (some (.int v)) tw h') tw h 107 [some (.ref 39), some (.int x1), some (.int x2), some (.int x3), some (.int s0)] [.int (if (h 54 (ix x2)) ≤ s0 then h 54 (ix x2) else s0), .int x2, .ref 54] := by
    refine aw_iast (nl hN rfl) kd_54 g13 dX7_ringers_107 (aw_iload_n dX7_ringers_108 rfl (aw_iconst (nI 1) dX7_ringers_109 ki_1 (aw_isub dX7_ringers_110 (aw_iload_n dX7_ringers_111 rfl (aw_iand dX7_ringers_112 (aw_istore_n dX7_ringers_113 (Nat.le_of_ble_eq_true rfl) (aw_goto 39 dX7_ringers_114 rfl ?_)))))))
    exact aw_dk (hk_39 _ _ _ _ hf) (And.intro rfl (And.intro rfl (And.intro rfl (And.intro rfl trivial))))
  refine aw_iald (nl hN rfl) kd_54 g13 dX7_ringers_92 ?_
  refine aw_icmp_ge 101 dX7_ringers_93 rfl (fun g15 => ?_) (fun g15 => ?_)
  · skip
    refine aw_aload_n dX7_ringers_101 rfl (aw_getr fkX7_52 (nl hN rfl) kd_39 (Nat.le_of_ble_eq_true rfl) rfl dX7_ringers_102 (aw_iload_n dX7_ringers_105 rfl (aw_iald (nl hN rfl) kd_54 g13 dX7_ringers_106 ?_)))
    simp only [if_pos g15] at key14 ⊢
    exact aw_dk key14 (And.intro rfl (And.intro rfl (And.intro rfl (And.intro rfl (And.intro rfl trivial)))))
  · skip
    refine aw_iload dX7_ringers_96 rfl (aw_goto 107 dX7_ringers_98 rfl ?_)
    simp only [if_neg g15] at key14 ⊢
    exact aw_dk key14 (And.intro rfl (And.intro rfl (And.intro rfl (And.intro rfl (And.intro rfl trivial)))))
set_option maxHeartbeats 4000000 in
set_option maxRecDepth 100000 in
theorem ct_X7_ringers_72 {E : EV} (hE : EI E) (hN : 56 ≤ eN E) (F : Nat) {tw : TW}  {v : Int32} {h' : HP} {k_39 : Int32 → Int32 → Int32 → HP → Option (Int32 × HP)} (hk_39 : ∀ (x1 : Int32) (x2 : Int32) (x3 : Int32) (h : HP), k_39 x1 x2 x3 h = some (v, h') → AW E mX7_ringers (KM E mX7_ringers (some (.int v)) tw h') tw h 39 [some (.ref 39), some (.int x1), some (.int x2), some (.int x3), none] []) : ∀ (x1 : Int32) (x2 : Int32) (x3 : Int32) (s0 : Int32) (s1 : Int32) (h : HP), f_X7_ringers_72 F k_39 x1 x2 x3 s0 s1 h = some (v, h') → AW E mX7_ringers (KM E mX7_ringers (some (.int v)) tw h') tw h 72 [some (.ref 39), some (.int x1), some (.int x2), some (.int x3), none] [.int s1, .int s0] := by
  intro x1 x2 x3 s0 s1 h hf
  unfold f_X7_ringers_72 at hf
  refine aw_iadd dX7_ringers_72 (aw_goto 78 dX7_ringers_73 rfl ?_)
  exact aw_dk (ct_X7_ringers_78 hE hN F hk_39 _ _ _ _ _ hf) (And.intro rfl (And.intro rfl (And.intro rfl (And.intro rfl trivial))))
set_option maxHeartbeats 4000000 in
set_option maxRecDepth 100000 in
theorem ct_X7_ringers_39 {E : EV} (hE : EI E) (hN : 56 ≤ eN E) (F : Nat) {tw : TW}  {v : Int32} {h' : HP} {k_13 : Int32 → Int32 → HP → Option (Int32 × HP)} (hk_13 : ∀ (x1 : Int32) (x2 : Int32) (h : HP), k_13 x1 x2 h = some (v, h') → AW E mX7_ringers (KM E mX7_ringers (some (.int v)) tw h') tw h 13 [some (.ref 39), some (.int x1), some (.int x2), none, none] []) : ∀ (n : Nat) (x1 : Int32) (x2 : Int32) (x3 : Int32) (h : HP), f_X7_ringers_39 F k_13 n x1 x2 x3 h = some (v, h') → AW E mX7_ringers (KM E mX7_ringers (some (.int v)) tw h') tw h 39 [some (.ref 39), some (.int x1), some (.int x2), some (.int x3), none] [] := by
  intro n
  induction n with
  | zero => intro x1 x2 x3 h hf; exact absurd (show (none : Option (Int32 × HP)) = some _ from hf) (fun z => nomatch z)
  | succ n ih =>
    intro x1 x2 x3 h hf
    rw [f_X7_ringers_39] at hf
    refine aw_iload_n dX7_ringers_39 rfl ?_
    refine aw_if_le 117 dX7_ringers_40 rfl (fun g8 => ?_) (fun g8 => ?_)
    · replace hf := (if_pos g8).symm.trans hf
      refine aw_iinc (nI 1) dX7_ringers_117 rfl (Nat.le_of_ble_eq_true rfl) ki_1 (aw_goto 13 dX7_ringers_120 rfl ?_)
      exact aw_dk (hk_13 _ _ _ hf) (And.intro rfl (And.intro rfl (And.intro rfl trivial)))
    · replace hf := (if_neg g8).symm.trans hf
      refine aw_aload_n dX7_ringers_43 rfl (aw_getr fkX7_55 (nl hN rfl) kd_39 (Nat.le_of_ble_eq_true rfl) rfl dX7_ringers_44 (aw_iload_n dX7_ringers_47 rfl ?_))
      obtain ⟨g9, hf⟩ := ogd hf
      refine aw_zald (nl hN rfl) kd_55 g9 dX7_ringers_48 ?_
      refine aw_if_eq 76 dX7_ringers_49 rfl (fun g10 => ?_) (fun g10 => ?_)
      · replace hf := (if_pos g10).symm.trans hf
        refine aw_ldc kcX7_199 dX7_ringers_76 ?_
        exact aw_dk (ct_X7_ringers_78 hE hN F ih _ _ _ _ _ hf) (And.intro rfl (And.intro rfl (And.intro rfl (And.intro rfl trivial))))
      · replace hf := (if_neg g10).symm.trans hf
        refine aw_iconst (nI 1) dX7_ringers_52 ki_1 (aw_iload_n dX7_ringers_53 rfl (aw_iload_n dX7_ringers_54 rfl ?_))
        refine aw_icmp_ne 62 dX7_ringers_55 rfl (fun g11 => ?_) (fun g11 => ?_)
        · replace hf := (if_neg g11).symm.trans hf
          refine aw_aload_n dX7_ringers_62 rfl (aw_getr fkX7_52 (nl hN rfl) kd_39 (Nat.le_of_ble_eq_true rfl) rfl dX7_ringers_63 (aw_iload_n dX7_ringers_66 rfl (aw_iload_n dX7_ringers_67 rfl (aw_iconst (-1) dX7_ringers_68 ki_m1 (aw_ixor dX7_ringers_69 (aw_iand dX7_ringers_70 ?_))))))
          obtain ⟨g12, hf⟩ := ogd hf
          refine aw_iald (nl hN rfl) kd_54 g12 dX7_ringers_71 ?_
          exact aw_dk (ct_X7_ringers_72 hE hN F ih _ _ _ _ _ _ hf) (And.intro rfl (And.intro rfl (And.intro rfl (And.intro rfl trivial))))
        · replace hf := (if_pos g11).symm.trans hf
          refine aw_iconst (nI 0) dX7_ringers_58 ki_0 (aw_goto 72 dX7_ringers_59 rfl ?_)
          exact aw_dk (ct_X7_ringers_72 hE hN F ih _ _ _ _ _ _ hf) (And.intro rfl (And.intro rfl (And.intro rfl (And.intro rfl trivial))))
set_option maxHeartbeats 4000000 in
set_option maxRecDepth 100000 in
theorem ct_X7_ringers_13 {E : EV} (hE : EI E) (hN : 56 ≤ eN E) (F : Nat) {tw : TW}  {v : Int32} {h' : HP} : ∀ (n : Nat) (x1 : Int32) (x2 : Int32) (h : HP), f_X7_ringers_13 F n x1 x2 h = some (v, h') → AW E mX7_ringers (KM E mX7_ringers (some (.int v)) tw h') tw h 13 [some (.ref 39), some (.int x1), some (.int x2), none, none] [] := by
  intro n
  induction n with
  | zero => intro x1 x2 h hf; exact absurd (show (none : Option (Int32 × HP)) = some _ from hf) (fun z => nomatch z)
  | succ n ih =>
    intro x1 x2 h hf
    rw [f_X7_ringers_13] at hf
    refine aw_iload_n dX7_ringers_13 rfl (aw_iload_n dX7_ringers_14 rfl ?_)
    refine aw_icmp_gt 123 dX7_ringers_15 rfl (fun g1 => ?_) (fun g1 => ?_)
    · replace hf := (if_pos g1).symm.trans hf
      refine aw_aload_n dX7_ringers_123 rfl (aw_getr fkX7_52 (nl hN rfl) kd_39 (Nat.le_of_ble_eq_true rfl) rfl dX7_ringers_124 (aw_iload_n dX7_ringers_127 rfl ?_))
      obtain ⟨g2, hf⟩ := ogd hf
      cases hf
      exact aw_iald (nl hN rfl) kd_54 g2 dX7_ringers_128 (aw_iret rfl dX7_ringers_129)
    · replace hf := (if_neg g1).symm.trans hf
      refine aw_aload_n dX7_ringers_18 rfl (aw_getr fkX7_55 (nl hN rfl) kd_39 (Nat.le_of_ble_eq_true rfl) rfl dX7_ringers_19 (aw_iload_n dX7_ringers_22 rfl (aw_aload_n dX7_ringers_23 rfl (aw_iload_n dX7_ringers_24 rfl ?_))))
      obtain ⟨v5, h3, c4, hf⟩ := ob_some hf
      refine aw_callVi (N := mX7_areOne) (As := [.int x2]) lkX7_213 okX7_areOne (nl hN rfl) kd_39 rfl (by rfl) (by rfl) (Nat.le_of_ble_eq_true rfl) ry_X7_ringers_X7_areOne dX7_ringers_25 (And.intro (Nat.le_refl _) (Nat.le_refl _)) (ct_X7_areOne hE hN F c4) ?_
      obtain ⟨g6, hf⟩ := ogd hf
      obtain ⟨g7, hf⟩ := ogd hf
      refine aw_zast (nl hN rfl) kd_55 g6 g7 dX7_ringers_28 (aw_aload_n dX7_ringers_29 rfl (aw_getr fkX7_52 (nl hN rfl) kd_39 (Nat.le_of_ble_eq_true rfl) rfl dX7_ringers_30 (aw_iload_n dX7_ringers_33 rfl (aw_ldc kcX7_199 dX7_ringers_34 (aw_iast (nl hN rfl) kd_54 g6 dX7_ringers_36 (aw_iload_n dX7_ringers_37 rfl (aw_istore_n dX7_ringers_38 (Nat.le_of_ble_eq_true rfl) ?_)))))))
      exact aw_dk (ct_X7_ringers_39 hE hN F ih F _ _ _ _ hf) (And.intro rfl (And.intro rfl (And.intro rfl (And.intro rfl trivial))))
set_option maxHeartbeats 4000000 in
set_option maxRecDepth 100000 in
theorem ct_X7_ringers {E : EV} (hE : EI E) (hN : 56 ≤ eN E) (F : Nat) {tw : TW}  {h : HP} {v : Int32} {h' : HP} (hf : f_X7_ringers F  h = some (v, h')) : CT E mX7_ringers tw h [.ref 39] (some (.int v)) tw h' := by
  refine CT.of hE (show plainFor yX7_ringers = true by decide +kernel) (Nat.le_of_ble_eq_true rfl) 4 ?_
  show AW E mX7_ringers (KM E mX7_ringers (some (.int v)) tw h') tw h 0 [some (.ref 39), none, none, none, none] []
  unfold f_X7_ringers at hf
  refine aw_iconst (nI 1) dX7_ringers_0 ki_1 (aw_aload_n dX7_ringers_1 rfl (aw_getr fkX7_7 (nl hN rfl) kd_39 (Nat.le_of_ble_eq_true rfl) rfl dX7_ringers_2 (aw_iconst (nI 0) dX7_ringers_5 ki_0 (aw_ialdk (j := 0) cx_0 (nl hN rfl) kd_40 ib_0_19 dX7_ringers_6 (aw_ishl dX7_ringers_7 (aw_iconst (nI 1) dX7_ringers_8 ki_1 (aw_isub dX7_ringers_9 (aw_istore_n dX7_ringers_10 (Nat.le_of_ble_eq_true rfl) (aw_iconst (nI 1) dX7_ringers_11 ki_1 (aw_istore_n dX7_ringers_12 (Nat.le_of_ble_eq_true rfl) ?_))))))))))
  exact aw_dk (ct_X7_ringers_13 hE hN F F _ _ _ hf) (And.intro rfl (And.intro rfl (And.intro rfl trivial)))
set_option maxHeartbeats 4000000 in
set_option maxRecDepth 100000 in
theorem ct_X7_hear {E : EV} (hE : EI E) (hN : 56 ≤ eN E) (F : Nat) {tw : TW} {x1 : Int32} {h : HP} {v : Int32} {h' : HP} (hf : f_X7_hear F x1 h = some (v, h')) : CT E mX7_hear tw h [.ref 39, .int x1] (some (.int v)) tw h' := by
  refine CT.of hE (show plainFor yX7_hear = true by decide +kernel) (Nat.le_of_ble_eq_true rfl) 0 ?_
  show AW E mX7_hear (KM E mX7_hear (some (.int v)) tw h') tw h 0 [some (.ref 39), some (.int x1)] []
  unfold f_X7_hear at hf
  refine aw_aload_n dX7_hear_0 rfl (aw_iload_n dX7_hear_1 rfl ?_)
  obtain ⟨v3, h1, c2, hf⟩ := ob_some hf
  refine aw_callVi (N := mX7_isSet) (As := [.int x1]) lkX7_200 okX7_isSet (nl hN rfl) kd_39 rfl (by rfl) (by rfl) (Nat.le_of_ble_eq_true rfl) ry_X7_hear_X7_isSet dX7_hear_2 (And.intro (Nat.le_refl _) (Nat.le_refl _)) (ct_X7_isSet hE hN F c2) ?_
  refine aw_if_ne 10 dX7_hear_5 rfl (fun g4 => ?_) (fun g4 => ?_)
  · replace hf := (if_neg g4).symm.trans hf
    refine aw_aload_n dX7_hear_10 rfl (aw_geti fkX7_140 (nl hN rfl) kd_39 (Nat.le_of_ble_eq_true rfl) rfl dX7_hear_11 (aw_bipush (nI 8) dX7_hear_14 kb_8 ?_))
    refine aw_icmp_ne 22 dX7_hear_16 rfl (fun g5 => ?_) (fun g5 => ?_)
    · replace hf := (if_neg g5).symm.trans hf
      refine aw_aload_n dX7_hear_22 rfl (aw_getr fkX7_34 (nl hN rfl) kd_39 (Nat.le_of_ble_eq_true rfl) rfl dX7_hear_23 (aw_aload_n dX7_hear_26 rfl (aw_geti fkX7_140 (nl hN rfl) kd_39 (Nat.le_of_ble_eq_true rfl) rfl dX7_hear_27 (aw_iload_n dX7_hear_30 rfl ?_))))
      obtain ⟨g6, hf⟩ := ogd hf
      cases hf
      exact aw_iast (nl hN rfl) kd_48 g6 dX7_hear_31 (aw_aload_n dX7_hear_32 rfl (aw_dup dX7_hear_33 rfl (aw_geti fkX7_140 (nl hN rfl) kd_39 (Nat.le_of_ble_eq_true rfl) rfl dX7_hear_34 (aw_iconst (nI 1) dX7_hear_37 ki_1 (aw_iadd dX7_hear_38 (aw_puti fkX7_140 fw_7_13 (nl hN rfl) kd_39 (Nat.le_of_ble_eq_true rfl) rfl dX7_hear_39 (aw_aload_n dX7_hear_42 rfl (aw_geti fkX7_140 (nl hN rfl) kd_39 (Nat.le_of_ble_eq_true rfl) rfl dX7_hear_43 (aw_iret rfl dX7_hear_46)))))))))
    · replace hf := (if_pos g5).symm.trans hf
      cases hf
      exact aw_bipush (-3) dX7_hear_19 kb_m3 (aw_iret rfl dX7_hear_21)
  · replace hf := (if_pos g4).symm.trans hf
    cases hf
    exact aw_iconst (-1) dX7_hear_8 ki_m1 (aw_iret rfl dX7_hear_9)
set_option maxHeartbeats 4000000 in
set_option maxRecDepth 100000 in
theorem ct_X7_forget {E : EV} (hE : EI E) (hN : 56 ≤ eN E) (F : Nat) {tw : TW}  {h : HP} {v : Int32} {h' : HP} (hf : f_X7_forget F  h = some (v, h')) : CT E mX7_forget tw h [.ref 39] (some (.int v)) tw h' := by
  refine CT.of hE (show plainFor yX7_forget = true by decide +kernel) (Nat.le_of_ble_eq_true rfl) 1 ?_
  show AW E mX7_forget (KM E mX7_forget (some (.int v)) tw h') tw h 0 [some (.ref 39), none] []
  unfold f_X7_forget at hf
  cases hf
  exact aw_aload_n dX7_forget_0 rfl (aw_geti fkX7_140 (nl hN rfl) kd_39 (Nat.le_of_ble_eq_true rfl) rfl dX7_forget_1 (aw_istore_n dX7_forget_4 (Nat.le_of_ble_eq_true rfl) (aw_aload_n dX7_forget_5 rfl (aw_iconst (nI 0) dX7_forget_6 ki_0 (aw_puti fkX7_140 fw_7_13 (nl hN rfl) kd_39 (Nat.le_of_ble_eq_true rfl) rfl dX7_forget_7 (aw_iload_n dX7_forget_10 rfl (aw_iret rfl dX7_forget_11)))))))
set_option maxHeartbeats 4000000 in
set_option maxRecDepth 100000 in
theorem ct_X7_stood_19 {E : EV} (hE : EI E) (hN : 56 ≤ eN E) (F : Nat) {tw : TW}  {v : Int32} {h' : HP} {k_4 : Int32 → Int32 → HP → Option (Int32 × HP)} (hk_4 : ∀ (x1 : Int32) (x2 : Int32) (h : HP), k_4 x1 x2 h = some (v, h') → AW E mX7_stood (KM E mX7_stood (some (.int v)) tw h') tw h 4 [some (.ref 39), some (.int x1), some (.int x2), none, none] []) : ∀ (n : Nat) (x1 : Int32) (x2 : Int32) (x3 : Int32) (x4 : Int32) (h : HP), f_X7_stood_19 F k_4 n x1 x2 x3 x4 h = some (v, h') → AW E mX7_stood (KM E mX7_stood (some (.int v)) tw h') tw h 19 [some (.ref 39), some (.int x1), some (.int x2), some (.int x3), some (.int x4)] [] := by
  intro n
  induction n with
  | zero => intro x1 x2 x3 x4 h hf; exact absurd (show (none : Option (Int32 × HP)) = some _ from hf) (fun z => nomatch z)
  | succ n ih =>
    intro x1 x2 x3 x4 h hf
    rw [f_X7_stood_19] at hf
    refine aw_iload dX7_stood_19 rfl (aw_aload_n dX7_stood_21 rfl (aw_geti fkX7_140 (nl hN rfl) kd_39 (Nat.le_of_ble_eq_true rfl) rfl dX7_stood_22 ?_))
    refine aw_icmp_ge 72 dX7_stood_25 rfl (fun g2 => ?_) (fun g2 => ?_)
    · replace hf := (if_pos g2).symm.trans hf
      have key7 : AW E mX7_stood (KM E mX7_stood (some (.int v)) tw h') tw h 84 [some (.ref 39), some (.int x1), some (.int x2), some (.int x3), some (.int x4)] [.int (if x3 = nI 0 then (nI 0) else jshl (nI 1) x2), .int x1] := by
        refine aw_ior dX7_stood_84 (aw_istore_n dX7_stood_85 (Nat.le_of_ble_eq_true rfl) (aw_iinc (nI 1) dX7_stood_86 rfl (Nat.le_of_ble_eq_true rfl) ki_1 (aw_goto 4 dX7_stood_89 rfl ?_)))
        exact aw_dk (hk_4 _ _ _ hf) (And.intro rfl (And.intro rfl (And.intro rfl trivial)))
      refine aw_iload_n dX7_stood_72 rfl (aw_iload_n dX7_stood_73 rfl ?_)
      refine aw_if_eq 83 dX7_stood_74 rfl (fun g8 => ?_) (fun g8 => ?_)
      · skip
        refine aw_iconst (nI 0) dX7_stood_83 ki_0 ?_
        simp only [if_pos g8] at key7 ⊢
        exact aw_dk key7 (And.intro rfl (And.intro rfl (And.intro rfl (And.intro rfl (And.intro rfl trivial)))))
      · skip
        refine aw_iconst (nI 1) dX7_stood_77 ki_1 (aw_iload_n dX7_stood_78 rfl (aw_ishl dX7_stood_79 (aw_goto 84 dX7_stood_80 rfl ?_)))
        simp only [if_neg g8] at key7 ⊢
        exact aw_dk key7 (And.intro rfl (And.intro rfl (And.intro rfl (And.intro rfl (And.intro rfl trivial)))))
    · replace hf := (if_neg g2).symm.trans hf
      refine aw_iload_n dX7_stood_28 rfl ?_
      refine aw_if_eq 64 dX7_stood_29 rfl (fun g3 => ?_) (fun g3 => ?_)
      · replace hf := (if_pos g3).symm.trans hf
        refine aw_iconst (nI 0) dX7_stood_64 ki_0 (aw_istore_n dX7_stood_65 (Nat.le_of_ble_eq_true rfl) (aw_iinc (nI 1) dX7_stood_66 rfl (Nat.le_of_ble_eq_true rfl) ki_1 (aw_goto 19 dX7_stood_69 rfl ?_)))
        exact aw_dk (ih _ _ _ _ _ hf) (And.intro rfl (And.intro rfl (And.intro rfl (And.intro rfl (And.intro rfl trivial)))))
      · replace hf := (if_neg g3).symm.trans hf
        refine aw_aload_n dX7_stood_32 rfl (aw_getr fkX7_19 (nl hN rfl) kd_39 (Nat.le_of_ble_eq_true rfl) rfl dX7_stood_33 (aw_iconst (nI 2) dX7_stood_36 ki_2 (aw_iload_n dX7_stood_37 rfl (aw_iload dX7_stood_38 rfl (aw_iadd dX7_stood_40 (aw_aload_n dX7_stood_41 rfl (aw_getr fkX7_7 (nl hN rfl) kd_39 (Nat.le_of_ble_eq_true rfl) rfl dX7_stood_42 (aw_iconst (nI 1) dX7_stood_45 ki_1 (aw_ialdk (j := 1) cx_1 (nl hN rfl) kd_40 ib_1_19 dX7_stood_46 ?_)))))))))
        obtain ⟨g4, hf⟩ := ogd hf
        refine aw_irem g4 dX7_stood_47 (aw_iadd dX7_stood_48 ?_)
        obtain ⟨g5, hf⟩ := ogd hf
        refine aw_iald (nl hN rfl) kd_43 g5 dX7_stood_49 (aw_aload_n dX7_stood_50 rfl (aw_getr fkX7_34 (nl hN rfl) kd_39 (Nat.le_of_ble_eq_true rfl) rfl dX7_stood_51 (aw_iload dX7_stood_54 rfl ?_)))
        obtain ⟨g6, hf⟩ := ogd hf
        have key9 : AW E mX7_stood (KM E mX7_stood (some (.int v)) tw h') tw h 65 [some (.ref 39), some (.int x1), some (.int x2), some (.int x3), some (.int x4)] [.int (if (h 43 (ix ((nI 2) + (jrem (x2 + x4) (h 40 1))))) = (h 48 (ix x4)) then (nI 1) else (nI 0))] := by
          refine aw_istore_n dX7_stood_65 (Nat.le_of_ble_eq_true rfl) (aw_iinc (nI 1) dX7_stood_66 rfl (Nat.le_of_ble_eq_true rfl) ki_1 (aw_goto 19 dX7_stood_69 rfl ?_))
          exact aw_dk (ih _ _ _ _ _ hf) (And.intro rfl (And.intro rfl (And.intro rfl (And.intro rfl (And.intro rfl trivial)))))
        refine aw_iald (nl hN rfl) kd_48 g6 dX7_stood_56 ?_
        refine aw_icmp_ne 64 dX7_stood_57 rfl (fun g10 => ?_) (fun g10 => ?_)
        · skip
          refine aw_iconst (nI 0) dX7_stood_64 ki_0 ?_
          simp only [if_neg g10] at key9 ⊢
          exact aw_dk key9 (And.intro rfl (And.intro rfl (And.intro rfl (And.intro rfl (And.intro rfl trivial)))))
        · skip
          refine aw_iconst (nI 1) dX7_stood_60 ki_1 (aw_goto 65 dX7_stood_61 rfl ?_)
          simp only [if_pos g10] at key9 ⊢
          exact aw_dk key9 (And.intro rfl (And.intro rfl (And.intro rfl (And.intro rfl (And.intro rfl trivial)))))
set_option maxHeartbeats 4000000 in
set_option maxRecDepth 100000 in
theorem ct_X7_stood_4 {E : EV} (hE : EI E) (hN : 56 ≤ eN E) (F : Nat) {tw : TW}  {v : Int32} {h' : HP} : ∀ (n : Nat) (x1 : Int32) (x2 : Int32) (h : HP), f_X7_stood_4 F n x1 x2 h = some (v, h') → AW E mX7_stood (KM E mX7_stood (some (.int v)) tw h') tw h 4 [some (.ref 39), some (.int x1), some (.int x2), none, none] [] := by
  intro n
  induction n with
  | zero => intro x1 x2 h hf; exact absurd (show (none : Option (Int32 × HP)) = some _ from hf) (fun z => nomatch z)
  | succ n ih =>
    intro x1 x2 h hf
    rw [f_X7_stood_4] at hf
    refine aw_iload_n dX7_stood_4 rfl (aw_aload_n dX7_stood_5 rfl (aw_getr fkX7_7 (nl hN rfl) kd_39 (Nat.le_of_ble_eq_true rfl) rfl dX7_stood_6 (aw_iconst (nI 1) dX7_stood_9 ki_1 (aw_ialdk (j := 1) cx_1 (nl hN rfl) kd_40 ib_1_19 dX7_stood_10 ?_))))
    refine aw_icmp_ge 92 dX7_stood_11 rfl (fun g1 => ?_) (fun g1 => ?_)
    · replace hf := (if_pos g1).symm.trans hf
      cases hf
      exact aw_iload_n dX7_stood_92 rfl (aw_iret rfl dX7_stood_93)
    · replace hf := (if_neg g1).symm.trans hf
      refine aw_iconst (nI 1) dX7_stood_14 ki_1 (aw_istore_n dX7_stood_15 (Nat.le_of_ble_eq_true rfl) (aw_iconst (nI 0) dX7_stood_16 ki_0 (aw_istore dX7_stood_17 (Nat.le_of_ble_eq_true rfl) ?_)))
      exact aw_dk (ct_X7_stood_19 hE hN F ih F _ _ _ _ _ hf) (And.intro rfl (And.intro rfl (And.intro rfl (And.intro rfl (And.intro rfl trivial)))))
set_option maxHeartbeats 4000000 in
set_option maxRecDepth 100000 in
theorem ct_X7_stood {E : EV} (hE : EI E) (hN : 56 ≤ eN E) (F : Nat) {tw : TW}  {h : HP} {v : Int32} {h' : HP} (hf : f_X7_stood F  h = some (v, h')) : CT E mX7_stood tw h [.ref 39] (some (.int v)) tw h' := by
  refine CT.of hE (show plainFor yX7_stood = true by decide +kernel) (Nat.le_of_ble_eq_true rfl) 4 ?_
  show AW E mX7_stood (KM E mX7_stood (some (.int v)) tw h') tw h 0 [some (.ref 39), none, none, none, none] []
  unfold f_X7_stood at hf
  refine aw_iconst (nI 0) dX7_stood_0 ki_0 (aw_istore_n dX7_stood_1 (Nat.le_of_ble_eq_true rfl) (aw_iconst (nI 0) dX7_stood_2 ki_0 (aw_istore_n dX7_stood_3 (Nat.le_of_ble_eq_true rfl) ?_)))
  exact aw_dk (ct_X7_stood_4 hE hN F F _ _ _ hf) (And.intro rfl (And.intro rfl (And.intro rfl trivial)))
set_option maxHeartbeats 4000000 in
set_option maxRecDepth 100000 in
theorem ct_X7_octaves_15 {E : EV} (hE : EI E) (hN : 56 ≤ eN E) (F : Nat) {tw : TW}  {v : Int32} {h' : HP} {k_4 : Int32 → Int32 → HP → Option (Int32 × HP)} (hk_4 : ∀ (x1 : Int32) (x2 : Int32) (h : HP), k_4 x1 x2 h = some (v, h') → AW E mX7_octaves (KM E mX7_octaves (some (.int v)) tw h') tw h 4 [some (.ref 39), some (.int x1), some (.int x2), none, none] []) : ∀ (n : Nat) (x1 : Int32) (x2 : Int32) (x3 : Int32) (x4 : Int32) (h : HP), f_X7_octaves_15 F k_4 n x1 x2 x3 x4 h = some (v, h') → AW E mX7_octaves (KM E mX7_octaves (some (.int v)) tw h') tw h 15 [some (.ref 39), some (.int x1), some (.int x2), some (.int x3), some (.int x4)] [] := by
  intro n
  induction n with
  | zero => intro x1 x2 x3 x4 h hf; exact absurd (show (none : Option (Int32 × HP)) = some _ from hf) (fun z => nomatch z)
  | succ n ih =>
    intro x1 x2 x3 x4 h hf
    rw [f_X7_octaves_15] at hf
    refine aw_iload dX7_octaves_15 rfl (aw_aload_n dX7_octaves_17 rfl (aw_getr fkX7_7 (nl hN rfl) kd_39 (Nat.le_of_ble_eq_true rfl) rfl dX7_octaves_18 (aw_iconst (nI 0) dX7_octaves_21 ki_0 (aw_ialdk (j := 0) cx_0 (nl hN rfl) kd_40 ib_0_19 dX7_octaves_22 ?_))))
    refine aw_icmp_ge 56 dX7_octaves_23 rfl (fun g2 => ?_) (fun g2 => ?_)
    · replace hf := (if_pos g2).symm.trans hf
      have key4 : AW E mX7_octaves (KM E mX7_octaves (some (.int v)) tw h') tw h 67 [some (.ref 39), some (.int x1), some (.int x2), some (.int x3), some (.int x4)] [.int (if x3 ≤ (nI 1) then (nI 0) else (nI 1)), .int x1] := by
        refine aw_iadd dX7_octaves_67 (aw_istore_n dX7_octaves_68 (Nat.le_of_ble_eq_true rfl) (aw_iinc (nI 1) dX7_octaves_69 rfl (Nat.le_of_ble_eq_true rfl) ki_1 (aw_goto 4 dX7_octaves_72 rfl ?_)))
        exact aw_dk (hk_4 _ _ _ hf) (And.intro rfl (And.intro rfl (And.intro rfl trivial)))
      refine aw_iload_n dX7_octaves_56 rfl (aw_iload_n dX7_octaves_57 rfl (aw_iconst (nI 1) dX7_octaves_58 ki_1 ?_))
      refine aw_icmp_le 66 dX7_octaves_59 rfl (fun g5 => ?_) (fun g5 => ?_)
      · skip
        refine aw_iconst (nI 0) dX7_octaves_66 ki_0 ?_
        simp only [if_pos g5] at key4 ⊢
        exact aw_dk key4 (And.intro rfl (And.intro rfl (And.intro rfl (And.intro rfl (And.intro rfl trivial)))))
      · skip
        refine aw_iconst (nI 1) dX7_octaves_62 ki_1 (aw_goto 67 dX7_octaves_63 rfl ?_)
        simp only [if_neg g5] at key4 ⊢
        exact aw_dk key4 (And.intro rfl (And.intro rfl (And.intro rfl (And.intro rfl (And.intro rfl trivial)))))
    · replace hf := (if_neg g2).symm.trans hf
      refine aw_iload_n dX7_octaves_26 rfl (aw_aload_n dX7_octaves_27 rfl (aw_getr fkX7_7 (nl hN rfl) kd_39 (Nat.le_of_ble_eq_true rfl) rfl dX7_octaves_28 (aw_iconst (nI 3) dX7_octaves_31 ki_3 (aw_iload dX7_octaves_32 rfl (aw_iadd dX7_octaves_34 ?_)))))
      obtain ⟨g3, hf⟩ := ogd hf
      have key6 : AW E mX7_octaves (KM E mX7_octaves (some (.int v)) tw h') tw h 48 [some (.ref 39), some (.int x1), some (.int x2), some (.int x3), some (.int x4)] [.int (if (jrem (h 40 (ix ((nI 3) + x4))) (nI 12)) = x2 then (nI 1) else (nI 0)), .int x3] := by
        refine aw_iadd dX7_octaves_48 (aw_istore_n dX7_octaves_49 (Nat.le_of_ble_eq_true rfl) (aw_iinc (nI 1) dX7_octaves_50 rfl (Nat.le_of_ble_eq_true rfl) ki_1 (aw_goto 15 dX7_octaves_53 rfl ?_)))
        exact aw_dk (ih _ _ _ _ _ hf) (And.intro rfl (And.intro rfl (And.intro rfl (And.intro rfl (And.intro rfl trivial)))))
      refine aw_iald (nl hN rfl) kd_40 g3 dX7_octaves_35 (aw_bipush (nI 12) dX7_octaves_36 kb_12 (aw_irem (by decide) dX7_octaves_38 (aw_iload_n dX7_octaves_39 rfl ?_)))
      refine aw_icmp_ne 47 dX7_octaves_40 rfl (fun g7 => ?_) (fun g7 => ?_)
      · skip
        refine aw_iconst (nI 0) dX7_octaves_47 ki_0 ?_
        simp only [if_neg g7] at key6 ⊢
        exact aw_dk key6 (And.intro rfl (And.intro rfl (And.intro rfl (And.intro rfl (And.intro rfl trivial)))))
      · skip
        refine aw_iconst (nI 1) dX7_octaves_43 ki_1 (aw_goto 48 dX7_octaves_44 rfl ?_)
        simp only [if_pos g7] at key6 ⊢
        exact aw_dk key6 (And.intro rfl (And.intro rfl (And.intro rfl (And.intro rfl (And.intro rfl trivial)))))
set_option maxHeartbeats 4000000 in
set_option maxRecDepth 100000 in
theorem ct_X7_octaves_4 {E : EV} (hE : EI E) (hN : 56 ≤ eN E) (F : Nat) {tw : TW}  {v : Int32} {h' : HP} : ∀ (n : Nat) (x1 : Int32) (x2 : Int32) (h : HP), f_X7_octaves_4 F n x1 x2 h = some (v, h') → AW E mX7_octaves (KM E mX7_octaves (some (.int v)) tw h') tw h 4 [some (.ref 39), some (.int x1), some (.int x2), none, none] [] := by
  intro n
  induction n with
  | zero => intro x1 x2 h hf; exact absurd (show (none : Option (Int32 × HP)) = some _ from hf) (fun z => nomatch z)
  | succ n ih =>
    intro x1 x2 h hf
    rw [f_X7_octaves_4] at hf
    refine aw_iload_n dX7_octaves_4 rfl (aw_bipush (nI 12) dX7_octaves_5 kb_12 ?_)
    refine aw_icmp_ge 75 dX7_octaves_7 rfl (fun g1 => ?_) (fun g1 => ?_)
    · replace hf := (if_pos g1).symm.trans hf
      cases hf
      exact aw_iload_n dX7_octaves_75 rfl (aw_iret rfl dX7_octaves_76)
    · replace hf := (if_neg g1).symm.trans hf
      refine aw_iconst (nI 0) dX7_octaves_10 ki_0 (aw_istore_n dX7_octaves_11 (Nat.le_of_ble_eq_true rfl) (aw_iconst (nI 0) dX7_octaves_12 ki_0 (aw_istore dX7_octaves_13 (Nat.le_of_ble_eq_true rfl) ?_)))
      exact aw_dk (ct_X7_octaves_15 hE hN F ih F _ _ _ _ _ hf) (And.intro rfl (And.intro rfl (And.intro rfl (And.intro rfl (And.intro rfl trivial)))))
set_option maxHeartbeats 4000000 in
set_option maxRecDepth 100000 in
theorem ct_X7_octaves {E : EV} (hE : EI E) (hN : 56 ≤ eN E) (F : Nat) {tw : TW}  {h : HP} {v : Int32} {h' : HP} (hf : f_X7_octaves F  h = some (v, h')) : CT E mX7_octaves tw h [.ref 39] (some (.int v)) tw h' := by
  refine CT.of hE (show plainFor yX7_octaves = true by decide +kernel) (Nat.le_of_ble_eq_true rfl) 4 ?_
  show AW E mX7_octaves (KM E mX7_octaves (some (.int v)) tw h') tw h 0 [some (.ref 39), none, none, none, none] []
  unfold f_X7_octaves at hf
  refine aw_iconst (nI 0) dX7_octaves_0 ki_0 (aw_istore_n dX7_octaves_1 (Nat.le_of_ble_eq_true rfl) (aw_iconst (nI 0) dX7_octaves_2 ki_0 (aw_istore_n dX7_octaves_3 (Nat.le_of_ble_eq_true rfl) ?_)))
  exact aw_dk (ct_X7_octaves_4 hE hN F F _ _ _ hf) (And.intro rfl (And.intro rfl (And.intro rfl trivial)))
set_option maxHeartbeats 4000000 in
set_option maxRecDepth 100000 in
theorem ct_X7_melody_44 {E : EV} (hE : EI E) (hN : 56 ≤ eN E) (F : Nat) {tw : TW} {x1 : Int32} {v : Int32} {h' : HP} {k_27 : Int32 → Int32 → Int32 → Int32 → Int32 → HP → Option (Int32 × HP)} (hk_27 : ∀ (x2 : Int32) (x3 : Int32) (x4 : Int32) (x5 : Int32) (x6 : Int32) (h : HP), k_27 x2 x3 x4 x5 x6 h = some (v, h') → AW E mX7_melody (KM E mX7_melody (some (.int v)) tw h') tw h 27 [some (.ref 39), some (.int x1), some (.int x2), some (.int x3), some (.int x4), some (.int x5), some (.int x6), none, none, none] []) : ∀ (n : Nat) (x2 : Int32) (x3 : Int32) (x4 : Int32) (x5 : Int32) (x6 : Int32) (x7 : Int32) (x8 : Int32) (h : HP), f_X7_melody_44 F x1 k_27 n x2 x3 x4 x5 x6 x7 x8 h = some (v, h') → AW E mX7_melody (KM E mX7_melody (some (.int v)) tw h') tw h 44 [some (.ref 39), some (.int x1), some (.int x2), some (.int x3), some (.int x4), some (.int x5), some (.int x6), some (.int x7), some (.int x8), none] [] := by
  intro n
  induction n with
  | zero => intro x2 x3 x4 x5 x6 x7 x8 h hf; exact absurd (show (none : Option (Int32 × HP)) = some _ from hf) (fun z => nomatch z)
  | succ n ih =>
    intro x2 x3 x4 x5 x6 x7 x8 h hf
    rw [f_X7_melody_44] at hf
    refine aw_iload dX7_melody_44 rfl (aw_aload_n dX7_melody_46 rfl (aw_getr fkX7_7 (nl hN rfl) kd_39 (Nat.le_of_ble_eq_true rfl) rfl dX7_melody_47 (aw_iconst (nI 0) dX7_melody_50 ki_0 (aw_ialdk (j := 0) cx_0 (nl hN rfl) kd_40 ib_0_19 dX7_melody_51 ?_))))
    refine aw_icmp_ge 108 dX7_melody_52 rfl (fun g8 => ?_) (fun g8 => ?_)
    · replace hf := (if_pos g8).symm.trans hf
      refine aw_iload dX7_melody_108 rfl ?_
      refine aw_if_lt 190 dX7_melody_110 rfl (fun g9 => ?_) (fun g9 => ?_)
      · replace hf := (if_pos g9).symm.trans hf
        refine aw_iinc (nI 1) dX7_melody_190 rfl (Nat.le_of_ble_eq_true rfl) ki_1 (aw_goto 27 dX7_melody_193 rfl ?_)
        exact aw_dk (hk_27 _ _ _ _ _ _ hf) (And.intro rfl (And.intro rfl (And.intro rfl (And.intro rfl (And.intro rfl (And.intro rfl (And.intro rfl trivial)))))))
      · replace hf := (if_neg g9).symm.trans hf
        have key16 : AW E mX7_melody (KM E mX7_melody (some (.int v)) tw h') tw h 127 [some (.ref 39), some (.int x1), some (.int x2), some (.int x3), some (.int x4), some (.int x5), some (.int x6), some (.int x7), some (.int x8), none] [.int (if nI 0 ≤ x5 then x7 - x5 else (nI 0))] := by
          have key17 : AW E mX7_melody (KM E mX7_melody (some (.int v)) tw h') tw h 140 [some (.ref 39), some (.int x1), some (.int x2), some (.int x3), some (.int x4), some (.int x5), some (.int x6), some (.int x7), some (.int (if nI 0 ≤ x5 then x7 - x5 else (nI 0))), none] [.int (if (if nI 0 ≤ x5 then x7 - x5 else (nI 0)) ≤ nI 0 then (nI 0) else (nI 1)), .int x2] := by
            have key18 : AW E mX7_melody (KM E mX7_melody (some (.int v)) tw h') tw h 153 [some (.ref 39), some (.int x1), some (.int (x2 + (if (if nI 0 ≤ x5 then x7 - x5 else (nI 0)) ≤ nI 0 then (nI 0) else (nI 1)))), some (.int x3), some (.int x4), some (.int x5), some (.int x6), some (.int x7), some (.int (if nI 0 ≤ x5 then x7 - x5 else (nI 0))), none] [.int (if nI 0 ≤ (if nI 0 ≤ x5 then x7 - x5 else (nI 0)) then (nI 0) else (nI 1)), .int x3] := by
              have key19 : AW E mX7_melody (KM E mX7_melody (some (.int v)) tw h') tw h 168 [some (.ref 39), some (.int x1), some (.int (x2 + (if (if nI 0 ≤ x5 then x7 - x5 else (nI 0)) ≤ nI 0 then (nI 0) else (nI 1)))), some (.int (x3 + (if nI 0 ≤ (if nI 0 ≤ x5 then x7 - x5 else (nI 0)) then (nI 0) else (nI 1)))), some (.int x4), some (.int x5), some (.int x6), some (.int x7), some (.int (if nI 0 ≤ x5 then x7 - x5 else (nI 0))), none] [.int (if nI 0 ≤ (if nI 0 ≤ x5 then x7 - x5 else (nI 0)) then (if nI 0 ≤ x5 then x7 - x5 else (nI 0)) else -(if nI 0 ≤ x5 then x7 - x5 else (nI 0)))] := by
                have key20 : AW E mX7_melody (KM E mX7_melody (some (.int v)) tw h') tw h 184 [some (.ref 39), some (.int x1), some (.int (x2 + (if (if nI 0 ≤ x5 then x7 - x5 else (nI 0)) ≤ nI 0 then (nI 0) else (nI 1)))), some (.int (x3 + (if nI 0 ≤ (if nI 0 ≤ x5 then x7 - x5 else (nI 0)) then (nI 0) else (nI 1)))), some (.int x4), some (.int x5), some (.int x6), some (.int x7), some (.int (if nI 0 ≤ x5 then x7 - x5 else (nI 0))), some (.int (if nI 0 ≤ (if nI 0 ≤ x5 then x7 - x5 else (nI 0)) then (if nI 0 ≤ x5 then x7 - x5 else (nI 0)) else -(if nI 0 ≤ x5 then x7 - x5 else (nI 0))))] [.int (if (if nI 0 ≤ (if nI 0 ≤ x5 then x7 - x5 else (nI 0)) then (if nI 0 ≤ x5 then x7 - x5 else (nI 0)) else -(if nI 0 ≤ x5 then x7 - x5 else (nI 0))) ≤ x4 then x4 else (if nI 0 ≤ (if nI 0 ≤ x5 then x7 - x5 else (nI 0)) then (if nI 0 ≤ x5 then x7 - x5 else (nI 0)) else -(if nI 0 ≤ x5 then x7 - x5 else (nI 0))))] := by
                  refine aw_istore dX7_melody_184 (Nat.le_of_ble_eq_true rfl) (aw_iload dX7_melody_186 rfl (aw_istore dX7_melody_188 (Nat.le_of_ble_eq_true rfl) (aw_iinc (nI 1) dX7_melody_190 rfl (Nat.le_of_ble_eq_true rfl) ki_1 (aw_goto 27 dX7_melody_193 rfl ?_))))
                  exact aw_dk (hk_27 _ _ _ _ _ _ hf) (And.intro rfl (And.intro rfl (And.intro rfl (And.intro rfl (And.intro rfl (And.intro rfl (And.intro rfl trivial)))))))
                refine aw_istore dX7_melody_168 (Nat.le_of_ble_eq_true rfl) (aw_iload dX7_melody_170 rfl (aw_iload dX7_melody_172 rfl ?_))
                refine aw_icmp_le 182 dX7_melody_174 rfl (fun g21 => ?_) (fun g21 => ?_)
                · skip
                  refine aw_iload dX7_melody_182 rfl ?_
                  simp only [if_pos g21] at key20 ⊢
                  exact aw_dk key20 (And.intro rfl (And.intro rfl (And.intro rfl (And.intro rfl (And.intro rfl (And.intro rfl (And.intro rfl (And.intro rfl (And.intro rfl (And.intro rfl trivial))))))))))
                · skip
                  refine aw_iload dX7_melody_177 rfl (aw_goto 184 dX7_melody_179 rfl ?_)
                  simp only [if_neg g21] at key20 ⊢
                  exact aw_dk key20 (And.intro rfl (And.intro rfl (And.intro rfl (And.intro rfl (And.intro rfl (And.intro rfl (And.intro rfl (And.intro rfl (And.intro rfl (And.intro rfl trivial))))))))))
              refine aw_iadd dX7_melody_153 (aw_istore_n dX7_melody_154 (Nat.le_of_ble_eq_true rfl) (aw_iload dX7_melody_155 rfl ?_))
              refine aw_if_ge 166 dX7_melody_157 rfl (fun g22 => ?_) (fun g22 => ?_)
              · skip
                refine aw_iload dX7_melody_166 rfl ?_
                simp only [if_pos g22] at key19 ⊢
                exact aw_dk key19 (And.intro rfl (And.intro rfl (And.intro rfl (And.intro rfl (And.intro rfl (And.intro rfl (And.intro rfl (And.intro rfl (And.intro rfl trivial)))))))))
              · skip
                refine aw_iload dX7_melody_160 rfl (aw_ineg dX7_melody_162 (aw_goto 168 dX7_melody_163 rfl ?_))
                simp only [if_neg g22] at key19 ⊢
                exact aw_dk key19 (And.intro rfl (And.intro rfl (And.intro rfl (And.intro rfl (And.intro rfl (And.intro rfl (And.intro rfl (And.intro rfl (And.intro rfl trivial)))))))))
            refine aw_iadd dX7_melody_140 (aw_istore_n dX7_melody_141 (Nat.le_of_ble_eq_true rfl) (aw_iload_n dX7_melody_142 rfl (aw_iload dX7_melody_143 rfl ?_)))
            refine aw_if_ge 152 dX7_melody_145 rfl (fun g23 => ?_) (fun g23 => ?_)
            · skip
              refine aw_iconst (nI 0) dX7_melody_152 ki_0 ?_
              simp only [if_pos g23] at key18 ⊢
              exact aw_dk key18 (And.intro rfl (And.intro rfl (And.intro rfl (And.intro rfl (And.intro rfl (And.intro rfl (And.intro rfl (And.intro rfl (And.intro rfl trivial)))))))))
            · skip
              refine aw_iconst (nI 1) dX7_melody_148 ki_1 (aw_goto 153 dX7_melody_149 rfl ?_)
              simp only [if_neg g23] at key18 ⊢
              exact aw_dk key18 (And.intro rfl (And.intro rfl (And.intro rfl (And.intro rfl (And.intro rfl (And.intro rfl (And.intro rfl (And.intro rfl (And.intro rfl trivial)))))))))
          refine aw_istore dX7_melody_127 (Nat.le_of_ble_eq_true rfl) (aw_iload_n dX7_melody_129 rfl (aw_iload dX7_melody_130 rfl ?_))
          refine aw_if_le 139 dX7_melody_132 rfl (fun g24 => ?_) (fun g24 => ?_)
          · skip
            refine aw_iconst (nI 0) dX7_melody_139 ki_0 ?_
            simp only [if_pos g24] at key17 ⊢
            exact aw_dk key17 (And.intro rfl (And.intro rfl (And.intro rfl (And.intro rfl (And.intro rfl (And.intro rfl (And.intro rfl (And.intro rfl (And.intro rfl trivial)))))))))
          · skip
            refine aw_iconst (nI 1) dX7_melody_135 ki_1 (aw_goto 140 dX7_melody_136 rfl ?_)
            simp only [if_neg g24] at key17 ⊢
            exact aw_dk key17 (And.intro rfl (And.intro rfl (And.intro rfl (And.intro rfl (And.intro rfl (And.intro rfl (And.intro rfl (And.intro rfl (And.intro rfl trivial)))))))))
        refine aw_iload dX7_melody_113 rfl ?_
        refine aw_if_ge 122 dX7_melody_115 rfl (fun g25 => ?_) (fun g25 => ?_)
        · skip
          refine aw_iload dX7_melody_122 rfl (aw_iload dX7_melody_124 rfl (aw_isub dX7_melody_126 ?_))
          simp only [if_pos g25] at key16 ⊢
          exact aw_dk key16 (And.intro rfl (And.intro rfl (And.intro rfl (And.intro rfl (And.intro rfl (And.intro rfl (And.intro rfl (And.intro rfl (And.intro rfl trivial)))))))))
        · skip
          refine aw_iconst (nI 0) dX7_melody_118 ki_0 (aw_goto 127 dX7_melody_119 rfl ?_)
          simp only [if_neg g25] at key16 ⊢
          exact aw_dk key16 (And.intro rfl (And.intro rfl (And.intro rfl (And.intro rfl (And.intro rfl (And.intro rfl (And.intro rfl (And.intro rfl (And.intro rfl trivial)))))))))
    · replace hf := (if_neg g8).symm.trans hf
      refine aw_aload_n dX7_melody_55 rfl (aw_getr fkX7_19 (nl hN rfl) kd_39 (Nat.le_of_ble_eq_true rfl) rfl dX7_melody_56 (aw_iconst (nI 2) dX7_melody_59 ki_2 (aw_iload dX7_melody_60 rfl (aw_iadd dX7_melody_62 ?_))))
      obtain ⟨g10, hf⟩ := ogd hf
      refine aw_iald (nl hN rfl) kd_43 g10 dX7_melody_63 (aw_iload dX7_melody_64 rfl ?_)
      obtain ⟨v13, h11, c12, hf⟩ := ob_some hf
      refine aw_callSi (N := mX7_has) (As := [.int (h 43 (ix ((nI 2) + x6))), .int x8]) lkX7_152 okX7_has (by rfl) (by rfl) (Nat.le_of_ble_eq_true rfl) ry_X7_melody_X7_has dX7_melody_66 (And.intro (Nat.le_refl _) (Nat.le_refl _)) (ct_X7_has hE hN F c12) ?_
      refine aw_if_eq 98 dX7_melody_69 rfl (fun g14 => ?_) (fun g14 => ?_)
      · replace hf := (if_pos g14).symm.trans hf
        refine aw_iload dX7_melody_98 rfl (aw_istore dX7_melody_100 (Nat.le_of_ble_eq_true rfl) (aw_iinc (nI 1) dX7_melody_102 rfl (Nat.le_of_ble_eq_true rfl) ki_1 (aw_goto 44 dX7_melody_105 rfl ?_)))
        exact aw_dk (ih _ _ _ _ _ _ _ _ hf) (And.intro rfl (And.intro rfl (And.intro rfl (And.intro rfl (And.intro rfl (And.intro rfl (And.intro rfl (And.intro rfl (And.intro rfl trivial)))))))))
      · replace hf := (if_neg g14).symm.trans hf
        refine aw_aload_n dX7_melody_72 rfl (aw_getr fkX7_7 (nl hN rfl) kd_39 (Nat.le_of_ble_eq_true rfl) rfl dX7_melody_73 (aw_iconst (nI 3) dX7_melody_76 ki_3 (aw_iload dX7_melody_77 rfl (aw_iadd dX7_melody_79 ?_))))
        obtain ⟨g15, hf⟩ := ogd hf
        have key26 : AW E mX7_melody (KM E mX7_melody (some (.int v)) tw h') tw h11 100 [some (.ref 39), some (.int x1), some (.int x2), some (.int x3), some (.int x4), some (.int x5), some (.int x6), some (.int x7), some (.int x8), none] [.int (if (h11 40 (ix ((nI 3) + x8))) ≤ x7 then x7 else h11 40 (ix ((nI 3) + x8)))] := by
          refine aw_istore dX7_melody_100 (Nat.le_of_ble_eq_true rfl) (aw_iinc (nI 1) dX7_melody_102 rfl (Nat.le_of_ble_eq_true rfl) ki_1 (aw_goto 44 dX7_melody_105 rfl ?_))
          exact aw_dk (ih _ _ _ _ _ _ _ _ hf) (And.intro rfl (And.intro rfl (And.intro rfl (And.intro rfl (And.intro rfl (And.intro rfl (And.intro rfl (And.intro rfl (And.intro rfl trivial)))))))))
        refine aw_iald (nl hN rfl) kd_40 g15 dX7_melody_80 (aw_iload dX7_melody_81 rfl ?_)
        refine aw_icmp_le 98 dX7_melody_83 rfl (fun g27 => ?_) (fun g27 => ?_)
        · skip
          refine aw_iload dX7_melody_98 rfl ?_
          simp only [if_pos g27] at key26 ⊢
          exact aw_dk key26 (And.intro rfl (And.intro rfl (And.intro rfl (And.intro rfl (And.intro rfl (And.intro rfl (And.intro rfl (And.intro rfl (And.intro rfl trivial)))))))))
        · skip
          refine aw_aload_n dX7_melody_86 rfl (aw_getr fkX7_7 (nl hN rfl) kd_39 (Nat.le_of_ble_eq_true rfl) rfl dX7_melody_87 (aw_iconst (nI 3) dX7_melody_90 ki_3 (aw_iload dX7_melody_91 rfl (aw_iadd dX7_melody_93 (aw_iald (nl hN rfl) kd_40 g15 dX7_melody_94 (aw_goto 100 dX7_melody_95 rfl ?_))))))
          simp only [if_neg g27] at key26 ⊢
          exact aw_dk key26 (And.intro rfl (And.intro rfl (And.intro rfl (And.intro rfl (And.intro rfl (And.intro rfl (And.intro rfl (And.intro rfl (And.intro rfl trivial)))))))))
set_option maxHeartbeats 4000000 in
set_option maxRecDepth 100000 in
theorem ct_X7_melody_27 {E : EV} (hE : EI E) (hN : 56 ≤ eN E) (F : Nat) {tw : TW} {x1 : Int32} {v : Int32} {h' : HP} : ∀ (n : Nat) (x2 : Int32) (x3 : Int32) (x4 : Int32) (x5 : Int32) (x6 : Int32) (h : HP), f_X7_melody_27 F x1 n x2 x3 x4 x5 x6 h = some (v, h') → AW E mX7_melody (KM E mX7_melody (some (.int v)) tw h') tw h 27 [some (.ref 39), some (.int x1), some (.int x2), some (.int x3), some (.int x4), some (.int x5), some (.int x6), none, none, none] [] := by
  intro n
  induction n with
  | zero => intro x2 x3 x4 x5 x6 h hf; exact absurd (show (none : Option (Int32 × HP)) = some _ from hf) (fun z => nomatch z)
  | succ n ih =>
    intro x2 x3 x4 x5 x6 h hf
    rw [f_X7_melody_27] at hf
    refine aw_iload dX7_melody_27 rfl (aw_aload_n dX7_melody_29 rfl (aw_getr fkX7_7 (nl hN rfl) kd_39 (Nat.le_of_ble_eq_true rfl) rfl dX7_melody_30 (aw_iconst (nI 1) dX7_melody_33 ki_1 (aw_ialdk (j := 1) cx_1 (nl hN rfl) kd_40 ib_1_19 dX7_melody_34 ?_))))
    refine aw_icmp_ge 196 dX7_melody_35 rfl (fun g5 => ?_) (fun g5 => ?_)
    · replace hf := (if_pos g5).symm.trans hf
      refine aw_iload_n dX7_melody_196 rfl ?_
      refine aw_if_ne 204 dX7_melody_197 rfl (fun g6 => ?_) (fun g6 => ?_)
      · replace hf := (if_neg g6).symm.trans hf
        refine aw_iload_n dX7_melody_204 rfl (aw_iconst (nI 1) dX7_melody_205 ki_1 ?_)
        refine aw_icmp_ne 213 dX7_melody_206 rfl (fun g7 => ?_) (fun g7 => ?_)
        · replace hf := (if_neg g7).symm.trans hf
          cases hf
          exact aw_iload dX7_melody_213 rfl (aw_iret rfl dX7_melody_215)
        · replace hf := (if_pos g7).symm.trans hf
          cases hf
          exact aw_iload_n dX7_melody_209 rfl (aw_goto 215 dX7_melody_210 rfl (aw_iret rfl dX7_melody_215))
      · replace hf := (if_pos g6).symm.trans hf
        cases hf
        exact aw_iload_n dX7_melody_200 rfl (aw_goto 215 dX7_melody_201 rfl (aw_iret rfl dX7_melody_215))
    · replace hf := (if_neg g5).symm.trans hf
      refine aw_iconst (-1) dX7_melody_38 ki_m1 (aw_istore dX7_melody_39 (Nat.le_of_ble_eq_true rfl) (aw_iconst (nI 0) dX7_melody_41 ki_0 (aw_istore dX7_melody_42 (Nat.le_of_ble_eq_true rfl) ?_)))
      exact aw_dk (ct_X7_melody_44 hE hN F ih F _ _ _ _ _ _ _ _ hf) (And.intro rfl (And.intro rfl (And.intro rfl (And.intro rfl (And.intro rfl (And.intro rfl (And.intro rfl (And.intro rfl (And.intro rfl trivial)))))))))
set_option maxHeartbeats 4000000 in
set_option maxRecDepth 100000 in
theorem ct_X7_melody {E : EV} (hE : EI E) (hN : 56 ≤ eN E) (F : Nat) {tw : TW} {x1 : Int32} {h : HP} {v : Int32} {h' : HP} (hf : f_X7_melody F x1 h = some (v, h')) : CT E mX7_melody tw h [.ref 39, .int x1] (some (.int v)) tw h' := by
  refine CT.of hE (show plainFor yX7_melody = true by decide +kernel) (Nat.le_of_ble_eq_true rfl) 8 ?_
  show AW E mX7_melody (KM E mX7_melody (some (.int v)) tw h') tw h 0 [some (.ref 39), some (.int x1), none, none, none, none, none, none, none, none] []
  unfold f_X7_melody at hf
  refine aw_iload_n dX7_melody_0 rfl (aw_i2l dX7_melody_1 (aw_lconst (lN 0) dX7_melody_2 rfl (aw_ldc2 kcX7_103 dX7_melody_3 ?_)))
  obtain ⟨v3, h1, c2, hf⟩ := ob_some hf
  refine aw_callSi (N := mX7_in) (As := [.long x1.toInt64, .long (lN 0), .long (lN 2)]) lkX7_73 okX7_in (by rfl) (by rfl) (Nat.le_of_ble_eq_true rfl) ry_X7_melody_X7_in dX7_melody_6 (And.intro (Nat.le_refl _) (Nat.le_refl _)) (ct_X7_in hE hN F c2) ?_
  refine aw_if_ne 14 dX7_melody_9 rfl (fun g4 => ?_) (fun g4 => ?_)
  · replace hf := (if_neg g4).symm.trans hf
    refine aw_iconst (nI 0) dX7_melody_14 ki_0 (aw_istore_n dX7_melody_15 (Nat.le_of_ble_eq_true rfl) (aw_iconst (nI 0) dX7_melody_16 ki_0 (aw_istore_n dX7_melody_17 (Nat.le_of_ble_eq_true rfl) (aw_iconst (nI 0) dX7_melody_18 ki_0 (aw_istore dX7_melody_19 (Nat.le_of_ble_eq_true rfl) (aw_iconst (-1) dX7_melody_21 ki_m1 (aw_istore dX7_melody_22 (Nat.le_of_ble_eq_true rfl) (aw_iconst (nI 0) dX7_melody_24 ki_0 (aw_istore dX7_melody_25 (Nat.le_of_ble_eq_true rfl) ?_)))))))))
    exact aw_dk (ct_X7_melody_27 hE hN F F _ _ _ _ _ _ hf) (And.intro rfl (And.intro rfl (And.intro rfl (And.intro rfl (And.intro rfl (And.intro rfl (And.intro rfl trivial)))))))
  · replace hf := (if_pos g4).symm.trans hf
    cases hf
    exact aw_iconst (-1) dX7_melody_12 ki_m1 (aw_iret rfl dX7_melody_13)
set_option maxHeartbeats 4000000 in
set_option maxRecDepth 100000 in
theorem ct_X7_winter_135 {E : EV} (hE : EI E) (hN : 56 ≤ eN E) (F : Nat) {tw : TW} {x1 : Int32} {x2 : Int32} {x3 : Int32} {v : Int32} {h' : HP} : ∀ (n : Nat) (x4 : Int32) (x5 : Int32) (x6 : Int32) (h : HP), f_X7_winter_135 F x1 x2 x3 n x4 x5 x6 h = some (v, h') → AW E mX7_winter (KM E mX7_winter (some (.int v)) tw h') tw h 135 [some (.ref 39), none, none, some (.int x3), some (.int x4), some (.int x5), some (.int x6), none, none] [] := by
  intro n
  induction n with
  | zero => intro x4 x5 x6 h hf; exact absurd (show (none : Option (Int32 × HP)) = some _ from hf) (fun z => nomatch z)
  | succ n ih =>
    intro x4 x5 x6 h hf
    rw [f_X7_winter_135] at hf
    refine aw_iload dX7_winter_135 rfl (aw_aload_n dX7_winter_137 rfl (aw_getr fkX7_7 (nl hN rfl) kd_39 (Nat.le_of_ble_eq_true rfl) rfl dX7_winter_138 (aw_iconst (nI 1) dX7_winter_141 ki_1 (aw_ialdk (j := 1) cx_1 (nl hN rfl) kd_40 ib_1_19 dX7_winter_142 ?_))))
    refine aw_icmp_ge 191 dX7_winter_143 rfl (fun g18 => ?_) (fun g18 => ?_)
    · replace hf := (if_pos g18).symm.trans hf
      refine aw_iload_n dX7_winter_191 rfl ?_
      refine aw_if_ne 200 dX7_winter_192 rfl (fun g19 => ?_) (fun g19 => ?_)
      · replace hf := (if_neg g19).symm.trans hf
        cases hf
        exact aw_iload dX7_winter_200 rfl (aw_iret rfl dX7_winter_202)
      · replace hf := (if_pos g19).symm.trans hf
        cases hf
        exact aw_iload dX7_winter_195 rfl (aw_goto 202 dX7_winter_197 rfl (aw_iret rfl dX7_winter_202))
    · replace hf := (if_neg g18).symm.trans hf
      refine aw_iload dX7_winter_146 rfl (aw_aload_n dX7_winter_148 rfl (aw_getr fkX7_46 (nl hN rfl) kd_39 (Nat.le_of_ble_eq_true rfl) rfl dX7_winter_149 (aw_iconst (nI 2) dX7_winter_152 ki_2 (aw_iload dX7_winter_153 rfl (aw_iadd dX7_winter_155 ?_)))))
      obtain ⟨g20, hf⟩ := ogd hf
      refine aw_iald (nl hN rfl) kd_52 g20 dX7_winter_156 ?_
      obtain ⟨v23, h21, c22, hf⟩ := ob_some hf
      have key24 : AW E mX7_winter (KM E mX7_winter (some (.int v)) tw h') tw h21 182 [some (.ref 39), none, none, some (.int x3), some (.int (x4 + v23)), some (.int x5), some (.int x6), none, none] [.int (if (h21 52 (ix ((nI 2) + x6))) = nI 0 then (nI 1) else (nI 0)), .int x5] := by
        refine aw_iadd dX7_winter_182 (aw_istore dX7_winter_183 (Nat.le_of_ble_eq_true rfl) (aw_iinc (nI 1) dX7_winter_185 rfl (Nat.le_of_ble_eq_true rfl) ki_1 (aw_goto 135 dX7_winter_188 rfl ?_)))
        exact aw_dk (ih _ _ _ _ hf) (And.intro rfl (And.intro rfl (And.intro rfl (And.intro rfl (And.intro rfl trivial)))))
      refine aw_callSi (N := mX7_bits) (As := [.int (h 52 (ix ((nI 2) + x6)))]) lkX7_114 okX7_bits (by rfl) (by rfl) (Nat.le_of_ble_eq_true rfl) ry_X7_winter_X7_bits dX7_winter_157 (And.intro (Nat.le_refl _) (Nat.le_refl _)) (ct_X7_bits hE hN F c22) (aw_iadd dX7_winter_160 (aw_istore dX7_winter_161 (Nat.le_of_ble_eq_true rfl) (aw_iload dX7_winter_163 rfl (aw_aload_n dX7_winter_165 rfl (aw_getr fkX7_46 (nl hN rfl) kd_39 (Nat.le_of_ble_eq_true rfl) rfl dX7_winter_166 (aw_iconst (nI 2) dX7_winter_169 ki_2 (aw_iload dX7_winter_170 rfl (aw_iadd dX7_winter_172 (aw_iald (nl hN rfl) kd_52 g20 dX7_winter_173 ?_)))))))))
      refine aw_if_ne 181 dX7_winter_174 rfl (fun g25 => ?_) (fun g25 => ?_)
      · skip
        refine aw_iconst (nI 0) dX7_winter_181 ki_0 ?_
        simp only [if_neg g25] at key24 ⊢
        exact aw_dk key24 (And.intro rfl (And.intro rfl (And.intro rfl (And.intro rfl (And.intro rfl trivial)))))
      · skip
        refine aw_iconst (nI 1) dX7_winter_177 ki_1 (aw_goto 182 dX7_winter_178 rfl ?_)
        simp only [if_pos g25] at key24 ⊢
        exact aw_dk key24 (And.intro rfl (And.intro rfl (And.intro rfl (And.intro rfl (And.intro rfl trivial)))))
set_option maxHeartbeats 4000000 in
set_option maxRecDepth 100000 in
theorem ct_X7_winter_49 {E : EV} (hE : EI E) (hN : 56 ≤ eN E) (F : Nat) {tw : TW} {x1 : Int32} {x2 : Int32} {x3 : Int32} {v : Int32} {h' : HP} : ∀ (n : Nat) (x4 : Int32) (h : HP), f_X7_winter_49 F x1 x2 x3 n x4 h = some (v, h') → AW E mX7_winter (KM E mX7_winter (some (.int v)) tw h') tw h 49 [some (.ref 39), some (.int x1), some (.int x2), some (.int x3), some (.int x4), none, none, none, none] [] := by
  intro n
  induction n with
  | zero => intro x4 h hf; exact absurd (show (none : Option (Int32 × HP)) = some _ from hf) (fun z => nomatch z)
  | succ n ih =>
    intro x4 h hf
    rw [f_X7_winter_49] at hf
    refine aw_iload dX7_winter_49 rfl (aw_iload_n dX7_winter_51 rfl ?_)
    refine aw_icmp_ge 126 dX7_winter_52 rfl (fun g15 => ?_) (fun g15 => ?_)
    · replace hf := (if_pos g15).symm.trans hf
      refine aw_iconst (nI 0) dX7_winter_126 ki_0 (aw_istore dX7_winter_127 (Nat.le_of_ble_eq_true rfl) (aw_iconst (nI 0) dX7_winter_129 ki_0 (aw_istore dX7_winter_130 (Nat.le_of_ble_eq_true rfl) (aw_iconst (nI 0) dX7_winter_132 ki_0 (aw_istore dX7_winter_133 (Nat.le_of_ble_eq_true rfl) ?_)))))
      exact aw_dk (ct_X7_winter_135 hE hN F F _ _ _ _ hf) (And.intro rfl (And.intro rfl (And.intro rfl (And.intro rfl (And.intro rfl trivial)))))
    · replace hf := (if_neg g15).symm.trans hf
      refine aw_ldc2 kcX7_220 dX7_winter_55 (aw_iload_n dX7_winter_58 rfl (aw_i2l dX7_winter_59 (aw_lmul dX7_winter_60 (aw_ldc2 kcX7_222 dX7_winter_61 (aw_iload dX7_winter_64 rfl (aw_i2l dX7_winter_66 (aw_lmul dX7_winter_67 (aw_ladd dX7_winter_68 (aw_lconst (lN 1) dX7_winter_69 rfl (aw_ladd dX7_winter_70 (aw_lstore dX7_winter_71 (Nat.le_of_ble_eq_true rfl) ?_)))))))))))
      refine aw_lload dX7_winter_73 rfl (aw_lload dX7_winter_75 rfl (aw_lmul dX7_winter_77 (aw_ldc2 kcX7_224 dX7_winter_78 (aw_lrem (by decide) dX7_winter_81 (aw_l2i dX7_winter_82 (aw_bipush (nI 8) dX7_winter_83 kb_8 (aw_idiv (by decide) dX7_winter_85 (aw_istore dX7_winter_86 (Nat.le_of_ble_eq_true rfl) (aw_iconst (nI 2) dX7_winter_88 ki_2 (aw_iload dX7_winter_89 rfl (aw_aload_n dX7_winter_91 rfl ?_)))))))))))
      refine aw_getr fkX7_7 (nl hN rfl) kd_39 (Nat.le_of_ble_eq_true rfl) rfl dX7_winter_92 (aw_iconst (nI 1) dX7_winter_95 ki_1 (aw_ialdk (j := 1) cx_1 (nl hN rfl) kd_40 ib_1_19 dX7_winter_96 ?_))
      obtain ⟨g16, hf⟩ := ogd hf
      refine aw_irem g16 dX7_winter_97 (aw_iadd dX7_winter_98 (aw_istore dX7_winter_99 (Nat.le_of_ble_eq_true rfl) (aw_aload_n dX7_winter_101 rfl (aw_getr fkX7_46 (nl hN rfl) kd_39 (Nat.le_of_ble_eq_true rfl) rfl dX7_winter_102 (aw_iload dX7_winter_105 rfl (aw_dup2 dX7_winter_107 rfl rfl ?_))))))
      obtain ⟨g17, hf⟩ := ogd hf
      refine aw_iald (nl hN rfl) kd_52 g17 dX7_winter_108 (aw_aload_n dX7_winter_109 rfl (aw_getr fkX7_46 (nl hN rfl) kd_39 (Nat.le_of_ble_eq_true rfl) rfl dX7_winter_110 (aw_iload dX7_winter_113 rfl (aw_iald (nl hN rfl) kd_52 g17 dX7_winter_115 (aw_iconst (nI 1) dX7_winter_116 ki_1 (aw_isub dX7_winter_117 (aw_iand dX7_winter_118 (aw_iast (nl hN rfl) kd_52 g17 dX7_winter_119 (aw_iinc (nI 1) dX7_winter_120 rfl (Nat.le_of_ble_eq_true rfl) ki_1 (aw_goto 49 dX7_winter_123 rfl ?_))))))))))
      exact aw_dk (ih _ _ hf) (And.intro rfl (And.intro rfl (And.intro rfl (And.intro rfl (And.intro rfl trivial)))))
set_option maxHeartbeats 4000000 in
set_option maxRecDepth 100000 in
theorem ct_X7_winter {E : EV} (hE : EI E) (hN : 56 ≤ eN E) (F : Nat) {tw : TW} {x1 : Int32} {x2 : Int32} {x3 : Int32} {h : HP} {v : Int32} {h' : HP} (hf : f_X7_winter F x1 x2 x3 h = some (v, h')) : CT E mX7_winter tw h [.ref 39, .int x1, .int x2, .int x3] (some (.int v)) tw h' := by
  refine CT.of hE (show plainFor yX7_winter = true by decide +kernel) (Nat.le_of_ble_eq_true rfl) 5 ?_
  show AW E mX7_winter (KM E mX7_winter (some (.int v)) tw h') tw h 0 [some (.ref 39), some (.int x1), some (.int x2), some (.int x3), none, none, none, none, none] []
  unfold f_X7_winter at hf
  refine aw_iload_n dX7_winter_0 rfl (aw_i2l dX7_winter_1 (aw_lconst (lN 0) dX7_winter_2 rfl (aw_ldc2 kcX7_216 dX7_winter_3 ?_)))
  obtain ⟨v3, h1, c2, hf⟩ := ob_some hf
  refine aw_callSi (N := mX7_in) (As := [.long x1.toInt64, .long (lN 0), .long (lN 9999)]) lkX7_73 okX7_in (by rfl) (by rfl) (Nat.le_of_ble_eq_true rfl) ry_X7_winter_X7_in dX7_winter_6 (And.intro (Nat.le_refl _) (Nat.le_refl _)) (ct_X7_in hE hN F c2) ?_
  refine aw_if_eq 31 dX7_winter_9 rfl (fun g4 => ?_) (fun g4 => ?_)
  · replace hf := (if_pos g4).symm.trans hf
    cases hf
    exact aw_iconst (-1) dX7_winter_31 ki_m1 (aw_iret rfl dX7_winter_32)
  · replace hf := (if_neg g4).symm.trans hf
    refine aw_iload_n dX7_winter_12 rfl (aw_i2l dX7_winter_13 (aw_lconst (lN 1) dX7_winter_14 rfl (aw_ldc2 kcX7_218 dX7_winter_15 ?_)))
    obtain ⟨v7, h5, c6, hf⟩ := ob_some hf
    refine aw_callSi (N := mX7_in) (As := [.long x2.toInt64, .long (lN 1), .long (lN 60)]) lkX7_73 okX7_in (by rfl) (by rfl) (Nat.le_of_ble_eq_true rfl) ry_X7_winter_X7_in dX7_winter_18 (And.intro (Nat.le_refl _) (Nat.le_refl _)) (ct_X7_in hE hN F c6) ?_
    refine aw_if_eq 31 dX7_winter_21 rfl (fun g8 => ?_) (fun g8 => ?_)
    · replace hf := (if_pos g8).symm.trans hf
      cases hf
      exact aw_iconst (-1) dX7_winter_31 ki_m1 (aw_iret rfl dX7_winter_32)
    · replace hf := (if_neg g8).symm.trans hf
      refine aw_iload_n dX7_winter_24 rfl ?_
      obtain ⟨v11, h9, c10, hf⟩ := ob_some hf
      refine aw_callSi (N := mX7_isTwo) (As := [.int x3]) lkX7_196 okX7_isTwo (by rfl) (by rfl) (Nat.le_of_ble_eq_true rfl) ry_X7_winter_X7_isTwo dX7_winter_25 (And.intro (Nat.le_refl _) (Nat.le_refl _)) (ct_X7_isTwo hE hN F c10) ?_
      refine aw_if_ne 33 dX7_winter_28 rfl (fun g12 => ?_) (fun g12 => ?_)
      · replace hf := (if_neg g12).symm.trans hf
        refine aw_aload_n dX7_winter_33 rfl (aw_getr fkX7_19 (nl hN rfl) kd_39 (Nat.le_of_ble_eq_true rfl) rfl dX7_winter_34 (aw_iconst (nI 0) dX7_winter_37 ki_0 (aw_aload_n dX7_winter_38 rfl (aw_getr fkX7_46 (nl hN rfl) kd_39 (Nat.le_of_ble_eq_true rfl) rfl dX7_winter_39 (aw_iconst (nI 0) dX7_winter_42 ki_0 ?_)))))
        obtain ⟨h13, c14, hf⟩ := obv_some hf
        refine aw_callSv (N := mX7_copies) (As := [.ref 43, .int (nI 0), .ref 52, .int (nI 0)]) lkX7_165 okX7_copies (by rfl) (by rfl) (Nat.le_of_ble_eq_true rfl) ry_X7_winter_X7_copies dX7_winter_43 (And.intro (Nat.le_refl _) (Nat.le_refl _)) (ct_X7_copies hE hN F (IA.of kd_43 (nl hN rfl)) (IA.of kd_52 (nl hN rfl)) c14) (aw_iconst (nI 0) dX7_winter_46 ki_0 (aw_istore dX7_winter_47 (Nat.le_of_ble_eq_true rfl) ?_))
        exact aw_dk (ct_X7_winter_49 hE hN F F _ _ hf) (And.intro rfl (And.intro rfl (And.intro rfl (And.intro rfl (And.intro rfl trivial)))))
      · replace hf := (if_pos g12).symm.trans hf
        cases hf
        exact aw_iconst (-1) dX7_winter_31 ki_m1 (aw_iret rfl dX7_winter_32)
set_option maxHeartbeats 4000000 in
set_option maxRecDepth 100000 in
theorem ct_X7_keep {E : EV} (hE : EI E) (hN : 56 ≤ eN E) (F : Nat) {tw : TW}  {h : HP} {v : Int32} {h' : HP} (hf : f_X7_keep F  h = some (v, h')) : CT E mX7_keep tw h [.ref 39] (some (.int v)) tw h' := by
  refine CT.of hE (show plainFor yX7_keep = true by decide +kernel) (Nat.le_of_ble_eq_true rfl) 0 ?_
  show AW E mX7_keep (KM E mX7_keep (some (.int v)) tw h') tw h 0 [some (.ref 39)] []
  unfold f_X7_keep at hf
  refine aw_aload_n dX7_keep_0 rfl (aw_geti fkX7_146 (nl hN rfl) kd_39 (Nat.le_of_ble_eq_true rfl) rfl dX7_keep_1 (aw_iconst (nI 2) dX7_keep_4 ki_2 ?_))
  refine aw_icmp_ne 11 dX7_keep_5 rfl (fun g1 => ?_) (fun g1 => ?_)
  · replace hf := (if_neg g1).symm.trans hf
    refine aw_aload_n dX7_keep_11 rfl (aw_getr fkX7_19 (nl hN rfl) kd_39 (Nat.le_of_ble_eq_true rfl) rfl dX7_keep_12 (aw_iconst (nI 0) dX7_keep_15 ki_0 (aw_aload_n dX7_keep_16 rfl (aw_getr fkX7_25 (nl hN rfl) kd_39 (Nat.le_of_ble_eq_true rfl) rfl dX7_keep_17 (aw_bipush (nI 66) dX7_keep_20 kb_66 (aw_aload_n dX7_keep_22 rfl (aw_geti fkX7_146 (nl hN rfl) kd_39 (Nat.le_of_ble_eq_true rfl) rfl dX7_keep_23 (aw_imul dX7_keep_26 ?_))))))))
    obtain ⟨h2, c3, hf⟩ := obv_some hf
    cases hf
    exact aw_callSv (N := mX7_copies) (As := [.ref 43, .int (nI 0), .ref 45, .int ((nI 66) * (h 39 8))]) lkX7_165 okX7_copies (by rfl) (by rfl) (Nat.le_of_ble_eq_true rfl) ry_X7_keep_X7_copies dX7_keep_27 (And.intro (Nat.le_refl _) (Nat.le_refl _)) (ct_X7_copies hE hN F (IA.of kd_43 (nl hN rfl)) (IA.of kd_45 (nl hN rfl)) c3) (aw_aload_n dX7_keep_30 rfl (aw_dup dX7_keep_31 rfl (aw_geti fkX7_146 (nl hN rfl) kd_39 (Nat.le_of_ble_eq_true rfl) rfl dX7_keep_32 (aw_iconst (nI 1) dX7_keep_35 ki_1 (aw_iadd dX7_keep_36 (aw_puti fkX7_146 fw_7_8 (nl hN rfl) kd_39 (Nat.le_of_ble_eq_true rfl) rfl dX7_keep_37 (aw_aload_n dX7_keep_40 rfl (aw_geti fkX7_146 (nl hN rfl) kd_39 (Nat.le_of_ble_eq_true rfl) rfl dX7_keep_41 (aw_iret rfl dX7_keep_44)))))))))
  · replace hf := (if_pos g1).symm.trans hf
    cases hf
    exact aw_bipush (-3) dX7_keep_8 kb_m3 (aw_iret rfl dX7_keep_10)
set_option maxHeartbeats 4000000 in
set_option maxRecDepth 100000 in
theorem ct_X7_back {E : EV} (hE : EI E) (hN : 56 ≤ eN E) (F : Nat) {tw : TW}  {h : HP} {v : Int32} {h' : HP} (hf : f_X7_back F  h = some (v, h')) : CT E mX7_back tw h [.ref 39] (some (.int v)) tw h' := by
  refine CT.of hE (show plainFor yX7_back = true by decide +kernel) (Nat.le_of_ble_eq_true rfl) 0 ?_
  show AW E mX7_back (KM E mX7_back (some (.int v)) tw h') tw h 0 [some (.ref 39)] []
  unfold f_X7_back at hf
  refine aw_aload_n dX7_back_0 rfl (aw_geti fkX7_146 (nl hN rfl) kd_39 (Nat.le_of_ble_eq_true rfl) rfl dX7_back_1 ?_)
  refine aw_if_ne 10 dX7_back_4 rfl (fun g1 => ?_) (fun g1 => ?_)
  · replace hf := (if_neg g1).symm.trans hf
    refine aw_aload_n dX7_back_10 rfl (aw_dup dX7_back_11 rfl (aw_geti fkX7_146 (nl hN rfl) kd_39 (Nat.le_of_ble_eq_true rfl) rfl dX7_back_12 (aw_iconst (nI 1) dX7_back_15 ki_1 (aw_isub dX7_back_16 (aw_puti fkX7_146 fw_7_8 (nl hN rfl) kd_39 (Nat.le_of_ble_eq_true rfl) rfl dX7_back_17 (aw_aload_n dX7_back_20 rfl (aw_getr fkX7_25 (nl hN rfl) kd_39 (Nat.le_of_ble_eq_true rfl) rfl dX7_back_21 (aw_bipush (nI 66) dX7_back_24 kb_66 (aw_aload_n dX7_back_26 rfl (aw_geti fkX7_146 (nl hN rfl) kd_39 (Nat.le_of_ble_eq_true rfl) rfl dX7_back_27 (aw_imul dX7_back_30 ?_)))))))))))
    refine aw_aload_n dX7_back_31 rfl (aw_getr fkX7_19 (nl hN rfl) kd_39 (Nat.le_of_ble_eq_true rfl) rfl dX7_back_32 (aw_iconst (nI 0) dX7_back_35 ki_0 ?_))
    obtain ⟨h2, c3, hf⟩ := obv_some hf
    cases hf
    exact aw_callSv (N := mX7_copies) (As := [.ref 45, .int ((nI 66) * ((up h 39 8 ((h 39 8) - (nI 1))) 39 8)), .ref 43, .int (nI 0)]) lkX7_165 okX7_copies (by rfl) (by rfl) (Nat.le_of_ble_eq_true rfl) ry_X7_back_X7_copies dX7_back_36 (And.intro (Nat.le_refl _) (Nat.le_refl _)) (ct_X7_copies hE hN F (IA.of kd_45 (nl hN rfl)) (IA.of kd_43 (nl hN rfl)) c3) (aw_aload_n dX7_back_39 rfl (aw_iconst (nI 0) dX7_back_40 ki_0 (aw_puti fkX7_143 fw_7_6 (nl hN rfl) kd_39 (Nat.le_of_ble_eq_true rfl) rfl dX7_back_41 (aw_aload_n dX7_back_44 rfl (aw_geti fkX7_146 (nl hN rfl) kd_39 (Nat.le_of_ble_eq_true rfl) rfl dX7_back_45 (aw_iret rfl dX7_back_48))))))
  · replace hf := (if_pos g1).symm.trans hf
    cases hf
    exact aw_bipush (-2) dX7_back_7 kb_m2 (aw_iret rfl dX7_back_9)
set_option maxHeartbeats 4000000 in
set_option maxRecDepth 100000 in
theorem ct_X7_count_4 {E : EV} (hE : EI E) (hN : 56 ≤ eN E) (F : Nat) {tw : TW} {x1 : Int32} {v : Int32} {h' : HP} : ∀ (n : Nat) (x2 : Int32) (x3 : Int32) (h : HP), f_X7_count_4 F x1 n x2 x3 h = some (v, h') → AW E mX7_count (KM E mX7_count (some (.int v)) tw h') tw h 4 [some (.ref 39), some (.int x1), some (.int x2), some (.int x3)] [] := by
  intro n
  induction n with
  | zero => intro x2 x3 h hf; exact absurd (show (none : Option (Int32 × HP)) = some _ from hf) (fun z => nomatch z)
  | succ n ih =>
    intro x2 x3 h hf
    rw [f_X7_count_4] at hf
    refine aw_iload_n dX7_count_4 rfl (aw_aload_n dX7_count_5 rfl (aw_getr fkX7_7 (nl hN rfl) kd_39 (Nat.le_of_ble_eq_true rfl) rfl dX7_count_6 (aw_iconst (nI 1) dX7_count_9 ki_1 (aw_ialdk (j := 1) cx_1 (nl hN rfl) kd_40 ib_1_19 dX7_count_10 ?_))))
    refine aw_icmp_ge 34 dX7_count_11 rfl (fun g1 => ?_) (fun g1 => ?_)
    · replace hf := (if_pos g1).symm.trans hf
      refine aw_iload_n dX7_count_34 rfl ?_
      by_cases g2 : x1 = nI 0
      · replace hf := (if_pos g2).symm.trans hf
        refine aw_tableIn (off := 53) 88 dX7_count_35 (by rw [g2]; decide) (by rw [g2]; decide) (by rw [g2]; decide) rfl ?_
        refine aw_aload_n dX7_count_88 rfl (aw_getr fkX7_7 (nl hN rfl) kd_39 (Nat.le_of_ble_eq_true rfl) rfl dX7_count_89 (aw_iload_n dX7_count_92 rfl ?_))
        obtain ⟨g3, hf⟩ := ogd hf
        cases hf
        exact aw_iald (nl hN rfl) kd_40 g3 dX7_count_93 (aw_iret rfl dX7_count_94)
      · replace hf := (if_neg g2).symm.trans hf
        by_cases g4 : x1 = nI 1
        · replace hf := (if_pos g4).symm.trans hf
          refine aw_tableIn (off := 53) 88 dX7_count_35 (by rw [g4]; decide) (by rw [g4]; decide) (by rw [g4]; decide) rfl ?_
          refine aw_aload_n dX7_count_88 rfl (aw_getr fkX7_7 (nl hN rfl) kd_39 (Nat.le_of_ble_eq_true rfl) rfl dX7_count_89 (aw_iload_n dX7_count_92 rfl ?_))
          obtain ⟨g5, hf⟩ := ogd hf
          cases hf
          exact aw_iald (nl hN rfl) kd_40 g5 dX7_count_93 (aw_iret rfl dX7_count_94)
        · replace hf := (if_neg g4).symm.trans hf
          by_cases g6 : x1 = nI 2
          · replace hf := (if_pos g6).symm.trans hf
            refine aw_tableIn (off := 53) 88 dX7_count_35 (by rw [g6]; decide) (by rw [g6]; decide) (by rw [g6]; decide) rfl ?_
            refine aw_aload_n dX7_count_88 rfl (aw_getr fkX7_7 (nl hN rfl) kd_39 (Nat.le_of_ble_eq_true rfl) rfl dX7_count_89 (aw_iload_n dX7_count_92 rfl ?_))
            obtain ⟨g7, hf⟩ := ogd hf
            cases hf
            exact aw_iald (nl hN rfl) kd_40 g7 dX7_count_93 (aw_iret rfl dX7_count_94)
          · replace hf := (if_neg g6).symm.trans hf
            by_cases g8 : x1 = nI 3
            · replace hf := (if_pos g8).symm.trans hf
              refine aw_tableIn (off := 60) 95 dX7_count_35 (by rw [g8]; decide) (by rw [g8]; decide) (by rw [g8]; decide) rfl ?_
              cases hf
              exact aw_iload_n dX7_count_95 rfl (aw_iret rfl dX7_count_96)
            · replace hf := (if_neg g8).symm.trans hf
              by_cases g9 : x1 = nI 4
              · replace hf := (if_pos g9).symm.trans hf
                refine aw_tableIn (off := 62) 97 dX7_count_35 (by rw [g9]; decide) (by rw [g9]; decide) (by rw [g9]; decide) rfl ?_
                cases hf
                exact aw_aload_n dX7_count_97 rfl (aw_getr fkX7_19 (nl hN rfl) kd_39 (Nat.le_of_ble_eq_true rfl) rfl dX7_count_98 (aw_iconst (nI 1) dX7_count_101 ki_1 (aw_ialdk (j := 1) cx_1 (nl hN rfl) kd_43 ib_1_66 dX7_count_102 (aw_iret rfl dX7_count_103))))
              · replace hf := (if_neg g9).symm.trans hf
                by_cases g10 : x1 = nI 5
                · replace hf := (if_pos g10).symm.trans hf
                  refine aw_tableIn (off := 69) 104 dX7_count_35 (by rw [g10]; decide) (by rw [g10]; decide) (by rw [g10]; decide) rfl ?_
                  cases hf
                  exact aw_aload_n dX7_count_104 rfl (aw_getr fkX7_19 (nl hN rfl) kd_39 (Nat.le_of_ble_eq_true rfl) rfl dX7_count_105 (aw_iconst (nI 0) dX7_count_108 ki_0 (aw_ialdk (j := 0) cx_0 (nl hN rfl) kd_43 ib_0_66 dX7_count_109 (aw_iret rfl dX7_count_110))))
                · replace hf := (if_neg g10).symm.trans hf
                  by_cases g11 : x1 = nI 6
                  · replace hf := (if_pos g11).symm.trans hf
                    refine aw_tableIn (off := 76) 111 dX7_count_35 (by rw [g11]; decide) (by rw [g11]; decide) (by rw [g11]; decide) rfl ?_
                    cases hf
                    exact aw_aload_n dX7_count_111 rfl (aw_geti fkX7_140 (nl hN rfl) kd_39 (Nat.le_of_ble_eq_true rfl) rfl dX7_count_112 (aw_iret rfl dX7_count_115))
                  · replace hf := (if_neg g11).symm.trans hf
                    by_cases g12 : x1 = nI 7
                    · replace hf := (if_pos g12).symm.trans hf
                      refine aw_tableIn (off := 81) 116 dX7_count_35 (by rw [g12]; decide) (by rw [g12]; decide) (by rw [g12]; decide) rfl ?_
                      cases hf
                      exact aw_aload_n dX7_count_116 rfl (aw_geti fkX7_143 (nl hN rfl) kd_39 (Nat.le_of_ble_eq_true rfl) rfl dX7_count_117 (aw_iret rfl dX7_count_120))
                    · replace hf := (if_neg g12).symm.trans hf
                      by_cases g13 : x1 = nI 8
                      · replace hf := (if_pos g13).symm.trans hf
                        refine aw_tableIn (off := 86) 121 dX7_count_35 (by rw [g13]; decide) (by rw [g13]; decide) (by rw [g13]; decide) rfl ?_
                        cases hf
                        exact aw_aload_n dX7_count_121 rfl (aw_geti fkX7_146 (nl hN rfl) kd_39 (Nat.le_of_ble_eq_true rfl) rfl dX7_count_122 (aw_iret rfl dX7_count_125))
                      · replace hf := (if_neg g13).symm.trans hf
                        by_cases g14 : x1 = nI 9
                        · replace hf := (if_pos g14).symm.trans hf
                          refine aw_tableIn (off := 91) 126 dX7_count_35 (by rw [g14]; decide) (by rw [g14]; decide) (by rw [g14]; decide) rfl ?_
                          cases hf
                          exact aw_aload_n dX7_count_126 rfl (aw_geti fkX7_81 (nl hN rfl) kd_39 (Nat.le_of_ble_eq_true rfl) rfl dX7_count_127 (aw_iret rfl dX7_count_130))
                        · replace hf := (if_neg g14).symm.trans hf
                          refine aw_tableOut 131 dX7_count_35 (tbl_out 9 [nI 0, nI 1, nI 2, nI 3, nI 4, nI 5, nI 6, nI 7, nI 8, nI 9] (by rfl) (by intro k hk; simp only [List.mem_cons, List.not_mem_nil, or_false] at hk; rcases hk with rfl | rfl | rfl | rfl | rfl | rfl | rfl | rfl | rfl | rfl <;> assumption)) rfl ?_
                          cases hf
                          exact aw_iconst (-1) dX7_count_131 ki_m1 (aw_iret rfl dX7_count_132)
    · replace hf := (if_neg g1).symm.trans hf
      refine aw_iload_n dX7_count_14 rfl (aw_aload_n dX7_count_15 rfl (aw_getr fkX7_19 (nl hN rfl) kd_39 (Nat.le_of_ble_eq_true rfl) rfl dX7_count_16 (aw_iconst (nI 2) dX7_count_19 ki_2 (aw_iload_n dX7_count_20 rfl (aw_iadd dX7_count_21 ?_)))))
      obtain ⟨g15, hf⟩ := ogd hf
      refine aw_iald (nl hN rfl) kd_43 g15 dX7_count_22 ?_
      obtain ⟨v18, h16, c17, hf⟩ := ob_some hf
      refine aw_callSi (N := mX7_bits) (As := [.int (h 43 (ix ((nI 2) + x3)))]) lkX7_114 okX7_bits (by rfl) (by rfl) (Nat.le_of_ble_eq_true rfl) ry_X7_count_X7_bits dX7_count_23 (And.intro (Nat.le_refl _) (Nat.le_refl _)) (ct_X7_bits hE hN F c17) (aw_iadd dX7_count_26 (aw_istore_n dX7_count_27 (Nat.le_of_ble_eq_true rfl) (aw_iinc (nI 1) dX7_count_28 rfl (Nat.le_of_ble_eq_true rfl) ki_1 (aw_goto 4 dX7_count_31 rfl ?_))))
      exact aw_dk (ih _ _ _ hf) (And.intro rfl (And.intro rfl (And.intro rfl (And.intro rfl trivial))))
set_option maxHeartbeats 4000000 in
set_option maxRecDepth 100000 in
theorem ct_X7_count {E : EV} (hE : EI E) (hN : 56 ≤ eN E) (F : Nat) {tw : TW} {x1 : Int32} {h : HP} {v : Int32} {h' : HP} (hf : f_X7_count F x1 h = some (v, h')) : CT E mX7_count tw h [.ref 39, .int x1] (some (.int v)) tw h' := by
  refine CT.of hE (show plainFor yX7_count = true by decide +kernel) (Nat.le_of_ble_eq_true rfl) 2 ?_
  show AW E mX7_count (KM E mX7_count (some (.int v)) tw h') tw h 0 [some (.ref 39), some (.int x1), none, none] []
  unfold f_X7_count at hf
  refine aw_iconst (nI 0) dX7_count_0 ki_0 (aw_istore_n dX7_count_1 (Nat.le_of_ble_eq_true rfl) (aw_iconst (nI 0) dX7_count_2 ki_0 (aw_istore_n dX7_count_3 (Nat.le_of_ble_eq_true rfl) ?_)))
  exact aw_dk (ct_X7_count_4 hE hN F F _ _ _ hf) (And.intro rfl (And.intro rfl (And.intro rfl (And.intro rfl trivial))))
