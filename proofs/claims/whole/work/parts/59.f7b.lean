set_option maxHeartbeats 4000000 in
set_option maxRecDepth 100000 in
theorem ct_X7_comesNext {E : EV} (hE : EI E) (hN : 56 ≤ eN E) (F : Nat) {tw : TW} {r1 : Nat} (q1 : IA E r1) {h : HP} {v : Int32} {h' : HP} (hf : f_X7_comesNext F r1 h = some (v, h')) : CT E mX7_comesNext tw h [.ref 39, .ref r1] (some (.int v)) tw h' := by
  refine CT.of hE (show plainFor yX7_comesNext = true by decide +kernel) (Nat.le_of_ble_eq_true rfl) 0 ?_
  show AW E mX7_comesNext (KM E mX7_comesNext (some (.int v)) tw h') tw h 0 [some (.ref 39), some (.ref r1)] []
  unfold f_X7_comesNext at hf
  refine aw_aload_n dX7_comesNext_0 rfl (aw_aload_n dX7_comesNext_1 rfl (aw_aload_n dX7_comesNext_2 rfl (aw_iconst (nI 0) dX7_comesNext_3 ki_0 ?_)))
  obtain ⟨g1, hf⟩ := ogd hf
  have key5 : AW E mX7_comesNext (KM E mX7_comesNext (some (.int v)) tw h') tw h 25 [some (.ref 39), some (.ref r1)] [.int (if (h r1 0) < ((h 40 1) - (nI 1)) then (h r1 0) + (nI 1) else (nI 0)), .ref r1, .ref 39] := by
    obtain ⟨v4, h2, c3, hf⟩ := ob_some hf
    cases hf
    exact aw_callVi (N := mX7_rings) (As := [.ref r1, .int (if (h r1 0) < ((h 40 1) - (nI 1)) then (h r1 0) + (nI 1) else (nI 0))]) lkX7_155 okX7_rings (nl hN rfl) kd_39 rfl (by rfl) (by rfl) (Nat.le_of_ble_eq_true rfl) ry_X7_comesNext_X7_rings dX7_comesNext_25 (And.intro (Nat.le_refl _) (Nat.le_refl _)) (ct_X7_rings hE hN F q1 c3) (aw_iret rfl dX7_comesNext_28)
  refine aw_ialdk (j := 0) cx_0 q1.2 q1.1 g1 dX7_comesNext_4 (aw_aload_n dX7_comesNext_5 rfl (aw_getr fkX7_7 (nl hN rfl) kd_39 (Nat.le_of_ble_eq_true rfl) rfl dX7_comesNext_6 (aw_iconst (nI 1) dX7_comesNext_9 ki_1 (aw_ialdk (j := 1) cx_1 (nl hN rfl) kd_40 ib_1_19 dX7_comesNext_10 (aw_iconst (nI 1) dX7_comesNext_11 ki_1 (aw_isub dX7_comesNext_12 ?_))))))
  refine aw_icmp_lt 20 dX7_comesNext_13 rfl (fun g6 => ?_) (fun g6 => ?_)
  · skip
    refine aw_aload_n dX7_comesNext_20 rfl (aw_iconst (nI 0) dX7_comesNext_21 ki_0 (aw_ialdk (j := 0) cx_0 q1.2 q1.1 g1 dX7_comesNext_22 (aw_iconst (nI 1) dX7_comesNext_23 ki_1 (aw_iadd dX7_comesNext_24 ?_))))
    simp only [if_pos g6] at key5 ⊢
    exact aw_dk key5 (And.intro rfl (And.intro rfl trivial))
  · skip
    refine aw_iconst (nI 0) dX7_comesNext_16 ki_0 (aw_goto 25 dX7_comesNext_17 rfl ?_)
    simp only [if_neg g6] at key5 ⊢
    exact aw_dk key5 (And.intro rfl (And.intro rfl trivial))
set_option maxHeartbeats 4000000 in
set_option maxRecDepth 100000 in
theorem ct_X7_bell_15 {E : EV} (hE : EI E) (hN : 56 ≤ eN E) (F : Nat) {tw : TW} {x1 : Int32} {x2 : Int32} {v : Int32} {h' : HP} : ∀ (n : Nat) (x3 : Int32) (x4 : Int32) (h : HP), f_X7_bell_15 F x1 x2 n x3 x4 h = some (v, h') → AW E mX7_bell (KM E mX7_bell (some (.int v)) tw h') tw h 15 [some (.ref 39), some (.int x1), some (.int x2), some (.int x3), some (.int x4)] [] := by
  intro n
  induction n with
  | zero => intro x3 x4 h hf; exact absurd (show (none : Option (Int32 × HP)) = some _ from hf) (fun z => nomatch z)
  | succ n ih =>
    intro x3 x4 h hf
    rw [f_X7_bell_15] at hf
    refine aw_iload dX7_bell_15 rfl (aw_aload_n dX7_bell_17 rfl (aw_getr fkX7_7 (nl hN rfl) kd_39 (Nat.le_of_ble_eq_true rfl) rfl dX7_bell_18 (aw_iconst (nI 1) dX7_bell_21 ki_1 (aw_ialdk (j := 1) cx_1 (nl hN rfl) kd_40 ib_1_19 dX7_bell_22 ?_))))
    refine aw_icmp_ge 56 dX7_bell_23 rfl (fun g5 => ?_) (fun g5 => ?_)
    · replace hf := (if_pos g5).symm.trans hf
      refine aw_iload_n dX7_bell_56 rfl ?_
      by_cases g6 : x2 = nI 0
      · replace hf := (if_pos g6).symm.trans hf
        refine aw_tableIn (off := 35) 92 dX7_bell_57 (by rw [g6]; decide) (by rw [g6]; decide) (by rw [g6]; decide) rfl ?_
        refine aw_aload_n dX7_bell_92 rfl (aw_getr fkX7_7 (nl hN rfl) kd_39 (Nat.le_of_ble_eq_true rfl) rfl dX7_bell_93 (aw_iconst (nI 3) dX7_bell_96 ki_3 (aw_iload_n dX7_bell_97 rfl (aw_iadd dX7_bell_98 ?_))))
        obtain ⟨g7, hf⟩ := ogd hf
        cases hf
        exact aw_iald (nl hN rfl) kd_40 g7 dX7_bell_99 (aw_iret rfl dX7_bell_100)
      · replace hf := (if_neg g6).symm.trans hf
        by_cases g8 : x2 = nI 1
        · replace hf := (if_pos g8).symm.trans hf
          refine aw_tableIn (off := 44) 101 dX7_bell_57 (by rw [g8]; decide) (by rw [g8]; decide) (by rw [g8]; decide) rfl ?_
          refine aw_aload_n dX7_bell_101 rfl (aw_getr fkX7_7 (nl hN rfl) kd_39 (Nat.le_of_ble_eq_true rfl) rfl dX7_bell_102 (aw_bipush (nI 11) dX7_bell_105 kb_11 (aw_iload_n dX7_bell_107 rfl (aw_iadd dX7_bell_108 ?_))))
          obtain ⟨g9, hf⟩ := ogd hf
          cases hf
          exact aw_iald (nl hN rfl) kd_40 g9 dX7_bell_109 (aw_iret rfl dX7_bell_110)
        · replace hf := (if_neg g8).symm.trans hf
          by_cases g10 : x2 = nI 2
          · replace hf := (if_pos g10).symm.trans hf
            refine aw_tableIn (off := 54) 111 dX7_bell_57 (by rw [g10]; decide) (by rw [g10]; decide) (by rw [g10]; decide) rfl ?_
            cases hf
            exact aw_iload_n dX7_bell_111 rfl (aw_iret rfl dX7_bell_112)
          · replace hf := (if_neg g10).symm.trans hf
            by_cases g11 : x2 = nI 3
            · replace hf := (if_pos g11).symm.trans hf
              refine aw_tableIn (off := 56) 113 dX7_bell_57 (by rw [g11]; decide) (by rw [g11]; decide) (by rw [g11]; decide) rfl ?_
              refine aw_aload_n dX7_bell_113 rfl (aw_getr fkX7_19 (nl hN rfl) kd_39 (Nat.le_of_ble_eq_true rfl) rfl dX7_bell_114 (aw_bipush (nI 50) dX7_bell_117 kb_50 (aw_iload_n dX7_bell_119 rfl (aw_iadd dX7_bell_120 ?_))))
              obtain ⟨g12, hf⟩ := ogd hf
              cases hf
              exact aw_iald (nl hN rfl) kd_43 g12 dX7_bell_121 (aw_iret rfl dX7_bell_122)
            · replace hf := (if_neg g11).symm.trans hf
              by_cases g13 : x2 = nI 4
              · replace hf := (if_pos g13).symm.trans hf
                refine aw_tableIn (off := 66) 123 dX7_bell_57 (by rw [g13]; decide) (by rw [g13]; decide) (by rw [g13]; decide) rfl ?_
                refine aw_aload_n dX7_bell_123 rfl (aw_getr fkX7_19 (nl hN rfl) kd_39 (Nat.le_of_ble_eq_true rfl) rfl dX7_bell_124 (aw_bipush (nI 58) dX7_bell_127 kb_58 (aw_iload_n dX7_bell_129 rfl (aw_iadd dX7_bell_130 ?_))))
                obtain ⟨g14, hf⟩ := ogd hf
                cases hf
                exact aw_iald (nl hN rfl) kd_43 g14 dX7_bell_131 (aw_iret rfl dX7_bell_132)
              · replace hf := (if_neg g13).symm.trans hf
                refine aw_tableOut 133 dX7_bell_57 (tbl_out 4 [nI 0, nI 1, nI 2, nI 3, nI 4] (by rfl) (by intro k hk; simp only [List.mem_cons, List.not_mem_nil, or_false] at hk; rcases hk with rfl | rfl | rfl | rfl | rfl <;> assumption)) rfl ?_
                cases hf
                exact aw_iconst (-1) dX7_bell_133 ki_m1 (aw_iret rfl dX7_bell_134)
    · replace hf := (if_neg g5).symm.trans hf
      refine aw_iload_n dX7_bell_26 rfl (aw_aload_n dX7_bell_27 rfl (aw_getr fkX7_19 (nl hN rfl) kd_39 (Nat.le_of_ble_eq_true rfl) rfl dX7_bell_28 (aw_iconst (nI 2) dX7_bell_31 ki_2 (aw_iload dX7_bell_32 rfl (aw_iadd dX7_bell_34 ?_)))))
      obtain ⟨g15, hf⟩ := ogd hf
      refine aw_iald (nl hN rfl) kd_43 g15 dX7_bell_35 (aw_iload_n dX7_bell_36 rfl ?_)
      obtain ⟨v18, h16, c17, hf⟩ := ob_some hf
      have key19 : AW E mX7_bell (KM E mX7_bell (some (.int v)) tw h') tw h16 48 [some (.ref 39), some (.int x1), some (.int x2), some (.int x3), some (.int x4)] [.int (if v18 = nI 0 then (nI 0) else (nI 1)), .int x3] := by
        refine aw_iadd dX7_bell_48 (aw_istore_n dX7_bell_49 (Nat.le_of_ble_eq_true rfl) (aw_iinc (nI 1) dX7_bell_50 rfl (Nat.le_of_ble_eq_true rfl) ki_1 (aw_goto 15 dX7_bell_53 rfl ?_)))
        exact aw_dk (ih _ _ _ hf) (And.intro rfl (And.intro rfl (And.intro rfl (And.intro rfl (And.intro rfl trivial)))))
      refine aw_callSi (N := mX7_has) (As := [.int (h 43 (ix ((nI 2) + x4))), .int x1]) lkX7_152 okX7_has (by rfl) (by rfl) (Nat.le_of_ble_eq_true rfl) ry_X7_bell_X7_has dX7_bell_37 (And.intro (Nat.le_refl _) (Nat.le_refl _)) (ct_X7_has hE hN F c17) ?_
      refine aw_if_eq 47 dX7_bell_40 rfl (fun g20 => ?_) (fun g20 => ?_)
      · skip
        refine aw_iconst (nI 0) dX7_bell_47 ki_0 ?_
        simp only [if_pos g20] at key19 ⊢
        exact aw_dk key19 (And.intro rfl (And.intro rfl (And.intro rfl (And.intro rfl (And.intro rfl trivial)))))
      · skip
        refine aw_iconst (nI 1) dX7_bell_43 ki_1 (aw_goto 48 dX7_bell_44 rfl ?_)
        simp only [if_neg g20] at key19 ⊢
        exact aw_dk key19 (And.intro rfl (And.intro rfl (And.intro rfl (And.intro rfl (And.intro rfl trivial)))))
set_option maxHeartbeats 4000000 in
set_option maxRecDepth 100000 in
theorem ct_X7_bell {E : EV} (hE : EI E) (hN : 56 ≤ eN E) (F : Nat) {tw : TW} {x1 : Int32} {x2 : Int32} {h : HP} {v : Int32} {h' : HP} (hf : f_X7_bell F x1 x2 h = some (v, h')) : CT E mX7_bell tw h [.ref 39, .int x1, .int x2] (some (.int v)) tw h' := by
  refine CT.of hE (show plainFor yX7_bell = true by decide +kernel) (Nat.le_of_ble_eq_true rfl) 2 ?_
  show AW E mX7_bell (KM E mX7_bell (some (.int v)) tw h') tw h 0 [some (.ref 39), some (.int x1), some (.int x2), none, none] []
  unfold f_X7_bell at hf
  refine aw_aload_n dX7_bell_0 rfl (aw_iload_n dX7_bell_1 rfl ?_)
  obtain ⟨v3, h1, c2, hf⟩ := ob_some hf
  refine aw_callVi (N := mX7_isBell) (As := [.int x1]) lkX7_159 okX7_isBell (nl hN rfl) kd_39 rfl (by rfl) (by rfl) (Nat.le_of_ble_eq_true rfl) ry_X7_bell_X7_isBell dX7_bell_2 (And.intro (Nat.le_refl _) (Nat.le_refl _)) (ct_X7_isBell hE hN F c2) ?_
  refine aw_if_ne 10 dX7_bell_5 rfl (fun g4 => ?_) (fun g4 => ?_)
  · replace hf := (if_neg g4).symm.trans hf
    refine aw_iconst (nI 0) dX7_bell_10 ki_0 (aw_istore_n dX7_bell_11 (Nat.le_of_ble_eq_true rfl) (aw_iconst (nI 0) dX7_bell_12 ki_0 (aw_istore dX7_bell_13 (Nat.le_of_ble_eq_true rfl) ?_)))
    exact aw_dk (ct_X7_bell_15 hE hN F F _ _ _ hf) (And.intro rfl (And.intro rfl (And.intro rfl (And.intro rfl (And.intro rfl trivial)))))
  · replace hf := (if_pos g4).symm.trans hf
    cases hf
    exact aw_iconst (-1) dX7_bell_8 ki_m1 (aw_iret rfl dX7_bell_9)
set_option maxHeartbeats 4000000 in
set_option maxRecDepth 100000 in
theorem ct_X7_pins {E : EV} (hE : EI E) (hN : 56 ≤ eN E) (F : Nat) {tw : TW} {x1 : Int32} {h : HP} {v : Int32} {h' : HP} (hf : f_X7_pins F x1 h = some (v, h')) : CT E mX7_pins tw h [.ref 39, .int x1] (some (.int v)) tw h' := by
  refine CT.of hE (show plainFor yX7_pins = true by decide +kernel) (Nat.le_of_ble_eq_true rfl) 0 ?_
  show AW E mX7_pins (KM E mX7_pins (some (.int v)) tw h') tw h 0 [some (.ref 39), some (.int x1)] []
  unfold f_X7_pins at hf
  refine aw_aload_n dX7_pins_0 rfl (aw_iload_n dX7_pins_1 rfl ?_)
  obtain ⟨v3, h1, c2, hf⟩ := ob_some hf
  refine aw_callVi (N := mX7_isRow) (As := [.int x1]) lkX7_162 okX7_isRow (nl hN rfl) kd_39 rfl (by rfl) (by rfl) (Nat.le_of_ble_eq_true rfl) ry_X7_pins_X7_isRow dX7_pins_2 (And.intro (Nat.le_refl _) (Nat.le_refl _)) (ct_X7_isRow hE hN F c2) ?_
  refine aw_if_eq 19 dX7_pins_5 rfl (fun g4 => ?_) (fun g4 => ?_)
  · replace hf := (if_pos g4).symm.trans hf
    cases hf
    exact aw_iconst (-1) dX7_pins_19 ki_m1 (aw_iret rfl dX7_pins_20)
  · replace hf := (if_neg g4).symm.trans hf
    refine aw_aload_n dX7_pins_8 rfl (aw_getr fkX7_19 (nl hN rfl) kd_39 (Nat.le_of_ble_eq_true rfl) rfl dX7_pins_9 (aw_iconst (nI 2) dX7_pins_12 ki_2 (aw_iload_n dX7_pins_13 rfl (aw_iadd dX7_pins_14 ?_))))
    obtain ⟨g5, hf⟩ := ogd hf
    cases hf
    exact aw_iald (nl hN rfl) kd_43 g5 dX7_pins_15 (aw_goto 20 dX7_pins_16 rfl (aw_iret rfl dX7_pins_20))
set_option maxHeartbeats 4000000 in
set_option maxRecDepth 100000 in
theorem ct_X7_copies_3 {E : EV} (hE : EI E) (hN : 56 ≤ eN E) (F : Nat) {tw : TW} {r0 : Nat} (q0 : IA E r0) {x1 : Int32} {r2 : Nat} (q2 : IA E r2) {x3 : Int32} {h' : HP} : ∀ (n : Nat) (x4 : Int32) (h : HP), f_X7_copies_3 F r0 x1 r2 x3 n x4 h = some h' → AW E mX7_copies (KM E mX7_copies none tw h') tw h 3 [some (.ref r0), some (.int x1), some (.ref r2), some (.int x3), some (.int x4)] [] := by
  intro n
  induction n with
  | zero => intro x4 h hf; exact absurd (show (none : Option (HP)) = some _ from hf) (fun z => nomatch z)
  | succ n ih =>
    intro x4 h hf
    rw [f_X7_copies_3] at hf
    refine aw_iload dX7_copies_3 rfl (aw_bipush (nI 66) dX7_copies_5 kb_66 ?_)
    refine aw_icmp_ge 28 dX7_copies_7 rfl (fun g1 => ?_) (fun g1 => ?_)
    · replace hf := (if_pos g1).symm.trans hf
      cases hf
      exact aw_vret rfl dX7_copies_28
    · replace hf := (if_neg g1).symm.trans hf
      refine aw_aload_n dX7_copies_10 rfl (aw_iload_n dX7_copies_11 rfl (aw_iload dX7_copies_12 rfl (aw_iadd dX7_copies_14 (aw_aload_n dX7_copies_15 rfl (aw_iload_n dX7_copies_16 rfl (aw_iload dX7_copies_17 rfl (aw_iadd dX7_copies_19 ?_)))))))
      obtain ⟨g2, hf⟩ := ogd hf
      refine aw_iald q0.2 q0.1 g2 dX7_copies_20 ?_
      obtain ⟨g3, hf⟩ := ogd hf
      refine aw_iast q2.2 q2.1 g3 dX7_copies_21 (aw_iinc (nI 1) dX7_copies_22 rfl (Nat.le_of_ble_eq_true rfl) ki_1 (aw_goto 3 dX7_copies_25 rfl ?_))
      exact aw_dk (ih _ _ hf) (And.intro rfl (And.intro rfl (And.intro rfl (And.intro rfl (And.intro rfl trivial)))))
set_option maxHeartbeats 4000000 in
set_option maxRecDepth 100000 in
theorem ct_X7_copies {E : EV} (hE : EI E) (hN : 56 ≤ eN E) (F : Nat) {tw : TW} {r0 : Nat} (q0 : IA E r0) {x1 : Int32} {r2 : Nat} (q2 : IA E r2) {x3 : Int32} {h : HP} {h' : HP} (hf : f_X7_copies F r0 x1 r2 x3 h = some h') : CT E mX7_copies tw h [.ref r0, .int x1, .ref r2, .int x3] none tw h' := by
  refine CT.of hE (show plainFor yX7_copies = true by decide +kernel) (Nat.le_of_ble_eq_true rfl) 1 ?_
  show AW E mX7_copies (KM E mX7_copies none tw h') tw h 0 [some (.ref r0), some (.int x1), some (.ref r2), some (.int x3), none] []
  unfold f_X7_copies at hf
  refine aw_iconst (nI 0) dX7_copies_0 ki_0 (aw_istore dX7_copies_1 (Nat.le_of_ble_eq_true rfl) ?_)
  exact aw_dk (ct_X7_copies_3 hE hN F q0 q2 F _ _ hf) (And.intro rfl (And.intro rfl (And.intro rfl (And.intro rfl (And.intro rfl trivial)))))
set_option maxHeartbeats 4000000 in
set_option maxRecDepth 100000 in
theorem ct_X7_remember_49 {E : EV} (hE : EI E) (hN : 56 ≤ eN E) (F : Nat) {tw : TW}  {h' : HP} : ∀  (h : HP), f_X7_remember_49 F  h = some h' → AW E mX7_remember (KM E mX7_remember none tw h') tw h 49 [some (.ref 39), none] [] := by
  intro  h hf
  unfold f_X7_remember_49 at hf
  refine aw_aload_n dX7_remember_49 rfl (aw_getr fkX7_19 (nl hN rfl) kd_39 (Nat.le_of_ble_eq_true rfl) rfl dX7_remember_50 (aw_iconst (nI 0) dX7_remember_53 ki_0 (aw_aload_n dX7_remember_54 rfl (aw_getr fkX7_22 (nl hN rfl) kd_39 (Nat.le_of_ble_eq_true rfl) rfl dX7_remember_55 (aw_bipush (nI 66) dX7_remember_58 kb_66 (aw_aload_n dX7_remember_60 rfl (aw_geti fkX7_143 (nl hN rfl) kd_39 (Nat.le_of_ble_eq_true rfl) rfl dX7_remember_61 (aw_imul dX7_remember_64 ?_))))))))
  obtain ⟨h2, c3, hf⟩ := obv_some hf
  cases hf
  exact aw_callSv (N := mX7_copies) (As := [.ref 43, .int (nI 0), .ref 44, .int ((nI 66) * (h 39 6))]) lkX7_165 okX7_copies (by rfl) (by rfl) (Nat.le_of_ble_eq_true rfl) ry_X7_remember_X7_copies dX7_remember_65 (And.intro (Nat.le_refl _) (Nat.le_refl _)) (ct_X7_copies hE hN F (IA.of kd_43 (nl hN rfl)) (IA.of kd_44 (nl hN rfl)) c3) (aw_aload_n dX7_remember_68 rfl (aw_dup dX7_remember_69 rfl (aw_geti fkX7_143 (nl hN rfl) kd_39 (Nat.le_of_ble_eq_true rfl) rfl dX7_remember_70 (aw_iconst (nI 1) dX7_remember_73 ki_1 (aw_iadd dX7_remember_74 (aw_puti fkX7_143 fw_7_6 (nl hN rfl) kd_39 (Nat.le_of_ble_eq_true rfl) rfl dX7_remember_75 (aw_vret rfl dX7_remember_78)))))))
set_option maxHeartbeats 4000000 in
set_option maxRecDepth 100000 in
theorem ct_X7_remember_11 {E : EV} (hE : EI E) (hN : 56 ≤ eN E) (F : Nat) {tw : TW}  {h' : HP} : ∀ (n : Nat) (x1 : Int32) (h : HP), f_X7_remember_11 F n x1 h = some h' → AW E mX7_remember (KM E mX7_remember none tw h') tw h 11 [some (.ref 39), some (.int x1)] [] := by
  intro n
  induction n with
  | zero => intro x1 h hf; exact absurd (show (none : Option (HP)) = some _ from hf) (fun z => nomatch z)
  | succ n ih =>
    intro x1 h hf
    rw [f_X7_remember_11] at hf
    refine aw_iload_n dX7_remember_11 rfl (aw_sipush (nI 462) dX7_remember_12 ks_462 ?_)
    refine aw_icmp_ge 39 dX7_remember_15 rfl (fun g4 => ?_) (fun g4 => ?_)
    · replace hf := (if_pos g4).symm.trans hf
      refine aw_aload_n dX7_remember_39 rfl (aw_dup dX7_remember_40 rfl (aw_geti fkX7_143 (nl hN rfl) kd_39 (Nat.le_of_ble_eq_true rfl) rfl dX7_remember_41 (aw_iconst (nI 1) dX7_remember_44 ki_1 (aw_isub dX7_remember_45 (aw_puti fkX7_143 fw_7_6 (nl hN rfl) kd_39 (Nat.le_of_ble_eq_true rfl) rfl dX7_remember_46 ?_)))))
      exact aw_dk (ct_X7_remember_49 hE hN F _ hf) (And.intro rfl trivial)
    · replace hf := (if_neg g4).symm.trans hf
      refine aw_aload_n dX7_remember_18 rfl (aw_getr fkX7_22 (nl hN rfl) kd_39 (Nat.le_of_ble_eq_true rfl) rfl dX7_remember_19 (aw_iload_n dX7_remember_22 rfl (aw_aload_n dX7_remember_23 rfl (aw_getr fkX7_22 (nl hN rfl) kd_39 (Nat.le_of_ble_eq_true rfl) rfl dX7_remember_24 (aw_iload_n dX7_remember_27 rfl (aw_bipush (nI 66) dX7_remember_28 kb_66 (aw_iadd dX7_remember_30 ?_)))))))
      obtain ⟨g5, hf⟩ := ogd hf
      refine aw_iald (nl hN rfl) kd_44 g5 dX7_remember_31 ?_
      obtain ⟨g6, hf⟩ := ogd hf
      refine aw_iast (nl hN rfl) kd_44 g6 dX7_remember_32 (aw_iinc (nI 1) dX7_remember_33 rfl (Nat.le_of_ble_eq_true rfl) ki_1 (aw_goto 11 dX7_remember_36 rfl ?_))
      exact aw_dk (ih _ _ hf) (And.intro rfl (And.intro rfl trivial))
set_option maxHeartbeats 4000000 in
set_option maxRecDepth 100000 in
theorem ct_X7_remember {E : EV} (hE : EI E) (hN : 56 ≤ eN E) (F : Nat) {tw : TW}  {h : HP} {h' : HP} (hf : f_X7_remember F  h = some h') : CT E mX7_remember tw h [.ref 39] none tw h' := by
  refine CT.of hE (show plainFor yX7_remember = true by decide +kernel) (Nat.le_of_ble_eq_true rfl) 1 ?_
  show AW E mX7_remember (KM E mX7_remember none tw h') tw h 0 [some (.ref 39), none] []
  unfold f_X7_remember at hf
  refine aw_aload_n dX7_remember_0 rfl (aw_geti fkX7_143 (nl hN rfl) kd_39 (Nat.le_of_ble_eq_true rfl) rfl dX7_remember_1 (aw_bipush (nI 8) dX7_remember_4 kb_8 ?_))
  refine aw_icmp_ne 49 dX7_remember_6 rfl (fun g1 => ?_) (fun g1 => ?_)
  · replace hf := (if_neg g1).symm.trans hf
    exact aw_dk (ct_X7_remember_49 hE hN F _ hf) (And.intro rfl trivial)
  · replace hf := (if_pos g1).symm.trans hf
    refine aw_iconst (nI 0) dX7_remember_9 ki_0 (aw_istore_n dX7_remember_10 (Nat.le_of_ble_eq_true rfl) ?_)
    exact aw_dk (ct_X7_remember_11 hE hN F F _ _ hf) (And.intro rfl (And.intro rfl trivial))
set_option maxHeartbeats 4000000 in
set_option maxRecDepth 100000 in
theorem ct_X7_turn {E : EV} (hE : EI E) (hN : 56 ≤ eN E) (F : Nat) {tw : TW}  {h : HP} {v : Int32} {h' : HP} (hf : f_X7_turn F  h = some (v, h')) : CT E mX7_turn tw h [.ref 39] (some (.int v)) tw h' := by
  refine CT.of hE (show plainFor yX7_turn = true by decide +kernel) (Nat.le_of_ble_eq_true rfl) 0 ?_
  show AW E mX7_turn (KM E mX7_turn (some (.int v)) tw h') tw h 0 [some (.ref 39)] []
  unfold f_X7_turn at hf
  refine aw_aload_n dX7_turn_0 rfl ?_
  obtain ⟨h1, c2, hf⟩ := obv_some hf
  refine aw_callVv (N := mX7_remember) (As := []) lkX7_169 okX7_remember (nl hN rfl) kd_39 rfl (by rfl) (by rfl) (Nat.le_of_ble_eq_true rfl) ry_X7_turn_X7_remember dX7_turn_1 (And.intro (Nat.le_refl _) (Nat.le_refl _)) (ct_X7_remember hE hN F c2) (aw_aload_n dX7_turn_4 rfl (aw_aload_n dX7_turn_5 rfl (aw_getr fkX7_19 (nl hN rfl) kd_39 (Nat.le_of_ble_eq_true rfl) rfl dX7_turn_6 ?_)))
  obtain ⟨v5, h3, c4, hf⟩ := ob_some hf
  cases hf
  exact aw_callVi (N := mX7_comesNext) (As := [.ref 43]) lkX7_172 okX7_comesNext (nl hN rfl) kd_39 rfl (by rfl) (by rfl) (Nat.le_of_ble_eq_true rfl) ry_X7_turn_X7_comesNext dX7_turn_9 (And.intro (Nat.le_refl _) (Nat.le_refl _)) (ct_X7_comesNext hE hN F (IA.of kd_43 (nl hN rfl)) c4) (aw_iret rfl dX7_turn_12)
set_option maxHeartbeats 4000000 in
set_option maxRecDepth 100000 in
theorem ct_X7_turnBack {E : EV} (hE : EI E) (hN : 56 ≤ eN E) (F : Nat) {tw : TW}  {h : HP} {v : Int32} {h' : HP} (hf : f_X7_turnBack F  h = some (v, h')) : CT E mX7_turnBack tw h [.ref 39] (some (.int v)) tw h' := by
  refine CT.of hE (show plainFor yX7_turnBack = true by decide +kernel) (Nat.le_of_ble_eq_true rfl) 0 ?_
  show AW E mX7_turnBack (KM E mX7_turnBack (some (.int v)) tw h') tw h 0 [some (.ref 39)] []
  unfold f_X7_turnBack at hf
  refine aw_aload_n dX7_turnBack_0 rfl ?_
  obtain ⟨h1, c2, hf⟩ := obv_some hf
  have key6 : AW E mX7_turnBack (KM E mX7_turnBack (some (.int v)) tw h') tw h1 37 [some (.ref 39)] [.int (if (h1 43 0) = nI 0 then (h1 40 1) - (nI 1) else (h1 43 0) - (nI 1)), .ref 43, .ref 39] := by
    obtain ⟨v5, h3, c4, hf⟩ := ob_some hf
    cases hf
    exact aw_callVi (N := mX7_rings) (As := [.ref 43, .int (if (h1 43 0) = nI 0 then (h1 40 1) - (nI 1) else (h1 43 0) - (nI 1))]) lkX7_155 okX7_rings (nl hN rfl) kd_39 rfl (by rfl) (by rfl) (Nat.le_of_ble_eq_true rfl) ry_X7_turnBack_X7_rings dX7_turnBack_37 (And.intro (Nat.le_refl _) (Nat.le_refl _)) (ct_X7_rings hE hN F (IA.of kd_43 (nl hN rfl)) c4) (aw_iret rfl dX7_turnBack_40)
  refine aw_callVv (N := mX7_remember) (As := []) lkX7_169 okX7_remember (nl hN rfl) kd_39 rfl (by rfl) (by rfl) (Nat.le_of_ble_eq_true rfl) ry_X7_turnBack_X7_remember dX7_turnBack_1 (And.intro (Nat.le_refl _) (Nat.le_refl _)) (ct_X7_remember hE hN F c2) (aw_aload_n dX7_turnBack_4 rfl (aw_aload_n dX7_turnBack_5 rfl (aw_getr fkX7_19 (nl hN rfl) kd_39 (Nat.le_of_ble_eq_true rfl) rfl dX7_turnBack_6 (aw_aload_n dX7_turnBack_9 rfl (aw_getr fkX7_19 (nl hN rfl) kd_39 (Nat.le_of_ble_eq_true rfl) rfl dX7_turnBack_10 (aw_iconst (nI 0) dX7_turnBack_13 ki_0 (aw_ialdk (j := 0) cx_0 (nl hN rfl) kd_43 ib_0_66 dX7_turnBack_14 ?_)))))))
  refine aw_if_ne 29 dX7_turnBack_15 rfl (fun g7 => ?_) (fun g7 => ?_)
  · skip
    refine aw_aload_n dX7_turnBack_29 rfl (aw_getr fkX7_19 (nl hN rfl) kd_39 (Nat.le_of_ble_eq_true rfl) rfl dX7_turnBack_30 (aw_iconst (nI 0) dX7_turnBack_33 ki_0 (aw_ialdk (j := 0) cx_0 (nl hN rfl) kd_43 ib_0_66 dX7_turnBack_34 (aw_iconst (nI 1) dX7_turnBack_35 ki_1 (aw_isub dX7_turnBack_36 ?_)))))
    simp only [if_neg g7] at key6 ⊢
    exact aw_dk key6 (And.intro rfl trivial)
  · skip
    refine aw_aload_n dX7_turnBack_18 rfl (aw_getr fkX7_7 (nl hN rfl) kd_39 (Nat.le_of_ble_eq_true rfl) rfl dX7_turnBack_19 (aw_iconst (nI 1) dX7_turnBack_22 ki_1 (aw_ialdk (j := 1) cx_1 (nl hN rfl) kd_40 ib_1_19 dX7_turnBack_23 (aw_iconst (nI 1) dX7_turnBack_24 ki_1 (aw_isub dX7_turnBack_25 (aw_goto 37 dX7_turnBack_26 rfl ?_))))))
    simp only [if_pos g7] at key6 ⊢
    exact aw_dk key6 (And.intro rfl trivial)
set_option maxHeartbeats 4000000 in
set_option maxRecDepth 100000 in
theorem ct_X7_pin {E : EV} (hE : EI E) (hN : 56 ≤ eN E) (F : Nat) {tw : TW} {x1 : Int32} {x2 : Int32} {x3 : Int32} {h : HP} {v : Int32} {h' : HP} (hf : f_X7_pin F x1 x2 x3 h = some (v, h')) : CT E mX7_pin tw h [.ref 39, .int x1, .int x2, .int x3] (some (.int v)) tw h' := by
  refine CT.of hE (show plainFor yX7_pin = true by decide +kernel) (Nat.le_of_ble_eq_true rfl) 0 ?_
  show AW E mX7_pin (KM E mX7_pin (some (.int v)) tw h') tw h 0 [some (.ref 39), some (.int x1), some (.int x2), some (.int x3)] []
  unfold f_X7_pin at hf
  refine aw_aload_n dX7_pin_0 rfl (aw_iload_n dX7_pin_1 rfl ?_)
  obtain ⟨v3, h1, c2, hf⟩ := ob_some hf
  refine aw_callVi (N := mX7_isRow) (As := [.int x1]) lkX7_162 okX7_isRow (nl hN rfl) kd_39 rfl (by rfl) (by rfl) (Nat.le_of_ble_eq_true rfl) ry_X7_pin_X7_isRow dX7_pin_2 (And.intro (Nat.le_refl _) (Nat.le_refl _)) (ct_X7_isRow hE hN F c2) ?_
  refine aw_if_eq 16 dX7_pin_5 rfl (fun g4 => ?_) (fun g4 => ?_)
  · replace hf := (if_pos g4).symm.trans hf
    cases hf
    exact aw_iconst (-1) dX7_pin_16 ki_m1 (aw_iret rfl dX7_pin_17)
  · replace hf := (if_neg g4).symm.trans hf
    refine aw_aload_n dX7_pin_8 rfl (aw_iload_n dX7_pin_9 rfl ?_)
    obtain ⟨v7, h5, c6, hf⟩ := ob_some hf
    refine aw_callVi (N := mX7_isBell) (As := [.int x2]) lkX7_159 okX7_isBell (nl hN rfl) kd_39 rfl (by rfl) (by rfl) (Nat.le_of_ble_eq_true rfl) ry_X7_pin_X7_isBell dX7_pin_10 (And.intro (Nat.le_refl _) (Nat.le_refl _)) (ct_X7_isBell hE hN F c6) ?_
    refine aw_if_ne 18 dX7_pin_13 rfl (fun g8 => ?_) (fun g8 => ?_)
    · replace hf := (if_neg g8).symm.trans hf
      refine aw_aload_n dX7_pin_18 rfl (aw_getr fkX7_19 (nl hN rfl) kd_39 (Nat.le_of_ble_eq_true rfl) rfl dX7_pin_19 (aw_iconst (nI 2) dX7_pin_22 ki_2 (aw_iload_n dX7_pin_23 rfl (aw_iadd dX7_pin_24 ?_))))
      obtain ⟨g9, hf⟩ := ogd hf
      refine aw_iald (nl hN rfl) kd_43 g9 dX7_pin_25 (aw_iload_n dX7_pin_26 rfl ?_)
      obtain ⟨v12, h10, c11, hf⟩ := ob_some hf
      refine aw_callSi (N := mX7_has) (As := [.int (h5 43 (ix ((nI 2) + x1))), .int x2]) lkX7_152 okX7_has (by rfl) (by rfl) (Nat.le_of_ble_eq_true rfl) ry_X7_pin_X7_has dX7_pin_27 (And.intro (Nat.le_refl _) (Nat.le_refl _)) (ct_X7_has hE hN F c11) (aw_iload_n dX7_pin_30 rfl ?_)
      refine aw_icmp_ne 37 dX7_pin_31 rfl (fun g13 => ?_) (fun g13 => ?_)
      · replace hf := (if_neg g13).symm.trans hf
        refine aw_aload_n dX7_pin_37 rfl ?_
        obtain ⟨h14, c15, hf⟩ := obv_some hf
        refine aw_callVv (N := mX7_remember) (As := []) lkX7_169 okX7_remember (nl hN rfl) kd_39 rfl (by rfl) (by rfl) (Nat.le_of_ble_eq_true rfl) ry_X7_pin_X7_remember dX7_pin_38 (And.intro (Nat.le_refl _) (Nat.le_refl _)) (ct_X7_remember hE hN F c15) (aw_aload_n dX7_pin_41 rfl (aw_getr fkX7_19 (nl hN rfl) kd_39 (Nat.le_of_ble_eq_true rfl) rfl dX7_pin_42 (aw_iconst (nI 2) dX7_pin_45 ki_2 (aw_iload_n dX7_pin_46 rfl (aw_iadd dX7_pin_47 (aw_dup2 dX7_pin_48 rfl rfl (aw_iald (nl hN rfl) kd_43 g9 dX7_pin_49 (aw_iconst (nI 1) dX7_pin_50 ki_1 (aw_iload_n dX7_pin_51 rfl (aw_ishl dX7_pin_52 (aw_ixor dX7_pin_53 ?_)))))))))))
        refine aw_iast (nl hN rfl) kd_43 g9 dX7_pin_54 (aw_aload_n dX7_pin_55 rfl (aw_getr fkX7_19 (nl hN rfl) kd_39 (Nat.le_of_ble_eq_true rfl) rfl dX7_pin_56 (aw_iconst (nI 2) dX7_pin_59 ki_2 (aw_iload_n dX7_pin_60 rfl (aw_iadd dX7_pin_61 (aw_iald (nl hN rfl) kd_43 g9 dX7_pin_62 ?_))))))
        obtain ⟨v18, h16, c17, hf⟩ := ob_some hf
        cases hf
        exact aw_callSi (N := mX7_bits) (As := [.int ((up h14 43 (ix ((nI 2) + x1)) ((h14 43 (ix ((nI 2) + x1))) ^^^ (jshl (nI 1) x2))) 43 (ix ((nI 2) + x1)))]) lkX7_114 okX7_bits (by rfl) (by rfl) (Nat.le_of_ble_eq_true rfl) ry_X7_pin_X7_bits dX7_pin_63 (And.intro (Nat.le_refl _) (Nat.le_refl _)) (ct_X7_bits hE hN F c17) (aw_iret rfl dX7_pin_66)
      · replace hf := (if_pos g13).symm.trans hf
        cases hf
        exact aw_bipush (-2) dX7_pin_34 kb_m2 (aw_iret rfl dX7_pin_36)
    · replace hf := (if_pos g8).symm.trans hf
      cases hf
      exact aw_iconst (-1) dX7_pin_16 ki_m1 (aw_iret rfl dX7_pin_17)
set_option maxHeartbeats 4000000 in
set_option maxRecDepth 100000 in
theorem ct_X7_shifted {E : EV} (hE : EI E) (hN : 56 ≤ eN E) (F : Nat) {tw : TW} {x1 : Int32} {x2 : Int32} {h : HP} {v : Int32} {h' : HP} (hf : f_X7_shifted F x1 x2 h = some (v, h')) : CT E mX7_shifted tw h [.ref 39, .int x1, .int x2] (some (.int v)) tw h' := by
  refine CT.of hE (show plainFor yX7_shifted = true by decide +kernel) (Nat.le_of_ble_eq_true rfl) 0 ?_
  show AW E mX7_shifted (KM E mX7_shifted (some (.int v)) tw h') tw h 0 [some (.ref 39), some (.int x1), some (.int x2)] []
  unfold f_X7_shifted at hf
  refine aw_aload_n dX7_shifted_0 rfl (aw_getr fkX7_19 (nl hN rfl) kd_39 (Nat.le_of_ble_eq_true rfl) rfl dX7_shifted_1 (aw_iconst (nI 2) dX7_shifted_4 ki_2 (aw_iload_n dX7_shifted_5 rfl (aw_iload_n dX7_shifted_6 rfl (aw_isub dX7_shifted_7 (aw_aload_n dX7_shifted_8 rfl (aw_getr fkX7_7 (nl hN rfl) kd_39 (Nat.le_of_ble_eq_true rfl) rfl dX7_shifted_9 (aw_iconst (nI 1) dX7_shifted_12 ki_1 (aw_ialdk (j := 1) cx_1 (nl hN rfl) kd_40 ib_1_19 dX7_shifted_13 (aw_iadd dX7_shifted_14 (aw_aload_n dX7_shifted_15 rfl ?_)))))))))))
  refine aw_getr fkX7_7 (nl hN rfl) kd_39 (Nat.le_of_ble_eq_true rfl) rfl dX7_shifted_16 (aw_iconst (nI 1) dX7_shifted_19 ki_1 (aw_ialdk (j := 1) cx_1 (nl hN rfl) kd_40 ib_1_19 dX7_shifted_20 ?_))
  obtain ⟨g1, hf⟩ := ogd hf
  refine aw_irem g1 dX7_shifted_21 (aw_iadd dX7_shifted_22 ?_)
  obtain ⟨g2, hf⟩ := ogd hf
  cases hf
  exact aw_iald (nl hN rfl) kd_43 g2 dX7_shifted_23 (aw_iret rfl dX7_shifted_24)
set_option maxHeartbeats 4000000 in
set_option maxRecDepth 100000 in
theorem ct_X7_shift_46 {E : EV} (hE : EI E) (hN : 56 ≤ eN E) (F : Nat) {tw : TW} {x1 : Int32} {v : Int32} {h' : HP} : ∀ (n : Nat) (x2 : Int32) (h : HP), f_X7_shift_46 F x1 n x2 h = some (v, h') → AW E mX7_shift (KM E mX7_shift (some (.int v)) tw h') tw h 46 [some (.ref 39), none, some (.int x2)] [] := by
  intro n
  induction n with
  | zero => intro x2 h hf; exact absurd (show (none : Option (Int32 × HP)) = some _ from hf) (fun z => nomatch z)
  | succ n ih =>
    intro x2 h hf
    rw [f_X7_shift_46] at hf
    refine aw_iload_n dX7_shift_46 rfl (aw_aload_n dX7_shift_47 rfl (aw_getr fkX7_7 (nl hN rfl) kd_39 (Nat.le_of_ble_eq_true rfl) rfl dX7_shift_48 (aw_iconst (nI 1) dX7_shift_51 ki_1 (aw_ialdk (j := 1) cx_1 (nl hN rfl) kd_40 ib_1_19 dX7_shift_52 ?_))))
    refine aw_icmp_ge 76 dX7_shift_53 rfl (fun g12 => ?_) (fun g12 => ?_)
    · replace hf := (if_pos g12).symm.trans hf
      cases hf
      exact aw_aload_n dX7_shift_76 rfl (aw_getr fkX7_19 (nl hN rfl) kd_39 (Nat.le_of_ble_eq_true rfl) rfl dX7_shift_77 (aw_iconst (nI 2) dX7_shift_80 ki_2 (aw_ialdk (j := 2) cx_2 (nl hN rfl) kd_43 ib_2_66 dX7_shift_81 (aw_iret rfl dX7_shift_82))))
    · replace hf := (if_neg g12).symm.trans hf
      refine aw_aload_n dX7_shift_56 rfl (aw_getr fkX7_19 (nl hN rfl) kd_39 (Nat.le_of_ble_eq_true rfl) rfl dX7_shift_57 (aw_iconst (nI 2) dX7_shift_60 ki_2 (aw_iload_n dX7_shift_61 rfl (aw_iadd dX7_shift_62 (aw_aload_n dX7_shift_63 rfl (aw_getr fkX7_43 (nl hN rfl) kd_39 (Nat.le_of_ble_eq_true rfl) rfl dX7_shift_64 (aw_iload_n dX7_shift_67 rfl ?_)))))))
      obtain ⟨g13, hf⟩ := ogd hf
      refine aw_iald (nl hN rfl) kd_51 g13 dX7_shift_68 ?_
      obtain ⟨g14, hf⟩ := ogd hf
      refine aw_iast (nl hN rfl) kd_43 g14 dX7_shift_69 (aw_iinc (nI 1) dX7_shift_70 rfl (Nat.le_of_ble_eq_true rfl) ki_1 (aw_goto 46 dX7_shift_73 rfl ?_))
      exact aw_dk (ih _ _ hf) (And.intro rfl (And.intro rfl trivial))
set_option maxHeartbeats 4000000 in
set_option maxRecDepth 100000 in
theorem ct_X7_shift_16 {E : EV} (hE : EI E) (hN : 56 ≤ eN E) (F : Nat) {tw : TW} {x1 : Int32} {v : Int32} {h' : HP} : ∀ (n : Nat) (x2 : Int32) (h : HP), f_X7_shift_16 F x1 n x2 h = some (v, h') → AW E mX7_shift (KM E mX7_shift (some (.int v)) tw h') tw h 16 [some (.ref 39), some (.int x1), some (.int x2)] [] := by
  intro n
  induction n with
  | zero => intro x2 h hf; exact absurd (show (none : Option (Int32 × HP)) = some _ from hf) (fun z => nomatch z)
  | succ n ih =>
    intro x2 h hf
    rw [f_X7_shift_16] at hf
    refine aw_iload_n dX7_shift_16 rfl (aw_aload_n dX7_shift_17 rfl (aw_getr fkX7_7 (nl hN rfl) kd_39 (Nat.le_of_ble_eq_true rfl) rfl dX7_shift_18 (aw_iconst (nI 1) dX7_shift_21 ki_1 (aw_ialdk (j := 1) cx_1 (nl hN rfl) kd_40 ib_1_19 dX7_shift_22 ?_))))
    refine aw_icmp_ge 44 dX7_shift_23 rfl (fun g7 => ?_) (fun g7 => ?_)
    · replace hf := (if_pos g7).symm.trans hf
      refine aw_iconst (nI 0) dX7_shift_44 ki_0 (aw_istore_n dX7_shift_45 (Nat.le_of_ble_eq_true rfl) ?_)
      exact aw_dk (ct_X7_shift_46 hE hN F F _ _ hf) (And.intro rfl (And.intro rfl trivial))
    · replace hf := (if_neg g7).symm.trans hf
      refine aw_aload_n dX7_shift_26 rfl (aw_getr fkX7_43 (nl hN rfl) kd_39 (Nat.le_of_ble_eq_true rfl) rfl dX7_shift_27 (aw_iload_n dX7_shift_30 rfl (aw_aload_n dX7_shift_31 rfl (aw_iload_n dX7_shift_32 rfl (aw_iload_n dX7_shift_33 rfl ?_)))))
      obtain ⟨v10, h8, c9, hf⟩ := ob_some hf
      refine aw_callVi (N := mX7_shifted) (As := [.int x2, .int x1]) lkX7_176 okX7_shifted (nl hN rfl) kd_39 rfl (by rfl) (by rfl) (Nat.le_of_ble_eq_true rfl) ry_X7_shift_X7_shifted dX7_shift_34 (And.intro (Nat.le_refl _) (Nat.le_refl _)) (ct_X7_shifted hE hN F c9) ?_
      obtain ⟨g11, hf⟩ := ogd hf
      refine aw_iast (nl hN rfl) kd_51 g11 dX7_shift_37 (aw_iinc (nI 1) dX7_shift_38 rfl (Nat.le_of_ble_eq_true rfl) ki_1 (aw_goto 16 dX7_shift_41 rfl ?_))
      exact aw_dk (ih _ _ hf) (And.intro rfl (And.intro rfl (And.intro rfl trivial)))
set_option maxHeartbeats 4000000 in
set_option maxRecDepth 100000 in
theorem ct_X7_shift {E : EV} (hE : EI E) (hN : 56 ≤ eN E) (F : Nat) {tw : TW} {x1 : Int32} {h : HP} {v : Int32} {h' : HP} (hf : f_X7_shift F x1 h = some (v, h')) : CT E mX7_shift tw h [.ref 39, .int x1] (some (.int v)) tw h' := by
  refine CT.of hE (show plainFor yX7_shift = true by decide +kernel) (Nat.le_of_ble_eq_true rfl) 1 ?_
  show AW E mX7_shift (KM E mX7_shift (some (.int v)) tw h') tw h 0 [some (.ref 39), some (.int x1), none] []
  unfold f_X7_shift at hf
  refine aw_aload_n dX7_shift_0 rfl (aw_iload_n dX7_shift_1 rfl ?_)
  obtain ⟨v3, h1, c2, hf⟩ := ob_some hf
  refine aw_callVi (N := mX7_isRow) (As := [.int x1]) lkX7_162 okX7_isRow (nl hN rfl) kd_39 rfl (by rfl) (by rfl) (Nat.le_of_ble_eq_true rfl) ry_X7_shift_X7_isRow dX7_shift_2 (And.intro (Nat.le_refl _) (Nat.le_refl _)) (ct_X7_isRow hE hN F c2) ?_
  refine aw_if_ne 10 dX7_shift_5 rfl (fun g4 => ?_) (fun g4 => ?_)
  · replace hf := (if_neg g4).symm.trans hf
    refine aw_aload_n dX7_shift_10 rfl ?_
    obtain ⟨h5, c6, hf⟩ := obv_some hf
    refine aw_callVv (N := mX7_remember) (As := []) lkX7_169 okX7_remember (nl hN rfl) kd_39 rfl (by rfl) (by rfl) (Nat.le_of_ble_eq_true rfl) ry_X7_shift_X7_remember dX7_shift_11 (And.intro (Nat.le_refl _) (Nat.le_refl _)) (ct_X7_remember hE hN F c6) (aw_iconst (nI 0) dX7_shift_14 ki_0 (aw_istore_n dX7_shift_15 (Nat.le_of_ble_eq_true rfl) ?_))
    exact aw_dk (ct_X7_shift_16 hE hN F F _ _ hf) (And.intro rfl (And.intro rfl (And.intro rfl trivial)))
  · replace hf := (if_pos g4).symm.trans hf
    cases hf
    exact aw_iconst (-1) dX7_shift_8 ki_m1 (aw_iret rfl dX7_shift_9)
set_option maxHeartbeats 4000000 in
set_option maxRecDepth 100000 in
theorem ct_X7_undo {E : EV} (hE : EI E) (hN : 56 ≤ eN E) (F : Nat) {tw : TW}  {h : HP} {v : Int32} {h' : HP} (hf : f_X7_undo F  h = some (v, h')) : CT E mX7_undo tw h [.ref 39] (some (.int v)) tw h' := by
  refine CT.of hE (show plainFor yX7_undo = true by decide +kernel) (Nat.le_of_ble_eq_true rfl) 0 ?_
  show AW E mX7_undo (KM E mX7_undo (some (.int v)) tw h') tw h 0 [some (.ref 39)] []
  unfold f_X7_undo at hf
  refine aw_aload_n dX7_undo_0 rfl (aw_geti fkX7_143 (nl hN rfl) kd_39 (Nat.le_of_ble_eq_true rfl) rfl dX7_undo_1 ?_)
  refine aw_if_ne 10 dX7_undo_4 rfl (fun g1 => ?_) (fun g1 => ?_)
  · replace hf := (if_neg g1).symm.trans hf
    refine aw_aload_n dX7_undo_10 rfl (aw_dup dX7_undo_11 rfl (aw_geti fkX7_143 (nl hN rfl) kd_39 (Nat.le_of_ble_eq_true rfl) rfl dX7_undo_12 (aw_iconst (nI 1) dX7_undo_15 ki_1 (aw_isub dX7_undo_16 (aw_puti fkX7_143 fw_7_6 (nl hN rfl) kd_39 (Nat.le_of_ble_eq_true rfl) rfl dX7_undo_17 (aw_aload_n dX7_undo_20 rfl (aw_getr fkX7_22 (nl hN rfl) kd_39 (Nat.le_of_ble_eq_true rfl) rfl dX7_undo_21 (aw_bipush (nI 66) dX7_undo_24 kb_66 (aw_aload_n dX7_undo_26 rfl (aw_geti fkX7_143 (nl hN rfl) kd_39 (Nat.le_of_ble_eq_true rfl) rfl dX7_undo_27 (aw_imul dX7_undo_30 ?_)))))))))))
    refine aw_aload_n dX7_undo_31 rfl (aw_getr fkX7_19 (nl hN rfl) kd_39 (Nat.le_of_ble_eq_true rfl) rfl dX7_undo_32 (aw_iconst (nI 0) dX7_undo_35 ki_0 ?_))
    obtain ⟨h2, c3, hf⟩ := obv_some hf
    cases hf
    exact aw_callSv (N := mX7_copies) (As := [.ref 44, .int ((nI 66) * ((up h 39 6 ((h 39 6) - (nI 1))) 39 6)), .ref 43, .int (nI 0)]) lkX7_165 okX7_copies (by rfl) (by rfl) (Nat.le_of_ble_eq_true rfl) ry_X7_undo_X7_copies dX7_undo_36 (And.intro (Nat.le_refl _) (Nat.le_refl _)) (ct_X7_copies hE hN F (IA.of kd_44 (nl hN rfl)) (IA.of kd_43 (nl hN rfl)) c3) (aw_aload_n dX7_undo_39 rfl (aw_geti fkX7_143 (nl hN rfl) kd_39 (Nat.le_of_ble_eq_true rfl) rfl dX7_undo_40 (aw_iret rfl dX7_undo_43)))
  · replace hf := (if_pos g1).symm.trans hf
    cases hf
    exact aw_bipush (-2) dX7_undo_7 kb_m2 (aw_iret rfl dX7_undo_9)
set_option maxHeartbeats 4000000 in
set_option maxRecDepth 100000 in
theorem ct_X7_sumOf_4 {E : EV} (hE : EI E) (hN : 56 ≤ eN E) (F : Nat) {tw : TW} {x1 : Int32} {v : Int32} {h' : HP} : ∀ (n : Nat) (x2 : Int32) (x3 : Int32) (h : HP), f_X7_sumOf_4 F x1 n x2 x3 h = some (v, h') → AW E mX7_sumOf (KM E mX7_sumOf (some (.int v)) tw h') tw h 4 [some (.ref 39), some (.int x1), some (.int x2), some (.int x3)] [] := by
  intro n
  induction n with
  | zero => intro x2 x3 h hf; exact absurd (show (none : Option (Int32 × HP)) = some _ from hf) (fun z => nomatch z)
  | succ n ih =>
    intro x2 x3 h hf
    rw [f_X7_sumOf_4] at hf
    refine aw_iload_n dX7_sumOf_4 rfl (aw_aload_n dX7_sumOf_5 rfl (aw_getr fkX7_7 (nl hN rfl) kd_39 (Nat.le_of_ble_eq_true rfl) rfl dX7_sumOf_6 (aw_iconst (nI 0) dX7_sumOf_9 ki_0 (aw_ialdk (j := 0) cx_0 (nl hN rfl) kd_40 ib_0_19 dX7_sumOf_10 ?_))))
    refine aw_icmp_ge 31 dX7_sumOf_11 rfl (fun g1 => ?_) (fun g1 => ?_)
    · replace hf := (if_pos g1).symm.trans hf
      cases hf
      exact aw_iload_n dX7_sumOf_31 rfl (aw_iret rfl dX7_sumOf_32)
    · replace hf := (if_neg g1).symm.trans hf
      refine aw_iload_n dX7_sumOf_14 rfl (aw_aload_n dX7_sumOf_15 rfl (aw_getr fkX7_46 (nl hN rfl) kd_39 (Nat.le_of_ble_eq_true rfl) rfl dX7_sumOf_16 (aw_iload_n dX7_sumOf_19 rfl (aw_iload_n dX7_sumOf_20 rfl (aw_iadd dX7_sumOf_21 ?_)))))
      obtain ⟨g2, hf⟩ := ogd hf
      refine aw_iald (nl hN rfl) kd_52 g2 dX7_sumOf_22 (aw_iadd dX7_sumOf_23 (aw_istore_n dX7_sumOf_24 (Nat.le_of_ble_eq_true rfl) (aw_iinc (nI 1) dX7_sumOf_25 rfl (Nat.le_of_ble_eq_true rfl) ki_1 (aw_goto 4 dX7_sumOf_28 rfl ?_))))
      exact aw_dk (ih _ _ _ hf) (And.intro rfl (And.intro rfl (And.intro rfl (And.intro rfl trivial))))
set_option maxHeartbeats 4000000 in
set_option maxRecDepth 100000 in
theorem ct_X7_sumOf {E : EV} (hE : EI E) (hN : 56 ≤ eN E) (F : Nat) {tw : TW} {x1 : Int32} {h : HP} {v : Int32} {h' : HP} (hf : f_X7_sumOf F x1 h = some (v, h')) : CT E mX7_sumOf tw h [.ref 39, .int x1] (some (.int v)) tw h' := by
  refine CT.of hE (show plainFor yX7_sumOf = true by decide +kernel) (Nat.le_of_ble_eq_true rfl) 2 ?_
  show AW E mX7_sumOf (KM E mX7_sumOf (some (.int v)) tw h') tw h 0 [some (.ref 39), some (.int x1), none, none] []
  unfold f_X7_sumOf at hf
  refine aw_iconst (nI 0) dX7_sumOf_0 ki_0 (aw_istore_n dX7_sumOf_1 (Nat.le_of_ble_eq_true rfl) (aw_iconst (nI 0) dX7_sumOf_2 ki_0 (aw_istore_n dX7_sumOf_3 (Nat.le_of_ble_eq_true rfl) ?_)))
  exact aw_dk (ct_X7_sumOf_4 hE hN F F _ _ _ hf) (And.intro rfl (And.intro rfl (And.intro rfl (And.intro rfl trivial))))
set_option maxHeartbeats 4000000 in
set_option maxRecDepth 100000 in
theorem ct_X7_go_2 {E : EV} (hE : EI E) (hN : 56 ≤ eN E) (F : Nat) {tw : TW} {x1 : Int32} {h' : HP} : ∀ (n : Nat) (x2 : Int32) (h : HP), f_X7_go_2 F x1 n x2 h = some h' → AW E mX7_go (KM E mX7_go none tw h') tw h 2 [some (.ref 39), some (.int x1), some (.int x2), none] [] := by
  intro n
  induction n with
  | zero => intro x2 h hf; exact absurd (show (none : Option (HP)) = some _ from hf) (fun z => nomatch z)
  | succ n ih =>
    intro x2 h hf
    rw [f_X7_go_2] at hf
    refine aw_iload_n dX7_go_2 rfl (aw_iload_n dX7_go_3 rfl ?_)
    refine aw_icmp_ge 22 dX7_go_4 rfl (fun g1 => ?_) (fun g1 => ?_)
    · replace hf := (if_pos g1).symm.trans hf
      cases hf
      exact aw_vret rfl dX7_go_22
    · replace hf := (if_neg g1).symm.trans hf
      refine aw_aload_n dX7_go_7 rfl (aw_aload_n dX7_go_8 rfl (aw_getr fkX7_46 (nl hN rfl) kd_39 (Nat.le_of_ble_eq_true rfl) rfl dX7_go_9 ?_))
      obtain ⟨v4, h2, c3, hf⟩ := ob_some hf
      refine aw_callVi (N := mX7_comesNext) (As := [.ref 52]) lkX7_172 okX7_comesNext (nl hN rfl) kd_39 rfl (by rfl) (by rfl) (Nat.le_of_ble_eq_true rfl) ry_X7_go_X7_comesNext dX7_go_12 (And.intro (Nat.le_refl _) (Nat.le_refl _)) (ct_X7_comesNext hE hN F (IA.of kd_52 (nl hN rfl)) c3) (aw_istore_n dX7_go_15 (Nat.le_of_ble_eq_true rfl) (aw_iinc (nI 1) dX7_go_16 rfl (Nat.le_of_ble_eq_true rfl) ki_1 (aw_goto 2 dX7_go_19 rfl ?_)))
      exact aw_dk (ih _ _ hf) (And.intro rfl (And.intro rfl (And.intro rfl trivial)))
set_option maxHeartbeats 4000000 in
set_option maxRecDepth 100000 in
theorem ct_X7_go {E : EV} (hE : EI E) (hN : 56 ≤ eN E) (F : Nat) {tw : TW} {x1 : Int32} {h : HP} {h' : HP} (hf : f_X7_go F x1 h = some h') : CT E mX7_go tw h [.ref 39, .int x1] none tw h' := by
  refine CT.of hE (show plainFor yX7_go = true by decide +kernel) (Nat.le_of_ble_eq_true rfl) 2 ?_
  show AW E mX7_go (KM E mX7_go none tw h') tw h 0 [some (.ref 39), some (.int x1), none, none] []
  unfold f_X7_go at hf
  refine aw_iconst (nI 0) dX7_go_0 ki_0 (aw_istore_n dX7_go_1 (Nat.le_of_ble_eq_true rfl) ?_)
  exact aw_dk (ct_X7_go_2 hE hN F F _ _ hf) (And.intro rfl (And.intro rfl (And.intro rfl trivial)))
set_option maxHeartbeats 4000000 in
set_option maxRecDepth 100000 in
theorem ct_X7_whole {E : EV} (hE : EI E) (hN : 56 ≤ eN E) (F : Nat) {tw : TW} {x1 : Int32} {h : HP} {v : Int32} {h' : HP} (hf : f_X7_whole F x1 h = some (v, h')) : CT E mX7_whole tw h [.ref 39, .int x1] (some (.int v)) tw h' := by
  refine CT.of hE (show plainFor yX7_whole = true by decide +kernel) (Nat.le_of_ble_eq_true rfl) 2 ?_
  show AW E mX7_whole (KM E mX7_whole (some (.int v)) tw h') tw h 0 [some (.ref 39), some (.int x1), none, none] []
  unfold f_X7_whole at hf
  refine aw_iload_n dX7_whole_0 rfl (aw_i2l dX7_whole_1 (aw_lconst (lN 0) dX7_whole_2 rfl (aw_ldc2 kcX7_103 dX7_whole_3 ?_)))
  obtain ⟨v3, h1, c2, hf⟩ := ob_some hf
  refine aw_callSi (N := mX7_in) (As := [.long x1.toInt64, .long (lN 0), .long (lN 2)]) lkX7_73 okX7_in (by rfl) (by rfl) (Nat.le_of_ble_eq_true rfl) ry_X7_whole_X7_in dX7_whole_6 (And.intro (Nat.le_refl _) (Nat.le_refl _)) (ct_X7_in hE hN F c2) ?_
  refine aw_if_ne 14 dX7_whole_9 rfl (fun g4 => ?_) (fun g4 => ?_)
  · replace hf := (if_neg g4).symm.trans hf
    refine aw_aload_n dX7_whole_14 rfl (aw_getr fkX7_19 (nl hN rfl) kd_39 (Nat.le_of_ble_eq_true rfl) rfl dX7_whole_15 (aw_iconst (nI 0) dX7_whole_18 ki_0 (aw_aload_n dX7_whole_19 rfl (aw_getr fkX7_46 (nl hN rfl) kd_39 (Nat.le_of_ble_eq_true rfl) rfl dX7_whole_20 (aw_iconst (nI 0) dX7_whole_23 ki_0 ?_)))))
    obtain ⟨h5, c6, hf⟩ := obv_some hf
    have key17 : AW E mX7_whole (KM E mX7_whole (some (.int v)) tw h') tw h5 46 [some (.ref 39), some (.int x1), none, none] [.int (if x1 = (nI 2) then (nI 8) * (h5 40 1) else (nI 0)), .ref 39] := by
      obtain ⟨h7, c8, hf⟩ := obv_some hf
      have key18 : AW E mX7_whole (KM E mX7_whole (some (.int v)) tw h') tw h7 60 [some (.ref 39), some (.int x1), none, none] [.int (if x1 = nI 0 then (nI 50) else (nI 58))] := by
        refine aw_istore_n dX7_whole_60 (Nat.le_of_ble_eq_true rfl) (aw_aload_n dX7_whole_61 rfl (aw_iload_n dX7_whole_62 rfl ?_))
        obtain ⟨v11, h9, c10, hf⟩ := ob_some hf
        refine aw_callVi (N := mX7_sumOf) (As := [.int (if x1 = nI 0 then (nI 50) else (nI 58))]) lkX7_184 okX7_sumOf (nl hN rfl) kd_39 rfl (by rfl) (by rfl) (Nat.le_of_ble_eq_true rfl) ry_X7_whole_X7_sumOf dX7_whole_63 (And.intro (Nat.le_refl _) (Nat.le_refl _)) (ct_X7_sumOf hE hN F c10) (aw_istore_n dX7_whole_66 (Nat.le_of_ble_eq_true rfl) (aw_aload_n dX7_whole_67 rfl (aw_aload_n dX7_whole_68 rfl (aw_getr fkX7_7 (nl hN rfl) kd_39 (Nat.le_of_ble_eq_true rfl) rfl dX7_whole_69 (aw_iconst (nI 1) dX7_whole_72 ki_1 (aw_ialdk (j := 1) cx_1 (nl hN rfl) kd_40 ib_1_19 dX7_whole_73 ?_))))))
        obtain ⟨h12, c13, hf⟩ := obv_some hf
        refine aw_callVv (N := mX7_go) (As := [.int (h9 40 1)]) lkX7_180 okX7_go (nl hN rfl) kd_39 rfl (by rfl) (by rfl) (Nat.le_of_ble_eq_true rfl) ry_X7_whole_X7_go dX7_whole_74 (And.intro (Nat.le_refl _) (Nat.le_refl _)) (ct_X7_go hE hN F c13) (aw_aload_n dX7_whole_77 rfl (aw_iload_n dX7_whole_78 rfl ?_))
        obtain ⟨v16, h14, c15, hf⟩ := ob_some hf
        cases hf
        exact aw_callVi (N := mX7_sumOf) (As := [.int (if x1 = nI 0 then (nI 50) else (nI 58))]) lkX7_184 okX7_sumOf (nl hN rfl) kd_39 rfl (by rfl) (by rfl) (Nat.le_of_ble_eq_true rfl) ry_X7_whole_X7_sumOf dX7_whole_79 (And.intro (Nat.le_refl _) (Nat.le_refl _)) (ct_X7_sumOf hE hN F c15) (aw_iload_n dX7_whole_82 rfl (aw_isub dX7_whole_83 (aw_iret rfl dX7_whole_84)))
      refine aw_callVv (N := mX7_go) (As := [.int (if x1 = (nI 2) then (nI 8) * (h5 40 1) else (nI 0))]) lkX7_180 okX7_go (nl hN rfl) kd_39 rfl (by rfl) (by rfl) (Nat.le_of_ble_eq_true rfl) ry_X7_whole_X7_go dX7_whole_46 (And.intro (Nat.le_refl _) (Nat.le_refl _)) (ct_X7_go hE hN F c8) (aw_iload_n dX7_whole_49 rfl ?_)
      refine aw_if_ne 58 dX7_whole_50 rfl (fun g19 => ?_) (fun g19 => ?_)
      · skip
        refine aw_bipush (nI 58) dX7_whole_58 kb_58 ?_
        simp only [if_neg g19] at key18 ⊢
        exact aw_dk key18 (And.intro rfl (And.intro rfl trivial))
      · skip
        refine aw_bipush (nI 50) dX7_whole_53 kb_50 (aw_goto 60 dX7_whole_55 rfl ?_)
        simp only [if_pos g19] at key18 ⊢
        exact aw_dk key18 (And.intro rfl (And.intro rfl trivial))
    refine aw_callSv (N := mX7_copies) (As := [.ref 43, .int (nI 0), .ref 52, .int (nI 0)]) lkX7_165 okX7_copies (by rfl) (by rfl) (Nat.le_of_ble_eq_true rfl) ry_X7_whole_X7_copies dX7_whole_24 (And.intro (Nat.le_refl _) (Nat.le_refl _)) (ct_X7_copies hE hN F (IA.of kd_43 (nl hN rfl)) (IA.of kd_52 (nl hN rfl)) c6) (aw_aload_n dX7_whole_27 rfl (aw_iload_n dX7_whole_28 rfl (aw_iconst (nI 2) dX7_whole_29 ki_2 ?_)))
    refine aw_icmp_ne 45 dX7_whole_30 rfl (fun g20 => ?_) (fun g20 => ?_)
    · skip
      refine aw_iconst (nI 0) dX7_whole_45 ki_0 ?_
      simp only [if_neg g20] at key17 ⊢
      exact aw_dk key17 (And.intro rfl (And.intro rfl trivial))
    · skip
      refine aw_bipush (nI 8) dX7_whole_33 kb_8 (aw_aload_n dX7_whole_35 rfl (aw_getr fkX7_7 (nl hN rfl) kd_39 (Nat.le_of_ble_eq_true rfl) rfl dX7_whole_36 (aw_iconst (nI 1) dX7_whole_39 ki_1 (aw_ialdk (j := 1) cx_1 (nl hN rfl) kd_40 ib_1_19 dX7_whole_40 (aw_imul dX7_whole_41 (aw_goto 46 dX7_whole_42 rfl ?_))))))
      simp only [if_pos g20] at key17 ⊢
      exact aw_dk key17 (And.intro rfl (And.intro rfl trivial))
  · replace hf := (if_pos g4).symm.trans hf
    cases hf
    exact aw_iconst (-1) dX7_whole_12 ki_m1 (aw_iret rfl dX7_whole_13)
set_option maxHeartbeats 4000000 in
set_option maxRecDepth 100000 in
theorem ct_X7_silence_6 {E : EV} (hE : EI E) (hN : 56 ≤ eN E) (F : Nat) {tw : TW}  {v : Int32} {h' : HP} : ∀ (n : Nat) (x1 : Int32) (x2 : Int32) (x3 : Int32) (h : HP), f_X7_silence_6 F n x1 x2 x3 h = some (v, h') → AW E mX7_silence (KM E mX7_silence (some (.int v)) tw h') tw h 6 [some (.ref 39), some (.int x1), some (.int x2), some (.int x3)] [] := by
  intro n
  induction n with
  | zero => intro x1 x2 x3 h hf; exact absurd (show (none : Option (Int32 × HP)) = some _ from hf) (fun z => nomatch z)
  | succ n ih =>
    intro x1 x2 x3 h hf
    rw [f_X7_silence_6] at hf
    refine aw_iload_n dX7_silence_6 rfl (aw_iconst (nI 2) dX7_silence_7 ki_2 (aw_aload_n dX7_silence_8 rfl (aw_getr fkX7_7 (nl hN rfl) kd_39 (Nat.le_of_ble_eq_true rfl) rfl dX7_silence_9 (aw_iconst (nI 1) dX7_silence_12 ki_1 (aw_ialdk (j := 1) cx_1 (nl hN rfl) kd_40 ib_1_19 dX7_silence_13 (aw_imul dX7_silence_14 ?_))))))
    refine aw_icmp_ge 61 dX7_silence_15 rfl (fun g1 => ?_) (fun g1 => ?_)
    · replace hf := (if_pos g1).symm.trans hf
      refine aw_iload_n dX7_silence_61 rfl (aw_aload_n dX7_silence_62 rfl (aw_getr fkX7_7 (nl hN rfl) kd_39 (Nat.le_of_ble_eq_true rfl) rfl dX7_silence_63 (aw_iconst (nI 1) dX7_silence_66 ki_1 (aw_ialdk (j := 1) cx_1 (nl hN rfl) kd_40 ib_1_19 dX7_silence_67 ?_))))
      refine aw_icmp_le 80 dX7_silence_68 rfl (fun g2 => ?_) (fun g2 => ?_)
      · replace hf := (if_pos g2).symm.trans hf
        cases hf
        exact aw_iload_n dX7_silence_80 rfl (aw_iret rfl dX7_silence_81)
      · replace hf := (if_neg g2).symm.trans hf
        cases hf
        exact aw_aload_n dX7_silence_71 rfl (aw_getr fkX7_7 (nl hN rfl) kd_39 (Nat.le_of_ble_eq_true rfl) rfl dX7_silence_72 (aw_iconst (nI 1) dX7_silence_75 ki_1 (aw_ialdk (j := 1) cx_1 (nl hN rfl) kd_40 ib_1_19 dX7_silence_76 (aw_goto 81 dX7_silence_77 rfl (aw_iret rfl dX7_silence_81)))))
    · replace hf := (if_neg g1).symm.trans hf
      refine aw_aload_n dX7_silence_18 rfl (aw_getr fkX7_19 (nl hN rfl) kd_39 (Nat.le_of_ble_eq_true rfl) rfl dX7_silence_19 (aw_iconst (nI 2) dX7_silence_22 ki_2 (aw_iload_n dX7_silence_23 rfl (aw_aload_n dX7_silence_24 rfl (aw_getr fkX7_7 (nl hN rfl) kd_39 (Nat.le_of_ble_eq_true rfl) rfl dX7_silence_25 (aw_iconst (nI 1) dX7_silence_28 ki_1 (aw_ialdk (j := 1) cx_1 (nl hN rfl) kd_40 ib_1_19 dX7_silence_29 ?_)))))))
      obtain ⟨g3, hf⟩ := ogd hf
      refine aw_irem g3 dX7_silence_30 (aw_iadd dX7_silence_31 ?_)
      obtain ⟨g4, hf⟩ := ogd hf
      have key5 : AW E mX7_silence (KM E mX7_silence (some (.int v)) tw h') tw h 43 [some (.ref 39), some (.int x1), some (.int x2), some (.int x3)] [.int (if (h 43 (ix ((nI 2) + (jrem x3 (h 40 1))))) = nI 0 then x2 + (nI 1) else (nI 0))] := by
        have key6 : AW E mX7_silence (KM E mX7_silence (some (.int v)) tw h') tw h 54 [some (.ref 39), some (.int x1), some (.int (if (h 43 (ix ((nI 2) + (jrem x3 (h 40 1))))) = nI 0 then x2 + (nI 1) else (nI 0))), some (.int x3)] [.int (if (if (h 43 (ix ((nI 2) + (jrem x3 (h 40 1))))) = nI 0 then x2 + (nI 1) else (nI 0)) ≤ x1 then x1 else (if (h 43 (ix ((nI 2) + (jrem x3 (h 40 1))))) = nI 0 then x2 + (nI 1) else (nI 0)))] := by
          refine aw_istore_n dX7_silence_54 (Nat.le_of_ble_eq_true rfl) (aw_iinc (nI 1) dX7_silence_55 rfl (Nat.le_of_ble_eq_true rfl) ki_1 (aw_goto 6 dX7_silence_58 rfl ?_))
          exact aw_dk (ih _ _ _ _ hf) (And.intro rfl (And.intro rfl (And.intro rfl (And.intro rfl trivial))))
        refine aw_istore_n dX7_silence_43 (Nat.le_of_ble_eq_true rfl) (aw_iload_n dX7_silence_44 rfl (aw_iload_n dX7_silence_45 rfl ?_))
        refine aw_icmp_le 53 dX7_silence_46 rfl (fun g7 => ?_) (fun g7 => ?_)
        · skip
          refine aw_iload_n dX7_silence_53 rfl ?_
          simp only [if_pos g7] at key6 ⊢
          exact aw_dk key6 (And.intro rfl (And.intro rfl (And.intro rfl (And.intro rfl trivial))))
        · skip
          refine aw_iload_n dX7_silence_49 rfl (aw_goto 54 dX7_silence_50 rfl ?_)
          simp only [if_neg g7] at key6 ⊢
          exact aw_dk key6 (And.intro rfl (And.intro rfl (And.intro rfl (And.intro rfl trivial))))
      refine aw_iald (nl hN rfl) kd_43 g4 dX7_silence_32 ?_
      refine aw_if_ne 42 dX7_silence_33 rfl (fun g8 => ?_) (fun g8 => ?_)
      · skip
        refine aw_iconst (nI 0) dX7_silence_42 ki_0 ?_
        simp only [if_neg g8] at key5 ⊢
        exact aw_dk key5 (And.intro rfl (And.intro rfl (And.intro rfl (And.intro rfl trivial))))
      · skip
        refine aw_iload_n dX7_silence_36 rfl (aw_iconst (nI 1) dX7_silence_37 ki_1 (aw_iadd dX7_silence_38 (aw_goto 43 dX7_silence_39 rfl ?_)))
        simp only [if_pos g8] at key5 ⊢
        exact aw_dk key5 (And.intro rfl (And.intro rfl (And.intro rfl (And.intro rfl trivial))))
set_option maxHeartbeats 4000000 in
set_option maxRecDepth 100000 in
theorem ct_X7_silence {E : EV} (hE : EI E) (hN : 56 ≤ eN E) (F : Nat) {tw : TW}  {h : HP} {v : Int32} {h' : HP} (hf : f_X7_silence F  h = some (v, h')) : CT E mX7_silence tw h [.ref 39] (some (.int v)) tw h' := by
  refine CT.of hE (show plainFor yX7_silence = true by decide +kernel) (Nat.le_of_ble_eq_true rfl) 3 ?_
  show AW E mX7_silence (KM E mX7_silence (some (.int v)) tw h') tw h 0 [some (.ref 39), none, none, none] []
  unfold f_X7_silence at hf
  refine aw_iconst (nI 0) dX7_silence_0 ki_0 (aw_istore_n dX7_silence_1 (Nat.le_of_ble_eq_true rfl) (aw_iconst (nI 0) dX7_silence_2 ki_0 (aw_istore_n dX7_silence_3 (Nat.le_of_ble_eq_true rfl) (aw_iconst (nI 0) dX7_silence_4 ki_0 (aw_istore_n dX7_silence_5 (Nat.le_of_ble_eq_true rfl) ?_)))))
  exact aw_dk (ct_X7_silence_6 hE hN F F _ _ _ _ hf) (And.intro rfl (And.intro rfl (And.intro rfl (And.intro rfl trivial))))
set_option maxHeartbeats 4000000 in
set_option maxRecDepth 100000 in
theorem ct_X7_comesAgain_4 {E : EV} (hE : EI E) (hN : 56 ≤ eN E) (F : Nat) {tw : TW} {x1 : Int32} {v : Int32} {h' : HP} : ∀ (n : Nat) (x2 : Int32) (x3 : Int32) (h : HP), f_X7_comesAgain_4 F x1 n x2 x3 h = some (v, h') → AW E mX7_comesAgain (KM E mX7_comesAgain (some (.int v)) tw h') tw h 4 [some (.ref 39), some (.int x1), some (.int x2), some (.int x3)] [] := by
  intro n
  induction n with
  | zero => intro x2 x3 h hf; exact absurd (show (none : Option (Int32 × HP)) = some _ from hf) (fun z => nomatch z)
  | succ n ih =>
    intro x2 x3 h hf
    rw [f_X7_comesAgain_4] at hf
    refine aw_iload_n dX7_comesAgain_4 rfl (aw_aload_n dX7_comesAgain_5 rfl (aw_getr fkX7_7 (nl hN rfl) kd_39 (Nat.le_of_ble_eq_true rfl) rfl dX7_comesAgain_6 (aw_iconst (nI 1) dX7_comesAgain_9 ki_1 (aw_ialdk (j := 1) cx_1 (nl hN rfl) kd_40 ib_1_19 dX7_comesAgain_10 ?_))))
    refine aw_icmp_ge 54 dX7_comesAgain_11 rfl (fun g1 => ?_) (fun g1 => ?_)
    · replace hf := (if_pos g1).symm.trans hf
      refine aw_iload_n dX7_comesAgain_54 rfl ?_
      obtain ⟨g2, hf⟩ := ogd hf
      cases hf
      exact aw_zret rfl g2 dX7_comesAgain_55
    · replace hf := (if_neg g1).symm.trans hf
      refine aw_iload_n dX7_comesAgain_14 rfl ?_
      refine aw_if_eq 46 dX7_comesAgain_15 rfl (fun g3 => ?_) (fun g3 => ?_)
      · replace hf := (if_pos g3).symm.trans hf
        refine aw_iconst (nI 0) dX7_comesAgain_46 ki_0 (aw_istore_n dX7_comesAgain_47 (Nat.le_of_ble_eq_true rfl) (aw_iinc (nI 1) dX7_comesAgain_48 rfl (Nat.le_of_ble_eq_true rfl) ki_1 (aw_goto 4 dX7_comesAgain_51 rfl ?_)))
        exact aw_dk (ih _ _ _ hf) (And.intro rfl (And.intro rfl (And.intro rfl (And.intro rfl trivial))))
      · replace hf := (if_neg g3).symm.trans hf
        refine aw_aload_n dX7_comesAgain_18 rfl (aw_iload_n dX7_comesAgain_19 rfl (aw_iload_n dX7_comesAgain_20 rfl (aw_aload_n dX7_comesAgain_21 rfl (aw_getr fkX7_7 (nl hN rfl) kd_39 (Nat.le_of_ble_eq_true rfl) rfl dX7_comesAgain_22 (aw_iconst (nI 1) dX7_comesAgain_25 ki_1 (aw_ialdk (j := 1) cx_1 (nl hN rfl) kd_40 ib_1_19 dX7_comesAgain_26 ?_))))))
        obtain ⟨g4, hf⟩ := ogd hf
        refine aw_irem g4 dX7_comesAgain_27 ?_
        obtain ⟨v7, h5, c6, hf⟩ := ob_some hf
        refine aw_callVi (N := mX7_shifted) (As := [.int x3, .int (jrem x1 (h 40 1))]) lkX7_176 okX7_shifted (nl hN rfl) kd_39 rfl (by rfl) (by rfl) (Nat.le_of_ble_eq_true rfl) ry_X7_comesAgain_X7_shifted dX7_comesAgain_28 (And.intro (Nat.le_refl _) (Nat.le_refl _)) (ct_X7_shifted hE hN F c6) (aw_aload_n dX7_comesAgain_31 rfl (aw_getr fkX7_19 (nl hN rfl) kd_39 (Nat.le_of_ble_eq_true rfl) rfl dX7_comesAgain_32 (aw_iconst (nI 2) dX7_comesAgain_35 ki_2 (aw_iload_n dX7_comesAgain_36 rfl (aw_iadd dX7_comesAgain_37 ?_)))))
        obtain ⟨g8, hf⟩ := ogd hf
        have key9 : AW E mX7_comesAgain (KM E mX7_comesAgain (some (.int v)) tw h') tw h5 47 [some (.ref 39), some (.int x1), some (.int x2), some (.int x3)] [.int (if v7 = (h5 43 (ix ((nI 2) + x3))) then (nI 1) else (nI 0))] := by
          refine aw_istore_n dX7_comesAgain_47 (Nat.le_of_ble_eq_true rfl) (aw_iinc (nI 1) dX7_comesAgain_48 rfl (Nat.le_of_ble_eq_true rfl) ki_1 (aw_goto 4 dX7_comesAgain_51 rfl ?_))
          exact aw_dk (ih _ _ _ hf) (And.intro rfl (And.intro rfl (And.intro rfl (And.intro rfl trivial))))
        refine aw_iald (nl hN rfl) kd_43 g8 dX7_comesAgain_38 ?_
        refine aw_icmp_ne 46 dX7_comesAgain_39 rfl (fun g10 => ?_) (fun g10 => ?_)
        · skip
          refine aw_iconst (nI 0) dX7_comesAgain_46 ki_0 ?_
          simp only [if_neg g10] at key9 ⊢
          exact aw_dk key9 (And.intro rfl (And.intro rfl (And.intro rfl (And.intro rfl trivial))))
        · skip
          refine aw_iconst (nI 1) dX7_comesAgain_42 ki_1 (aw_goto 47 dX7_comesAgain_43 rfl ?_)
          simp only [if_pos g10] at key9 ⊢
          exact aw_dk key9 (And.intro rfl (And.intro rfl (And.intro rfl (And.intro rfl trivial))))
set_option maxHeartbeats 4000000 in
set_option maxRecDepth 100000 in
theorem ct_X7_comesAgain {E : EV} (hE : EI E) (hN : 56 ≤ eN E) (F : Nat) {tw : TW} {x1 : Int32} {h : HP} {v : Int32} {h' : HP} (hf : f_X7_comesAgain F x1 h = some (v, h')) : CT E mX7_comesAgain tw h [.ref 39, .int x1] (some (.int v)) tw h' := by
  refine CT.of hE (show plainFor yX7_comesAgain = true by decide +kernel) (Nat.le_of_ble_eq_true rfl) 2 ?_
  show AW E mX7_comesAgain (KM E mX7_comesAgain (some (.int v)) tw h') tw h 0 [some (.ref 39), some (.int x1), none, none] []
  unfold f_X7_comesAgain at hf
  refine aw_iconst (nI 1) dX7_comesAgain_0 ki_1 (aw_istore_n dX7_comesAgain_1 (Nat.le_of_ble_eq_true rfl) (aw_iconst (nI 0) dX7_comesAgain_2 ki_0 (aw_istore_n dX7_comesAgain_3 (Nat.le_of_ble_eq_true rfl) ?_)))
  exact aw_dk (ct_X7_comesAgain_4 hE hN F F _ _ _ hf) (And.intro rfl (And.intro rfl (And.intro rfl (And.intro rfl trivial))))
set_option maxHeartbeats 4000000 in
set_option maxRecDepth 100000 in
theorem ct_X7_again_2 {E : EV} (hE : EI E) (hN : 56 ≤ eN E) (F : Nat) {tw : TW}  {v : Int32} {h' : HP} : ∀ (n : Nat) (x1 : Int32) (h : HP), f_X7_again_2 F n x1 h = some (v, h') → AW E mX7_again (KM E mX7_again (some (.int v)) tw h') tw h 2 [some (.ref 39), some (.int x1)] [] := by
  intro n
  induction n with
  | zero => intro x1 h hf; exact absurd (show (none : Option (Int32 × HP)) = some _ from hf) (fun z => nomatch z)
  | succ n ih =>
    intro x1 h hf
    rw [f_X7_again_2] at hf
    refine aw_aload_n dX7_again_2 rfl (aw_iload_n dX7_again_3 rfl ?_)
    obtain ⟨v3, h1, c2, hf⟩ := ob_some hf
    refine aw_callVi (N := mX7_comesAgain) (As := [.int x1]) lkX7_187 okX7_comesAgain (nl hN rfl) kd_39 rfl (by rfl) (by rfl) (Nat.le_of_ble_eq_true rfl) ry_X7_again_X7_comesAgain dX7_again_4 (And.intro (Nat.le_refl _) (Nat.le_refl _)) (ct_X7_comesAgain hE hN F c2) ?_
    refine aw_if_ne 16 dX7_again_7 rfl (fun g4 => ?_) (fun g4 => ?_)
    · replace hf := (if_neg g4).symm.trans hf
      cases hf
      exact aw_iload_n dX7_again_16 rfl (aw_iret rfl dX7_again_17)
    · replace hf := (if_pos g4).symm.trans hf
      refine aw_iinc (nI 1) dX7_again_10 rfl (Nat.le_of_ble_eq_true rfl) ki_1 (aw_goto 2 dX7_again_13 rfl ?_)
      exact aw_dk (ih _ _ hf) (And.intro rfl (And.intro rfl trivial))
set_option maxHeartbeats 4000000 in
set_option maxRecDepth 100000 in
theorem ct_X7_again {E : EV} (hE : EI E) (hN : 56 ≤ eN E) (F : Nat) {tw : TW}  {h : HP} {v : Int32} {h' : HP} (hf : f_X7_again F  h = some (v, h')) : CT E mX7_again tw h [.ref 39] (some (.int v)) tw h' := by
  refine CT.of hE (show plainFor yX7_again = true by decide +kernel) (Nat.le_of_ble_eq_true rfl) 1 ?_
  show AW E mX7_again (KM E mX7_again (some (.int v)) tw h') tw h 0 [some (.ref 39), none] []
  unfold f_X7_again at hf
  refine aw_iconst (nI 1) dX7_again_0 ki_1 (aw_istore_n dX7_again_1 (Nat.le_of_ble_eq_true rfl) ?_)
  exact aw_dk (ct_X7_again_2 hE hN F F _ _ hf) (And.intro rfl (And.intro rfl trivial))
set_option maxHeartbeats 4000000 in
set_option maxRecDepth 100000 in
theorem ct_X7_isIll {E : EV} (hE : EI E) (hN : 56 ≤ eN E) (F : Nat) {tw : TW} {x1 : Int32} {x2 : Int32} {h : HP} {v : Int32} {h' : HP} (hf : f_X7_isIll F x1 x2 h = some (v, h')) : CT E mX7_isIll tw h [.ref 39, .int x1, .int x2] (some (.int v)) tw h' := by
  refine CT.of hE (show plainFor yX7_isIll = true by decide +kernel) (Nat.le_of_ble_eq_true rfl) 1 ?_
  show AW E mX7_isIll (KM E mX7_isIll (some (.int v)) tw h') tw h 0 [some (.ref 39), some (.int x1), some (.int x2), none] []
  unfold f_X7_isIll at hf
  refine aw_aload_n dX7_isIll_0 rfl (aw_getr fkX7_7 (nl hN rfl) kd_39 (Nat.le_of_ble_eq_true rfl) rfl dX7_isIll_1 (aw_iconst (nI 3) dX7_isIll_4 ki_3 (aw_iload_n dX7_isIll_5 rfl (aw_iadd dX7_isIll_6 ?_))))
  obtain ⟨g1, hf⟩ := ogd hf
  refine aw_iald (nl hN rfl) kd_40 g1 dX7_isIll_7 (aw_aload_n dX7_isIll_8 rfl (aw_getr fkX7_7 (nl hN rfl) kd_39 (Nat.le_of_ble_eq_true rfl) rfl dX7_isIll_9 (aw_iconst (nI 3) dX7_isIll_12 ki_3 (aw_iload_n dX7_isIll_13 rfl (aw_iadd dX7_isIll_14 ?_)))))
  obtain ⟨g2, hf⟩ := ogd hf
  have key8 : AW E mX7_isIll (KM E mX7_isIll (some (.int v)) tw h') tw h 28 [some (.ref 39), some (.int x1), some (.int x2), some (.int ((h 40 (ix ((nI 3) + x1))) - (h 40 (ix ((nI 3) + x2)))))] [.int (if nI 0 ≤ ((h 40 (ix ((nI 3) + x1))) - (h 40 (ix ((nI 3) + x2)))) then (h 40 (ix ((nI 3) + x1))) - (h 40 (ix ((nI 3) + x2))) else -((h 40 (ix ((nI 3) + x1))) - (h 40 (ix ((nI 3) + x2)))))] := by
    refine aw_bipush (nI 12) dX7_isIll_28 kb_12 (aw_irem (by decide) dX7_isIll_30 (aw_istore_n dX7_isIll_31 (Nat.le_of_ble_eq_true rfl) (aw_iload_n dX7_isIll_32 rfl (aw_iconst (nI 1) dX7_isIll_33 ki_1 ?_))))
    refine aw_icmp_eq 60 dX7_isIll_34 rfl (fun g3 => ?_) (fun g3 => ?_)
    · replace hf := (if_pos g3).symm.trans hf
      cases hf
      exact aw_iconst (nI 1) dX7_isIll_60 ki_1 (aw_goto 65 dX7_isIll_61 rfl (aw_zret rfl (Or.inr rfl) dX7_isIll_65))
    · replace hf := (if_neg g3).symm.trans hf
      refine aw_iload_n dX7_isIll_37 rfl (aw_iconst (nI 2) dX7_isIll_38 ki_2 ?_)
      refine aw_icmp_eq 60 dX7_isIll_39 rfl (fun g4 => ?_) (fun g4 => ?_)
      · replace hf := (if_pos g4).symm.trans hf
        cases hf
        exact aw_iconst (nI 1) dX7_isIll_60 ki_1 (aw_goto 65 dX7_isIll_61 rfl (aw_zret rfl (Or.inr rfl) dX7_isIll_65))
      · replace hf := (if_neg g4).symm.trans hf
        refine aw_iload_n dX7_isIll_42 rfl (aw_bipush (nI 6) dX7_isIll_43 kb_6 ?_)
        refine aw_icmp_eq 60 dX7_isIll_45 rfl (fun g5 => ?_) (fun g5 => ?_)
        · replace hf := (if_pos g5).symm.trans hf
          cases hf
          exact aw_iconst (nI 1) dX7_isIll_60 ki_1 (aw_goto 65 dX7_isIll_61 rfl (aw_zret rfl (Or.inr rfl) dX7_isIll_65))
        · replace hf := (if_neg g5).symm.trans hf
          refine aw_iload_n dX7_isIll_48 rfl (aw_bipush (nI 10) dX7_isIll_49 kb_10 ?_)
          refine aw_icmp_eq 60 dX7_isIll_51 rfl (fun g6 => ?_) (fun g6 => ?_)
          · replace hf := (if_pos g6).symm.trans hf
            cases hf
            exact aw_iconst (nI 1) dX7_isIll_60 ki_1 (aw_goto 65 dX7_isIll_61 rfl (aw_zret rfl (Or.inr rfl) dX7_isIll_65))
          · replace hf := (if_neg g6).symm.trans hf
            refine aw_iload_n dX7_isIll_54 rfl (aw_bipush (nI 11) dX7_isIll_55 kb_11 ?_)
            refine aw_icmp_ne 64 dX7_isIll_57 rfl (fun g7 => ?_) (fun g7 => ?_)
            · replace hf := (if_neg g7).symm.trans hf
              cases hf
              exact aw_iconst (nI 0) dX7_isIll_64 ki_0 (aw_zret rfl (Or.inl rfl) dX7_isIll_65)
            · replace hf := (if_pos g7).symm.trans hf
              cases hf
              exact aw_iconst (nI 1) dX7_isIll_60 ki_1 (aw_goto 65 dX7_isIll_61 rfl (aw_zret rfl (Or.inr rfl) dX7_isIll_65))
  refine aw_iald (nl hN rfl) kd_40 g2 dX7_isIll_15 (aw_isub dX7_isIll_16 (aw_istore_n dX7_isIll_17 (Nat.le_of_ble_eq_true rfl) (aw_iload_n dX7_isIll_18 rfl ?_)))
  refine aw_if_ge 27 dX7_isIll_19 rfl (fun g9 => ?_) (fun g9 => ?_)
  · skip
    refine aw_iload_n dX7_isIll_27 rfl ?_
    simp only [if_pos g9] at key8 ⊢
    exact aw_dk key8 (And.intro rfl (And.intro rfl (And.intro rfl (And.intro rfl trivial))))
  · skip
    refine aw_iload_n dX7_isIll_22 rfl (aw_ineg dX7_isIll_23 (aw_goto 28 dX7_isIll_24 rfl ?_))
    simp only [if_neg g9] at key8 ⊢
    exact aw_dk key8 (And.intro rfl (And.intro rfl (And.intro rfl (And.intro rfl trivial))))
set_option maxHeartbeats 4000000 in
set_option maxRecDepth 100000 in
theorem ct_X7_illOf_19 {E : EV} (hE : EI E) (hN : 56 ≤ eN E) (F : Nat) {tw : TW} {x1 : Int32} {x2 : Int32} {v : Int32} {h' : HP} {k_5 : Int32 → Int32 → HP → Option (Int32 × HP)} (hk_5 : ∀ (x3 : Int32) (x4 : Int32) (h : HP), k_5 x3 x4 h = some (v, h') → AW E mX7_illOf (KM E mX7_illOf (some (.int v)) tw h') tw h 5 [some (.ref 39), some (.int x1), some (.int x2), some (.int x3), some (.int x4), none] []) : ∀ (n : Nat) (x3 : Int32) (x4 : Int32) (x5 : Int32) (h : HP), f_X7_illOf_19 F x1 x2 k_5 n x3 x4 x5 h = some (v, h') → AW E mX7_illOf (KM E mX7_illOf (some (.int v)) tw h') tw h 19 [some (.ref 39), some (.int x1), some (.int x2), some (.int x3), some (.int x4), some (.int x5)] [] := by
  intro n
  induction n with
  | zero => intro x3 x4 x5 h hf; exact absurd (show (none : Option (Int32 × HP)) = some _ from hf) (fun z => nomatch z)
  | succ n ih =>
    intro x3 x4 x5 h hf
    rw [f_X7_illOf_19] at hf
    refine aw_iload dX7_illOf_19 rfl (aw_aload_n dX7_illOf_21 rfl (aw_getr fkX7_7 (nl hN rfl) kd_39 (Nat.le_of_ble_eq_true rfl) rfl dX7_illOf_22 (aw_iconst (nI 0) dX7_illOf_25 ki_0 (aw_ialdk (j := 0) cx_0 (nl hN rfl) kd_40 ib_0_19 dX7_illOf_26 ?_))))
    refine aw_icmp_ge 73 dX7_illOf_27 rfl (fun g2 => ?_) (fun g2 => ?_)
    · replace hf := (if_pos g2).symm.trans hf
      refine aw_iinc (nI 1) dX7_illOf_73 rfl (Nat.le_of_ble_eq_true rfl) ki_1 (aw_goto 5 dX7_illOf_76 rfl ?_)
      exact aw_dk (hk_5 _ _ _ hf) (And.intro rfl (And.intro rfl (And.intro rfl (And.intro rfl (And.intro rfl trivial)))))
    · replace hf := (if_neg g2).symm.trans hf
      refine aw_iload_n dX7_illOf_30 rfl (aw_iload_n dX7_illOf_31 rfl (aw_iload dX7_illOf_32 rfl ?_))
      obtain ⟨v5, h3, c4, hf⟩ := ob_some hf
      refine aw_callSi (N := mX7_has) (As := [.int x1, .int x4]) lkX7_152 okX7_has (by rfl) (by rfl) (Nat.le_of_ble_eq_true rfl) ry_X7_illOf_X7_has dX7_illOf_34 (And.intro (Nat.le_refl _) (Nat.le_refl _)) (ct_X7_has hE hN F c4) ?_
      refine aw_if_eq 64 dX7_illOf_37 rfl (fun g6 => ?_) (fun g6 => ?_)
      · replace hf := (if_pos g6).symm.trans hf
        refine aw_iconst (nI 0) dX7_illOf_64 ki_0 (aw_iadd dX7_illOf_65 (aw_istore_n dX7_illOf_66 (Nat.le_of_ble_eq_true rfl) (aw_iinc (nI 1) dX7_illOf_67 rfl (Nat.le_of_ble_eq_true rfl) ki_1 (aw_goto 19 dX7_illOf_70 rfl ?_))))
        exact aw_dk (ih _ _ _ _ hf) (And.intro rfl (And.intro rfl (And.intro rfl (And.intro rfl (And.intro rfl (And.intro rfl trivial))))))
      · replace hf := (if_neg g6).symm.trans hf
        refine aw_iload_n dX7_illOf_40 rfl (aw_iload dX7_illOf_41 rfl ?_)
        obtain ⟨v9, h7, c8, hf⟩ := ob_some hf
        refine aw_callSi (N := mX7_has) (As := [.int x2, .int x5]) lkX7_152 okX7_has (by rfl) (by rfl) (Nat.le_of_ble_eq_true rfl) ry_X7_illOf_X7_has dX7_illOf_43 (And.intro (Nat.le_refl _) (Nat.le_refl _)) (ct_X7_has hE hN F c8) ?_
        refine aw_if_eq 64 dX7_illOf_46 rfl (fun g10 => ?_) (fun g10 => ?_)
        · replace hf := (if_pos g10).symm.trans hf
          refine aw_iconst (nI 0) dX7_illOf_64 ki_0 (aw_iadd dX7_illOf_65 (aw_istore_n dX7_illOf_66 (Nat.le_of_ble_eq_true rfl) (aw_iinc (nI 1) dX7_illOf_67 rfl (Nat.le_of_ble_eq_true rfl) ki_1 (aw_goto 19 dX7_illOf_70 rfl ?_))))
          exact aw_dk (ih _ _ _ _ hf) (And.intro rfl (And.intro rfl (And.intro rfl (And.intro rfl (And.intro rfl (And.intro rfl trivial))))))
        · replace hf := (if_neg g10).symm.trans hf
          refine aw_aload_n dX7_illOf_49 rfl (aw_iload dX7_illOf_50 rfl (aw_iload dX7_illOf_52 rfl ?_))
          obtain ⟨v13, h11, c12, hf⟩ := ob_some hf
          have key14 : AW E mX7_illOf (KM E mX7_illOf (some (.int v)) tw h') tw h11 65 [some (.ref 39), some (.int x1), some (.int x2), some (.int x3), some (.int x4), some (.int x5)] [.int (if v13 = nI 0 then (nI 0) else (nI 1)), .int x3] := by
            refine aw_iadd dX7_illOf_65 (aw_istore_n dX7_illOf_66 (Nat.le_of_ble_eq_true rfl) (aw_iinc (nI 1) dX7_illOf_67 rfl (Nat.le_of_ble_eq_true rfl) ki_1 (aw_goto 19 dX7_illOf_70 rfl ?_)))
            exact aw_dk (ih _ _ _ _ hf) (And.intro rfl (And.intro rfl (And.intro rfl (And.intro rfl (And.intro rfl (And.intro rfl trivial))))))
          refine aw_callVi (N := mX7_isIll) (As := [.int x4, .int x5]) lkX7_190 okX7_isIll (nl hN rfl) kd_39 rfl (by rfl) (by rfl) (Nat.le_of_ble_eq_true rfl) ry_X7_illOf_X7_isIll dX7_illOf_54 (And.intro (Nat.le_refl _) (Nat.le_refl _)) (ct_X7_isIll hE hN F c12) ?_
          refine aw_if_eq 64 dX7_illOf_57 rfl (fun g15 => ?_) (fun g15 => ?_)
          · skip
            refine aw_iconst (nI 0) dX7_illOf_64 ki_0 ?_
            simp only [if_pos g15] at key14 ⊢
            exact aw_dk key14 (And.intro rfl (And.intro rfl (And.intro rfl (And.intro rfl (And.intro rfl (And.intro rfl trivial))))))
          · skip
            refine aw_iconst (nI 1) dX7_illOf_60 ki_1 (aw_goto 65 dX7_illOf_61 rfl ?_)
            simp only [if_neg g15] at key14 ⊢
            exact aw_dk key14 (And.intro rfl (And.intro rfl (And.intro rfl (And.intro rfl (And.intro rfl (And.intro rfl trivial))))))
set_option maxHeartbeats 4000000 in
set_option maxRecDepth 100000 in
theorem ct_X7_illOf_5 {E : EV} (hE : EI E) (hN : 56 ≤ eN E) (F : Nat) {tw : TW} {x1 : Int32} {x2 : Int32} {v : Int32} {h' : HP} : ∀ (n : Nat) (x3 : Int32) (x4 : Int32) (h : HP), f_X7_illOf_5 F x1 x2 n x3 x4 h = some (v, h') → AW E mX7_illOf (KM E mX7_illOf (some (.int v)) tw h') tw h 5 [some (.ref 39), some (.int x1), some (.int x2), some (.int x3), some (.int x4), none] [] := by
  intro n
  induction n with
  | zero => intro x3 x4 h hf; exact absurd (show (none : Option (Int32 × HP)) = some _ from hf) (fun z => nomatch z)
  | succ n ih =>
    intro x3 x4 h hf
    rw [f_X7_illOf_5] at hf
    refine aw_iload dX7_illOf_5 rfl (aw_aload_n dX7_illOf_7 rfl (aw_getr fkX7_7 (nl hN rfl) kd_39 (Nat.le_of_ble_eq_true rfl) rfl dX7_illOf_8 (aw_iconst (nI 0) dX7_illOf_11 ki_0 (aw_ialdk (j := 0) cx_0 (nl hN rfl) kd_40 ib_0_19 dX7_illOf_12 ?_))))
    refine aw_icmp_ge 79 dX7_illOf_13 rfl (fun g1 => ?_) (fun g1 => ?_)
    · replace hf := (if_pos g1).symm.trans hf
      cases hf
      exact aw_iload_n dX7_illOf_79 rfl (aw_iret rfl dX7_illOf_80)
    · replace hf := (if_neg g1).symm.trans hf
      refine aw_iconst (nI 0) dX7_illOf_16 ki_0 (aw_istore dX7_illOf_17 (Nat.le_of_ble_eq_true rfl) ?_)
      exact aw_dk (ct_X7_illOf_19 hE hN F ih F _ _ _ _ hf) (And.intro rfl (And.intro rfl (And.intro rfl (And.intro rfl (And.intro rfl (And.intro rfl trivial))))))
set_option maxHeartbeats 4000000 in
set_option maxRecDepth 100000 in
theorem ct_X7_illOf {E : EV} (hE : EI E) (hN : 56 ≤ eN E) (F : Nat) {tw : TW} {x1 : Int32} {x2 : Int32} {h : HP} {v : Int32} {h' : HP} (hf : f_X7_illOf F x1 x2 h = some (v, h')) : CT E mX7_illOf tw h [.ref 39, .int x1, .int x2] (some (.int v)) tw h' := by
  refine CT.of hE (show plainFor yX7_illOf = true by decide +kernel) (Nat.le_of_ble_eq_true rfl) 3 ?_
  show AW E mX7_illOf (KM E mX7_illOf (some (.int v)) tw h') tw h 0 [some (.ref 39), some (.int x1), some (.int x2), none, none, none] []
  unfold f_X7_illOf at hf
  refine aw_iconst (nI 0) dX7_illOf_0 ki_0 (aw_istore_n dX7_illOf_1 (Nat.le_of_ble_eq_true rfl) (aw_iconst (nI 0) dX7_illOf_2 ki_0 (aw_istore dX7_illOf_3 (Nat.le_of_ble_eq_true rfl) ?_)))
  exact aw_dk (ct_X7_illOf_5 hE hN F F _ _ _ hf) (And.intro rfl (And.intro rfl (And.intro rfl (And.intro rfl (And.intro rfl trivial)))))
set_option maxHeartbeats 4000000 in
set_option maxRecDepth 100000 in
theorem ct_X7_harsh_4 {E : EV} (hE : EI E) (hN : 56 ≤ eN E) (F : Nat) {tw : TW}  {v : Int32} {h' : HP} : ∀ (n : Nat) (x1 : Int32) (x2 : Int32) (h : HP), f_X7_harsh_4 F n x1 x2 h = some (v, h') → AW E mX7_harsh (KM E mX7_harsh (some (.int v)) tw h') tw h 4 [some (.ref 39), some (.int x1), some (.int x2)] [] := by
  intro n
  induction n with
  | zero => intro x1 x2 h hf; exact absurd (show (none : Option (Int32 × HP)) = some _ from hf) (fun z => nomatch z)
  | succ n ih =>
    intro x1 x2 h hf
    rw [f_X7_harsh_4] at hf
    refine aw_iload_n dX7_harsh_4 rfl (aw_aload_n dX7_harsh_5 rfl (aw_getr fkX7_7 (nl hN rfl) kd_39 (Nat.le_of_ble_eq_true rfl) rfl dX7_harsh_6 (aw_iconst (nI 1) dX7_harsh_9 ki_1 (aw_ialdk (j := 1) cx_1 (nl hN rfl) kd_40 ib_1_19 dX7_harsh_10 ?_))))
    refine aw_icmp_ge 45 dX7_harsh_11 rfl (fun g1 => ?_) (fun g1 => ?_)
    · replace hf := (if_pos g1).symm.trans hf
      cases hf
      exact aw_iload_n dX7_harsh_45 rfl (aw_iret rfl dX7_harsh_46)
    · replace hf := (if_neg g1).symm.trans hf
      refine aw_iload_n dX7_harsh_14 rfl (aw_aload_n dX7_harsh_15 rfl (aw_aload_n dX7_harsh_16 rfl (aw_getr fkX7_19 (nl hN rfl) kd_39 (Nat.le_of_ble_eq_true rfl) rfl dX7_harsh_17 (aw_iconst (nI 2) dX7_harsh_20 ki_2 (aw_iload_n dX7_harsh_21 rfl (aw_iadd dX7_harsh_22 ?_))))))
      obtain ⟨g2, hf⟩ := ogd hf
      refine aw_iald (nl hN rfl) kd_43 g2 dX7_harsh_23 (aw_aload_n dX7_harsh_24 rfl (aw_getr fkX7_19 (nl hN rfl) kd_39 (Nat.le_of_ble_eq_true rfl) rfl dX7_harsh_25 (aw_iconst (nI 2) dX7_harsh_28 ki_2 (aw_iload_n dX7_harsh_29 rfl (aw_iadd dX7_harsh_30 (aw_iald (nl hN rfl) kd_43 g2 dX7_harsh_31 ?_))))))
      obtain ⟨v5, h3, c4, hf⟩ := ob_some hf
      refine aw_callVi (N := mX7_illOf) (As := [.int (h 43 (ix ((nI 2) + x2))), .int (h 43 (ix ((nI 2) + x2)))]) lkX7_193 okX7_illOf (nl hN rfl) kd_39 rfl (by rfl) (by rfl) (Nat.le_of_ble_eq_true rfl) ry_X7_harsh_X7_illOf dX7_harsh_32 (And.intro (Nat.le_refl _) (Nat.le_refl _)) (ct_X7_illOf hE hN F c4) (aw_iconst (nI 2) dX7_harsh_35 ki_2 (aw_idiv (by decide) dX7_harsh_36 (aw_iadd dX7_harsh_37 (aw_istore_n dX7_harsh_38 (Nat.le_of_ble_eq_true rfl) (aw_iinc (nI 1) dX7_harsh_39 rfl (Nat.le_of_ble_eq_true rfl) ki_1 (aw_goto 4 dX7_harsh_42 rfl ?_))))))
      exact aw_dk (ih _ _ _ hf) (And.intro rfl (And.intro rfl (And.intro rfl trivial)))
set_option maxHeartbeats 4000000 in
set_option maxRecDepth 100000 in
theorem ct_X7_harsh {E : EV} (hE : EI E) (hN : 56 ≤ eN E) (F : Nat) {tw : TW}  {h : HP} {v : Int32} {h' : HP} (hf : f_X7_harsh F  h = some (v, h')) : CT E mX7_harsh tw h [.ref 39] (some (.int v)) tw h' := by
  refine CT.of hE (show plainFor yX7_harsh = true by decide +kernel) (Nat.le_of_ble_eq_true rfl) 2 ?_
  show AW E mX7_harsh (KM E mX7_harsh (some (.int v)) tw h') tw h 0 [some (.ref 39), none, none] []
  unfold f_X7_harsh at hf
  refine aw_iconst (nI 0) dX7_harsh_0 ki_0 (aw_istore_n dX7_harsh_1 (Nat.le_of_ble_eq_true rfl) (aw_iconst (nI 0) dX7_harsh_2 ki_0 (aw_istore_n dX7_harsh_3 (Nat.le_of_ble_eq_true rfl) ?_)))
  exact aw_dk (ct_X7_harsh_4 hE hN F F _ _ _ hf) (And.intro rfl (And.intro rfl (And.intro rfl trivial)))
set_option maxHeartbeats 4000000 in
set_option maxRecDepth 100000 in
theorem ct_X7_canon_34 {E : EV} (hE : EI E) (hN : 56 ≤ eN E) (F : Nat) {tw : TW} {x1 : Int32} {v : Int32} {h' : HP} {k_17 : Int32 → Int32 → Int32 → HP → Option (Int32 × HP)} (hk_17 : ∀ (x2 : Int32) (x3 : Int32) (x4 : Int32) (h : HP), k_17 x2 x3 x4 h = some (v, h') → AW E mX7_canon (KM E mX7_canon (some (.int v)) tw h') tw h 17 [some (.ref 39), some (.int x1), some (.int x2), some (.int x3), some (.int x4), none, none] []) : ∀ (n : Nat) (x2 : Int32) (x3 : Int32) (x4 : Int32) (x5 : Int32) (x6 : Int32) (h : HP), f_X7_canon_34 F x1 k_17 n x2 x3 x4 x5 x6 h = some (v, h') → AW E mX7_canon (KM E mX7_canon (some (.int v)) tw h') tw h 34 [some (.ref 39), some (.int x1), some (.int x2), some (.int x3), some (.int x4), some (.int x5), some (.int x6)] [] := by
  intro n
  induction n with
  | zero => intro x2 x3 x4 x5 x6 h hf; exact absurd (show (none : Option (Int32 × HP)) = some _ from hf) (fun z => nomatch z)
  | succ n ih =>
    intro x2 x3 x4 x5 x6 h hf
    rw [f_X7_canon_34] at hf
    refine aw_iload dX7_canon_34 rfl (aw_aload_n dX7_canon_36 rfl (aw_getr fkX7_7 (nl hN rfl) kd_39 (Nat.le_of_ble_eq_true rfl) rfl dX7_canon_37 (aw_iconst (nI 1) dX7_canon_40 ki_1 (aw_ialdk (j := 1) cx_1 (nl hN rfl) kd_40 ib_1_19 dX7_canon_41 ?_))))
    refine aw_icmp_ge 77 dX7_canon_42 rfl (fun g7 => ?_) (fun g7 => ?_)
    · replace hf := (if_pos g7).symm.trans hf
      have key15 : AW E mX7_canon (KM E mX7_canon (some (.int v)) tw h') tw h 89 [some (.ref 39), some (.int x1), some (.int x2), some (.int x3), some (.int x4), some (.int x5), some (.int x6)] [.int (if x3 ≤ x5 then x2 else x4)] := by
        have key16 : AW E mX7_canon (KM E mX7_canon (some (.int v)) tw h') tw h 102 [some (.ref 39), some (.int x1), some (.int (if x3 ≤ x5 then x2 else x4)), some (.int x3), some (.int x4), some (.int x5), some (.int x6)] [.int (if x3 ≤ x5 then x3 else x5)] := by
          refine aw_istore_n dX7_canon_102 (Nat.le_of_ble_eq_true rfl) (aw_iinc (nI 1) dX7_canon_103 rfl (Nat.le_of_ble_eq_true rfl) ki_1 (aw_goto 17 dX7_canon_106 rfl ?_))
          exact aw_dk (hk_17 _ _ _ _ hf) (And.intro rfl (And.intro rfl (And.intro rfl (And.intro rfl (And.intro rfl trivial)))))
        refine aw_istore_n dX7_canon_89 (Nat.le_of_ble_eq_true rfl) (aw_iload dX7_canon_90 rfl (aw_iload_n dX7_canon_92 rfl ?_))
        refine aw_icmp_ge 101 dX7_canon_93 rfl (fun g17 => ?_) (fun g17 => ?_)
        · skip
          refine aw_iload_n dX7_canon_101 rfl ?_
          simp only [if_pos g17] at key16 ⊢
          exact aw_dk key16 (And.intro rfl (And.intro rfl (And.intro rfl (And.intro rfl (And.intro rfl (And.intro rfl (And.intro rfl trivial)))))))
        · skip
          refine aw_iload dX7_canon_96 rfl (aw_goto 102 dX7_canon_98 rfl ?_)
          simp only [if_neg g17] at key16 ⊢
          exact aw_dk key16 (And.intro rfl (And.intro rfl (And.intro rfl (And.intro rfl (And.intro rfl (And.intro rfl (And.intro rfl trivial)))))))
      refine aw_iload dX7_canon_77 rfl (aw_iload_n dX7_canon_79 rfl ?_)
      refine aw_icmp_ge 88 dX7_canon_80 rfl (fun g18 => ?_) (fun g18 => ?_)
      · skip
        refine aw_iload_n dX7_canon_88 rfl ?_
        simp only [if_pos g18] at key15 ⊢
        exact aw_dk key15 (And.intro rfl (And.intro rfl (And.intro rfl (And.intro rfl (And.intro rfl (And.intro rfl (And.intro rfl trivial)))))))
      · skip
        refine aw_iload dX7_canon_83 rfl (aw_goto 89 dX7_canon_85 rfl ?_)
        simp only [if_neg g18] at key15 ⊢
        exact aw_dk key15 (And.intro rfl (And.intro rfl (And.intro rfl (And.intro rfl (And.intro rfl (And.intro rfl (And.intro rfl trivial)))))))
    · replace hf := (if_neg g7).symm.trans hf
      refine aw_iload dX7_canon_45 rfl (aw_aload_n dX7_canon_47 rfl (aw_aload_n dX7_canon_48 rfl (aw_getr fkX7_19 (nl hN rfl) kd_39 (Nat.le_of_ble_eq_true rfl) rfl dX7_canon_49 (aw_iconst (nI 2) dX7_canon_52 ki_2 (aw_iload dX7_canon_53 rfl (aw_iadd dX7_canon_55 ?_))))))
      obtain ⟨g8, hf⟩ := ogd hf
      refine aw_iald (nl hN rfl) kd_43 g8 dX7_canon_56 (aw_aload_n dX7_canon_57 rfl (aw_iload dX7_canon_58 rfl (aw_iload dX7_canon_60 rfl ?_)))
      obtain ⟨v11, h9, c10, hf⟩ := ob_some hf
      refine aw_callVi (N := mX7_shifted) (As := [.int x6, .int x4]) lkX7_176 okX7_shifted (nl hN rfl) kd_39 rfl (by rfl) (by rfl) (Nat.le_of_ble_eq_true rfl) ry_X7_canon_X7_shifted dX7_canon_62 (And.intro (Nat.le_refl _) (Nat.le_refl _)) (ct_X7_shifted hE hN F c10) ?_
      obtain ⟨v14, h12, c13, hf⟩ := ob_some hf
      refine aw_callVi (N := mX7_illOf) (As := [.int (h 43 (ix ((nI 2) + x6))), .int v11]) lkX7_193 okX7_illOf (nl hN rfl) kd_39 rfl (by rfl) (by rfl) (Nat.le_of_ble_eq_true rfl) ry_X7_canon_X7_illOf dX7_canon_65 (And.intro (Nat.le_refl _) (Nat.le_refl _)) (ct_X7_illOf hE hN F c13) (aw_iadd dX7_canon_68 (aw_istore dX7_canon_69 (Nat.le_of_ble_eq_true rfl) (aw_iinc (nI 1) dX7_canon_71 rfl (Nat.le_of_ble_eq_true rfl) ki_1 (aw_goto 34 dX7_canon_74 rfl ?_))))
      exact aw_dk (ih _ _ _ _ _ _ hf) (And.intro rfl (And.intro rfl (And.intro rfl (And.intro rfl (And.intro rfl (And.intro rfl (And.intro rfl trivial)))))))
set_option maxHeartbeats 4000000 in
set_option maxRecDepth 100000 in
theorem ct_X7_canon_17 {E : EV} (hE : EI E) (hN : 56 ≤ eN E) (F : Nat) {tw : TW} {x1 : Int32} {v : Int32} {h' : HP} : ∀ (n : Nat) (x2 : Int32) (x3 : Int32) (x4 : Int32) (h : HP), f_X7_canon_17 F x1 n x2 x3 x4 h = some (v, h') → AW E mX7_canon (KM E mX7_canon (some (.int v)) tw h') tw h 17 [some (.ref 39), some (.int x1), some (.int x2), some (.int x3), some (.int x4), none, none] [] := by
  intro n
  induction n with
  | zero => intro x2 x3 x4 h hf; exact absurd (show (none : Option (Int32 × HP)) = some _ from hf) (fun z => nomatch z)
  | succ n ih =>
    intro x2 x3 x4 h hf
    rw [f_X7_canon_17] at hf
    refine aw_iload dX7_canon_17 rfl (aw_aload_n dX7_canon_19 rfl (aw_getr fkX7_7 (nl hN rfl) kd_39 (Nat.le_of_ble_eq_true rfl) rfl dX7_canon_20 (aw_iconst (nI 1) dX7_canon_23 ki_1 (aw_ialdk (j := 1) cx_1 (nl hN rfl) kd_40 ib_1_19 dX7_canon_24 ?_))))
    refine aw_icmp_ge 109 dX7_canon_25 rfl (fun g5 => ?_) (fun g5 => ?_)
    · replace hf := (if_pos g5).symm.trans hf
      refine aw_iload_n dX7_canon_109 rfl ?_
      refine aw_if_ne 117 dX7_canon_110 rfl (fun g6 => ?_) (fun g6 => ?_)
      · replace hf := (if_neg g6).symm.trans hf
        cases hf
        exact aw_iload_n dX7_canon_117 rfl (aw_iret rfl dX7_canon_118)
      · replace hf := (if_pos g6).symm.trans hf
        cases hf
        exact aw_iload_n dX7_canon_113 rfl (aw_goto 118 dX7_canon_114 rfl (aw_iret rfl dX7_canon_118))
    · replace hf := (if_neg g5).symm.trans hf
      refine aw_iconst (nI 0) dX7_canon_28 ki_0 (aw_istore dX7_canon_29 (Nat.le_of_ble_eq_true rfl) (aw_iconst (nI 0) dX7_canon_31 ki_0 (aw_istore dX7_canon_32 (Nat.le_of_ble_eq_true rfl) ?_)))
      exact aw_dk (ct_X7_canon_34 hE hN F ih F _ _ _ _ _ _ hf) (And.intro rfl (And.intro rfl (And.intro rfl (And.intro rfl (And.intro rfl (And.intro rfl (And.intro rfl trivial)))))))
set_option maxHeartbeats 4000000 in
set_option maxRecDepth 100000 in
theorem ct_X7_canon {E : EV} (hE : EI E) (hN : 56 ≤ eN E) (F : Nat) {tw : TW} {x1 : Int32} {h : HP} {v : Int32} {h' : HP} (hf : f_X7_canon F x1 h = some (v, h')) : CT E mX7_canon tw h [.ref 39, .int x1] (some (.int v)) tw h' := by
  refine CT.of hE (show plainFor yX7_canon = true by decide +kernel) (Nat.le_of_ble_eq_true rfl) 5 ?_
  show AW E mX7_canon (KM E mX7_canon (some (.int v)) tw h') tw h 0 [some (.ref 39), some (.int x1), none, none, none, none, none] []
  unfold f_X7_canon at hf
  refine aw_iload_n dX7_canon_0 rfl ?_
  obtain ⟨v3, h1, c2, hf⟩ := ob_some hf
  refine aw_callSi (N := mX7_isTwo) (As := [.int x1]) lkX7_196 okX7_isTwo (by rfl) (by rfl) (Nat.le_of_ble_eq_true rfl) ry_X7_canon_X7_isTwo dX7_canon_1 (And.intro (Nat.le_refl _) (Nat.le_refl _)) (ct_X7_isTwo hE hN F c2) ?_
  refine aw_if_ne 9 dX7_canon_4 rfl (fun g4 => ?_) (fun g4 => ?_)
  · replace hf := (if_neg g4).symm.trans hf
    refine aw_iconst (nI 0) dX7_canon_9 ki_0 (aw_istore_n dX7_canon_10 (Nat.le_of_ble_eq_true rfl) (aw_ldc kcX7_199 dX7_canon_11 (aw_istore_n dX7_canon_13 (Nat.le_of_ble_eq_true rfl) (aw_iconst (nI 1) dX7_canon_14 ki_1 (aw_istore dX7_canon_15 (Nat.le_of_ble_eq_true rfl) ?_)))))
    exact aw_dk (ct_X7_canon_17 hE hN F F _ _ _ _ hf) (And.intro rfl (And.intro rfl (And.intro rfl (And.intro rfl (And.intro rfl trivial)))))
  · replace hf := (if_pos g4).symm.trans hf
    cases hf
    exact aw_iconst (-1) dX7_canon_7 ki_m1 (aw_iret rfl dX7_canon_8)
set_option maxHeartbeats 4000000 in
set_option maxRecDepth 100000 in
theorem ct_X7_want {E : EV} (hE : EI E) (hN : 56 ≤ eN E) (F : Nat) {tw : TW} {x1 : Int32} {x2 : Int32} {h : HP} {v : Int32} {h' : HP} (hf : f_X7_want F x1 x2 h = some (v, h')) : CT E mX7_want tw h [.ref 39, .int x1, .int x2] (some (.int v)) tw h' := by
  refine CT.of hE (show plainFor yX7_want = true by decide +kernel) (Nat.le_of_ble_eq_true rfl) 1 ?_
  show AW E mX7_want (KM E mX7_want (some (.int v)) tw h') tw h 0 [some (.ref 39), some (.int x1), some (.int x2), none] []
  unfold f_X7_want at hf
  refine aw_aload_n dX7_want_0 rfl (aw_iload_n dX7_want_1 rfl ?_)
  obtain ⟨v3, h1, c2, hf⟩ := ob_some hf
  refine aw_callVi (N := mX7_isRow) (As := [.int x1]) lkX7_162 okX7_isRow (nl hN rfl) kd_39 rfl (by rfl) (by rfl) (Nat.le_of_ble_eq_true rfl) ry_X7_want_X7_isRow dX7_want_2 (And.intro (Nat.le_refl _) (Nat.le_refl _)) (ct_X7_isRow hE hN F c2) ?_
  refine aw_if_eq 16 dX7_want_5 rfl (fun g4 => ?_) (fun g4 => ?_)
  · replace hf := (if_pos g4).symm.trans hf
    cases hf
    exact aw_iconst (-1) dX7_want_16 ki_m1 (aw_iret rfl dX7_want_17)
  · replace hf := (if_neg g4).symm.trans hf
    refine aw_aload_n dX7_want_8 rfl (aw_iload_n dX7_want_9 rfl ?_)
    obtain ⟨v7, h5, c6, hf⟩ := ob_some hf
    refine aw_callVi (N := mX7_isSet) (As := [.int x2]) lkX7_200 okX7_isSet (nl hN rfl) kd_39 rfl (by rfl) (by rfl) (Nat.le_of_ble_eq_true rfl) ry_X7_want_X7_isSet dX7_want_10 (And.intro (Nat.le_refl _) (Nat.le_refl _)) (ct_X7_isSet hE hN F c6) ?_
    refine aw_if_ne 18 dX7_want_13 rfl (fun g8 => ?_) (fun g8 => ?_)
    · replace hf := (if_neg g8).symm.trans hf
      refine aw_aload_n dX7_want_18 rfl (aw_getr fkX7_31 (nl hN rfl) kd_39 (Nat.le_of_ble_eq_true rfl) rfl dX7_want_19 (aw_iload_n dX7_want_22 rfl ?_))
      obtain ⟨g9, hf⟩ := ogd hf
      cases hf
      exact aw_iald (nl hN rfl) kd_47 g9 dX7_want_23 (aw_istore_n dX7_want_24 (Nat.le_of_ble_eq_true rfl) (aw_aload_n dX7_want_25 rfl (aw_getr fkX7_31 (nl hN rfl) kd_39 (Nat.le_of_ble_eq_true rfl) rfl dX7_want_26 (aw_iload_n dX7_want_29 rfl (aw_iload_n dX7_want_30 rfl (aw_iast (nl hN rfl) kd_47 g9 dX7_want_31 (aw_iload_n dX7_want_32 rfl (aw_iret rfl dX7_want_33))))))))
    · replace hf := (if_pos g8).symm.trans hf
      cases hf
      exact aw_iconst (-1) dX7_want_16 ki_m1 (aw_iret rfl dX7_want_17)
set_option maxHeartbeats 4000000 in
set_option maxRecDepth 100000 in
theorem ct_X7_changes_34 {E : EV} (hE : EI E) (hN : 56 ≤ eN E) (F : Nat) {tw : TW} {x1 : Int32} {v : Int32} {h' : HP} {k_17 : Int32 → Int32 → Int32 → HP → Option (Int32 × HP)} (hk_17 : ∀ (x2 : Int32) (x3 : Int32) (x4 : Int32) (h : HP), k_17 x2 x3 x4 h = some (v, h') → AW E mX7_changes (KM E mX7_changes (some (.int v)) tw h') tw h 17 [some (.ref 39), some (.int x1), some (.int x2), some (.int x3), some (.int x4), none, none] []) : ∀ (n : Nat) (x2 : Int32) (x3 : Int32) (x4 : Int32) (x5 : Int32) (x6 : Int32) (h : HP), f_X7_changes_34 F x1 k_17 n x2 x3 x4 x5 x6 h = some (v, h') → AW E mX7_changes (KM E mX7_changes (some (.int v)) tw h') tw h 34 [some (.ref 39), some (.int x1), some (.int x2), some (.int x3), some (.int x4), some (.int x5), some (.int x6)] [] := by
  intro n
  induction n with
  | zero => intro x2 x3 x4 x5 x6 h hf; exact absurd (show (none : Option (Int32 × HP)) = some _ from hf) (fun z => nomatch z)
  | succ n ih =>
    intro x2 x3 x4 x5 x6 h hf
    rw [f_X7_changes_34] at hf
    refine aw_iload dX7_changes_34 rfl (aw_aload_n dX7_changes_36 rfl (aw_getr fkX7_7 (nl hN rfl) kd_39 (Nat.le_of_ble_eq_true rfl) rfl dX7_changes_37 (aw_iconst (nI 1) dX7_changes_40 ki_1 (aw_ialdk (j := 1) cx_1 (nl hN rfl) kd_40 ib_1_19 dX7_changes_41 ?_))))
    refine aw_icmp_ge 75 dX7_changes_42 rfl (fun g7 => ?_) (fun g7 => ?_)
    · replace hf := (if_pos g7).symm.trans hf
      have key15 : AW E mX7_changes (KM E mX7_changes (some (.int v)) tw h') tw h 87 [some (.ref 39), some (.int x1), some (.int x2), some (.int x3), some (.int x4), some (.int x5), some (.int x6)] [.int (if x3 ≤ x5 then x2 else x4)] := by
        have key16 : AW E mX7_changes (KM E mX7_changes (some (.int v)) tw h') tw h 100 [some (.ref 39), some (.int x1), some (.int (if x3 ≤ x5 then x2 else x4)), some (.int x3), some (.int x4), some (.int x5), some (.int x6)] [.int (if x3 ≤ x5 then x3 else x5)] := by
          refine aw_istore_n dX7_changes_100 (Nat.le_of_ble_eq_true rfl) (aw_iinc (nI 1) dX7_changes_101 rfl (Nat.le_of_ble_eq_true rfl) ki_1 (aw_goto 17 dX7_changes_104 rfl ?_))
          exact aw_dk (hk_17 _ _ _ _ hf) (And.intro rfl (And.intro rfl (And.intro rfl (And.intro rfl (And.intro rfl trivial)))))
        refine aw_istore_n dX7_changes_87 (Nat.le_of_ble_eq_true rfl) (aw_iload dX7_changes_88 rfl (aw_iload_n dX7_changes_90 rfl ?_))
        refine aw_icmp_ge 99 dX7_changes_91 rfl (fun g17 => ?_) (fun g17 => ?_)
        · skip
          refine aw_iload_n dX7_changes_99 rfl ?_
          simp only [if_pos g17] at key16 ⊢
          exact aw_dk key16 (And.intro rfl (And.intro rfl (And.intro rfl (And.intro rfl (And.intro rfl (And.intro rfl (And.intro rfl trivial)))))))
        · skip
          refine aw_iload dX7_changes_94 rfl (aw_goto 100 dX7_changes_96 rfl ?_)
          simp only [if_neg g17] at key16 ⊢
          exact aw_dk key16 (And.intro rfl (And.intro rfl (And.intro rfl (And.intro rfl (And.intro rfl (And.intro rfl (And.intro rfl trivial)))))))
      refine aw_iload dX7_changes_75 rfl (aw_iload_n dX7_changes_77 rfl ?_)
      refine aw_icmp_ge 86 dX7_changes_78 rfl (fun g18 => ?_) (fun g18 => ?_)
      · skip
        refine aw_iload_n dX7_changes_86 rfl ?_
        simp only [if_pos g18] at key15 ⊢
        exact aw_dk key15 (And.intro rfl (And.intro rfl (And.intro rfl (And.intro rfl (And.intro rfl (And.intro rfl (And.intro rfl trivial)))))))
      · skip
        refine aw_iload dX7_changes_81 rfl (aw_goto 87 dX7_changes_83 rfl ?_)
        simp only [if_neg g18] at key15 ⊢
        exact aw_dk key15 (And.intro rfl (And.intro rfl (And.intro rfl (And.intro rfl (And.intro rfl (And.intro rfl (And.intro rfl trivial)))))))
    · replace hf := (if_neg g7).symm.trans hf
      refine aw_iload dX7_changes_45 rfl (aw_aload_n dX7_changes_47 rfl (aw_iload dX7_changes_48 rfl (aw_iload dX7_changes_50 rfl ?_)))
      obtain ⟨v10, h8, c9, hf⟩ := ob_some hf
      refine aw_callVi (N := mX7_shifted) (As := [.int x6, .int x4]) lkX7_176 okX7_shifted (nl hN rfl) kd_39 rfl (by rfl) (by rfl) (Nat.le_of_ble_eq_true rfl) ry_X7_changes_X7_shifted dX7_changes_52 (And.intro (Nat.le_refl _) (Nat.le_refl _)) (ct_X7_shifted hE hN F c9) (aw_aload_n dX7_changes_55 rfl (aw_getr fkX7_31 (nl hN rfl) kd_39 (Nat.le_of_ble_eq_true rfl) rfl dX7_changes_56 (aw_iload dX7_changes_59 rfl ?_)))
      obtain ⟨g11, hf⟩ := ogd hf
      refine aw_iald (nl hN rfl) kd_47 g11 dX7_changes_61 (aw_ixor dX7_changes_62 ?_)
      obtain ⟨v14, h12, c13, hf⟩ := ob_some hf
      refine aw_callSi (N := mX7_bits) (As := [.int (v10 ^^^ (h8 47 (ix x6)))]) lkX7_114 okX7_bits (by rfl) (by rfl) (Nat.le_of_ble_eq_true rfl) ry_X7_changes_X7_bits dX7_changes_63 (And.intro (Nat.le_refl _) (Nat.le_refl _)) (ct_X7_bits hE hN F c13) (aw_iadd dX7_changes_66 (aw_istore dX7_changes_67 (Nat.le_of_ble_eq_true rfl) (aw_iinc (nI 1) dX7_changes_69 rfl (Nat.le_of_ble_eq_true rfl) ki_1 (aw_goto 34 dX7_changes_72 rfl ?_))))
      exact aw_dk (ih _ _ _ _ _ _ hf) (And.intro rfl (And.intro rfl (And.intro rfl (And.intro rfl (And.intro rfl (And.intro rfl (And.intro rfl trivial)))))))
set_option maxHeartbeats 4000000 in
set_option maxRecDepth 100000 in
theorem ct_X7_changes_17 {E : EV} (hE : EI E) (hN : 56 ≤ eN E) (F : Nat) {tw : TW} {x1 : Int32} {v : Int32} {h' : HP} : ∀ (n : Nat) (x2 : Int32) (x3 : Int32) (x4 : Int32) (h : HP), f_X7_changes_17 F x1 n x2 x3 x4 h = some (v, h') → AW E mX7_changes (KM E mX7_changes (some (.int v)) tw h') tw h 17 [some (.ref 39), some (.int x1), some (.int x2), some (.int x3), some (.int x4), none, none] [] := by
  intro n
  induction n with
  | zero => intro x2 x3 x4 h hf; exact absurd (show (none : Option (Int32 × HP)) = some _ from hf) (fun z => nomatch z)
  | succ n ih =>
    intro x2 x3 x4 h hf
    rw [f_X7_changes_17] at hf
    refine aw_iload dX7_changes_17 rfl (aw_aload_n dX7_changes_19 rfl (aw_getr fkX7_7 (nl hN rfl) kd_39 (Nat.le_of_ble_eq_true rfl) rfl dX7_changes_20 (aw_iconst (nI 1) dX7_changes_23 ki_1 (aw_ialdk (j := 1) cx_1 (nl hN rfl) kd_40 ib_1_19 dX7_changes_24 ?_))))
    refine aw_icmp_ge 107 dX7_changes_25 rfl (fun g5 => ?_) (fun g5 => ?_)
    · replace hf := (if_pos g5).symm.trans hf
      refine aw_iload_n dX7_changes_107 rfl ?_
      refine aw_if_ne 115 dX7_changes_108 rfl (fun g6 => ?_) (fun g6 => ?_)
      · replace hf := (if_neg g6).symm.trans hf
        cases hf
        exact aw_iload_n dX7_changes_115 rfl (aw_iret rfl dX7_changes_116)
      · replace hf := (if_pos g6).symm.trans hf
        cases hf
        exact aw_iload_n dX7_changes_111 rfl (aw_goto 116 dX7_changes_112 rfl (aw_iret rfl dX7_changes_116))
    · replace hf := (if_neg g5).symm.trans hf
      refine aw_iconst (nI 0) dX7_changes_28 ki_0 (aw_istore dX7_changes_29 (Nat.le_of_ble_eq_true rfl) (aw_iconst (nI 0) dX7_changes_31 ki_0 (aw_istore dX7_changes_32 (Nat.le_of_ble_eq_true rfl) ?_)))
      exact aw_dk (ct_X7_changes_34 hE hN F ih F _ _ _ _ _ _ hf) (And.intro rfl (And.intro rfl (And.intro rfl (And.intro rfl (And.intro rfl (And.intro rfl (And.intro rfl trivial)))))))
set_option maxHeartbeats 4000000 in
set_option maxRecDepth 100000 in
theorem ct_X7_changes {E : EV} (hE : EI E) (hN : 56 ≤ eN E) (F : Nat) {tw : TW} {x1 : Int32} {h : HP} {v : Int32} {h' : HP} (hf : f_X7_changes F x1 h = some (v, h')) : CT E mX7_changes tw h [.ref 39, .int x1] (some (.int v)) tw h' := by
  refine CT.of hE (show plainFor yX7_changes = true by decide +kernel) (Nat.le_of_ble_eq_true rfl) 5 ?_
  show AW E mX7_changes (KM E mX7_changes (some (.int v)) tw h') tw h 0 [some (.ref 39), some (.int x1), none, none, none, none, none] []
  unfold f_X7_changes at hf
  refine aw_iload_n dX7_changes_0 rfl ?_
  obtain ⟨v3, h1, c2, hf⟩ := ob_some hf
  refine aw_callSi (N := mX7_isTwo) (As := [.int x1]) lkX7_196 okX7_isTwo (by rfl) (by rfl) (Nat.le_of_ble_eq_true rfl) ry_X7_changes_X7_isTwo dX7_changes_1 (And.intro (Nat.le_refl _) (Nat.le_refl _)) (ct_X7_isTwo hE hN F c2) ?_
  refine aw_if_ne 9 dX7_changes_4 rfl (fun g4 => ?_) (fun g4 => ?_)
  · replace hf := (if_neg g4).symm.trans hf
    refine aw_iconst (nI 0) dX7_changes_9 ki_0 (aw_istore_n dX7_changes_10 (Nat.le_of_ble_eq_true rfl) (aw_ldc kcX7_199 dX7_changes_11 (aw_istore_n dX7_changes_13 (Nat.le_of_ble_eq_true rfl) (aw_iconst (nI 0) dX7_changes_14 ki_0 (aw_istore dX7_changes_15 (Nat.le_of_ble_eq_true rfl) ?_)))))
    exact aw_dk (ct_X7_changes_17 hE hN F F _ _ _ _ hf) (And.intro rfl (And.intro rfl (And.intro rfl (And.intro rfl (And.intro rfl trivial)))))
  · replace hf := (if_pos g4).symm.trans hf
    cases hf
    exact aw_iconst (-1) dX7_changes_7 ki_m1 (aw_iret rfl dX7_changes_8)
set_option maxHeartbeats 4000000 in
set_option maxRecDepth 100000 in
theorem ct_X7_cell {E : EV} (hE : EI E) (hN : 56 ≤ eN E) (F : Nat) {tw : TW} {x0 : Int32} {x1 : Int32} {x2 : Int32} {h : HP} {v : Int32} {h' : HP} (hf : f_X7_cell F x0 x1 x2 h = some (v, h')) : CT E mX7_cell tw h [.int x0, .int x1, .int x2] (some (.int v)) tw h' := by
  refine CT.of hE (show plainFor yX7_cell = true by decide +kernel) (Nat.le_of_ble_eq_true rfl) 0 ?_
  show AW E mX7_cell (KM E mX7_cell (some (.int v)) tw h') tw h 0 [some (.int x0), some (.int x1), some (.int x2)] []
  unfold f_X7_cell at hf
  cases hf
  exact aw_bipush (nI 33) dX7_cell_0 kb_33 (aw_iload_n dX7_cell_2 rfl (aw_imul dX7_cell_3 (aw_iload_n dX7_cell_4 rfl (aw_iadd dX7_cell_5 (aw_bipush (nI 33) dX7_cell_6 kb_33 (aw_imul dX7_cell_8 (aw_iload_n dX7_cell_9 rfl (aw_iadd dX7_cell_10 (aw_iret rfl dX7_cell_11)))))))))
set_option maxHeartbeats 4000000 in
set_option maxRecDepth 100000 in
theorem ct_X7_isAgain_8 {E : EV} (hE : EI E) (hN : 56 ≤ eN E) (F : Nat) {tw : TW} {x1 : Int32} {x2 : Int32} {x3 : Int32} {v : Int32} {h' : HP} : ∀ (n : Nat) (x4 : Int32) (x5 : Int32) (h : HP), f_X7_isAgain_8 F x1 x2 x3 n x4 x5 h = some (v, h') → AW E mX7_isAgain (KM E mX7_isAgain (some (.int v)) tw h') tw h 8 [some (.ref 39), none, some (.int x2), some (.int x3), some (.int x4), some (.int x5)] [] := by
  intro n
  induction n with
  | zero => intro x4 x5 h hf; exact absurd (show (none : Option (Int32 × HP)) = some _ from hf) (fun z => nomatch z)
  | succ n ih =>
    intro x4 x5 h hf
    rw [f_X7_isAgain_8] at hf
    refine aw_iload dX7_isAgain_8 rfl (aw_iload_n dX7_isAgain_10 rfl ?_)
    refine aw_icmp_ge 55 dX7_isAgain_11 rfl (fun g1 => ?_) (fun g1 => ?_)
    · replace hf := (if_pos g1).symm.trans hf
      refine aw_iload dX7_isAgain_55 rfl ?_
      obtain ⟨g2, hf⟩ := ogd hf
      cases hf
      exact aw_zret rfl g2 dX7_isAgain_57
    · replace hf := (if_neg g1).symm.trans hf
      refine aw_iload dX7_isAgain_14 rfl ?_
      refine aw_if_eq 46 dX7_isAgain_16 rfl (fun g3 => ?_) (fun g3 => ?_)
      · replace hf := (if_pos g3).symm.trans hf
        refine aw_iconst (nI 0) dX7_isAgain_46 ki_0 (aw_istore dX7_isAgain_47 (Nat.le_of_ble_eq_true rfl) (aw_iinc (nI 1) dX7_isAgain_49 rfl (Nat.le_of_ble_eq_true rfl) ki_1 (aw_goto 8 dX7_isAgain_52 rfl ?_)))
        exact aw_dk (ih _ _ _ hf) (And.intro rfl (And.intro rfl (And.intro rfl (And.intro rfl (And.intro rfl trivial)))))
      · replace hf := (if_neg g3).symm.trans hf
        refine aw_aload_n dX7_isAgain_19 rfl (aw_getr fkX7_19 (nl hN rfl) kd_39 (Nat.le_of_ble_eq_true rfl) rfl dX7_isAgain_20 (aw_iconst (nI 2) dX7_isAgain_23 ki_2 (aw_iload dX7_isAgain_24 rfl (aw_iadd dX7_isAgain_26 ?_))))
        obtain ⟨g4, hf⟩ := ogd hf
        refine aw_iald (nl hN rfl) kd_43 g4 dX7_isAgain_27 (aw_aload_n dX7_isAgain_28 rfl (aw_getr fkX7_19 (nl hN rfl) kd_39 (Nat.le_of_ble_eq_true rfl) rfl dX7_isAgain_29 (aw_iconst (nI 2) dX7_isAgain_32 ki_2 (aw_iload dX7_isAgain_33 rfl (aw_iadd dX7_isAgain_35 (aw_iload_n dX7_isAgain_36 rfl (aw_isub dX7_isAgain_37 ?_)))))))
        obtain ⟨g5, hf⟩ := ogd hf
        have key6 : AW E mX7_isAgain (KM E mX7_isAgain (some (.int v)) tw h') tw h 47 [some (.ref 39), none, some (.int x2), some (.int x3), some (.int x4), some (.int x5)] [.int (if (h 43 (ix ((nI 2) + x5))) = (h 43 (ix (((nI 2) + x5) - x3))) then (nI 1) else (nI 0))] := by
          refine aw_istore dX7_isAgain_47 (Nat.le_of_ble_eq_true rfl) (aw_iinc (nI 1) dX7_isAgain_49 rfl (Nat.le_of_ble_eq_true rfl) ki_1 (aw_goto 8 dX7_isAgain_52 rfl ?_))
          exact aw_dk (ih _ _ _ hf) (And.intro rfl (And.intro rfl (And.intro rfl (And.intro rfl (And.intro rfl trivial)))))
        refine aw_iald (nl hN rfl) kd_43 g5 dX7_isAgain_38 ?_
        refine aw_icmp_ne 46 dX7_isAgain_39 rfl (fun g7 => ?_) (fun g7 => ?_)
        · skip
          refine aw_iconst (nI 0) dX7_isAgain_46 ki_0 ?_
          simp only [if_neg g7] at key6 ⊢
          exact aw_dk key6 (And.intro rfl (And.intro rfl (And.intro rfl (And.intro rfl (And.intro rfl trivial)))))
        · skip
          refine aw_iconst (nI 1) dX7_isAgain_42 ki_1 (aw_goto 47 dX7_isAgain_43 rfl ?_)
          simp only [if_pos g7] at key6 ⊢
          exact aw_dk key6 (And.intro rfl (And.intro rfl (And.intro rfl (And.intro rfl (And.intro rfl trivial)))))
set_option maxHeartbeats 4000000 in
set_option maxRecDepth 100000 in
theorem ct_X7_isAgain {E : EV} (hE : EI E) (hN : 56 ≤ eN E) (F : Nat) {tw : TW} {x1 : Int32} {x2 : Int32} {x3 : Int32} {h : HP} {v : Int32} {h' : HP} (hf : f_X7_isAgain F x1 x2 x3 h = some (v, h')) : CT E mX7_isAgain tw h [.ref 39, .int x1, .int x2, .int x3] (some (.int v)) tw h' := by
  refine CT.of hE (show plainFor yX7_isAgain = true by decide +kernel) (Nat.le_of_ble_eq_true rfl) 2 ?_
  show AW E mX7_isAgain (KM E mX7_isAgain (some (.int v)) tw h') tw h 0 [some (.ref 39), some (.int x1), some (.int x2), some (.int x3), none, none] []
  unfold f_X7_isAgain at hf
  refine aw_iconst (nI 1) dX7_isAgain_0 ki_1 (aw_istore dX7_isAgain_1 (Nat.le_of_ble_eq_true rfl) (aw_iload_n dX7_isAgain_3 rfl (aw_iload_n dX7_isAgain_4 rfl (aw_iadd dX7_isAgain_5 (aw_istore dX7_isAgain_6 (Nat.le_of_ble_eq_true rfl) ?_)))))
  exact aw_dk (ct_X7_isAgain_8 hE hN F F _ _ _ hf) (And.intro rfl (And.intro rfl (And.intro rfl (And.intro rfl (And.intro rfl trivial)))))
