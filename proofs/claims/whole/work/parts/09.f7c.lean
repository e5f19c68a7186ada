def f_X7_canon_34 (F : Nat) (x1 : Int32) (k_17 : Int32 → Int32 → Int32 → HP → Option (Int32 × HP)) : Nat → Int32 → Int32 → Int32 → Int32 → Int32 → HP → Option (Int32 × HP)
  | 0, _, _, _, _, _, _ => none
  | n + 1, x2, x3, x4, x5, x6, h =>
    if (h 40 1) ≤ x6 then
      k_17 (if x3 ≤ x5 then x2 else x4) (if x3 ≤ x5 then x3 else x5) (x4 + 1) h
    else
      if inb (2 + x6) 66 then
        ob (f_X7_shifted F x6 x4 h) (fun v11 h9 =>
        ob (f_X7_illOf F (h 43 (ix (2 + x6))) v11 h9) (fun v14 h12 =>
        f_X7_canon_34 F x1 k_17 n x2 x3 x4 (x5 + v14) (x6 + 1) h12))
      else none
set_option maxHeartbeats 4000000 in
set_option maxRecDepth 100000 in
theorem ct_X7_canon_34 {E : EV} (hE : EI E) (hN : 56 ≤ eN E) (F : Nat) {tw : TW} {x1 : Int32} {v : Int32} {h' : HP} {k_17 : Int32 → Int32 → Int32 → HP → Option (Int32 × HP)} (hk_17 : ∀ (x2 : Int32) (x3 : Int32) (x4 : Int32) (h : HP), k_17 x2 x3 x4 h = some (v, h') → AW E mX7_canon (KM E mX7_canon (some (.int v)) tw h') tw h 17 [some (.ref 39), some (.int x1), some (.int x2), some (.int x3), some (.int x4), none, none] []) : ∀ (n : Nat) (x2 : Int32) (x3 : Int32) (x4 : Int32) (x5 : Int32) (x6 : Int32) (h : HP), f_X7_canon_34 F x1 k_17 n x2 x3 x4 x5 x6 h = some (v, h') → AW E mX7_canon (KM E mX7_canon (some (.int v)) tw h') tw h 34 [some (.ref 39), some (.int x1), some (.int x2), some (.int x3), some (.int x4), some (.int x5), some (.int x6)] [] := by
  intro n
  induction n with
  | zero => intro x2 x3 x4 x5 x6 h hf; exact absurd (show (none : Option (Int32 × HP)) = some _ from hf) (fun z => nomatch z)
  | succ n ih =>
    intro x2 x3 x4 x5 x6 h hf
    rw [f_X7_canon_34] at hf
    refine aw_iload dX7_canon_34 rfl (aw_aload_n dX7_canon_36 rfl (aw_getr fkX7_7 (nl hN rfl) kd_39 (Nat.le_of_ble_eq_true rfl) rfl dX7_canon_37 (aw_iconst (1 : Int32) dX7_canon_40 ki_1 (aw_ialdk (j := 1) cx_1 (nl hN rfl) kd_40 ib_1_19 dX7_canon_41 ?_))))
    refine aw_icmp_ge 77 dX7_canon_42 rfl (fun g7 => ?_) (fun g7 => ?_)
    · replace hf := (if_pos g7).symm.trans hf
      have key15 : AW E mX7_canon (KM E mX7_canon (some (.int v)) tw h') tw h 89 [some (.ref 39), some (.int x1), some (.int x2), some (.int x3), some (.int x4), some (.int x5), some (.int x6)] [.int (if x3 ≤ x5 then x2 else x4)] := by
        have key16 : AW E mX7_canon (KM E mX7_canon (some (.int v)) tw h') tw h 102 [some (.ref 39), some (.int x1), some (.int (if x3 ≤ x5 then x2 else x4)), some (.int x3), some (.int x4), some (.int x5), some (.int x6)] [.int (if x3 ≤ x5 then x3 else x5)] := by
          refine aw_istore_n dX7_canon_102 (Nat.le_of_ble_eq_true rfl) (aw_iinc (1 : Int32) dX7_canon_103 rfl (Nat.le_of_ble_eq_true rfl) ki_1 (aw_goto 17 dX7_canon_106 rfl ?_))
          exact aw_dk (hk_17 _ _ _ _ hf) (And.intro rfl (And.intro rfl (And.intro rfl (And.intro rfl (And.intro rfl trivial)))))
        refine aw_istore_n dX7_canon_89 (Nat.le_of_ble_eq_true rfl) (aw_iload dX7_canon_90 rfl (aw_iload_n dX7_canon_92 rfl ?_))
        refine aw_icmp_ge 101 dX7_canon_93 rfl (fun g17 => ?_) (fun g17 => ?_)
        · skip
          refine aw_iload_n dX7_canon_101 rfl ?_
          simp only [if_pos g17] at key16 ⊢
          exact aw_dk key16 (And.intro rfl (And.intro rfl (And.intro rfl (And.intro rfl (And.intro rfl (And.intro rfl (And.intro rfl trivial)))))))
        · skip
          refine aw_iload dX7_canon_96 rfl (aw_goto 102 dX7_canon_98 rfl ?_)
          simp only [if_neg g17] at key16 ⊢
          exact aw_dk key16 (And.intro rfl (And.intro rfl (And.intro rfl (And.intro rfl (And.intro rfl (And.intro rfl (And.intro rfl trivial)))))))
      refine aw_iload dX7_canon_77 rfl (aw_iload_n dX7_canon_79 rfl ?_)
      refine aw_icmp_ge 88 dX7_canon_80 rfl (fun g18 => ?_) (fun g18 => ?_)
      · skip
        refine aw_iload_n dX7_canon_88 rfl ?_
        simp only [if_pos g18] at key15 ⊢
        exact aw_dk key15 (And.intro rfl (And.intro rfl (And.intro rfl (And.intro rfl (And.intro rfl (And.intro rfl (And.intro rfl trivial)))))))
      · skip
        refine aw_iload dX7_canon_83 rfl (aw_goto 89 dX7_canon_85 rfl ?_)
        simp only [if_neg g18] at key15 ⊢
        exact aw_dk key15 (And.intro rfl (And.intro rfl (And.intro rfl (And.intro rfl (And.intro rfl (And.intro rfl (And.intro rfl trivial)))))))
    · replace hf := (if_neg g7).symm.trans hf
      refine aw_iload dX7_canon_45 rfl (aw_aload_n dX7_canon_47 rfl (aw_aload_n dX7_canon_48 rfl (aw_getr fkX7_19 (nl hN rfl) kd_39 (Nat.le_of_ble_eq_true rfl) rfl dX7_canon_49 (aw_iconst (2 : Int32) dX7_canon_52 ki_2 (aw_iload dX7_canon_53 rfl (aw_iadd dX7_canon_55 ?_))))))
      obtain ⟨g8, hf⟩ := ogd hf
      refine aw_iald (nl hN rfl) kd_43 g8 dX7_canon_56 (aw_aload_n dX7_canon_57 rfl (aw_iload dX7_canon_58 rfl (aw_iload dX7_canon_60 rfl ?_)))
      obtain ⟨v11, h9, c10, hf⟩ := ob_some hf
      refine aw_callVi (N := mX7_shifted) (As := [.int x6, .int x4]) lkX7_176 okX7_shifted (nl hN rfl) kd_39 rfl (by rfl) (by rfl) (Nat.le_of_ble_eq_true rfl) ry_X7_canon_X7_shifted dX7_canon_62 (And.intro (Nat.le_refl _) (Nat.le_refl _)) (ct_X7_shifted hE hN F c10) ?_
      obtain ⟨v14, h12, c13, hf⟩ := ob_some hf
      refine aw_callVi (N := mX7_illOf) (As := [.int (h 43 (ix (2 + x6))), .int v11]) lkX7_193 okX7_illOf (nl hN rfl) kd_39 rfl (by rfl) (by rfl) (Nat.le_of_ble_eq_true rfl) ry_X7_canon_X7_illOf dX7_canon_65 (And.intro (Nat.le_refl _) (Nat.le_refl _)) (ct_X7_illOf hE hN F c13) (aw_iadd dX7_canon_68 (aw_istore dX7_canon_69 (Nat.le_of_ble_eq_true rfl) (aw_iinc (1 : Int32) dX7_canon_71 rfl (Nat.le_of_ble_eq_true rfl) ki_1 (aw_goto 34 dX7_canon_74 rfl ?_))))
      exact aw_dk (ih _ _ _ _ _ _ hf) (And.intro rfl (And.intro rfl (And.intro rfl (And.intro rfl (And.intro rfl (And.intro rfl (And.intro rfl trivial)))))))
def f_X7_canon_17 (F : Nat) (x1 : Int32) : Nat → Int32 → Int32 → Int32 → HP → Option (Int32 × HP)
  | 0, _, _, _, _ => none
  | n + 1, x2, x3, x4, h =>
    if (h 40 1) ≤ x4 then
      if x1 = 0 then
        some (x2, h)
      else
        some (x3, h)
    else
      f_X7_canon_34 F x1 (f_X7_canon_17 F x1 n) F x2 x3 x4 0 0 h
set_option maxHeartbeats 4000000 in
set_option maxRecDepth 100000 in
theorem ct_X7_canon_17 {E : EV} (hE : EI E) (hN : 56 ≤ eN E) (F : Nat) {tw : TW} {x1 : Int32} {v : Int32} {h' : HP} : ∀ (n : Nat) (x2 : Int32) (x3 : Int32) (x4 : Int32) (h : HP), f_X7_canon_17 F x1 n x2 x3 x4 h = some (v, h') → AW E mX7_canon (KM E mX7_canon (some (.int v)) tw h') tw h 17 [some (.ref 39), some (.int x1), some (.int x2), some (.int x3), some (.int x4), none, none] [] := by
  intro n
  induction n with
  | zero => intro x2 x3 x4 h hf; exact absurd (show (none : Option (Int32 × HP)) = some _ from hf) (fun z => nomatch z)
  | succ n ih =>
    intro x2 x3 x4 h hf
    rw [f_X7_canon_17] at hf
    refine aw_iload dX7_canon_17 rfl (aw_aload_n dX7_canon_19 rfl (aw_getr fkX7_7 (nl hN rfl) kd_39 (Nat.le_of_ble_eq_true rfl) rfl dX7_canon_20 (aw_iconst (1 : Int32) dX7_canon_23 ki_1 (aw_ialdk (j := 1) cx_1 (nl hN rfl) kd_40 ib_1_19 dX7_canon_24 ?_))))
    refine aw_icmp_ge 109 dX7_canon_25 rfl (fun g5 => ?_) (fun g5 => ?_)
    · replace hf := (if_pos g5).symm.trans hf
      refine aw_iload_n dX7_canon_109 rfl ?_
      refine aw_if_ne 117 dX7_canon_110 rfl (fun g6 => ?_) (fun g6 => ?_)
      · replace hf := (if_neg g6).symm.trans hf
        cases hf
        exact aw_iload_n dX7_canon_117 rfl (aw_iret rfl dX7_canon_118)
      · replace hf := (if_pos g6).symm.trans hf
        cases hf
        exact aw_iload_n dX7_canon_113 rfl (aw_goto 118 dX7_canon_114 rfl (aw_iret rfl dX7_canon_118))
    · replace hf := (if_neg g5).symm.trans hf
      refine aw_iconst (0 : Int32) dX7_canon_28 ki_0 (aw_istore dX7_canon_29 (Nat.le_of_ble_eq_true rfl) (aw_iconst (0 : Int32) dX7_canon_31 ki_0 (aw_istore dX7_canon_32 (Nat.le_of_ble_eq_true rfl) ?_)))
      exact aw_dk (ct_X7_canon_34 hE hN F ih F _ _ _ _ _ _ hf) (And.intro rfl (And.intro rfl (And.intro rfl (And.intro rfl (And.intro rfl (And.intro rfl (And.intro rfl trivial)))))))
def f_X7_canon (F : Nat) (x1 : Int32) (h : HP) : Option (Int32 × HP) :=
  ob (f_X7_isTwo F x1 h) (fun v3 h1 =>
  if v3 = 0 then
    some ((-1), h1)
  else
    f_X7_canon_17 F x1 F 0 1000000 1 h1)
set_option maxHeartbeats 4000000 in
set_option maxRecDepth 100000 in
theorem ct_X7_canon {E : EV} (hE : EI E) (hN : 56 ≤ eN E) (F : Nat) {tw : TW} {x1 : Int32} {h : HP} {v : Int32} {h' : HP} (hf : f_X7_canon F x1 h = some (v, h')) : CT E mX7_canon tw h [.ref 39, .int x1] (some (.int v)) tw h' := by
  refine CT.of hE (show plainFor yX7_canon = true by decide +kernel) (Nat.le_of_ble_eq_true rfl) 5 ?_
  show AW E mX7_canon (KM E mX7_canon (some (.int v)) tw h') tw h 0 [some (.ref 39), some (.int x1), none, none, none, none, none] []
  unfold f_X7_canon at hf
  refine aw_iload_n dX7_canon_0 rfl ?_
  obtain ⟨v3, h1, c2, hf⟩ := ob_some hf
  refine aw_callSi (N := mX7_isTwo) (As := [.int x1]) lkX7_196 okX7_isTwo (by rfl) (by rfl) (Nat.le_of_ble_eq_true rfl) ry_X7_canon_X7_isTwo dX7_canon_1 (And.intro (Nat.le_refl _) (Nat.le_refl _)) (ct_X7_isTwo hE hN F c2) ?_
  refine aw_if_ne 9 dX7_canon_4 rfl (fun g4 => ?_) (fun g4 => ?_)
  · replace hf := (if_neg g4).symm.trans hf
    refine aw_iconst (0 : Int32) dX7_canon_9 ki_0 (aw_istore_n dX7_canon_10 (Nat.le_of_ble_eq_true rfl) (aw_ldc kcX7_199 dX7_canon_11 (aw_istore_n dX7_canon_13 (Nat.le_of_ble_eq_true rfl) (aw_iconst (1 : Int32) dX7_canon_14 ki_1 (aw_istore dX7_canon_15 (Nat.le_of_ble_eq_true rfl) ?_)))))
    exact aw_dk (ct_X7_canon_17 hE hN F F _ _ _ _ hf) (And.intro rfl (And.intro rfl (And.intro rfl (And.intro rfl (And.intro rfl trivial)))))
  · replace hf := (if_pos g4).symm.trans hf
    cases hf
    exact aw_iconst ((-1) : Int32) dX7_canon_7 ki_m1 (aw_iret rfl dX7_canon_8)
def f_X7_want (F : Nat) (x1 : Int32) (x2 : Int32) (h : HP) : Option (Int32 × HP) :=
  ob (f_X7_isRow F x1 h) (fun v3 h1 =>
  if v3 = 0 then
    some ((-1), h1)
  else
    ob (f_X7_isSet F x2 h1) (fun v7 h5 =>
    if v7 = 0 then
      some ((-1), h5)
    else
      if inb x1 32 then
        some (h5 47 (ix x1), up h5 47 (ix x1) x2)
      else none))
set_option maxHeartbeats 4000000 in
set_option maxRecDepth 100000 in
theorem ct_X7_want {E : EV} (hE : EI E) (hN : 56 ≤ eN E) (F : Nat) {tw : TW} {x1 : Int32} {x2 : Int32} {h : HP} {v : Int32} {h' : HP} (hf : f_X7_want F x1 x2 h = some (v, h')) : CT E mX7_want tw h [.ref 39, .int x1, .int x2] (some (.int v)) tw h' := by
  refine CT.of hE (show plainFor yX7_want = true by decide +kernel) (Nat.le_of_ble_eq_true rfl) 1 ?_
  show AW E mX7_want (KM E mX7_want (some (.int v)) tw h') tw h 0 [some (.ref 39), some (.int x1), some (.int x2), none] []
  unfold f_X7_want at hf
  refine aw_aload_n dX7_want_0 rfl (aw_iload_n dX7_want_1 rfl ?_)
  obtain ⟨v3, h1, c2, hf⟩ := ob_some hf
  refine aw_callVi (N := mX7_isRow) (As := [.int x1]) lkX7_162 okX7_isRow (nl hN rfl) kd_39 rfl (by rfl) (by rfl) (Nat.le_of_ble_eq_true rfl) ry_X7_want_X7_isRow dX7_want_2 (And.intro (Nat.le_refl _) (Nat.le_refl _)) (ct_X7_isRow hE hN F c2) ?_
  refine aw_if_eq 16 dX7_want_5 rfl (fun g4 => ?_) (fun g4 => ?_)
  · replace hf := (if_pos g4).symm.trans hf
    cases hf
    exact aw_iconst ((-1) : Int32) dX7_want_16 ki_m1 (aw_iret rfl dX7_want_17)
  · replace hf := (if_neg g4).symm.trans hf
    refine aw_aload_n dX7_want_8 rfl (aw_iload_n dX7_want_9 rfl ?_)
    obtain ⟨v7, h5, c6, hf⟩ := ob_some hf
    refine aw_callVi (N := mX7_isSet) (As := [.int x2]) lkX7_200 okX7_isSet (nl hN rfl) kd_39 rfl (by rfl) (by rfl) (Nat.le_of_ble_eq_true rfl) ry_X7_want_X7_isSet dX7_want_10 (And.intro (Nat.le_refl _) (Nat.le_refl _)) (ct_X7_isSet hE hN F c6) ?_
    refine aw_if_ne 18 dX7_want_13 rfl (fun g8 => ?_) (fun g8 => ?_)
    · replace hf := (if_neg g8).symm.trans hf
      refine aw_aload_n dX7_want_18 rfl (aw_getr fkX7_31 (nl hN rfl) kd_39 (Nat.le_of_ble_eq_true rfl) rfl dX7_want_19 (aw_iload_n dX7_want_22 rfl ?_))
      obtain ⟨g9, hf⟩ := ogd hf
      cases hf
      exact aw_iald (nl hN rfl) kd_47 g9 dX7_want_23 (aw_istore_n dX7_want_24 (Nat.le_of_ble_eq_true rfl) (aw_aload_n dX7_want_25 rfl (aw_getr fkX7_31 (nl hN rfl) kd_39 (Nat.le_of_ble_eq_true rfl) rfl dX7_want_26 (aw_iload_n dX7_want_29 rfl (aw_iload_n dX7_want_30 rfl (aw_iast (nl hN rfl) kd_47 g9 dX7_want_31 (aw_iload_n dX7_want_32 rfl (aw_iret rfl dX7_want_33))))))))
    · replace hf := (if_pos g8).symm.trans hf
      cases hf
      exact aw_iconst ((-1) : Int32) dX7_want_16 ki_m1 (aw_iret rfl dX7_want_17)
def f_X7_changes_34 (F : Nat) (x1 : Int32) (k_17 : Int32 → Int32 → Int32 → HP → Option (Int32 × HP)) : Nat → Int32 → Int32 → Int32 → Int32 → Int32 → HP → Option (Int32 × HP)
  | 0, _, _, _, _, _, _ => none
  | n + 1, x2, x3, x4, x5, x6, h =>
    if (h 40 1) ≤ x6 then
      k_17 (if x3 ≤ x5 then x2 else x4) (if x3 ≤ x5 then x3 else x5) (x4 + 1) h
    else
      ob (f_X7_shifted F x6 x4 h) (fun v10 h8 =>
      if inb x6 32 then
        ob (f_X7_bits F (v10 ^^^ (h8 47 (ix x6))) h8) (fun v14 h12 =>
        f_X7_changes_34 F x1 k_17 n x2 x3 x4 (x5 + v14) (x6 + 1) h12)
      else none)
set_option maxHeartbeats 4000000 in
set_option maxRecDepth 100000 in
theorem ct_X7_changes_34 {E : EV} (hE : EI E) (hN : 56 ≤ eN E) (F : Nat) {tw : TW} {x1 : Int32} {v : Int32} {h' : HP} {k_17 : Int32 → Int32 → Int32 → HP → Option (Int32 × HP)} (hk_17 : ∀ (x2 : Int32) (x3 : Int32) (x4 : Int32) (h : HP), k_17 x2 x3 x4 h = some (v, h') → AW E mX7_changes (KM E mX7_changes (some (.int v)) tw h') tw h 17 [some (.ref 39), some (.int x1), some (.int x2), some (.int x3), some (.int x4), none, none] []) : ∀ (n : Nat) (x2 : Int32) (x3 : Int32) (x4 : Int32) (x5 : Int32) (x6 : Int32) (h : HP), f_X7_changes_34 F x1 k_17 n x2 x3 x4 x5 x6 h = some (v, h') → AW E mX7_changes (KM E mX7_changes (some (.int v)) tw h') tw h 34 [some (.ref 39), some (.int x1), some (.int x2), some (.int x3), some (.int x4), some (.int x5), some (.int x6)] [] := by
  intro n
  induction n with
  | zero => intro x2 x3 x4 x5 x6 h hf; exact absurd (show (none : Option (Int32 × HP)) = some _ from hf) (fun z => nomatch z)
  | succ n ih =>
    intro x2 x3 x4 x5 x6 h hf
    rw [f_X7_changes_34] at hf
    refine aw_iload dX7_changes_34 rfl (aw_aload_n dX7_changes_36 rfl (aw_getr fkX7_7 (nl hN rfl) kd_39 (Nat.le_of_ble_eq_true rfl) rfl dX7_changes_37 (aw_iconst (1 : Int32) dX7_changes_40 ki_1 (aw_ialdk (j := 1) cx_1 (nl hN rfl) kd_40 ib_1_19 dX7_changes_41 ?_))))
    refine aw_icmp_ge 75 dX7_changes_42 rfl (fun g7 => ?_) (fun g7 => ?_)
    · replace hf := (if_pos g7).symm.trans hf
      have key15 : AW E mX7_changes (KM E mX7_changes (some (.int v)) tw h') tw h 87 [some (.ref 39), some (.int x1), some (.int x2), some (.int x3), some (.int x4), some (.int x5), some (.int x6)] [.int (if x3 ≤ x5 then x2 else x4)] := by
        have key16 : AW E mX7_changes (KM E mX7_changes (some (.int v)) tw h') tw h 100 [some (.ref 39), some (.int x1), some (.int (if x3 ≤ x5 then x2 else x4)), some (.int x3), some (.int x4), some (.int x5), some (.int x6)] [.int (if x3 ≤ x5 then x3 else x5)] := by
          refine aw_istore_n dX7_changes_100 (Nat.le_of_ble_eq_true rfl) (aw_iinc (1 : Int32) dX7_changes_101 rfl (Nat.le_of_ble_eq_true rfl) ki_1 (aw_goto 17 dX7_changes_104 rfl ?_))
          exact aw_dk (hk_17 _ _ _ _ hf) (And.intro rfl (And.intro rfl (And.intro rfl (And.intro rfl (And.intro rfl trivial)))))
        refine aw_istore_n dX7_changes_87 (Nat.le_of_ble_eq_true rfl) (aw_iload dX7_changes_88 rfl (aw_iload_n dX7_changes_90 rfl ?_))
        refine aw_icmp_ge 99 dX7_changes_91 rfl (fun g17 => ?_) (fun g17 => ?_)
        · skip
          refine aw_iload_n dX7_changes_99 rfl ?_
          simp only [if_pos g17] at key16 ⊢
          exact aw_dk key16 (And.intro rfl (And.intro rfl (And.intro rfl (And.intro rfl (And.intro rfl (And.intro rfl (And.intro rfl trivial)))))))
        · skip
          refine aw_iload dX7_changes_94 rfl (aw_goto 100 dX7_changes_96 rfl ?_)
          simp only [if_neg g17] at key16 ⊢
          exact aw_dk key16 (And.intro rfl (And.intro rfl (And.intro rfl (And.intro rfl (And.intro rfl (And.intro rfl (And.intro rfl trivial)))))))
      refine aw_iload dX7_changes_75 rfl (aw_iload_n dX7_changes_77 rfl ?_)
      refine aw_icmp_ge 86 dX7_changes_78 rfl (fun g18 => ?_) (fun g18 => ?_)
      · skip
        refine aw_iload_n dX7_changes_86 rfl ?_
        simp only [if_pos g18] at key15 ⊢
        exact aw_dk key15 (And.intro rfl (And.intro rfl (And.intro rfl (And.intro rfl (And.intro rfl (And.intro rfl (And.intro rfl trivial)))))))
      · skip
        refine aw_iload dX7_changes_81 rfl (aw_goto 87 dX7_changes_83 rfl ?_)
        simp only [if_neg g18] at key15 ⊢
        exact aw_dk key15 (And.intro rfl (And.intro rfl (And.intro rfl (And.intro rfl (And.intro rfl (And.intro rfl (And.intro rfl trivial)))))))
    · replace hf := (if_neg g7).symm.trans hf
      refine aw_iload dX7_changes_45 rfl (aw_aload_n dX7_changes_47 rfl (aw_iload dX7_changes_48 rfl (aw_iload dX7_changes_50 rfl ?_)))
      obtain ⟨v10, h8, c9, hf⟩ := ob_some hf
      refine aw_callVi (N := mX7_shifted) (As := [.int x6, .int x4]) lkX7_176 okX7_shifted (nl hN rfl) kd_39 rfl (by rfl) (by rfl) (Nat.le_of_ble_eq_true rfl) ry_X7_changes_X7_shifted dX7_changes_52 (And.intro (Nat.le_refl _) (Nat.le_refl _)) (ct_X7_shifted hE hN F c9) (aw_aload_n dX7_changes_55 rfl (aw_getr fkX7_31 (nl hN rfl) kd_39 (Nat.le_of_ble_eq_true rfl) rfl dX7_changes_56 (aw_iload dX7_changes_59 rfl ?_)))
      obtain ⟨g11, hf⟩ := ogd hf
      refine aw_iald (nl hN rfl) kd_47 g11 dX7_changes_61 (aw_ixor dX7_changes_62 ?_)
      obtain ⟨v14, h12, c13, hf⟩ := ob_some hf
      refine aw_callSi (N := mX7_bits) (As := [.int (v10 ^^^ (h8 47 (ix x6)))]) lkX7_114 okX7_bits (by rfl) (by rfl) (Nat.le_of_ble_eq_true rfl) ry_X7_changes_X7_bits dX7_changes_63 (And.intro (Nat.le_refl _) (Nat.le_refl _)) (ct_X7_bits hE hN F c13) (aw_iadd dX7_changes_66 (aw_istore dX7_changes_67 (Nat.le_of_ble_eq_true rfl) (aw_iinc (1 : Int32) dX7_changes_69 rfl (Nat.le_of_ble_eq_true rfl) ki_1 (aw_goto 34 dX7_changes_72 rfl ?_))))
      exact aw_dk (ih _ _ _ _ _ _ hf) (And.intro rfl (And.intro rfl (And.intro rfl (And.intro rfl (And.intro rfl (And.intro rfl (And.intro rfl trivial)))))))
def f_X7_changes_17 (F : Nat) (x1 : Int32) : Nat → Int32 → Int32 → Int32 → HP → Option (Int32 × HP)
  | 0, _, _, _, _ => none
  | n + 1, x2, x3, x4, h =>
    if (h 40 1) ≤ x4 then
      if x1 = 0 then
        some (x3, h)
      else
        some (x2, h)
    else
      f_X7_changes_34 F x1 (f_X7_changes_17 F x1 n) F x2 x3 x4 0 0 h
set_option maxHeartbeats 4000000 in
set_option maxRecDepth 100000 in
theorem ct_X7_changes_17 {E : EV} (hE : EI E) (hN : 56 ≤ eN E) (F : Nat) {tw : TW} {x1 : Int32} {v : Int32} {h' : HP} : ∀ (n : Nat) (x2 : Int32) (x3 : Int32) (x4 : Int32) (h : HP), f_X7_changes_17 F x1 n x2 x3 x4 h = some (v, h') → AW E mX7_changes (KM E mX7_changes (some (.int v)) tw h') tw h 17 [some (.ref 39), some (.int x1), some (.int x2), some (.int x3), some (.int x4), none, none] [] := by
  intro n
  induction n with
  | zero => intro x2 x3 x4 h hf; exact absurd (show (none : Option (Int32 × HP)) = some _ from hf) (fun z => nomatch z)
  | succ n ih =>
    intro x2 x3 x4 h hf
    rw [f_X7_changes_17] at hf
    refine aw_iload dX7_changes_17 rfl (aw_aload_n dX7_changes_19 rfl (aw_getr fkX7_7 (nl hN rfl) kd_39 (Nat.le_of_ble_eq_true rfl) rfl dX7_changes_20 (aw_iconst (1 : Int32) dX7_changes_23 ki_1 (aw_ialdk (j := 1) cx_1 (nl hN rfl) kd_40 ib_1_19 dX7_changes_24 ?_))))
    refine aw_icmp_ge 107 dX7_changes_25 rfl (fun g5 => ?_) (fun g5 => ?_)
    · replace hf := (if_pos g5).symm.trans hf
      refine aw_iload_n dX7_changes_107 rfl ?_
      refine aw_if_ne 115 dX7_changes_108 rfl (fun g6 => ?_) (fun g6 => ?_)
      · replace hf := (if_neg g6).symm.trans hf
        cases hf
        exact aw_iload_n dX7_changes_115 rfl (aw_iret rfl dX7_changes_116)
      · replace hf := (if_pos g6).symm.trans hf
        cases hf
        exact aw_iload_n dX7_changes_111 rfl (aw_goto 116 dX7_changes_112 rfl (aw_iret rfl dX7_changes_116))
    · replace hf := (if_neg g5).symm.trans hf
      refine aw_iconst (0 : Int32) dX7_changes_28 ki_0 (aw_istore dX7_changes_29 (Nat.le_of_ble_eq_true rfl) (aw_iconst (0 : Int32) dX7_changes_31 ki_0 (aw_istore dX7_changes_32 (Nat.le_of_ble_eq_true rfl) ?_)))
      exact aw_dk (ct_X7_changes_34 hE hN F ih F _ _ _ _ _ _ hf) (And.intro rfl (And.intro rfl (And.intro rfl (And.intro rfl (And.intro rfl (And.intro rfl (And.intro rfl trivial)))))))
def f_X7_changes (F : Nat) (x1 : Int32) (h : HP) : Option (Int32 × HP) :=
  ob (f_X7_isTwo F x1 h) (fun v3 h1 =>
  if v3 = 0 then
    some ((-1), h1)
  else
    f_X7_changes_17 F x1 F 0 1000000 0 h1)
set_option maxHeartbeats 4000000 in
set_option maxRecDepth 100000 in
theorem ct_X7_changes {E : EV} (hE : EI E) (hN : 56 ≤ eN E) (F : Nat) {tw : TW} {x1 : Int32} {h : HP} {v : Int32} {h' : HP} (hf : f_X7_changes F x1 h = some (v, h')) : CT E mX7_changes tw h [.ref 39, .int x1] (some (.int v)) tw h' := by
  refine CT.of hE (show plainFor yX7_changes = true by decide +kernel) (Nat.le_of_ble_eq_true rfl) 5 ?_
  show AW E mX7_changes (KM E mX7_changes (some (.int v)) tw h') tw h 0 [some (.ref 39), some (.int x1), none, none, none, none, none] []
  unfold f_X7_changes at hf
  refine aw_iload_n dX7_changes_0 rfl ?_
  obtain ⟨v3, h1, c2, hf⟩ := ob_some hf
  refine aw_callSi (N := mX7_isTwo) (As := [.int x1]) lkX7_196 okX7_isTwo (by rfl) (by rfl) (Nat.le_of_ble_eq_true rfl) ry_X7_changes_X7_isTwo dX7_changes_1 (And.intro (Nat.le_refl _) (Nat.le_refl _)) (ct_X7_isTwo hE hN F c2) ?_
  refine aw_if_ne 9 dX7_changes_4 rfl (fun g4 => ?_) (fun g4 => ?_)
  · replace hf := (if_neg g4).symm.trans hf
    refine aw_iconst (0 : Int32) dX7_changes_9 ki_0 (aw_istore_n dX7_changes_10 (Nat.le_of_ble_eq_true rfl) (aw_ldc kcX7_199 dX7_changes_11 (aw_istore_n dX7_changes_13 (Nat.le_of_ble_eq_true rfl) (aw_iconst (0 : Int32) dX7_changes_14 ki_0 (aw_istore dX7_changes_15 (Nat.le_of_ble_eq_true rfl) ?_)))))
    exact aw_dk (ct_X7_changes_17 hE hN F F _ _ _ _ hf) (And.intro rfl (And.intro rfl (And.intro rfl (And.intro rfl (And.intro rfl trivial)))))
  · replace hf := (if_pos g4).symm.trans hf
    cases hf
    exact aw_iconst ((-1) : Int32) dX7_changes_7 ki_m1 (aw_iret rfl dX7_changes_8)
def f_X7_cell (F : Nat) (x0 : Int32) (x1 : Int32) (x2 : Int32) (h : HP) : Option (Int32 × HP) :=
  some ((((33 * x0) + x1) * 33) + x2, h)
set_option maxHeartbeats 4000000 in
set_option maxRecDepth 100000 in
theorem ct_X7_cell {E : EV} (hE : EI E) (hN : 56 ≤ eN E) (F : Nat) {tw : TW} {x0 : Int32} {x1 : Int32} {x2 : Int32} {h : HP} {v : Int32} {h' : HP} (hf : f_X7_cell F x0 x1 x2 h = some (v, h')) : CT E mX7_cell tw h [.int x0, .int x1, .int x2] (some (.int v)) tw h' := by
  refine CT.of hE (show plainFor yX7_cell = true by decide +kernel) (Nat.le_of_ble_eq_true rfl) 0 ?_
  show AW E mX7_cell (KM E mX7_cell (some (.int v)) tw h') tw h 0 [some (.int x0), some (.int x1), some (.int x2)] []
  unfold f_X7_cell at hf
  cases hf
  exact aw_bipush (33 : Int32) dX7_cell_0 kb_33 (aw_iload_n dX7_cell_2 rfl (aw_imul dX7_cell_3 (aw_iload_n dX7_cell_4 rfl (aw_iadd dX7_cell_5 (aw_bipush (33 : Int32) dX7_cell_6 kb_33 (aw_imul dX7_cell_8 (aw_iload_n dX7_cell_9 rfl (aw_iadd dX7_cell_10 (aw_iret rfl dX7_cell_11)))))))))
def f_X7_isAgain_8 (F : Nat) (x1 : Int32) (x2 : Int32) (x3 : Int32) : Nat → Int32 → Int32 → HP → Option (Int32 × HP)
  | 0, _, _, _ => none
  | n + 1, x4, x5, h =>
    if x2 ≤ x5 then
      if x4 = 0 ∨ x4 = 1 then
        some (x4, h)
      else none
    else
      if x4 = 0 then
        f_X7_isAgain_8 F x1 x2 x3 n 0 (x5 + 1) h
      else
        if inb (2 + x5) 66 then
          if inb ((2 + x5) - x3) 66 then
            f_X7_isAgain_8 F x1 x2 x3 n (if (h 43 (ix (2 + x5))) = (h 43 (ix ((2 + x5) - x3))) then 1 else 0) (x5 + 1) h
          else none
        else none
set_option maxHeartbeats 4000000 in
set_option maxRecDepth 100000 in
theorem ct_X7_isAgain_8 {E : EV} (hE : EI E) (hN : 56 ≤ eN E) (F : Nat) {tw : TW} {x1 : Int32} {x2 : Int32} {x3 : Int32} {v : Int32} {h' : HP} : ∀ (n : Nat) (x4 : Int32) (x5 : Int32) (h : HP), f_X7_isAgain_8 F x1 x2 x3 n x4 x5 h = some (v, h') → AW E mX7_isAgain (KM E mX7_isAgain (some (.int v)) tw h') tw h 8 [some (.ref 39), none, some (.int x2), some (.int x3), some (.int x4), some (.int x5)] [] := by
  intro n
  induction n with
  | zero => intro x4 x5 h hf; exact absurd (show (none : Option (Int32 × HP)) = some _ from hf) (fun z => nomatch z)
  | succ n ih =>
    intro x4 x5 h hf
    rw [f_X7_isAgain_8] at hf
    refine aw_iload dX7_isAgain_8 rfl (aw_iload_n dX7_isAgain_10 rfl ?_)
    refine aw_icmp_ge 55 dX7_isAgain_11 rfl (fun g1 => ?_) (fun g1 => ?_)
    · replace hf := (if_pos g1).symm.trans hf
      refine aw_iload dX7_isAgain_55 rfl ?_
      obtain ⟨g2, hf⟩ := ogd hf
      cases hf
      exact aw_zret rfl g2 dX7_isAgain_57
    · replace hf := (if_neg g1).symm.trans hf
      refine aw_iload dX7_isAgain_14 rfl ?_
      refine aw_if_eq 46 dX7_isAgain_16 rfl (fun g3 => ?_) (fun g3 => ?_)
      · replace hf := (if_pos g3).symm.trans hf
        refine aw_iconst (0 : Int32) dX7_isAgain_46 ki_0 (aw_istore dX7_isAgain_47 (Nat.le_of_ble_eq_true rfl) (aw_iinc (1 : Int32) dX7_isAgain_49 rfl (Nat.le_of_ble_eq_true rfl) ki_1 (aw_goto 8 dX7_isAgain_52 rfl ?_)))
        exact aw_dk (ih _ _ _ hf) (And.intro rfl (And.intro rfl (And.intro rfl (And.intro rfl (And.intro rfl trivial)))))
      · replace hf := (if_neg g3).symm.trans hf
        refine aw_aload_n dX7_isAgain_19 rfl (aw_getr fkX7_19 (nl hN rfl) kd_39 (Nat.le_of_ble_eq_true rfl) rfl dX7_isAgain_20 (aw_iconst (2 : Int32) dX7_isAgain_23 ki_2 (aw_iload dX7_isAgain_24 rfl (aw_iadd dX7_isAgain_26 ?_))))
        obtain ⟨g4, hf⟩ := ogd hf
        refine aw_iald (nl hN rfl) kd_43 g4 dX7_isAgain_27 (aw_aload_n dX7_isAgain_28 rfl (aw_getr fkX7_19 (nl hN rfl) kd_39 (Nat.le_of_ble_eq_true rfl) rfl dX7_isAgain_29 (aw_iconst (2 : Int32) dX7_isAgain_32 ki_2 (aw_iload dX7_isAgain_33 rfl (aw_iadd dX7_isAgain_35 (aw_iload_n dX7_isAgain_36 rfl (aw_isub dX7_isAgain_37 ?_)))))))
        obtain ⟨g5, hf⟩ := ogd hf
        have key6 : AW E mX7_isAgain (KM E mX7_isAgain (some (.int v)) tw h') tw h 47 [some (.ref 39), none, some (.int x2), some (.int x3), some (.int x4), some (.int x5)] [.int (if (h 43 (ix (2 + x5))) = (h 43 (ix ((2 + x5) - x3))) then 1 else 0)] := by
          refine aw_istore dX7_isAgain_47 (Nat.le_of_ble_eq_true rfl) (aw_iinc (1 : Int32) dX7_isAgain_49 rfl (Nat.le_of_ble_eq_true rfl) ki_1 (aw_goto 8 dX7_isAgain_52 rfl ?_))
          exact aw_dk (ih _ _ _ hf) (And.intro rfl (And.intro rfl (And.intro rfl (And.intro rfl (And.intro rfl trivial)))))
        refine aw_iald (nl hN rfl) kd_43 g5 dX7_isAgain_38 ?_
        refine aw_icmp_ne 46 dX7_isAgain_39 rfl (fun g7 => ?_) (fun g7 => ?_)
        · skip
          refine aw_iconst (0 : Int32) dX7_isAgain_46 ki_0 ?_
          simp only [if_neg g7] at key6 ⊢
          exact aw_dk key6 (And.intro rfl (And.intro rfl (And.intro rfl (And.intro rfl (And.intro rfl trivial)))))
        · skip
          refine aw_iconst (1 : Int32) dX7_isAgain_42 ki_1 (aw_goto 47 dX7_isAgain_43 rfl ?_)
          simp only [if_pos g7] at key6 ⊢
          exact aw_dk key6 (And.intro rfl (And.intro rfl (And.intro rfl (And.intro rfl (And.intro rfl trivial)))))
def f_X7_isAgain (F : Nat) (x1 : Int32) (x2 : Int32) (x3 : Int32) (h : HP) : Option (Int32 × HP) :=
  f_X7_isAgain_8 F x1 x2 x3 F 1 (x1 + x3) h
set_option maxHeartbeats 4000000 in
set_option maxRecDepth 100000 in
theorem ct_X7_isAgain {E : EV} (hE : EI E) (hN : 56 ≤ eN E) (F : Nat) {tw : TW} {x1 : Int32} {x2 : Int32} {x3 : Int32} {h : HP} {v : Int32} {h' : HP} (hf : f_X7_isAgain F x1 x2 x3 h = some (v, h')) : CT E mX7_isAgain tw h [.ref 39, .int x1, .int x2, .int x3] (some (.int v)) tw h' := by
  refine CT.of hE (show plainFor yX7_isAgain = true by decide +kernel) (Nat.le_of_ble_eq_true rfl) 2 ?_
  show AW E mX7_isAgain (KM E mX7_isAgain (some (.int v)) tw h') tw h 0 [some (.ref 39), some (.int x1), some (.int x2), some (.int x3), none, none] []
  unfold f_X7_isAgain at hf
  refine aw_iconst (1 : Int32) dX7_isAgain_0 ki_1 (aw_istore dX7_isAgain_1 (Nat.le_of_ble_eq_true rfl) (aw_iload_n dX7_isAgain_3 rfl (aw_iload_n dX7_isAgain_4 rfl (aw_iadd dX7_isAgain_5 (aw_istore dX7_isAgain_6 (Nat.le_of_ble_eq_true rfl) ?_)))))
  exact aw_dk (ct_X7_isAgain_8 hE hN F F _ _ _ hf) (And.intro rfl (And.intro rfl (And.intro rfl (And.intro rfl (And.intro rfl trivial)))))
def f_X7_fewest_106 (F : Nat) (x1 : Int32) (x2 : Int32) (x3 : Int32) : Nat → Int32 → Int32 → Int32 → HP → Option (Int32 × HP)
  | 0, _, _, _, _ => none
  | n + 1, x4, x5, x6, h =>
    if 10 ≤ x6 then
      some (x5, h)
    else
      if x1 ≤ 0 then
        some (x5, h)
      else
        if x6 ≠ 0 then
          if (jrem x4 x6) = 0 then
            ob (f_X7_isAgain F x2 x3 (x4 / x6) h) (fun v22 h20 =>
            if v22 = 0 then
              f_X7_fewest_106 F x1 x2 x3 n x4 x5 (x6 + 1) h20
            else
              ob (f_X7_cell F (x1 - 1) x2 (x2 + (x4 / x6)) h20) (fun v26 h24 =>
              if inb v26 4356 then
                f_X7_fewest_106 F x1 x2 x3 n x4 (if x5 ≤ (3 + (h24 53 (ix v26))) then x5 else 3 + (h24 53 (ix v26))) (x6 + 1) h24
              else none))
          else
            f_X7_fewest_106 F x1 x2 x3 n x4 x5 (x6 + 1) h
        else none
set_option maxHeartbeats 4000000 in
set_option maxRecDepth 100000 in
theorem ct_X7_fewest_106 {E : EV} (hE : EI E) (hN : 56 ≤ eN E) (F : Nat) {tw : TW} {x1 : Int32} {x2 : Int32} {x3 : Int32} {v : Int32} {h' : HP} : ∀ (n : Nat) (x4 : Int32) (x5 : Int32) (x6 : Int32) (h : HP), f_X7_fewest_106 F x1 x2 x3 n x4 x5 x6 h = some (v, h') → AW E mX7_fewest (KM E mX7_fewest (some (.int v)) tw h') tw h 106 [some (.ref 39), some (.int x1), some (.int x2), some (.int x3), some (.int x4), some (.int x5), some (.int x6), none, none] [] := by
  intro n
  induction n with
  | zero => intro x4 x5 x6 h hf; exact absurd (show (none : Option (Int32 × HP)) = some _ from hf) (fun z => nomatch z)
  | succ n ih =>
    intro x4 x5 x6 h hf
    rw [f_X7_fewest_106] at hf
    refine aw_iload dX7_fewest_106 rfl (aw_bipush (10 : Int32) dX7_fewest_108 kb_10 ?_)
    refine aw_icmp_ge 185 dX7_fewest_110 rfl (fun g16 => ?_) (fun g16 => ?_)
    · replace hf := (if_pos g16).symm.trans hf
      cases hf
      exact aw_iload dX7_fewest_185 rfl (aw_iret rfl dX7_fewest_187)
    · replace hf := (if_neg g16).symm.trans hf
      refine aw_iload_n dX7_fewest_113 rfl ?_
      refine aw_if_le 185 dX7_fewest_114 rfl (fun g17 => ?_) (fun g17 => ?_)
      · replace hf := (if_pos g17).symm.trans hf
        cases hf
        exact aw_iload dX7_fewest_185 rfl (aw_iret rfl dX7_fewest_187)
      · replace hf := (if_neg g17).symm.trans hf
        refine aw_iload dX7_fewest_117 rfl (aw_iload dX7_fewest_119 rfl ?_)
        obtain ⟨g18, hf⟩ := ogd hf
        refine aw_idiv g18 dX7_fewest_121 (aw_istore dX7_fewest_122 (Nat.le_of_ble_eq_true rfl) (aw_iload dX7_fewest_124 rfl (aw_iload dX7_fewest_126 rfl (aw_irem g18 dX7_fewest_128 ?_))))
        refine aw_if_ne 179 dX7_fewest_129 rfl (fun g19 => ?_) (fun g19 => ?_)
        · replace hf := (if_neg g19).symm.trans hf
          refine aw_iinc (1 : Int32) dX7_fewest_179 rfl (Nat.le_of_ble_eq_true rfl) ki_1 (aw_goto 106 dX7_fewest_182 rfl ?_)
          exact aw_dk (ih _ _ _ _ hf) (And.intro rfl (And.intro rfl (And.intro rfl (And.intro rfl (And.intro rfl (And.intro rfl (And.intro rfl trivial)))))))
        · replace hf := (if_pos g19).symm.trans hf
          refine aw_aload_n dX7_fewest_132 rfl (aw_iload_n dX7_fewest_133 rfl (aw_iload_n dX7_fewest_134 rfl (aw_iload dX7_fewest_135 rfl ?_)))
          obtain ⟨v22, h20, c21, hf⟩ := ob_some hf
          refine aw_callVi (N := mX7_isAgain) (As := [.int x2, .int x3, .int (x4 / x6)]) lkX7_207 okX7_isAgain (nl hN rfl) kd_39 rfl (by rfl) (by rfl) (Nat.le_of_ble_eq_true rfl) ry_X7_fewest_X7_isAgain dX7_fewest_137 (And.intro (Nat.le_refl _) (Nat.le_refl _)) (ct_X7_isAgain hE hN F c21) ?_
          refine aw_if_eq 179 dX7_fewest_140 rfl (fun g23 => ?_) (fun g23 => ?_)
          · replace hf := (if_pos g23).symm.trans hf
            refine aw_iinc (1 : Int32) dX7_fewest_179 rfl (Nat.le_of_ble_eq_true rfl) ki_1 (aw_goto 106 dX7_fewest_182 rfl ?_)
            exact aw_dk (ih _ _ _ _ hf) (And.intro rfl (And.intro rfl (And.intro rfl (And.intro rfl (And.intro rfl (And.intro rfl (And.intro rfl trivial)))))))
          · replace hf := (if_neg g23).symm.trans hf
            refine aw_iconst (3 : Int32) dX7_fewest_143 ki_3 (aw_aload_n dX7_fewest_144 rfl (aw_getr fkX7_49 (nl hN rfl) kd_39 (Nat.le_of_ble_eq_true rfl) rfl dX7_fewest_145 (aw_iload_n dX7_fewest_148 rfl (aw_iconst (1 : Int32) dX7_fewest_149 ki_1 (aw_isub dX7_fewest_150 (aw_iload_n dX7_fewest_151 rfl (aw_iload_n dX7_fewest_152 rfl (aw_iload dX7_fewest_153 rfl (aw_iadd dX7_fewest_155 ?_)))))))))
            obtain ⟨v26, h24, c25, hf⟩ := ob_some hf
            refine aw_callSi (N := mX7_cell) (As := [.int (x1 - 1), .int x2, .int (x2 + (x4 / x6))]) lkX7_203 okX7_cell (by rfl) (by rfl) (Nat.le_of_ble_eq_true rfl) ry_X7_fewest_X7_cell dX7_fewest_156 (And.intro (Nat.le_refl _) (Nat.le_refl _)) (ct_X7_cell hE hN F c25) ?_
            obtain ⟨g27, hf⟩ := ogd hf
            have key28 : AW E mX7_fewest (KM E mX7_fewest (some (.int v)) tw h') tw h24 177 [some (.ref 39), some (.int x1), some (.int x2), some (.int x3), some (.int x4), some (.int x5), some (.int x6), some (.int (x4 / x6)), some (.int (3 + (h24 53 (ix v26))))] [.int (if x5 ≤ (3 + (h24 53 (ix v26))) then x5 else 3 + (h24 53 (ix v26)))] := by
              refine aw_istore dX7_fewest_177 (Nat.le_of_ble_eq_true rfl) (aw_iinc (1 : Int32) dX7_fewest_179 rfl (Nat.le_of_ble_eq_true rfl) ki_1 (aw_goto 106 dX7_fewest_182 rfl ?_))
              exact aw_dk (ih _ _ _ _ hf) (And.intro rfl (And.intro rfl (And.intro rfl (And.intro rfl (And.intro rfl (And.intro rfl (And.intro rfl trivial)))))))
            refine aw_iald (nl hN rfl) kd_53 g27 dX7_fewest_159 (aw_iadd dX7_fewest_160 (aw_istore dX7_fewest_161 (Nat.le_of_ble_eq_true rfl) (aw_iload dX7_fewest_163 rfl (aw_iload dX7_fewest_165 rfl ?_))))
            refine aw_icmp_ge 175 dX7_fewest_167 rfl (fun g29 => ?_) (fun g29 => ?_)
            · skip
              refine aw_iload dX7_fewest_175 rfl ?_
              simp only [if_pos g29] at key28 ⊢
              exact aw_dk key28 (And.intro rfl (And.intro rfl (And.intro rfl (And.intro rfl (And.intro rfl (And.intro rfl (And.intro rfl (And.intro rfl (And.intro rfl trivial)))))))))
            · skip
              refine aw_iload dX7_fewest_170 rfl (aw_goto 177 dX7_fewest_172 rfl ?_)
              simp only [if_neg g29] at key28 ⊢
              exact aw_dk key28 (And.intro rfl (And.intro rfl (And.intro rfl (And.intro rfl (And.intro rfl (And.intro rfl (And.intro rfl (And.intro rfl (And.intro rfl trivial)))))))))
def f_X7_fewest_48 (F : Nat) (x1 : Int32) (x2 : Int32) (x3 : Int32) : Nat → Int32 → Int32 → Int32 → HP → Option (Int32 × HP)
  | 0, _, _, _, _ => none
  | n + 1, x4, x5, x6, h =>
    if x3 ≤ x6 then
      f_X7_fewest_106 F x1 x2 x3 F x4 x5 2 h
    else
      ob (f_X7_cell F x1 x2 x6 h) (fun v10 h8 =>
      if inb v10 4356 then
        ob (f_X7_cell F x1 x6 x3 h8) (fun v14 h12 =>
        if inb v14 4356 then
          f_X7_fewest_48 F x1 x2 x3 n x4 (if x5 ≤ ((h8 53 (ix v10)) + (h12 53 (ix v14))) then x5 else (h8 53 (ix v10)) + (h12 53 (ix v14))) (x6 + 1) h12
        else none)
      else none)
set_option maxHeartbeats 4000000 in
set_option maxRecDepth 100000 in
theorem ct_X7_fewest_48 {E : EV} (hE : EI E) (hN : 56 ≤ eN E) (F : Nat) {tw : TW} {x1 : Int32} {x2 : Int32} {x3 : Int32} {v : Int32} {h' : HP} : ∀ (n : Nat) (x4 : Int32) (x5 : Int32) (x6 : Int32) (h : HP), f_X7_fewest_48 F x1 x2 x3 n x4 x5 x6 h = some (v, h') → AW E mX7_fewest (KM E mX7_fewest (some (.int v)) tw h') tw h 48 [some (.ref 39), some (.int x1), some (.int x2), some (.int x3), some (.int x4), some (.int x5), some (.int x6), none, none] [] := by
  intro n
  induction n with
  | zero => intro x4 x5 x6 h hf; exact absurd (show (none : Option (Int32 × HP)) = some _ from hf) (fun z => nomatch z)
  | succ n ih =>
    intro x4 x5 x6 h hf
    rw [f_X7_fewest_48] at hf
    refine aw_iload dX7_fewest_48 rfl (aw_iload_n dX7_fewest_50 rfl ?_)
    refine aw_icmp_ge 103 dX7_fewest_51 rfl (fun g7 => ?_) (fun g7 => ?_)
    · replace hf := (if_pos g7).symm.trans hf
      refine aw_iconst (2 : Int32) dX7_fewest_103 ki_2 (aw_istore dX7_fewest_104 (Nat.le_of_ble_eq_true rfl) ?_)
      exact aw_dk (ct_X7_fewest_106 hE hN F F _ _ _ _ hf) (And.intro rfl (And.intro rfl (And.intro rfl (And.intro rfl (And.intro rfl (And.intro rfl (And.intro rfl trivial)))))))
    · replace hf := (if_neg g7).symm.trans hf
      refine aw_aload_n dX7_fewest_54 rfl (aw_getr fkX7_49 (nl hN rfl) kd_39 (Nat.le_of_ble_eq_true rfl) rfl dX7_fewest_55 (aw_iload_n dX7_fewest_58 rfl (aw_iload_n dX7_fewest_59 rfl (aw_iload dX7_fewest_60 rfl ?_))))
      obtain ⟨v10, h8, c9, hf⟩ := ob_some hf
      refine aw_callSi (N := mX7_cell) (As := [.int x1, .int x2, .int x6]) lkX7_203 okX7_cell (by rfl) (by rfl) (Nat.le_of_ble_eq_true rfl) ry_X7_fewest_X7_cell dX7_fewest_62 (And.intro (Nat.le_refl _) (Nat.le_refl _)) (ct_X7_cell hE hN F c9) ?_
      obtain ⟨g11, hf⟩ := ogd hf
      refine aw_iald (nl hN rfl) kd_53 g11 dX7_fewest_65 (aw_aload_n dX7_fewest_66 rfl (aw_getr fkX7_49 (nl hN rfl) kd_39 (Nat.le_of_ble_eq_true rfl) rfl dX7_fewest_67 (aw_iload_n dX7_fewest_70 rfl (aw_iload dX7_fewest_71 rfl (aw_iload_n dX7_fewest_73 rfl ?_)))))
      obtain ⟨v14, h12, c13, hf⟩ := ob_some hf
      refine aw_callSi (N := mX7_cell) (As := [.int x1, .int x6, .int x3]) lkX7_203 okX7_cell (by rfl) (by rfl) (Nat.le_of_ble_eq_true rfl) ry_X7_fewest_X7_cell dX7_fewest_74 (And.intro (Nat.le_refl _) (Nat.le_refl _)) (ct_X7_cell hE hN F c13) ?_
      obtain ⟨g15, hf⟩ := ogd hf
      have key30 : AW E mX7_fewest (KM E mX7_fewest (some (.int v)) tw h') tw h12 95 [some (.ref 39), some (.int x1), some (.int x2), some (.int x3), some (.int x4), some (.int x5), some (.int x6), some (.int ((h8 53 (ix v10)) + (h12 53 (ix v14)))), none] [.int (if x5 ≤ ((h8 53 (ix v10)) + (h12 53 (ix v14))) then x5 else (h8 53 (ix v10)) + (h12 53 (ix v14)))] := by
        refine aw_istore dX7_fewest_95 (Nat.le_of_ble_eq_true rfl) (aw_iinc (1 : Int32) dX7_fewest_97 rfl (Nat.le_of_ble_eq_true rfl) ki_1 (aw_goto 48 dX7_fewest_100 rfl ?_))
        exact aw_dk (ih _ _ _ _ hf) (And.intro rfl (And.intro rfl (And.intro rfl (And.intro rfl (And.intro rfl (And.intro rfl (And.intro rfl trivial)))))))
      refine aw_iald (nl hN rfl) kd_53 g15 dX7_fewest_77 (aw_iadd dX7_fewest_78 (aw_istore dX7_fewest_79 (Nat.le_of_ble_eq_true rfl) (aw_iload dX7_fewest_81 rfl (aw_iload dX7_fewest_83 rfl ?_))))
      refine aw_icmp_ge 93 dX7_fewest_85 rfl (fun g31 => ?_) (fun g31 => ?_)
      · skip
        refine aw_iload dX7_fewest_93 rfl ?_
        simp only [if_pos g31] at key30 ⊢
        exact aw_dk key30 (And.intro rfl (And.intro rfl (And.intro rfl (And.intro rfl (And.intro rfl (And.intro rfl (And.intro rfl (And.intro rfl trivial))))))))
      · skip
        refine aw_iload dX7_fewest_88 rfl (aw_goto 95 dX7_fewest_90 rfl ?_)
        simp only [if_neg g31] at key30 ⊢
        exact aw_dk key30 (And.intro rfl (And.intro rfl (And.intro rfl (And.intro rfl (And.intro rfl (And.intro rfl (And.intro rfl (And.intro rfl trivial))))))))
def f_X7_fewest (F : Nat) (x1 : Int32) (x2 : Int32) (x3 : Int32) (h : HP) : Option (Int32 × HP) :=
  if (x3 - x2) = 1 then
    if inb (2 + x2) 66 then
      ob (f_X7_bits F (h 43 (ix (2 + x2))) h) (fun v5 h3 =>
      if 2 ≤ v5 then
        some (v5 + 2, h3)
      else
        some (1, h3))
    else none
  else
    f_X7_fewest_48 F x1 x2 x3 F (x3 - x2) 1000000 (x2 + 1) h
set_option maxHeartbeats 4000000 in
set_option maxRecDepth 100000 in
theorem ct_X7_fewest {E : EV} (hE : EI E) (hN : 56 ≤ eN E) (F : Nat) {tw : TW} {x1 : Int32} {x2 : Int32} {x3 : Int32} {h : HP} {v : Int32} {h' : HP} (hf : f_X7_fewest F x1 x2 x3 h = some (v, h')) : CT E mX7_fewest tw h [.ref 39, .int x1, .int x2, .int x3] (some (.int v)) tw h' := by
  refine CT.of hE (show plainFor yX7_fewest = true by decide +kernel) (Nat.le_of_ble_eq_true rfl) 5 ?_
  show AW E mX7_fewest (KM E mX7_fewest (some (.int v)) tw h') tw h 0 [some (.ref 39), some (.int x1), some (.int x2), some (.int x3), none, none, none, none, none] []
  unfold f_X7_fewest at hf
  refine aw_iload_n dX7_fewest_0 rfl (aw_iload_n dX7_fewest_1 rfl (aw_isub dX7_fewest_2 (aw_istore dX7_fewest_3 (Nat.le_of_ble_eq_true rfl) (aw_iload dX7_fewest_5 rfl (aw_iconst (1 : Int32) dX7_fewest_7 ki_1 ?_)))))
  refine aw_icmp_ne 39 dX7_fewest_8 rfl (fun g1 => ?_) (fun g1 => ?_)
  · replace hf := (if_neg g1).symm.trans hf
    refine aw_ldc kcX7_199 dX7_fewest_39 (aw_istore dX7_fewest_41 (Nat.le_of_ble_eq_true rfl) (aw_iload_n dX7_fewest_43 rfl (aw_iconst (1 : Int32) dX7_fewest_44 ki_1 (aw_iadd dX7_fewest_45 (aw_istore dX7_fewest_46 (Nat.le_of_ble_eq_true rfl) ?_)))))
    exact aw_dk (ct_X7_fewest_48 hE hN F F _ _ _ _ hf) (And.intro rfl (And.intro rfl (And.intro rfl (And.intro rfl (And.intro rfl (And.intro rfl (And.intro rfl trivial)))))))
  · replace hf := (if_pos g1).symm.trans hf
    refine aw_aload_n dX7_fewest_11 rfl (aw_getr fkX7_19 (nl hN rfl) kd_39 (Nat.le_of_ble_eq_true rfl) rfl dX7_fewest_12 (aw_iconst (2 : Int32) dX7_fewest_15 ki_2 (aw_iload_n dX7_fewest_16 rfl (aw_iadd dX7_fewest_17 ?_))))
    obtain ⟨g2, hf⟩ := ogd hf
    refine aw_iald (nl hN rfl) kd_43 g2 dX7_fewest_18 ?_
    obtain ⟨v5, h3, c4, hf⟩ := ob_some hf
    refine aw_callSi (N := mX7_bits) (As := [.int (h 43 (ix (2 + x2)))]) lkX7_114 okX7_bits (by rfl) (by rfl) (Nat.le_of_ble_eq_true rfl) ry_X7_fewest_X7_bits dX7_fewest_19 (And.intro (Nat.le_refl _) (Nat.le_refl _)) (ct_X7_bits hE hN F c4) (aw_istore dX7_fewest_22 (Nat.le_of_ble_eq_true rfl) (aw_iload dX7_fewest_24 rfl (aw_iconst (2 : Int32) dX7_fewest_26 ki_2 ?_)))
    refine aw_icmp_ge 34 dX7_fewest_27 rfl (fun g6 => ?_) (fun g6 => ?_)
    · replace hf := (if_pos g6).symm.trans hf
      cases hf
      exact aw_iload dX7_fewest_34 rfl (aw_iconst (2 : Int32) dX7_fewest_36 ki_2 (aw_iadd dX7_fewest_37 (aw_iret rfl dX7_fewest_38)))
    · replace hf := (if_neg g6).symm.trans hf
      cases hf
      exact aw_iconst (1 : Int32) dX7_fewest_30 ki_1 (aw_goto 38 dX7_fewest_31 rfl (aw_iret rfl dX7_fewest_38))
def f_X7_letters_21 (F : Nat)  (k_9 : Int32 → Int32 → HP → Option (Int32 × HP)) : Nat → Int32 → Int32 → Int32 → HP → Option (Int32 × HP)
  | 0, _, _, _, _ => none
  | n + 1, x1, x2, x3, h =>
    if (h 40 1) < (x3 + x2) then
      k_9 x1 (x2 + 1) h
    else
      ob (f_X7_cell F x1 x3 (x3 + x2) h) (fun v10 h8 =>
      ob (f_X7_fewest F x1 x3 (x3 + x2) h8) (fun v13 h11 =>
      if inb v10 4356 then
        f_X7_letters_21 F k_9 n x1 x2 (x3 + 1) (up h11 53 (ix v10) v13)
      else none))
set_option maxHeartbeats 4000000 in
set_option maxRecDepth 100000 in
theorem ct_X7_letters_21 {E : EV} (hE : EI E) (hN : 56 ≤ eN E) (F : Nat) {tw : TW}  {v : Int32} {h' : HP} {k_9 : Int32 → Int32 → HP → Option (Int32 × HP)} (hk_9 : ∀ (x1 : Int32) (x2 : Int32) (h : HP), k_9 x1 x2 h = some (v, h') → AW E mX7_letters (KM E mX7_letters (some (.int v)) tw h') tw h 9 [some (.ref 39), some (.int x1), some (.int x2), none] []) : ∀ (n : Nat) (x1 : Int32) (x2 : Int32) (x3 : Int32) (h : HP), f_X7_letters_21 F k_9 n x1 x2 x3 h = some (v, h') → AW E mX7_letters (KM E mX7_letters (some (.int v)) tw h') tw h 21 [some (.ref 39), some (.int x1), some (.int x2), some (.int x3)] [] := by
  intro n
  induction n with
  | zero => intro x1 x2 x3 h hf; exact absurd (show (none : Option (Int32 × HP)) = some _ from hf) (fun z => nomatch z)
  | succ n ih =>
    intro x1 x2 x3 h hf
    rw [f_X7_letters_21] at hf
    refine aw_iload_n dX7_letters_21 rfl (aw_iload_n dX7_letters_22 rfl (aw_iadd dX7_letters_23 (aw_aload_n dX7_letters_24 rfl (aw_getr fkX7_7 (nl hN rfl) kd_39 (Nat.le_of_ble_eq_true rfl) rfl dX7_letters_25 (aw_iconst (1 : Int32) dX7_letters_28 ki_1 (aw_ialdk (j := 1) cx_1 (nl hN rfl) kd_40 ib_1_19 dX7_letters_29 ?_))))))
    refine aw_icmp_gt 61 dX7_letters_30 rfl (fun g7 => ?_) (fun g7 => ?_)
    · replace hf := (if_pos g7).symm.trans hf
      refine aw_iinc (1 : Int32) dX7_letters_61 rfl (Nat.le_of_ble_eq_true rfl) ki_1 (aw_goto 9 dX7_letters_64 rfl ?_)
      exact aw_dk (hk_9 _ _ _ hf) (And.intro rfl (And.intro rfl (And.intro rfl trivial)))
    · replace hf := (if_neg g7).symm.trans hf
      refine aw_aload_n dX7_letters_33 rfl (aw_getr fkX7_49 (nl hN rfl) kd_39 (Nat.le_of_ble_eq_true rfl) rfl dX7_letters_34 (aw_iload_n dX7_letters_37 rfl (aw_iload_n dX7_letters_38 rfl (aw_iload_n dX7_letters_39 rfl (aw_iload_n dX7_letters_40 rfl (aw_iadd dX7_letters_41 ?_))))))
      obtain ⟨v10, h8, c9, hf⟩ := ob_some hf
      refine aw_callSi (N := mX7_cell) (As := [.int x1, .int x3, .int (x3 + x2)]) lkX7_203 okX7_cell (by rfl) (by rfl) (Nat.le_of_ble_eq_true rfl) ry_X7_letters_X7_cell dX7_letters_42 (And.intro (Nat.le_refl _) (Nat.le_refl _)) (ct_X7_cell hE hN F c9) (aw_aload_n dX7_letters_45 rfl (aw_iload_n dX7_letters_46 rfl (aw_iload_n dX7_letters_47 rfl (aw_iload_n dX7_letters_48 rfl (aw_iload_n dX7_letters_49 rfl (aw_iadd dX7_letters_50 ?_))))))
      obtain ⟨v13, h11, c12, hf⟩ := ob_some hf
      refine aw_callVi (N := mX7_fewest) (As := [.int x1, .int x3, .int (x3 + x2)]) lkX7_210 okX7_fewest (nl hN rfl) kd_39 rfl (by rfl) (by rfl) (Nat.le_of_ble_eq_true rfl) ry_X7_letters_X7_fewest dX7_letters_51 (And.intro (Nat.le_refl _) (Nat.le_refl _)) (ct_X7_fewest hE hN F c12) ?_
      obtain ⟨g14, hf⟩ := ogd hf
      refine aw_iast (nl hN rfl) kd_53 g14 dX7_letters_54 (aw_iinc (1 : Int32) dX7_letters_55 rfl (Nat.le_of_ble_eq_true rfl) ki_1 (aw_goto 21 dX7_letters_58 rfl ?_))
      exact aw_dk (ih _ _ _ _ hf) (And.intro rfl (And.intro rfl (And.intro rfl (And.intro rfl trivial))))
def f_X7_letters_9 (F : Nat)  (k_2 : Int32 → HP → Option (Int32 × HP)) : Nat → Int32 → Int32 → HP → Option (Int32 × HP)
  | 0, _, _, _ => none
  | n + 1, x1, x2, h =>
    if (h 40 1) < x2 then
      k_2 (x1 + 1) h
    else
      f_X7_letters_21 F (f_X7_letters_9 F k_2 n) F x1 x2 0 h
set_option maxHeartbeats 4000000 in
set_option maxRecDepth 100000 in
theorem ct_X7_letters_9 {E : EV} (hE : EI E) (hN : 56 ≤ eN E) (F : Nat) {tw : TW}  {v : Int32} {h' : HP} {k_2 : Int32 → HP → Option (Int32 × HP)} (hk_2 : ∀ (x1 : Int32) (h : HP), k_2 x1 h = some (v, h') → AW E mX7_letters (KM E mX7_letters (some (.int v)) tw h') tw h 2 [some (.ref 39), some (.int x1), none, none] []) : ∀ (n : Nat) (x1 : Int32) (x2 : Int32) (h : HP), f_X7_letters_9 F k_2 n x1 x2 h = some (v, h') → AW E mX7_letters (KM E mX7_letters (some (.int v)) tw h') tw h 9 [some (.ref 39), some (.int x1), some (.int x2), none] [] := by
  intro n
  induction n with
  | zero => intro x1 x2 h hf; exact absurd (show (none : Option (Int32 × HP)) = some _ from hf) (fun z => nomatch z)
  | succ n ih =>
    intro x1 x2 h hf
    rw [f_X7_letters_9] at hf
    refine aw_iload_n dX7_letters_9 rfl (aw_aload_n dX7_letters_10 rfl (aw_getr fkX7_7 (nl hN rfl) kd_39 (Nat.le_of_ble_eq_true rfl) rfl dX7_letters_11 (aw_iconst (1 : Int32) dX7_letters_14 ki_1 (aw_ialdk (j := 1) cx_1 (nl hN rfl) kd_40 ib_1_19 dX7_letters_15 ?_))))
    refine aw_icmp_gt 67 dX7_letters_16 rfl (fun g6 => ?_) (fun g6 => ?_)
    · replace hf := (if_pos g6).symm.trans hf
      refine aw_iinc (1 : Int32) dX7_letters_67 rfl (Nat.le_of_ble_eq_true rfl) ki_1 (aw_goto 2 dX7_letters_70 rfl ?_)
      exact aw_dk (hk_2 _ _ hf) (And.intro rfl (And.intro rfl trivial))
    · replace hf := (if_neg g6).symm.trans hf
      refine aw_iconst (0 : Int32) dX7_letters_19 ki_0 (aw_istore_n dX7_letters_20 (Nat.le_of_ble_eq_true rfl) ?_)
      exact aw_dk (ct_X7_letters_21 hE hN F ih F _ _ _ _ hf) (And.intro rfl (And.intro rfl (And.intro rfl (And.intro rfl trivial))))
def f_X7_letters_2 (F : Nat)  : Nat → Int32 → HP → Option (Int32 × HP)
  | 0, _, _ => none
  | n + 1, x1, h =>
    if 4 ≤ x1 then
      ob (f_X7_cell F 3 0 (h 40 1) h) (fun v4 h2 =>
      if inb v4 4356 then
        some (h2 53 (ix v4), h2)
      else none)
    else
      f_X7_letters_9 F (f_X7_letters_2 F n) F x1 1 h
set_option maxHeartbeats 4000000 in
set_option maxRecDepth 100000 in
theorem ct_X7_letters_2 {E : EV} (hE : EI E) (hN : 56 ≤ eN E) (F : Nat) {tw : TW}  {v : Int32} {h' : HP} : ∀ (n : Nat) (x1 : Int32) (h : HP), f_X7_letters_2 F n x1 h = some (v, h') → AW E mX7_letters (KM E mX7_letters (some (.int v)) tw h') tw h 2 [some (.ref 39), some (.int x1), none, none] [] := by
  intro n
  induction n with
  | zero => intro x1 h hf; exact absurd (show (none : Option (Int32 × HP)) = some _ from hf) (fun z => nomatch z)
  | succ n ih =>
    intro x1 h hf
    rw [f_X7_letters_2] at hf
    refine aw_iload_n dX7_letters_2 rfl (aw_iconst (4 : Int32) dX7_letters_3 ki_4 ?_)
    refine aw_icmp_ge 73 dX7_letters_4 rfl (fun g1 => ?_) (fun g1 => ?_)
    · replace hf := (if_pos g1).symm.trans hf
      refine aw_aload_n dX7_letters_73 rfl (aw_getr fkX7_49 (nl hN rfl) kd_39 (Nat.le_of_ble_eq_true rfl) rfl dX7_letters_74 (aw_iconst (3 : Int32) dX7_letters_77 ki_3 (aw_iconst (0 : Int32) dX7_letters_78 ki_0 (aw_aload_n dX7_letters_79 rfl (aw_getr fkX7_7 (nl hN rfl) kd_39 (Nat.le_of_ble_eq_true rfl) rfl dX7_letters_80 (aw_iconst (1 : Int32) dX7_letters_83 ki_1 (aw_ialdk (j := 1) cx_1 (nl hN rfl) kd_40 ib_1_19 dX7_letters_84 ?_)))))))
      obtain ⟨v4, h2, c3, hf⟩ := ob_some hf
      refine aw_callSi (N := mX7_cell) (As := [.int 3, .int 0, .int (h 40 1)]) lkX7_203 okX7_cell (by rfl) (by rfl) (Nat.le_of_ble_eq_true rfl) ry_X7_letters_X7_cell dX7_letters_85 (And.intro (Nat.le_refl _) (Nat.le_refl _)) (ct_X7_cell hE hN F c3) ?_
      obtain ⟨g5, hf⟩ := ogd hf
      cases hf
      exact aw_iald (nl hN rfl) kd_53 g5 dX7_letters_88 (aw_iret rfl dX7_letters_89)
    · replace hf := (if_neg g1).symm.trans hf
      refine aw_iconst (1 : Int32) dX7_letters_7 ki_1 (aw_istore_n dX7_letters_8 (Nat.le_of_ble_eq_true rfl) ?_)
      exact aw_dk (ct_X7_letters_9 hE hN F ih F _ _ _ hf) (And.intro rfl (And.intro rfl (And.intro rfl trivial)))
def f_X7_letters (F : Nat)  (h : HP) : Option (Int32 × HP) :=
  f_X7_letters_2 F F 0 h
set_option maxHeartbeats 4000000 in
set_option maxRecDepth 100000 in
theorem ct_X7_letters {E : EV} (hE : EI E) (hN : 56 ≤ eN E) (F : Nat) {tw : TW}  {h : HP} {v : Int32} {h' : HP} (hf : f_X7_letters F  h = some (v, h')) : CT E mX7_letters tw h [.ref 39] (some (.int v)) tw h' := by
  refine CT.of hE (show plainFor yX7_letters = true by decide +kernel) (Nat.le_of_ble_eq_true rfl) 3 ?_
  show AW E mX7_letters (KM E mX7_letters (some (.int v)) tw h') tw h 0 [some (.ref 39), none, none, none] []
  unfold f_X7_letters at hf
  refine aw_iconst (0 : Int32) dX7_letters_0 ki_0 (aw_istore_n dX7_letters_1 (Nat.le_of_ble_eq_true rfl) ?_)
  exact aw_dk (ct_X7_letters_2 hE hN F F _ _ hf) (And.intro rfl (And.intro rfl trivial))
def f_X7_areOne_4 (F : Nat) (x1 : Int32) : Nat → Int32 → Int32 → HP → Option (Int32 × HP)
  | 0, _, _, _ => none
  | n + 1, x2, x3, h =>
    if (h 40 1) ≤ x3 then
      if x2 = 0 ∨ x2 = 1 then
        some (x2, h)
      else none
    else
      if x2 = 0 then
        f_X7_areOne_4 F x1 n 0 (x3 + 1) h
      else
        if inb (2 + x3) 66 then
          ob (f_X7_bits F (x1 &&& (h 43 (ix (2 + x3)))) h) (fun v7 h5 =>
          f_X7_areOne_4 F x1 n (if 2 ≤ v7 then 0 else 1) (x3 + 1) h5)
        else none
set_option maxHeartbeats 4000000 in
set_option maxRecDepth 100000 in
theorem ct_X7_areOne_4 {E : EV} (hE : EI E) (hN : 56 ≤ eN E) (F : Nat) {tw : TW} {x1 : Int32} {v : Int32} {h' : HP} : ∀ (n : Nat) (x2 : Int32) (x3 : Int32) (h : HP), f_X7_areOne_4 F x1 n x2 x3 h = some (v, h') → AW E mX7_areOne (KM E mX7_areOne (some (.int v)) tw h') tw h 4 [some (.ref 39), some (.int x1), some (.int x2), some (.int x3)] [] := by
  intro n
  induction n with
  | zero => intro x2 x3 h hf; exact absurd (show (none : Option (Int32 × HP)) = some _ from hf) (fun z => nomatch z)
  | succ n ih =>
    intro x2 x3 h hf
    rw [f_X7_areOne_4] at hf
    refine aw_iload_n dX7_areOne_4 rfl (aw_aload_n dX7_areOne_5 rfl (aw_getr fkX7_7 (nl hN rfl) kd_39 (Nat.le_of_ble_eq_true rfl) rfl dX7_areOne_6 (aw_iconst (1 : Int32) dX7_areOne_9 ki_1 (aw_ialdk (j := 1) cx_1 (nl hN rfl) kd_40 ib_1_19 dX7_areOne_10 ?_))))
    refine aw_icmp_ge 47 dX7_areOne_11 rfl (fun g1 => ?_) (fun g1 => ?_)
    · replace hf := (if_pos g1).symm.trans hf
      refine aw_iload_n dX7_areOne_47 rfl ?_
      obtain ⟨g2, hf⟩ := ogd hf
      cases hf
      exact aw_zret rfl g2 dX7_areOne_48
    · replace hf := (if_neg g1).symm.trans hf
      refine aw_iload_n dX7_areOne_14 rfl ?_
      refine aw_if_eq 39 dX7_areOne_15 rfl (fun g3 => ?_) (fun g3 => ?_)
      · replace hf := (if_pos g3).symm.trans hf
        refine aw_iconst (0 : Int32) dX7_areOne_39 ki_0 (aw_istore_n dX7_areOne_40 (Nat.le_of_ble_eq_true rfl) (aw_iinc (1 : Int32) dX7_areOne_41 rfl (Nat.le_of_ble_eq_true rfl) ki_1 (aw_goto 4 dX7_areOne_44 rfl ?_)))
        exact aw_dk (ih _ _ _ hf) (And.intro rfl (And.intro rfl (And.intro rfl (And.intro rfl trivial))))
      · replace hf := (if_neg g3).symm.trans hf
        refine aw_iload_n dX7_areOne_18 rfl (aw_aload_n dX7_areOne_19 rfl (aw_getr fkX7_19 (nl hN rfl) kd_39 (Nat.le_of_ble_eq_true rfl) rfl dX7_areOne_20 (aw_iconst (2 : Int32) dX7_areOne_23 ki_2 (aw_iload_n dX7_areOne_24 rfl (aw_iadd dX7_areOne_25 ?_)))))
        obtain ⟨g4, hf⟩ := ogd hf
        refine aw_iald (nl hN rfl) kd_43 g4 dX7_areOne_26 (aw_iand dX7_areOne_27 ?_)
        obtain ⟨v7, h5, c6, hf⟩ := ob_some hf
        have key8 : AW E mX7_areOne (KM E mX7_areOne (some (.int v)) tw h') tw h5 40 [some (.ref 39), some (.int x1), some (.int x2), some (.int x3)] [.int (if 2 ≤ v7 then 0 else 1)] := by
          refine aw_istore_n dX7_areOne_40 (Nat.le_of_ble_eq_true rfl) (aw_iinc (1 : Int32) dX7_areOne_41 rfl (Nat.le_of_ble_eq_true rfl) ki_1 (aw_goto 4 dX7_areOne_44 rfl ?_))
          exact aw_dk (ih _ _ _ hf) (And.intro rfl (And.intro rfl (And.intro rfl (And.intro rfl trivial))))
        refine aw_callSi (N := mX7_bits) (As := [.int (x1 &&& (h 43 (ix (2 + x3))))]) lkX7_114 okX7_bits (by rfl) (by rfl) (Nat.le_of_ble_eq_true rfl) ry_X7_areOne_X7_bits dX7_areOne_28 (And.intro (Nat.le_refl _) (Nat.le_refl _)) (ct_X7_bits hE hN F c6) (aw_iconst (2 : Int32) dX7_areOne_31 ki_2 ?_)
        refine aw_icmp_ge 39 dX7_areOne_32 rfl (fun g9 => ?_) (fun g9 => ?_)
        · skip
          refine aw_iconst (0 : Int32) dX7_areOne_39 ki_0 ?_
          simp only [if_pos g9] at key8 ⊢
          exact aw_dk key8 (And.intro rfl (And.intro rfl (And.intro rfl (And.intro rfl trivial))))
        · skip
          refine aw_iconst (1 : Int32) dX7_areOne_35 ki_1 (aw_goto 40 dX7_areOne_36 rfl ?_)
          simp only [if_neg g9] at key8 ⊢
          exact aw_dk key8 (And.intro rfl (And.intro rfl (And.intro rfl (And.intro rfl trivial))))
def f_X7_areOne (F : Nat) (x1 : Int32) (h : HP) : Option (Int32 × HP) :=
  f_X7_areOne_4 F x1 F 1 0 h
set_option maxHeartbeats 4000000 in
set_option maxRecDepth 100000 in
theorem ct_X7_areOne {E : EV} (hE : EI E) (hN : 56 ≤ eN E) (F : Nat) {tw : TW} {x1 : Int32} {h : HP} {v : Int32} {h' : HP} (hf : f_X7_areOne F x1 h = some (v, h')) : CT E mX7_areOne tw h [.ref 39, .int x1] (some (.int v)) tw h' := by
  refine CT.of hE (show plainFor yX7_areOne = true by decide +kernel) (Nat.le_of_ble_eq_true rfl) 2 ?_
  show AW E mX7_areOne (KM E mX7_areOne (some (.int v)) tw h') tw h 0 [some (.ref 39), some (.int x1), none, none] []
  unfold f_X7_areOne at hf
  refine aw_iconst (1 : Int32) dX7_areOne_0 ki_1 (aw_istore_n dX7_areOne_1 (Nat.le_of_ble_eq_true rfl) (aw_iconst (0 : Int32) dX7_areOne_2 ki_0 (aw_istore_n dX7_areOne_3 (Nat.le_of_ble_eq_true rfl) ?_)))
  exact aw_dk (ct_X7_areOne_4 hE hN F F _ _ _ hf) (And.intro rfl (And.intro rfl (And.intro rfl (And.intro rfl trivial))))
def f_X7_ringers_78 (F : Nat)  (k_39 : Int32 → Int32 → Int32 → HP → Option (Int32 × HP)) (x1 : Int32) (x2 : Int32) (x3 : Int32) (s0 : Int32) (h : HP) : Option (Int32 × HP) :=
  if inb x2 256 then
    k_39 x1 x2 ((x3 - 1) &&& x2) (up h 54 (ix x2) (if (h 54 (ix x2)) ≤ s0 then h 54 (ix x2) else s0))
  else none
set_option maxHeartbeats 4000000 in
set_option maxRecDepth 100000 in
theorem ct_X7_ringers_78 {E : EV} (hE : EI E) (hN : 56 ≤ eN E) (F : Nat) {tw : TW}  {v : Int32} {h' : HP} {k_39 : Int32 → Int32 → Int32 → HP → Option (Int32 × HP)} (hk_39 : ∀ (x1 : Int32) (x2 : Int32) (x3 : Int32) (h : HP), k_39 x1 x2 x3 h = some (v, h') → AW E mX7_ringers (KM E mX7_ringers (some (.int v)) tw h') tw h 39 [some (.ref 39), some (.int x1), some (.int x2), some (.int x3), none] []) : ∀ (x1 : Int32) (x2 : Int32) (x3 : Int32) (s0 : Int32) (h : HP), f_X7_ringers_78 F k_39 x1 x2 x3 s0 h = some (v, h') → AW E mX7_ringers (KM E mX7_ringers (some (.int v)) tw h') tw h 78 [some (.ref 39), some (.int x1), some (.int x2), some (.int x3), none] [.int s0] := by
  intro x1 x2 x3 s0 h hf
  unfold f_X7_ringers_78 at hf
  refine aw_istore dX7_ringers_78 (Nat.le_of_ble_eq_true rfl) (aw_aload_n dX7_ringers_80 rfl (aw_getr fkX7_52 (nl hN rfl) kd_39 (Nat.le_of_ble_eq_true rfl) rfl dX7_ringers_81 (aw_iload_n dX7_ringers_84 rfl (aw_iload dX7_ringers_85 rfl (aw_aload_n dX7_ringers_87 rfl (aw_getr fkX7_52 (nl hN rfl) kd_39 (Nat.le_of_ble_eq_true rfl) rfl dX7_ringers_88 (aw_iload_n dX7_ringers_91 rfl ?_)))))))
  obtain ⟨g13, hf⟩ := ogd hf
  have key14 : AW E mX7_ringers (KM E mX7_ringers (some (.int v)) tw h') tw h 107 [some (.ref 39), some (.int x1), some (.int x2), some (.int x3), some (.int s0)] [.int (if (h 54 (ix x2)) ≤ s0 then h 54 (ix x2) else s0), .int x2, .ref 54] := by
    refine aw_iast (nl hN rfl) kd_54 g13 dX7_ringers_107 (aw_iload_n dX7_ringers_108 rfl (aw_iconst (1 : Int32) dX7_ringers_109 ki_1 (aw_isub dX7_ringers_110 (aw_iload_n dX7_ringers_111 rfl (aw_iand dX7_ringers_112 (aw_istore_n dX7_ringers_113 (Nat.le_of_ble_eq_true rfl) (aw_goto 39 dX7_ringers_114 rfl ?_)))))))
    exact aw_dk (hk_39 _ _ _ _ hf) (And.intro rfl (And.intro rfl (And.intro rfl (And.intro rfl trivial))))
  refine aw_iald (nl hN rfl) kd_54 g13 dX7_ringers_92 ?_
  refine aw_icmp_ge 101 dX7_ringers_93 rfl (fun g15 => ?_) (fun g15 => ?_)
  · skip
    refine aw_aload_n dX7_ringers_101 rfl (aw_getr fkX7_52 (nl hN rfl) kd_39 (Nat.le_of_ble_eq_true rfl) rfl dX7_ringers_102 (aw_iload_n dX7_ringers_105 rfl (aw_iald (nl hN rfl) kd_54 g13 dX7_ringers_106 ?_)))
    simp only [if_pos g15] at key14 ⊢
    exact aw_dk key14 (And.intro rfl (And.intro rfl (And.intro rfl (And.intro rfl (And.intro rfl trivial)))))
  · skip
    refine aw_iload dX7_ringers_96 rfl (aw_goto 107 dX7_ringers_98 rfl ?_)
    simp only [if_neg g15] at key14 ⊢
    exact aw_dk key14 (And.intro rfl (And.intro rfl (And.intro rfl (And.intro rfl (And.intro rfl trivial)))))
def f_X7_ringers_72 (F : Nat)  (k_39 : Int32 → Int32 → Int32 → HP → Option (Int32 × HP)) (x1 : Int32) (x2 : Int32) (x3 : Int32) (s0 : Int32) (s1 : Int32) (h : HP) : Option (Int32 × HP) :=
  f_X7_ringers_78 F k_39 x1 x2 x3 (s0 + s1) h
set_option maxHeartbeats 4000000 in
set_option maxRecDepth 100000 in
theorem ct_X7_ringers_72 {E : EV} (hE : EI E) (hN : 56 ≤ eN E) (F : Nat) {tw : TW}  {v : Int32} {h' : HP} {k_39 : Int32 → Int32 → Int32 → HP → Option (Int32 × HP)} (hk_39 : ∀ (x1 : Int32) (x2 : Int32) (x3 : Int32) (h : HP), k_39 x1 x2 x3 h = some (v, h') → AW E mX7_ringers (KM E mX7_ringers (some (.int v)) tw h') tw h 39 [some (.ref 39), some (.int x1), some (.int x2), some (.int x3), none] []) : ∀ (x1 : Int32) (x2 : Int32) (x3 : Int32) (s0 : Int32) (s1 : Int32) (h : HP), f_X7_ringers_72 F k_39 x1 x2 x3 s0 s1 h = some (v, h') → AW E mX7_ringers (KM E mX7_ringers (some (.int v)) tw h') tw h 72 [some (.ref 39), some (.int x1), some (.int x2), some (.int x3), none] [.int s1, .int s0] := by
  intro x1 x2 x3 s0 s1 h hf
  unfold f_X7_ringers_72 at hf
  refine aw_iadd dX7_ringers_72 (aw_goto 78 dX7_ringers_73 rfl ?_)
  exact aw_dk (ct_X7_ringers_78 hE hN F hk_39 _ _ _ _ _ hf) (And.intro rfl (And.intro rfl (And.intro rfl (And.intro rfl trivial))))
def f_X7_ringers_39 (F : Nat)  (k_13 : Int32 → Int32 → HP → Option (Int32 × HP)) : Nat → Int32 → Int32 → Int32 → HP → Option (Int32 × HP)
  | 0, _, _, _, _ => none
  | n + 1, x1, x2, x3, h =>
    if x3 ≤ 0 then
      k_13 x1 (x2 + 1) h
    else
      if inb x3 256 then
        if (h 55 (ix x3)) = 0 then
          f_X7_ringers_78 F (f_X7_ringers_39 F k_13 n) x1 x2 x3 1000000 h
        else
          if x3 = x2 then
            f_X7_ringers_72 F (f_X7_ringers_39 F k_13 n) x1 x2 x3 1 0 h
          else
            if inb (x2 &&& (x3 ^^^ (-1))) 256 then
              f_X7_ringers_72 F (f_X7_ringers_39 F k_13 n) x1 x2 x3 1 (h 54 (ix (x2 &&& (x3 ^^^ (-1))))) h
            else none
      else none
set_option maxHeartbeats 4000000 in
set_option maxRecDepth 100000 in
theorem ct_X7_ringers_39 {E : EV} (hE : EI E) (hN : 56 ≤ eN E) (F : Nat) {tw : TW}  {v : Int32} {h' : HP} {k_13 : Int32 → Int32 → HP → Option (Int32 × HP)} (hk_13 : ∀ (x1 : Int32) (x2 : Int32) (h : HP), k_13 x1 x2 h = some (v, h') → AW E mX7_ringers (KM E mX7_ringers (some (.int v)) tw h') tw h 13 [some (.ref 39), some (.int x1), some (.int x2), none, none] []) : ∀ (n : Nat) (x1 : Int32) (x2 : Int32) (x3 : Int32) (h : HP), f_X7_ringers_39 F k_13 n x1 x2 x3 h = some (v, h') → AW E mX7_ringers (KM E mX7_ringers (some (.int v)) tw h') tw h 39 [some (.ref 39), some (.int x1), some (.int x2), some (.int x3), none] [] := by
  intro n
  induction n with
  | zero => intro x1 x2 x3 h hf; exact absurd (show (none : Option (Int32 × HP)) = some _ from hf) (fun z => nomatch z)
  | succ n ih =>
    intro x1 x2 x3 h hf
    rw [f_X7_ringers_39] at hf
    refine aw_iload_n dX7_ringers_39 rfl ?_
    refine aw_if_le 117 dX7_ringers_40 rfl (fun g8 => ?_) (fun g8 => ?_)
    · replace hf := (if_pos g8).symm.trans hf
      refine aw_iinc (1 : Int32) dX7_ringers_117 rfl (Nat.le_of_ble_eq_true rfl) ki_1 (aw_goto 13 dX7_ringers_120 rfl ?_)
      exact aw_dk (hk_13 _ _ _ hf) (And.intro rfl (And.intro rfl (And.intro rfl trivial)))
    · replace hf := (if_neg g8).symm.trans hf
      refine aw_aload_n dX7_ringers_43 rfl (aw_getr fkX7_55 (nl hN rfl) kd_39 (Nat.le_of_ble_eq_true rfl) rfl dX7_ringers_44 (aw_iload_n dX7_ringers_47 rfl ?_))
      obtain ⟨g9, hf⟩ := ogd hf
      refine aw_zald (nl hN rfl) kd_55 g9 dX7_ringers_48 ?_
      refine aw_if_eq 76 dX7_ringers_49 rfl (fun g10 => ?_) (fun g10 => ?_)
      · replace hf := (if_pos g10).symm.trans hf
        refine aw_ldc kcX7_199 dX7_ringers_76 ?_
        exact aw_dk (ct_X7_ringers_78 hE hN F ih _ _ _ _ _ hf) (And.intro rfl (And.intro rfl (And.intro rfl (And.intro rfl trivial))))
      · replace hf := (if_neg g10).symm.trans hf
        refine aw_iconst (1 : Int32) dX7_ringers_52 ki_1 (aw_iload_n dX7_ringers_53 rfl (aw_iload_n dX7_ringers_54 rfl ?_))
        refine aw_icmp_ne 62 dX7_ringers_55 rfl (fun g11 => ?_) (fun g11 => ?_)
        · replace hf := (if_neg g11).symm.trans hf
          refine aw_aload_n dX7_ringers_62 rfl (aw_getr fkX7_52 (nl hN rfl) kd_39 (Nat.le_of_ble_eq_true rfl) rfl dX7_ringers_63 (aw_iload_n dX7_ringers_66 rfl (aw_iload_n dX7_ringers_67 rfl (aw_iconst ((-1) : Int32) dX7_ringers_68 ki_m1 (aw_ixor dX7_ringers_69 (aw_iand dX7_ringers_70 ?_))))))
          obtain ⟨g12, hf⟩ := ogd hf
          refine aw_iald (nl hN rfl) kd_54 g12 dX7_ringers_71 ?_
          exact aw_dk (ct_X7_ringers_72 hE hN F ih _ _ _ _ _ _ hf) (And.intro rfl (And.intro rfl (And.intro rfl (And.intro rfl trivial))))
        · replace hf := (if_pos g11).symm.trans hf
          refine aw_iconst (0 : Int32) dX7_ringers_58 ki_0 (aw_goto 72 dX7_ringers_59 rfl ?_)
          exact aw_dk (ct_X7_ringers_72 hE hN F ih _ _ _ _ _ _ hf) (And.intro rfl (And.intro rfl (And.intro rfl (And.intro rfl trivial))))
def f_X7_ringers_13 (F : Nat)  : Nat → Int32 → Int32 → HP → Option (Int32 × HP)
  | 0, _, _, _ => none
  | n + 1, x1, x2, h =>
    if x1 < x2 then
      if inb x1 256 then
        some (h 54 (ix x1), h)
      else none
    else
      ob (f_X7_areOne F x2 h) (fun v5 h3 =>
      if inb x2 256 then
        if v5 = 0 ∨ v5 = 1 then
          f_X7_ringers_39 F (f_X7_ringers_13 F n) F x1 x2 x2 (up (up h3 55 (ix x2) v5) 54 (ix x2) 1000000)
        else none
      else none)
set_option maxHeartbeats 4000000 in
set_option maxRecDepth 100000 in
theorem ct_X7_ringers_13 {E : EV} (hE : EI E) (hN : 56 ≤ eN E) (F : Nat) {tw : TW}  {v : Int32} {h' : HP} : ∀ (n : Nat) (x1 : Int32) (x2 : Int32) (h : HP), f_X7_ringers_13 F n x1 x2 h = some (v, h') → AW E mX7_ringers (KM E mX7_ringers (some (.int v)) tw h') tw h 13 [some (.ref 39), some (.int x1), some (.int x2), none, none] [] := by
  intro n
  induction n with
  | zero => intro x1 x2 h hf; exact absurd (show (none : Option (Int32 × HP)) = some _ from hf) (fun z => nomatch z)
  | succ n ih =>
    intro x1 x2 h hf
    rw [f_X7_ringers_13] at hf
    refine aw_iload_n dX7_ringers_13 rfl (aw_iload_n dX7_ringers_14 rfl ?_)
    refine aw_icmp_gt 123 dX7_ringers_15 rfl (fun g1 => ?_) (fun g1 => ?_)
    · replace hf := (if_pos g1).symm.trans hf
      refine aw_aload_n dX7_ringers_123 rfl (aw_getr fkX7_52 (nl hN rfl) kd_39 (Nat.le_of_ble_eq_true rfl) rfl dX7_ringers_124 (aw_iload_n dX7_ringers_127 rfl ?_))
      obtain ⟨g2, hf⟩ := ogd hf
      cases hf
      exact aw_iald (nl hN rfl) kd_54 g2 dX7_ringers_128 (aw_iret rfl dX7_ringers_129)
    · replace hf := (if_neg g1).symm.trans hf
      refine aw_aload_n dX7_ringers_18 rfl (aw_getr fkX7_55 (nl hN rfl) kd_39 (Nat.le_of_ble_eq_true rfl) rfl dX7_ringers_19 (aw_iload_n dX7_ringers_22 rfl (aw_aload_n dX7_ringers_23 rfl (aw_iload_n dX7_ringers_24 rfl ?_))))
      obtain ⟨v5, h3, c4, hf⟩ := ob_some hf
      refine aw_callVi (N := mX7_areOne) (As := [.int x2]) lkX7_213 okX7_areOne (nl hN rfl) kd_39 rfl (by rfl) (by rfl) (Nat.le_of_ble_eq_true rfl) ry_X7_ringers_X7_areOne dX7_ringers_25 (And.intro (Nat.le_refl _) (Nat.le_refl _)) (ct_X7_areOne hE hN F c4) ?_
      obtain ⟨g6, hf⟩ := ogd hf
      obtain ⟨g7, hf⟩ := ogd hf
      refine aw_zast (nl hN rfl) kd_55 g6 g7 dX7_ringers_28 (aw_aload_n dX7_ringers_29 rfl (aw_getr fkX7_52 (nl hN rfl) kd_39 (Nat.le_of_ble_eq_true rfl) rfl dX7_ringers_30 (aw_iload_n dX7_ringers_33 rfl (aw_ldc kcX7_199 dX7_ringers_34 (aw_iast (nl hN rfl) kd_54 g6 dX7_ringers_36 (aw_iload_n dX7_ringers_37 rfl (aw_istore_n dX7_ringers_38 (Nat.le_of_ble_eq_true rfl) ?_)))))))
      exact aw_dk (ct_X7_ringers_39 hE hN F ih F _ _ _ _ hf) (And.intro rfl (And.intro rfl (And.intro rfl (And.intro rfl trivial))))
def f_X7_ringers (F : Nat)  (h : HP) : Option (Int32 × HP) :=
  f_X7_ringers_13 F F ((jshl 1 (h 40 0)) - 1) 1 h
set_option maxHeartbeats 4000000 in
set_option maxRecDepth 100000 in
theorem ct_X7_ringers {E : EV} (hE : EI E) (hN : 56 ≤ eN E) (F : Nat) {tw : TW}  {h : HP} {v : Int32} {h' : HP} (hf : f_X7_ringers F  h = some (v, h')) : CT E mX7_ringers tw h [.ref 39] (some (.int v)) tw h' := by
  refine CT.of hE (show plainFor yX7_ringers = true by decide +kernel) (Nat.le_of_ble_eq_true rfl) 4 ?_
  show AW E mX7_ringers (KM E mX7_ringers (some (.int v)) tw h') tw h 0 [some (.ref 39), none, none, none, none] []
  unfold f_X7_ringers at hf
  refine aw_iconst (1 : Int32) dX7_ringers_0 ki_1 (aw_aload_n dX7_ringers_1 rfl (aw_getr fkX7_7 (nl hN rfl) kd_39 (Nat.le_of_ble_eq_true rfl) rfl dX7_ringers_2 (aw_iconst (0 : Int32) dX7_ringers_5 ki_0 (aw_ialdk (j := 0) cx_0 (nl hN rfl) kd_40 ib_0_19 dX7_ringers_6 (aw_ishl dX7_ringers_7 (aw_iconst (1 : Int32) dX7_ringers_8 ki_1 (aw_isub dX7_ringers_9 (aw_istore_n dX7_ringers_10 (Nat.le_of_ble_eq_true rfl) (aw_iconst (1 : Int32) dX7_ringers_11 ki_1 (aw_istore_n dX7_ringers_12 (Nat.le_of_ble_eq_true rfl) ?_))))))))))
  exact aw_dk (ct_X7_ringers_13 hE hN F F _ _ _ hf) (And.intro rfl (And.intro rfl (And.intro rfl trivial)))
def f_X7_hear (F : Nat) (x1 : Int32) (h : HP) : Option (Int32 × HP) :=
  ob (f_X7_isSet F x1 h) (fun v3 h1 =>
  if v3 = 0 then
    some ((-1), h1)
  else
    if (h1 39 13) = 8 then
      some ((-3), h1)
    else
      if inb (h1 39 13) 8 then
        some ((up (up h1 48 (ix (h1 39 13)) x1) 39 13 (((up h1 48 (ix (h1 39 13)) x1) 39 13) + 1)) 39 13, up (up h1 48 (ix (h1 39 13)) x1) 39 13 (((up h1 48 (ix (h1 39 13)) x1) 39 13) + 1))
      else none)
set_option maxHeartbeats 4000000 in
set_option maxRecDepth 100000 in
theorem ct_X7_hear {E : EV} (hE : EI E) (hN : 56 ≤ eN E) (F : Nat) {tw : TW} {x1 : Int32} {h : HP} {v : Int32} {h' : HP} (hf : f_X7_hear F x1 h = some (v, h')) : CT E mX7_hear tw h [.ref 39, .int x1] (some (.int v)) tw h' := by
  refine CT.of hE (show plainFor yX7_hear = true by decide +kernel) (Nat.le_of_ble_eq_true rfl) 0 ?_
  show AW E mX7_hear (KM E mX7_hear (some (.int v)) tw h') tw h 0 [some (.ref 39), some (.int x1)] []
  unfold f_X7_hear at hf
  refine aw_aload_n dX7_hear_0 rfl (aw_iload_n dX7_hear_1 rfl ?_)
  obtain ⟨v3, h1, c2, hf⟩ := ob_some hf
  refine aw_callVi (N := mX7_isSet) (As := [.int x1]) lkX7_200 okX7_isSet (nl hN rfl) kd_39 rfl (by rfl) (by rfl) (Nat.le_of_ble_eq_true rfl) ry_X7_hear_X7_isSet dX7_hear_2 (And.intro (Nat.le_refl _) (Nat.le_refl _)) (ct_X7_isSet hE hN F c2) ?_
  refine aw_if_ne 10 dX7_hear_5 rfl (fun g4 => ?_) (fun g4 => ?_)
  · replace hf := (if_neg g4).symm.trans hf
    refine aw_aload_n dX7_hear_10 rfl (aw_geti fkX7_140 (nl hN rfl) kd_39 (Nat.le_of_ble_eq_true rfl) rfl dX7_hear_11 (aw_bipush (8 : Int32) dX7_hear_14 kb_8 ?_))
    refine aw_icmp_ne 22 dX7_hear_16 rfl (fun g5 => ?_) (fun g5 => ?_)
    · replace hf := (if_neg g5).symm.trans hf
      refine aw_aload_n dX7_hear_22 rfl (aw_getr fkX7_34 (nl hN rfl) kd_39 (Nat.le_of_ble_eq_true rfl) rfl dX7_hear_23 (aw_aload_n dX7_hear_26 rfl (aw_geti fkX7_140 (nl hN rfl) kd_39 (Nat.le_of_ble_eq_true rfl) rfl dX7_hear_27 (aw_iload_n dX7_hear_30 rfl ?_))))
      obtain ⟨g6, hf⟩ := ogd hf
      cases hf
      exact aw_iast (nl hN rfl) kd_48 g6 dX7_hear_31 (aw_aload_n dX7_hear_32 rfl (aw_dup dX7_hear_33 rfl (aw_geti fkX7_140 (nl hN rfl) kd_39 (Nat.le_of_ble_eq_true rfl) rfl dX7_hear_34 (aw_iconst (1 : Int32) dX7_hear_37 ki_1 (aw_iadd dX7_hear_38 (aw_puti fkX7_140 fw_7_13 (nl hN rfl) kd_39 (Nat.le_of_ble_eq_true rfl) rfl dX7_hear_39 (aw_aload_n dX7_hear_42 rfl (aw_geti fkX7_140 (nl hN rfl) kd_39 (Nat.le_of_ble_eq_true rfl) rfl dX7_hear_43 (aw_iret rfl dX7_hear_46)))))))))
    · replace hf := (if_pos g5).symm.trans hf
      cases hf
      exact aw_bipush ((-3) : Int32) dX7_hear_19 kb_m3 (aw_iret rfl dX7_hear_21)
  · replace hf := (if_pos g4).symm.trans hf
    cases hf
    exact aw_iconst ((-1) : Int32) dX7_hear_8 ki_m1 (aw_iret rfl dX7_hear_9)
def f_X7_forget (F : Nat)  (h : HP) : Option (Int32 × HP) :=
  some (h 39 13, up h 39 13 0)
set_option maxHeartbeats 4000000 in
set_option maxRecDepth 100000 in
theorem ct_X7_forget {E : EV} (hE : EI E) (hN : 56 ≤ eN E) (F : Nat) {tw : TW}  {h : HP} {v : Int32} {h' : HP} (hf : f_X7_forget F  h = some (v, h')) : CT E mX7_forget tw h [.ref 39] (some (.int v)) tw h' := by
  refine CT.of hE (show plainFor yX7_forget = true by decide +kernel) (Nat.le_of_ble_eq_true rfl) 1 ?_
  show AW E mX7_forget (KM E mX7_forget (some (.int v)) tw h') tw h 0 [some (.ref 39), none] []
  unfold f_X7_forget at hf
  cases hf
  exact aw_aload_n dX7_forget_0 rfl (aw_geti fkX7_140 (nl hN rfl) kd_39 (Nat.le_of_ble_eq_true rfl) rfl dX7_forget_1 (aw_istore_n dX7_forget_4 (Nat.le_of_ble_eq_true rfl) (aw_aload_n dX7_forget_5 rfl (aw_iconst (0 : Int32) dX7_forget_6 ki_0 (aw_puti fkX7_140 fw_7_13 (nl hN rfl) kd_39 (Nat.le_of_ble_eq_true rfl) rfl dX7_forget_7 (aw_iload_n dX7_forget_10 rfl (aw_iret rfl dX7_forget_11)))))))
def f_X7_stood_19 (F : Nat)  (k_4 : Int32 → Int32 → HP → Option (Int32 × HP)) : Nat → Int32 → Int32 → Int32 → Int32 → HP → Option (Int32 × HP)
  | 0, _, _, _, _, _ => none
  | n + 1, x1, x2, x3, x4, h =>
    if (h 39 13) ≤ x4 then
      k_4 (x1 ||| (if x3 = 0 then 0 else jshl 1 x2)) (x2 + 1) h
    else
      if x3 = 0 then
        f_X7_stood_19 F k_4 n x1 x2 0 (x4 + 1) h
      else
        if (h 40 1) ≠ 0 then
          if inb (2 + (jrem (x2 + x4) (h 40 1))) 66 then
            if inb x4 8 then
              f_X7_stood_19 F k_4 n x1 x2 (if (h 43 (ix (2 + (jrem (x2 + x4) (h 40 1))))) = (h 48 (ix x4)) then 1 else 0) (x4 + 1) h
            else none
          else none
        else none
set_option maxHeartbeats 4000000 in
set_option maxRecDepth 100000 in
theorem ct_X7_stood_19 {E : EV} (hE : EI E) (hN : 56 ≤ eN E) (F : Nat) {tw : TW}  {v : Int32} {h' : HP} {k_4 : Int32 → Int32 → HP → Option (Int32 × HP)} (hk_4 : ∀ (x1 : Int32) (x2 : Int32) (h : HP), k_4 x1 x2 h = some (v, h') → AW E mX7_stood (KM E mX7_stood (some (.int v)) tw h') tw h 4 [some (.ref 39), some (.int x1), some (.int x2), none, none] []) : ∀ (n : Nat) (x1 : Int32) (x2 : Int32) (x3 : Int32) (x4 : Int32) (h : HP), f_X7_stood_19 F k_4 n x1 x2 x3 x4 h = some (v, h') → AW E mX7_stood (KM E mX7_stood (some (.int v)) tw h') tw h 19 [some (.ref 39), some (.int x1), some (.int x2), some (.int x3), some (.int x4)] [] := by
  intro n
  induction n with
  | zero => intro x1 x2 x3 x4 h hf; exact absurd (show (none : Option (Int32 × HP)) = some _ from hf) (fun z => nomatch z)
  | succ n ih =>
    intro x1 x2 x3 x4 h hf
    rw [f_X7_stood_19] at hf
    refine aw_iload dX7_stood_19 rfl (aw_aload_n dX7_stood_21 rfl (aw_geti fkX7_140 (nl hN rfl) kd_39 (Nat.le_of_ble_eq_true rfl) rfl dX7_stood_22 ?_))
    refine aw_icmp_ge 72 dX7_stood_25 rfl (fun g2 => ?_) (fun g2 => ?_)
    · replace hf := (if_pos g2).symm.trans hf
      have key7 : AW E mX7_stood (KM E mX7_stood (some (.int v)) tw h') tw h 84 [some (.ref 39), some (.int x1), some (.int x2), some (.int x3), some (.int x4)] [.int (if x3 = 0 then 0 else jshl 1 x2), .int x1] := by
        refine aw_ior dX7_stood_84 (aw_istore_n dX7_stood_85 (Nat.le_of_ble_eq_true rfl) (aw_iinc (1 : Int32) dX7_stood_86 rfl (Nat.le_of_ble_eq_true rfl) ki_1 (aw_goto 4 dX7_stood_89 rfl ?_)))
        exact aw_dk (hk_4 _ _ _ hf) (And.intro rfl (And.intro rfl (And.intro rfl trivial)))
      refine aw_iload_n dX7_stood_72 rfl (aw_iload_n dX7_stood_73 rfl ?_)
      refine aw_if_eq 83 dX7_stood_74 rfl (fun g8 => ?_) (fun g8 => ?_)
      · skip
        refine aw_iconst (0 : Int32) dX7_stood_83 ki_0 ?_
        simp only [if_pos g8] at key7 ⊢
        exact aw_dk key7 (And.intro rfl (And.intro rfl (And.intro rfl (And.intro rfl (And.intro rfl trivial)))))
      · skip
        refine aw_iconst (1 : Int32) dX7_stood_77 ki_1 (aw_iload_n dX7_stood_78 rfl (aw_ishl dX7_stood_79 (aw_goto 84 dX7_stood_80 rfl ?_)))
        simp only [if_neg g8] at key7 ⊢
        exact aw_dk key7 (And.intro rfl (And.intro rfl (And.intro rfl (And.intro rfl (And.intro rfl trivial)))))
    · replace hf := (if_neg g2).symm.trans hf
      refine aw_iload_n dX7_stood_28 rfl ?_
      refine aw_if_eq 64 dX7_stood_29 rfl (fun g3 => ?_) (fun g3 => ?_)
      · replace hf := (if_pos g3).symm.trans hf
        refine aw_iconst (0 : Int32) dX7_stood_64 ki_0 (aw_istore_n dX7_stood_65 (Nat.le_of_ble_eq_true rfl) (aw_iinc (1 : Int32) dX7_stood_66 rfl (Nat.le_of_ble_eq_true rfl) ki_1 (aw_goto 19 dX7_stood_69 rfl ?_)))
        exact aw_dk (ih _ _ _ _ _ hf) (And.intro rfl (And.intro rfl (And.intro rfl (And.intro rfl (And.intro rfl trivial)))))
      · replace hf := (if_neg g3).symm.trans hf
        refine aw_aload_n dX7_stood_32 rfl (aw_getr fkX7_19 (nl hN rfl) kd_39 (Nat.le_of_ble_eq_true rfl) rfl dX7_stood_33 (aw_iconst (2 : Int32) dX7_stood_36 ki_2 (aw_iload_n dX7_stood_37 rfl (aw_iload dX7_stood_38 rfl (aw_iadd dX7_stood_40 (aw_aload_n dX7_stood_41 rfl (aw_getr fkX7_7 (nl hN rfl) kd_39 (Nat.le_of_ble_eq_true rfl) rfl dX7_stood_42 (aw_iconst (1 : Int32) dX7_stood_45 ki_1 (aw_ialdk (j := 1) cx_1 (nl hN rfl) kd_40 ib_1_19 dX7_stood_46 ?_)))))))))
        obtain ⟨g4, hf⟩ := ogd hf
        refine aw_irem g4 dX7_stood_47 (aw_iadd dX7_stood_48 ?_)
        obtain ⟨g5, hf⟩ := ogd hf
        refine aw_iald (nl hN rfl) kd_43 g5 dX7_stood_49 (aw_aload_n dX7_stood_50 rfl (aw_getr fkX7_34 (nl hN rfl) kd_39 (Nat.le_of_ble_eq_true rfl) rfl dX7_stood_51 (aw_iload dX7_stood_54 rfl ?_)))
        obtain ⟨g6, hf⟩ := ogd hf
        have key9 : AW E mX7_stood (KM E mX7_stood (some (.int v)) tw h') tw h 65 [some (.ref 39), some (.int x1), some (.int x2), some (.int x3), some (.int x4)] [.int (if (h 43 (ix (2 + (jrem (x2 + x4) (h 40 1))))) = (h 48 (ix x4)) then 1 else 0)] := by
          refine aw_istore_n dX7_stood_65 (Nat.le_of_ble_eq_true rfl) (aw_iinc (1 : Int32) dX7_stood_66 rfl (Nat.le_of_ble_eq_true rfl) ki_1 (aw_goto 19 dX7_stood_69 rfl ?_))
          exact aw_dk (ih _ _ _ _ _ hf) (And.intro rfl (And.intro rfl (And.intro rfl (And.intro rfl (And.intro rfl trivial)))))
        refine aw_iald (nl hN rfl) kd_48 g6 dX7_stood_56 ?_
        refine aw_icmp_ne 64 dX7_stood_57 rfl (fun g10 => ?_) (fun g10 => ?_)
        · skip
          refine aw_iconst (0 : Int32) dX7_stood_64 ki_0 ?_
          simp only [if_neg g10] at key9 ⊢
          exact aw_dk key9 (And.intro rfl (And.intro rfl (And.intro rfl (And.intro rfl (And.intro rfl trivial)))))
        · skip
          refine aw_iconst (1 : Int32) dX7_stood_60 ki_1 (aw_goto 65 dX7_stood_61 rfl ?_)
          simp only [if_pos g10] at key9 ⊢
          exact aw_dk key9 (And.intro rfl (And.intro rfl (And.intro rfl (And.intro rfl (And.intro rfl trivial)))))
def f_X7_stood_4 (F : Nat)  : Nat → Int32 → Int32 → HP → Option (Int32 × HP)
  | 0, _, _, _ => none
  | n + 1, x1, x2, h =>
    if (h 40 1) ≤ x2 then
      some (x1, h)
    else
      f_X7_stood_19 F (f_X7_stood_4 F n) F x1 x2 1 0 h
set_option maxHeartbeats 4000000 in
set_option maxRecDepth 100000 in
theorem ct_X7_stood_4 {E : EV} (hE : EI E) (hN : 56 ≤ eN E) (F : Nat) {tw : TW}  {v : Int32} {h' : HP} : ∀ (n : Nat) (x1 : Int32) (x2 : Int32) (h : HP), f_X7_stood_4 F n x1 x2 h = some (v, h') → AW E mX7_stood (KM E mX7_stood (some (.int v)) tw h') tw h 4 [some (.ref 39), some (.int x1), some (.int x2), none, none] [] := by
  intro n
  induction n with
  | zero => intro x1 x2 h hf; exact absurd (show (none : Option (Int32 × HP)) = some _ from hf) (fun z => nomatch z)
  | succ n ih =>
    intro x1 x2 h hf
    rw [f_X7_stood_4] at hf
    refine aw_iload_n dX7_stood_4 rfl (aw_aload_n dX7_stood_5 rfl (aw_getr fkX7_7 (nl hN rfl) kd_39 (Nat.le_of_ble_eq_true rfl) rfl dX7_stood_6 (aw_iconst (1 : Int32) dX7_stood_9 ki_1 (aw_ialdk (j := 1) cx_1 (nl hN rfl) kd_40 ib_1_19 dX7_stood_10 ?_))))
    refine aw_icmp_ge 92 dX7_stood_11 rfl (fun g1 => ?_) (fun g1 => ?_)
    · replace hf := (if_pos g1).symm.trans hf
      cases hf
      exact aw_iload_n dX7_stood_92 rfl (aw_iret rfl dX7_stood_93)
    · replace hf := (if_neg g1).symm.trans hf
      refine aw_iconst (1 : Int32) dX7_stood_14 ki_1 (aw_istore_n dX7_stood_15 (Nat.le_of_ble_eq_true rfl) (aw_iconst (0 : Int32) dX7_stood_16 ki_0 (aw_istore dX7_stood_17 (Nat.le_of_ble_eq_true rfl) ?_)))
      exact aw_dk (ct_X7_stood_19 hE hN F ih F _ _ _ _ _ hf) (And.intro rfl (And.intro rfl (And.intro rfl (And.intro rfl (And.intro rfl trivial)))))
def f_X7_stood (F : Nat)  (h : HP) : Option (Int32 × HP) :=
  f_X7_stood_4 F F 0 0 h
set_option maxHeartbeats 4000000 in
set_option maxRecDepth 100000 in
theorem ct_X7_stood {E : EV} (hE : EI E) (hN : 56 ≤ eN E) (F : Nat) {tw : TW}  {h : HP} {v : Int32} {h' : HP} (hf : f_X7_stood F  h = some (v, h')) : CT E mX7_stood tw h [.ref 39] (some (.int v)) tw h' := by
  refine CT.of hE (show plainFor yX7_stood = true by decide +kernel) (Nat.le_of_ble_eq_true rfl) 4 ?_
  show AW E mX7_stood (KM E mX7_stood (some (.int v)) tw h') tw h 0 [some (.ref 39), none, none, none, none] []
  unfold f_X7_stood at hf
  refine aw_iconst (0 : Int32) dX7_stood_0 ki_0 (aw_istore_n dX7_stood_1 (Nat.le_of_ble_eq_true rfl) (aw_iconst (0 : Int32) dX7_stood_2 ki_0 (aw_istore_n dX7_stood_3 (Nat.le_of_ble_eq_true rfl) ?_)))
  exact aw_dk (ct_X7_stood_4 hE hN F F _ _ _ hf) (And.intro rfl (And.intro rfl (And.intro rfl trivial)))
def f_X7_octaves_15 (F : Nat)  (k_4 : Int32 → Int32 → HP → Option (Int32 × HP)) : Nat → Int32 → Int32 → Int32 → Int32 → HP → Option (Int32 × HP)
  | 0, _, _, _, _, _ => none
  | n + 1, x1, x2, x3, x4, h =>
    if (h 40 0) ≤ x4 then
      k_4 (x1 + (if x3 ≤ 1 then 0 else 1)) (x2 + 1) h
    else
      if inb (3 + x4) 19 then
        f_X7_octaves_15 F k_4 n x1 x2 (x3 + (if (jrem (h 40 (ix (3 + x4))) 12) = x2 then 1 else 0)) (x4 + 1) h
      else none
set_option maxHeartbeats 4000000 in
set_option maxRecDepth 100000 in
theorem ct_X7_octaves_15 {E : EV} (hE : EI E) (hN : 56 ≤ eN E) (F : Nat) {tw : TW}  {v : Int32} {h' : HP} {k_4 : Int32 → Int32 → HP → Option (Int32 × HP)} (hk_4 : ∀ (x1 : Int32) (x2 : Int32) (h : HP), k_4 x1 x2 h = some (v, h') → AW E mX7_octaves (KM E mX7_octaves (some (.int v)) tw h') tw h 4 [some (.ref 39), some (.int x1), some (.int x2), none, none] []) : ∀ (n : Nat) (x1 : Int32) (x2 : Int32) (x3 : Int32) (x4 : Int32) (h : HP), f_X7_octaves_15 F k_4 n x1 x2 x3 x4 h = some (v, h') → AW E mX7_octaves (KM E mX7_octaves (some (.int v)) tw h') tw h 15 [some (.ref 39), some (.int x1), some (.int x2), some (.int x3), some (.int x4)] [] := by
  intro n
  induction n with
  | zero => intro x1 x2 x3 x4 h hf; exact absurd (show (none : Option (Int32 × HP)) = some _ from hf) (fun z => nomatch z)
  | succ n ih =>
    intro x1 x2 x3 x4 h hf
    rw [f_X7_octaves_15] at hf
    refine aw_iload dX7_octaves_15 rfl (aw_aload_n dX7_octaves_17 rfl (aw_getr fkX7_7 (nl hN rfl) kd_39 (Nat.le_of_ble_eq_true rfl) rfl dX7_octaves_18 (aw_iconst (0 : Int32) dX7_octaves_21 ki_0 (aw_ialdk (j := 0) cx_0 (nl hN rfl) kd_40 ib_0_19 dX7_octaves_22 ?_))))
    refine aw_icmp_ge 56 dX7_octaves_23 rfl (fun g2 => ?_) (fun g2 => ?_)
    · replace hf := (if_pos g2).symm.trans hf
      have key4 : AW E mX7_octaves (KM E mX7_octaves (some (.int v)) tw h') tw h 67 [some (.ref 39), some (.int x1), some (.int x2), some (.int x3), some (.int x4)] [.int (if x3 ≤ 1 then 0 else 1), .int x1] := by
        refine aw_iadd dX7_octaves_67 (aw_istore_n dX7_octaves_68 (Nat.le_of_ble_eq_true rfl) (aw_iinc (1 : Int32) dX7_octaves_69 rfl (Nat.le_of_ble_eq_true rfl) ki_1 (aw_goto 4 dX7_octaves_72 rfl ?_)))
        exact aw_dk (hk_4 _ _ _ hf) (And.intro rfl (And.intro rfl (And.intro rfl trivial)))
      refine aw_iload_n dX7_octaves_56 rfl (aw_iload_n dX7_octaves_57 rfl (aw_iconst (1 : Int32) dX7_octaves_58 ki_1 ?_))
      refine aw_icmp_le 66 dX7_octaves_59 rfl (fun g5 => ?_) (fun g5 => ?_)
      · skip
        refine aw_iconst (0 : Int32) dX7_octaves_66 ki_0 ?_
        simp only [if_pos g5] at key4 ⊢
        exact aw_dk key4 (And.intro rfl (And.intro rfl (And.intro rfl (And.intro rfl (And.intro rfl trivial)))))
      · skip
        refine aw_iconst (1 : Int32) dX7_octaves_62 ki_1 (aw_goto 67 dX7_octaves_63 rfl ?_)
        simp only [if_neg g5] at key4 ⊢
        exact aw_dk key4 (And.intro rfl (And.intro rfl (And.intro rfl (And.intro rfl (And.intro rfl trivial)))))
    · replace hf := (if_neg g2).symm.trans hf
      refine aw_iload_n dX7_octaves_26 rfl (aw_aload_n dX7_octaves_27 rfl (aw_getr fkX7_7 (nl hN rfl) kd_39 (Nat.le_of_ble_eq_true rfl) rfl dX7_octaves_28 (aw_iconst (3 : Int32) dX7_octaves_31 ki_3 (aw_iload dX7_octaves_32 rfl (aw_iadd dX7_octaves_34 ?_)))))
      obtain ⟨g3, hf⟩ := ogd hf
      have key6 : AW E mX7_octaves (KM E mX7_octaves (some (.int v)) tw h') tw h 48 [some (.ref 39), some (.int x1), some (.int x2), some (.int x3), some (.int x4)] [.int (if (jrem (h 40 (ix (3 + x4))) 12) = x2 then 1 else 0), .int x3] := by
        refine aw_iadd dX7_octaves_48 (aw_istore_n dX7_octaves_49 (Nat.le_of_ble_eq_true rfl) (aw_iinc (1 : Int32) dX7_octaves_50 rfl (Nat.le_of_ble_eq_true rfl) ki_1 (aw_goto 15 dX7_octaves_53 rfl ?_)))
        exact aw_dk (ih _ _ _ _ _ hf) (And.intro rfl (And.intro rfl (And.intro rfl (And.intro rfl (And.intro rfl trivial)))))
      refine aw_iald (nl hN rfl) kd_40 g3 dX7_octaves_35 (aw_bipush (12 : Int32) dX7_octaves_36 kb_12 (aw_irem (by decide) dX7_octaves_38 (aw_iload_n dX7_octaves_39 rfl ?_)))
      refine aw_icmp_ne 47 dX7_octaves_40 rfl (fun g7 => ?_) (fun g7 => ?_)
      · skip
        refine aw_iconst (0 : Int32) dX7_octaves_47 ki_0 ?_
        simp only [if_neg g7] at key6 ⊢
        exact aw_dk key6 (And.intro rfl (And.intro rfl (And.intro rfl (And.intro rfl (And.intro rfl trivial)))))
      · skip
        refine aw_iconst (1 : Int32) dX7_octaves_43 ki_1 (aw_goto 48 dX7_octaves_44 rfl ?_)
        simp only [if_pos g7] at key6 ⊢
        exact aw_dk key6 (And.intro rfl (And.intro rfl (And.intro rfl (And.intro rfl (And.intro rfl trivial)))))
def f_X7_octaves_4 (F : Nat)  : Nat → Int32 → Int32 → HP → Option (Int32 × HP)
  | 0, _, _, _ => none
  | n + 1, x1, x2, h =>
    if 12 ≤ x2 then
      some (x1, h)
    else
      f_X7_octaves_15 F (f_X7_octaves_4 F n) F x1 x2 0 0 h
set_option maxHeartbeats 4000000 in
set_option maxRecDepth 100000 in
theorem ct_X7_octaves_4 {E : EV} (hE : EI E) (hN : 56 ≤ eN E) (F : Nat) {tw : TW}  {v : Int32} {h' : HP} : ∀ (n : Nat) (x1 : Int32) (x2 : Int32) (h : HP), f_X7_octaves_4 F n x1 x2 h = some (v, h') → AW E mX7_octaves (KM E mX7_octaves (some (.int v)) tw h') tw h 4 [some (.ref 39), some (.int x1), some (.int x2), none, none] [] := by
  intro n
  induction n with
  | zero => intro x1 x2 h hf; exact absurd (show (none : Option (Int32 × HP)) = some _ from hf) (fun z => nomatch z)
  | succ n ih =>
    intro x1 x2 h hf
    rw [f_X7_octaves_4] at hf
    refine aw_iload_n dX7_octaves_4 rfl (aw_bipush (12 : Int32) dX7_octaves_5 kb_12 ?_)
    refine aw_icmp_ge 75 dX7_octaves_7 rfl (fun g1 => ?_) (fun g1 => ?_)
    · replace hf := (if_pos g1).symm.trans hf
      cases hf
      exact aw_iload_n dX7_octaves_75 rfl (aw_iret rfl dX7_octaves_76)
    · replace hf := (if_neg g1).symm.trans hf
      refine aw_iconst (0 : Int32) dX7_octaves_10 ki_0 (aw_istore_n dX7_octaves_11 (Nat.le_of_ble_eq_true rfl) (aw_iconst (0 : Int32) dX7_octaves_12 ki_0 (aw_istore dX7_octaves_13 (Nat.le_of_ble_eq_true rfl) ?_)))
      exact aw_dk (ct_X7_octaves_15 hE hN F ih F _ _ _ _ _ hf) (And.intro rfl (And.intro rfl (And.intro rfl (And.intro rfl (And.intro rfl trivial)))))
def f_X7_octaves (F : Nat)  (h : HP) : Option (Int32 × HP) :=
  f_X7_octaves_4 F F 0 0 h
set_option maxHeartbeats 4000000 in
set_option maxRecDepth 100000 in
theorem ct_X7_octaves {E : EV} (hE : EI E) (hN : 56 ≤ eN E) (F : Nat) {tw : TW}  {h : HP} {v : Int32} {h' : HP} (hf : f_X7_octaves F  h = some (v, h')) : CT E mX7_octaves tw h [.ref 39] (some (.int v)) tw h' := by
  refine CT.of hE (show plainFor yX7_octaves = true by decide +kernel) (Nat.le_of_ble_eq_true rfl) 4 ?_
  show AW E mX7_octaves (KM E mX7_octaves (some (.int v)) tw h') tw h 0 [some (.ref 39), none, none, none, none] []
  unfold f_X7_octaves at hf
  refine aw_iconst (0 : Int32) dX7_octaves_0 ki_0 (aw_istore_n dX7_octaves_1 (Nat.le_of_ble_eq_true rfl) (aw_iconst (0 : Int32) dX7_octaves_2 ki_0 (aw_istore_n dX7_octaves_3 (Nat.le_of_ble_eq_true rfl) ?_)))
  exact aw_dk (ct_X7_octaves_4 hE hN F F _ _ _ hf) (And.intro rfl (And.intro rfl (And.intro rfl trivial)))
