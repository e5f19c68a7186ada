def f_X7_melody_44 (F : Nat) (x1 : Int32) (k_27 : Int32 → Int32 → Int32 → Int32 → Int32 → HP → Option (Int32 × HP)) : Nat → Int32 → Int32 → Int32 → Int32 → Int32 → Int32 → Int32 → HP → Option (Int32 × HP)
  | 0, _, _, _, _, _, _, _, _ => none
  | n + 1, x2, x3, x4, x5, x6, x7, x8, h =>
    if (h 40 0) ≤ x8 then
      if x7 < 0 then
        k_27 x2 x3 x4 x5 (x6 + 1) h
      else
        k_27 (x2 + (if (if 0 ≤ x5 then x7 - x5 else 0) ≤ 0 then 0 else 1)) (x3 + (if 0 ≤ (if 0 ≤ x5 then x7 - x5 else 0) then 0 else 1)) (if (if 0 ≤ (if 0 ≤ x5 then x7 - x5 else 0) then (if 0 ≤ x5 then x7 - x5 else 0) else -(if 0 ≤ x5 then x7 - x5 else 0)) ≤ x4 then x4 else (if 0 ≤ (if 0 ≤ x5 then x7 - x5 else 0) then (if 0 ≤ x5 then x7 - x5 else 0) else -(if 0 ≤ x5 then x7 - x5 else 0))) x7 (x6 + 1) h
    else
      if inb (2 + x6) 66 then
        ob (f_X7_has F (h 43 (ix (2 + x6))) x8 h) (fun v13 h11 =>
        if v13 = 0 then
          f_X7_melody_44 F x1 k_27 n x2 x3 x4 x5 x6 x7 (x8 + 1) h11
        else
          if inb (3 + x8) 19 then
            f_X7_melody_44 F x1 k_27 n x2 x3 x4 x5 x6 (if (h11 40 (ix (3 + x8))) ≤ x7 then x7 else h11 40 (ix (3 + x8))) (x8 + 1) h11
          else none)
      else none
set_option maxHeartbeats 4000000 in
set_option maxRecDepth 100000 in
theorem ct_X7_melody_44 {E : EV} (hE : EI E) (hN : 56 ≤ eN E) (F : Nat) {tw : TW} {x1 : Int32} {v : Int32} {h' : HP} {k_27 : Int32 → Int32 → Int32 → Int32 → Int32 → HP → Option (Int32 × HP)} (hk_27 : ∀ (x2 : Int32) (x3 : Int32) (x4 : Int32) (x5 : Int32) (x6 : Int32) (h : HP), k_27 x2 x3 x4 x5 x6 h = some (v, h') → AW E mX7_melody (KM E mX7_melody (some (.int v)) tw h') tw h 27 [some (.ref 39), some (.int x1), some (.int x2), some (.int x3), some (.int x4), some (.int x5), some (.int x6), none, none, none] []) : ∀ (n : Nat) (x2 : Int32) (x3 : Int32) (x4 : Int32) (x5 : Int32) (x6 : Int32) (x7 : Int32) (x8 : Int32) (h : HP), f_X7_melody_44 F x1 k_27 n x2 x3 x4 x5 x6 x7 x8 h = some (v, h') → AW E mX7_melody (KM E mX7_melody (some (.int v)) tw h') tw h 44 [some (.ref 39), some (.int x1), some (.int x2), some (.int x3), some (.int x4), some (.int x5), some (.int x6), some (.int x7), some (.int x8), none] [] := by
  intro n
  induction n with
  | zero => intro x2 x3 x4 x5 x6 x7 x8 h hf; exact absurd (show (none : Option (Int32 × HP)) = some _ from hf) (fun z => nomatch z)
  | succ n ih =>
    intro x2 x3 x4 x5 x6 x7 x8 h hf
    rw [f_X7_melody_44] at hf
    refine aw_iload dX7_melody_44 rfl (aw_aload_n dX7_melody_46 rfl (aw_getr fkX7_7 (nl hN rfl) kd_39 (Nat.le_of_ble_eq_true rfl) rfl dX7_melody_47 (aw_iconst (0 : Int32) dX7_melody_50 ki_0 (aw_ialdk (j := 0) cx_0 (nl hN rfl) kd_40 ib_0_19 dX7_melody_51 ?_))))
    refine aw_icmp_ge 108 dX7_melody_52 rfl (fun g8 => ?_) (fun g8 => ?_)
    · replace hf := (if_pos g8).symm.trans hf
      refine aw_iload dX7_melody_108 rfl ?_
      refine aw_if_lt 190 dX7_melody_110 rfl (fun g9 => ?_) (fun g9 => ?_)
      · replace hf := (if_pos g9).symm.trans hf
        refine aw_iinc (1 : Int32) dX7_melody_190 rfl (Nat.le_of_ble_eq_true rfl) ki_1 (aw_goto 27 dX7_melody_193 rfl ?_)
        exact aw_dk (hk_27 _ _ _ _ _ _ hf) (And.intro rfl (And.intro rfl (And.intro rfl (And.intro rfl (And.intro rfl (And.intro rfl (And.intro rfl trivial)))))))
      · replace hf := (if_neg g9).symm.trans hf
        have key16 : AW E mX7_melody (KM E mX7_melody (some (.int v)) tw h') tw h 127 [some (.ref 39), some (.int x1), some (.int x2), some (.int x3), some (.int x4), some (.int x5), some (.int x6), some (.int x7), some (.int x8), none] [.int (if 0 ≤ x5 then x7 - x5 else 0)] := by
          have key17 : AW E mX7_melody (KM E mX7_melody (some (.int v)) tw h') tw h 140 [some (.ref 39), some (.int x1), some (.int x2), some (.int x3), some (.int x4), some (.int x5), some (.int x6), some (.int x7), some (.int (if 0 ≤ x5 then x7 - x5 else 0)), none] [.int (if (if 0 ≤ x5 then x7 - x5 else 0) ≤ 0 then 0 else 1), .int x2] := by
            have key18 : AW E mX7_melody (KM E mX7_melody (some (.int v)) tw h') tw h 153 [some (.ref 39), some (.int x1), some (.int (x2 + (if (if 0 ≤ x5 then x7 - x5 else 0) ≤ 0 then 0 else 1))), some (.int x3), some (.int x4), some (.int x5), some (.int x6), some (.int x7), some (.int (if 0 ≤ x5 then x7 - x5 else 0)), none] [.int (if 0 ≤ (if 0 ≤ x5 then x7 - x5 else 0) then 0 else 1), .int x3] := by
              have key19 : AW E mX7_melody (KM E mX7_melody (some (.int v)) tw h') tw h 168 [some (.ref 39), some (.int x1), some (.int (x2 + (if (if 0 ≤ x5 then x7 - x5 else 0) ≤ 0 then 0 else 1))), some (.int (x3 + (if 0 ≤ (if 0 ≤ x5 then x7 - x5 else 0) then 0 else 1))), some (.int x4), some (.int x5), some (.int x6), some (.int x7), some (.int (if 0 ≤ x5 then x7 - x5 else 0)), none] [.int (if 0 ≤ (if 0 ≤ x5 then x7 - x5 else 0) then (if 0 ≤ x5 then x7 - x5 else 0) else -(if 0 ≤ x5 then x7 - x5 else 0))] := by
                have key20 : AW E mX7_melody (KM E mX7_melody (some (.int v)) tw h') tw h 184 [some (.ref 39), some (.int x1), some (.int (x2 + (if (if 0 ≤ x5 then x7 - x5 else 0) ≤ 0 then 0 else 1))), some (.int (x3 + (if 0 ≤ (if 0 ≤ x5 then x7 - x5 else 0) then 0 else 1))), some (.int x4), some (.int x5), some (.int x6), some (.int x7), some (.int (if 0 ≤ x5 then x7 - x5 else 0)), some (.int (if 0 ≤ (if 0 ≤ x5 then x7 - x5 else 0) then (if 0 ≤ x5 then x7 - x5 else 0) else -(if 0 ≤ x5 then x7 - x5 else 0)))] [.int (if (if 0 ≤ (if 0 ≤ x5 then x7 - x5 else 0) then (if 0 ≤ x5 then x7 - x5 else 0) else -(if 0 ≤ x5 then x7 - x5 else 0)) ≤ x4 then x4 else (if 0 ≤ (if 0 ≤ x5 then x7 - x5 else 0) then (if 0 ≤ x5 then x7 - x5 else 0) else -(if 0 ≤ x5 then x7 - x5 else 0)))] := by
                  refine aw_istore dX7_melody_184 (Nat.le_of_ble_eq_true rfl) (aw_iload dX7_melody_186 rfl (aw_istore dX7_melody_188 (Nat.le_of_ble_eq_true rfl) (aw_iinc (1 : Int32) dX7_melody_190 rfl (Nat.le_of_ble_eq_true rfl) ki_1 (aw_goto 27 dX7_melody_193 rfl ?_))))
                  exact aw_dk (hk_27 _ _ _ _ _ _ hf) (And.intro rfl (And.intro rfl (And.intro rfl (And.intro rfl (And.intro rfl (And.intro rfl (And.intro rfl trivial)))))))
                refine aw_istore dX7_melody_168 (Nat.le_of_ble_eq_true rfl) (aw_iload dX7_melody_170 rfl (aw_iload dX7_melody_172 rfl ?_))
                refine aw_icmp_le 182 dX7_melody_174 rfl (fun g21 => ?_) (fun g21 => ?_)
                · skip
                  refine aw_iload dX7_melody_182 rfl ?_
                  simp only [if_pos g21] at key20 ⊢
                  exact aw_dk key20 (And.intro rfl (And.intro rfl (And.intro rfl (And.intro rfl (And.intro rfl (And.intro rfl (And.intro rfl (And.intro rfl (And.intro rfl (And.intro rfl trivial))))))))))
                · skip
                  refine aw_iload dX7_melody_177 rfl (aw_goto 184 dX7_melody_179 rfl ?_)
                  simp only [if_neg g21] at key20 ⊢
                  exact aw_dk key20 (And.intro rfl (And.intro rfl (And.intro rfl (And.intro rfl (And.intro rfl (And.intro rfl (And.intro rfl (And.intro rfl (And.intro rfl (And.intro rfl trivial))))))))))
              refine aw_iadd dX7_melody_153 (aw_istore_n dX7_melody_154 (Nat.le_of_ble_eq_true rfl) (aw_iload dX7_melody_155 rfl ?_))
              refine aw_if_ge 166 dX7_melody_157 rfl (fun g22 => ?_) (fun g22 => ?_)
              · skip
                refine aw_iload dX7_melody_166 rfl ?_
                simp only [if_pos g22] at key19 ⊢
                exact aw_dk key19 (And.intro rfl (And.intro rfl (And.intro rfl (And.intro rfl (And.intro rfl (And.intro rfl (And.intro rfl (And.intro rfl (And.intro rfl trivial)))))))))
              · skip
                refine aw_iload dX7_melody_160 rfl (aw_ineg dX7_melody_162 (aw_goto 168 dX7_melody_163 rfl ?_))
                simp only [if_neg g22] at key19 ⊢
                exact aw_dk key19 (And.intro rfl (And.intro rfl (And.intro rfl (And.intro rfl (And.intro rfl (And.intro rfl (And.intro rfl (And.intro rfl (And.intro rfl trivial)))))))))
            refine aw_iadd dX7_melody_140 (aw_istore_n dX7_melody_141 (Nat.le_of_ble_eq_true rfl) (aw_iload_n dX7_melody_142 rfl (aw_iload dX7_melody_143 rfl ?_)))
            refine aw_if_ge 152 dX7_melody_145 rfl (fun g23 => ?_) (fun g23 => ?_)
            · skip
              refine aw_iconst (0 : Int32) dX7_melody_152 ki_0 ?_
              simp only [if_pos g23] at key18 ⊢
              exact aw_dk key18 (And.intro rfl (And.intro rfl (And.intro rfl (And.intro rfl (And.intro rfl (And.intro rfl (And.intro rfl (And.intro rfl (And.intro rfl trivial)))))))))
            · skip
              refine aw_iconst (1 : Int32) dX7_melody_148 ki_1 (aw_goto 153 dX7_melody_149 rfl ?_)
              simp only [if_neg g23] at key18 ⊢
              exact aw_dk key18 (And.intro rfl (And.intro rfl (And.intro rfl (And.intro rfl (And.intro rfl (And.intro rfl (And.intro rfl (And.intro rfl (And.intro rfl trivial)))))))))
          refine aw_istore dX7_melody_127 (Nat.le_of_ble_eq_true rfl) (aw_iload_n dX7_melody_129 rfl (aw_iload dX7_melody_130 rfl ?_))
          refine aw_if_le 139 dX7_melody_132 rfl (fun g24 => ?_) (fun g24 => ?_)
          · skip
            refine aw_iconst (0 : Int32) dX7_melody_139 ki_0 ?_
            simp only [if_pos g24] at key17 ⊢
            exact aw_dk key17 (And.intro rfl (And.intro rfl (And.intro rfl (And.intro rfl (And.intro rfl (And.intro rfl (And.intro rfl (And.intro rfl (And.intro rfl trivial)))))))))
          · skip
            refine aw_iconst (1 : Int32) dX7_melody_135 ki_1 (aw_goto 140 dX7_melody_136 rfl ?_)
            simp only [if_neg g24] at key17 ⊢
            exact aw_dk key17 (And.intro rfl (And.intro rfl (And.intro rfl (And.intro rfl (And.intro rfl (And.intro rfl (And.intro rfl (And.intro rfl (And.intro rfl trivial)))))))))
        refine aw_iload dX7_melody_113 rfl ?_
        refine aw_if_ge 122 dX7_melody_115 rfl (fun g25 => ?_) (fun g25 => ?_)
        · skip
          refine aw_iload dX7_melody_122 rfl (aw_iload dX7_melody_124 rfl (aw_isub dX7_melody_126 ?_))
          simp only [if_pos g25] at key16 ⊢
          exact aw_dk key16 (And.intro rfl (And.intro rfl (And.intro rfl (And.intro rfl (And.intro rfl (And.intro rfl (And.intro rfl (And.intro rfl (And.intro rfl trivial)))))))))
        · skip
          refine aw_iconst (0 : Int32) dX7_melody_118 ki_0 (aw_goto 127 dX7_melody_119 rfl ?_)
          simp only [if_neg g25] at key16 ⊢
          exact aw_dk key16 (And.intro rfl (And.intro rfl (And.intro rfl (And.intro rfl (And.intro rfl (And.intro rfl (And.intro rfl (And.intro rfl (And.intro rfl trivial)))))))))
    · replace hf := (if_neg g8).symm.trans hf
      refine aw_aload_n dX7_melody_55 rfl (aw_getr fkX7_19 (nl hN rfl) kd_39 (Nat.le_of_ble_eq_true rfl) rfl dX7_melody_56 (aw_iconst (2 : Int32) dX7_melody_59 ki_2 (aw_iload dX7_melody_60 rfl (aw_iadd dX7_melody_62 ?_))))
      obtain ⟨g10, hf⟩ := ogd hf
      refine aw_iald (nl hN rfl) kd_43 g10 dX7_melody_63 (aw_iload dX7_melody_64 rfl ?_)
      obtain ⟨v13, h11, c12, hf⟩ := ob_some hf
      refine aw_callSi (N := mX7_has) (As := [.int (h 43 (ix (2 + x6))), .int x8]) lkX7_152 okX7_has (by rfl) (by rfl) (Nat.le_of_ble_eq_true rfl) ry_X7_melody_X7_has dX7_melody_66 (And.intro (Nat.le_refl _) (Nat.le_refl _)) (ct_X7_has hE hN F c12) ?_
      refine aw_if_eq 98 dX7_melody_69 rfl (fun g14 => ?_) (fun g14 => ?_)
      · replace hf := (if_pos g14).symm.trans hf
        refine aw_iload dX7_melody_98 rfl (aw_istore dX7_melody_100 (Nat.le_of_ble_eq_true rfl) (aw_iinc (1 : Int32) dX7_melody_102 rfl (Nat.le_of_ble_eq_true rfl) ki_1 (aw_goto 44 dX7_melody_105 rfl ?_)))
        exact aw_dk (ih _ _ _ _ _ _ _ _ hf) (And.intro rfl (And.intro rfl (And.intro rfl (And.intro rfl (And.intro rfl (And.intro rfl (And.intro rfl (And.intro rfl (And.intro rfl trivial)))))))))
      · replace hf := (if_neg g14).symm.trans hf
        refine aw_aload_n dX7_melody_72 rfl (aw_getr fkX7_7 (nl hN rfl) kd_39 (Nat.le_of_ble_eq_true rfl) rfl dX7_melody_73 (aw_iconst (3 : Int32) dX7_melody_76 ki_3 (aw_iload dX7_melody_77 rfl (aw_iadd dX7_melody_79 ?_))))
        obtain ⟨g15, hf⟩ := ogd hf
        have key26 : AW E mX7_melody (KM E mX7_melody (some (.int v)) tw h') tw h11 100 [some (.ref 39), some (.int x1), some (.int x2), some (.int x3), some (.int x4), some (.int x5), some (.int x6), some (.int x7), some (.int x8), none] [.int (if (h11 40 (ix (3 + x8))) ≤ x7 then x7 else h11 40 (ix (3 + x8)))] := by
          refine aw_istore dX7_melody_100 (Nat.le_of_ble_eq_true rfl) (aw_iinc (1 : Int32) dX7_melody_102 rfl (Nat.le_of_ble_eq_true rfl) ki_1 (aw_goto 44 dX7_melody_105 rfl ?_))
          exact aw_dk (ih _ _ _ _ _ _ _ _ hf) (And.intro rfl (And.intro rfl (And.intro rfl (And.intro rfl (And.intro rfl (And.intro rfl (And.intro rfl (And.intro rfl (And.intro rfl trivial)))))))))
        refine aw_iald (nl hN rfl) kd_40 g15 dX7_melody_80 (aw_iload dX7_melody_81 rfl ?_)
        refine aw_icmp_le 98 dX7_melody_83 rfl (fun g27 => ?_) (fun g27 => ?_)
        · skip
          refine aw_iload dX7_melody_98 rfl ?_
          simp only [if_pos g27] at key26 ⊢
          exact aw_dk key26 (And.intro rfl (And.intro rfl (And.intro rfl (And.intro rfl (And.intro rfl (And.intro rfl (And.intro rfl (And.intro rfl (And.intro rfl trivial)))))))))
        · skip
          refine aw_aload_n dX7_melody_86 rfl (aw_getr fkX7_7 (nl hN rfl) kd_39 (Nat.le_of_ble_eq_true rfl) rfl dX7_melody_87 (aw_iconst (3 : Int32) dX7_melody_90 ki_3 (aw_iload dX7_melody_91 rfl (aw_iadd dX7_melody_93 (aw_iald (nl hN rfl) kd_40 g15 dX7_melody_94 (aw_goto 100 dX7_melody_95 rfl ?_))))))
          simp only [if_neg g27] at key26 ⊢
          exact aw_dk key26 (And.intro rfl (And.intro rfl (And.intro rfl (And.intro rfl (And.intro rfl (And.intro rfl (And.intro rfl (And.intro rfl (And.intro rfl trivial)))))))))
def f_X7_melody_27 (F : Nat) (x1 : Int32) : Nat → Int32 → Int32 → Int32 → Int32 → Int32 → HP → Option (Int32 × HP)
  | 0, _, _, _, _, _, _ => none
  | n + 1, x2, x3, x4, x5, x6, h =>
    if (h 40 1) ≤ x6 then
      if x1 = 0 then
        some (x2, h)
      else
        if x1 = 1 then
          some (x3, h)
        else
          some (x4, h)
    else
      f_X7_melody_44 F x1 (f_X7_melody_27 F x1 n) F x2 x3 x4 x5 x6 (-1) 0 h
set_option maxHeartbeats 4000000 in
set_option maxRecDepth 100000 in
theorem ct_X7_melody_27 {E : EV} (hE : EI E) (hN : 56 ≤ eN E) (F : Nat) {tw : TW} {x1 : Int32} {v : Int32} {h' : HP} : ∀ (n : Nat) (x2 : Int32) (x3 : Int32) (x4 : Int32) (x5 : Int32) (x6 : Int32) (h : HP), f_X7_melody_27 F x1 n x2 x3 x4 x5 x6 h = some (v, h') → AW E mX7_melody (KM E mX7_melody (some (.int v)) tw h') tw h 27 [some (.ref 39), some (.int x1), some (.int x2), some (.int x3), some (.int x4), some (.int x5), some (.int x6), none, none, none] [] := by
  intro n
  induction n with
  | zero => intro x2 x3 x4 x5 x6 h hf; exact absurd (show (none : Option (Int32 × HP)) = some _ from hf) (fun z => nomatch z)
  | succ n ih =>
    intro x2 x3 x4 x5 x6 h hf
    rw [f_X7_melody_27] at hf
    refine aw_iload dX7_melody_27 rfl (aw_aload_n dX7_melody_29 rfl (aw_getr fkX7_7 (nl hN rfl) kd_39 (Nat.le_of_ble_eq_true rfl) rfl dX7_melody_30 (aw_iconst (1 : Int32) dX7_melody_33 ki_1 (aw_ialdk (j := 1) cx_1 (nl hN rfl) kd_40 ib_1_19 dX7_melody_34 ?_))))
    refine aw_icmp_ge 196 dX7_melody_35 rfl (fun g5 => ?_) (fun g5 => ?_)
    · replace hf := (if_pos g5).symm.trans hf
      refine aw_iload_n dX7_melody_196 rfl ?_
      refine aw_if_ne 204 dX7_melody_197 rfl (fun g6 => ?_) (fun g6 => ?_)
      · replace hf := (if_neg g6).symm.trans hf
        refine aw_iload_n dX7_melody_204 rfl (aw_iconst (1 : Int32) dX7_melody_205 ki_1 ?_)
        refine aw_icmp_ne 213 dX7_melody_206 rfl (fun g7 => ?_) (fun g7 => ?_)
        · replace hf := (if_neg g7).symm.trans hf
          cases hf
          exact aw_iload dX7_melody_213 rfl (aw_iret rfl dX7_melody_215)
        · replace hf := (if_pos g7).symm.trans hf
          cases hf
          exact aw_iload_n dX7_melody_209 rfl (aw_goto 215 dX7_melody_210 rfl (aw_iret rfl dX7_melody_215))
      · replace hf := (if_pos g6).symm.trans hf
        cases hf
        exact aw_iload_n dX7_melody_200 rfl (aw_goto 215 dX7_melody_201 rfl (aw_iret rfl dX7_melody_215))
    · replace hf := (if_neg g5).symm.trans hf
      refine aw_iconst ((-1) : Int32) dX7_melody_38 ki_m1 (aw_istore dX7_melody_39 (Nat.le_of_ble_eq_true rfl) (aw_iconst (0 : Int32) dX7_melody_41 ki_0 (aw_istore dX7_melody_42 (Nat.le_of_ble_eq_true rfl) ?_)))
      exact aw_dk (ct_X7_melody_44 hE hN F ih F _ _ _ _ _ _ _ _ hf) (And.intro rfl (And.intro rfl (And.intro rfl (And.intro rfl (And.intro rfl (And.intro rfl (And.intro rfl (And.intro rfl (And.intro rfl trivial)))))))))
def f_X7_melody (F : Nat) (x1 : Int32) (h : HP) : Option (Int32 × HP) :=
  ob (f_X7_in F x1.toInt64 0 2 h) (fun v3 h1 =>
  if v3 = 0 then
    some ((-1), h1)
  else
    f_X7_melody_27 F x1 F 0 0 0 (-1) 0 h1)
set_option maxHeartbeats 4000000 in
set_option maxRecDepth 100000 in
theorem ct_X7_melody {E : EV} (hE : EI E) (hN : 56 ≤ eN E) (F : Nat) {tw : TW} {x1 : Int32} {h : HP} {v : Int32} {h' : HP} (hf : f_X7_melody F x1 h = some (v, h')) : CT E mX7_melody tw h [.ref 39, .int x1] (some (.int v)) tw h' := by
  refine CT.of hE (show plainFor yX7_melody = true by decide +kernel) (Nat.le_of_ble_eq_true rfl) 8 ?_
  show AW E mX7_melody (KM E mX7_melody (some (.int v)) tw h') tw h 0 [some (.ref 39), some (.int x1), none, none, none, none, none, none, none, none] []
  unfold f_X7_melody at hf
  refine aw_iload_n dX7_melody_0 rfl (aw_i2l dX7_melody_1 (aw_lconst (0 : Int64) dX7_melody_2 (by decide) (aw_ldc2 kcX7_103 dX7_melody_3 ?_)))
  obtain ⟨v3, h1, c2, hf⟩ := ob_some hf
  refine aw_callSi (N := mX7_in) (As := [.long x1.toInt64, .long 0, .long 2]) lkX7_73 okX7_in (by rfl) (by rfl) (Nat.le_of_ble_eq_true rfl) ry_X7_melody_X7_in dX7_melody_6 (And.intro (Nat.le_refl _) (Nat.le_refl _)) (ct_X7_in hE hN F c2) ?_
  refine aw_if_ne 14 dX7_melody_9 rfl (fun g4 => ?_) (fun g4 => ?_)
  · replace hf := (if_neg g4).symm.trans hf
    refine aw_iconst (0 : Int32) dX7_melody_14 ki_0 (aw_istore_n dX7_melody_15 (Nat.le_of_ble_eq_true rfl) (aw_iconst (0 : Int32) dX7_melody_16 ki_0 (aw_istore_n dX7_melody_17 (Nat.le_of_ble_eq_true rfl) (aw_iconst (0 : Int32) dX7_melody_18 ki_0 (aw_istore dX7_melody_19 (Nat.le_of_ble_eq_true rfl) (aw_iconst ((-1) : Int32) dX7_melody_21 ki_m1 (aw_istore dX7_melody_22 (Nat.le_of_ble_eq_true rfl) (aw_iconst (0 : Int32) dX7_melody_24 ki_0 (aw_istore dX7_melody_25 (Nat.le_of_ble_eq_true rfl) ?_)))))))))
    exact aw_dk (ct_X7_melody_27 hE hN F F _ _ _ _ _ _ hf) (And.intro rfl (And.intro rfl (And.intro rfl (And.intro rfl (And.intro rfl (And.intro rfl (And.intro rfl trivial)))))))
  · replace hf := (if_pos g4).symm.trans hf
    cases hf
    exact aw_iconst ((-1) : Int32) dX7_melody_12 ki_m1 (aw_iret rfl dX7_melody_13)
def f_X7_winter_135 (F : Nat) (x1 : Int32) (x2 : Int32) (x3 : Int32) : Nat → Int32 → Int32 → Int32 → HP → Option (Int32 × HP)
  | 0, _, _, _, _ => none
  | n + 1, x4, x5, x6, h =>
    if (h 40 1) ≤ x6 then
      if x3 = 0 then
        some (x4, h)
      else
        some (x5, h)
    else
      if inb (2 + x6) 66 then
        ob (f_X7_bits F (h 52 (ix (2 + x6))) h) (fun v23 h21 =>
        f_X7_winter_135 F x1 x2 x3 n (x4 + v23) (x5 + (if (h21 52 (ix (2 + x6))) = 0 then 1 else 0)) (x6 + 1) h21)
      else none
set_option maxHeartbeats 4000000 in
set_option maxRecDepth 100000 in
theorem ct_X7_winter_135 {E : EV} (hE : EI E) (hN : 56 ≤ eN E) (F : Nat) {tw : TW} {x1 : Int32} {x2 : Int32} {x3 : Int32} {v : Int32} {h' : HP} : ∀ (n : Nat) (x4 : Int32) (x5 : Int32) (x6 : Int32) (h : HP), f_X7_winter_135 F x1 x2 x3 n x4 x5 x6 h = some (v, h') → AW E mX7_winter (KM E mX7_winter (some (.int v)) tw h') tw h 135 [some (.ref 39), none, none, some (.int x3), some (.int x4), some (.int x5), some (.int x6), none, none] [] := by
  intro n
  induction n with
  | zero => intro x4 x5 x6 h hf; exact absurd (show (none : Option (Int32 × HP)) = some _ from hf) (fun z => nomatch z)
  | succ n ih =>
    intro x4 x5 x6 h hf
    rw [f_X7_winter_135] at hf
    refine aw_iload dX7_winter_135 rfl (aw_aload_n dX7_winter_137 rfl (aw_getr fkX7_7 (nl hN rfl) kd_39 (Nat.le_of_ble_eq_true rfl) rfl dX7_winter_138 (aw_iconst (1 : Int32) dX7_winter_141 ki_1 (aw_ialdk (j := 1) cx_1 (nl hN rfl) kd_40 ib_1_19 dX7_winter_142 ?_))))
    refine aw_icmp_ge 191 dX7_winter_143 rfl (fun g18 => ?_) (fun g18 => ?_)
    · replace hf := (if_pos g18).symm.trans hf
      refine aw_iload_n dX7_winter_191 rfl ?_
      refine aw_if_ne 200 dX7_winter_192 rfl (fun g19 => ?_) (fun g19 => ?_)
      · replace hf := (if_neg g19).symm.trans hf
        cases hf
        exact aw_iload dX7_winter_200 rfl (aw_iret rfl dX7_winter_202)
      · replace hf := (if_pos g19).symm.trans hf
        cases hf
        exact aw_iload dX7_winter_195 rfl (aw_goto 202 dX7_winter_197 rfl (aw_iret rfl dX7_winter_202))
    · replace hf := (if_neg g18).symm.trans hf
      refine aw_iload dX7_winter_146 rfl (aw_aload_n dX7_winter_148 rfl (aw_getr fkX7_46 (nl hN rfl) kd_39 (Nat.le_of_ble_eq_true rfl) rfl dX7_winter_149 (aw_iconst (2 : Int32) dX7_winter_152 ki_2 (aw_iload dX7_winter_153 rfl (aw_iadd dX7_winter_155 ?_)))))
      obtain ⟨g20, hf⟩ := ogd hf
      refine aw_iald (nl hN rfl) kd_52 g20 dX7_winter_156 ?_
      obtain ⟨v23, h21, c22, hf⟩ := ob_some hf
      have key24 : AW E mX7_winter (KM E mX7_winter (some (.int v)) tw h') tw h21 182 [some (.ref 39), none, none, some (.int x3), some (.int (x4 + v23)), some (.int x5), some (.int x6), none, none] [.int (if (h21 52 (ix (2 + x6))) = 0 then 1 else 0), .int x5] := by
        refine aw_iadd dX7_winter_182 (aw_istore dX7_winter_183 (Nat.le_of_ble_eq_true rfl) (aw_iinc (1 : Int32) dX7_winter_185 rfl (Nat.le_of_ble_eq_true rfl) ki_1 (aw_goto 135 dX7_winter_188 rfl ?_)))
        exact aw_dk (ih _ _ _ _ hf) (And.intro rfl (And.intro rfl (And.intro rfl (And.intro rfl (And.intro rfl trivial)))))
      refine aw_callSi (N := mX7_bits) (As := [.int (h 52 (ix (2 + x6)))]) lkX7_114 okX7_bits (by rfl) (by rfl) (Nat.le_of_ble_eq_true rfl) ry_X7_winter_X7_bits dX7_winter_157 (And.intro (Nat.le_refl _) (Nat.le_refl _)) (ct_X7_bits hE hN F c22) (aw_iadd dX7_winter_160 (aw_istore dX7_winter_161 (Nat.le_of_ble_eq_true rfl) (aw_iload dX7_winter_163 rfl (aw_aload_n dX7_winter_165 rfl (aw_getr fkX7_46 (nl hN rfl) kd_39 (Nat.le_of_ble_eq_true rfl) rfl dX7_winter_166 (aw_iconst (2 : Int32) dX7_winter_169 ki_2 (aw_iload dX7_winter_170 rfl (aw_iadd dX7_winter_172 (aw_iald (nl hN rfl) kd_52 g20 dX7_winter_173 ?_)))))))))
      refine aw_if_ne 181 dX7_winter_174 rfl (fun g25 => ?_) (fun g25 => ?_)
      · skip
        refine aw_iconst (0 : Int32) dX7_winter_181 ki_0 ?_
        simp only [if_neg g25] at key24 ⊢
        exact aw_dk key24 (And.intro rfl (And.intro rfl (And.intro rfl (And.intro rfl (And.intro rfl trivial)))))
      · skip
        refine aw_iconst (1 : Int32) dX7_winter_177 ki_1 (aw_goto 182 dX7_winter_178 rfl ?_)
        simp only [if_pos g25] at key24 ⊢
        exact aw_dk key24 (And.intro rfl (And.intro rfl (And.intro rfl (And.intro rfl (And.intro rfl trivial)))))
def f_X7_winter_49 (F : Nat) (x1 : Int32) (x2 : Int32) (x3 : Int32) : Nat → Int32 → HP → Option (Int32 × HP)
  | 0, _, _ => none
  | n + 1, x4, h =>
    if x2 ≤ x4 then
      f_X7_winter_135 F x1 x2 x3 F 0 0 0 h
    else
      if (h 40 1) ≠ 0 then
        if inb (2 + (jrem (((jlrem ((((7919 * x1.toInt64) + (6151 * x4.toInt64)) + 1) * (((7919 * x1.toInt64) + (6151 * x4.toInt64)) + 1)) 65521).toInt32) / 8) (h 40 1))) 66 then
          f_X7_winter_49 F x1 x2 x3 n (x4 + 1) (up h 52 (ix (2 + (jrem (((jlrem ((((7919 * x1.toInt64) + (6151 * x4.toInt64)) + 1) * (((7919 * x1.toInt64) + (6151 * x4.toInt64)) + 1)) 65521).toInt32) / 8) (h 40 1)))) ((h 52 (ix (2 + (jrem (((jlrem ((((7919 * x1.toInt64) + (6151 * x4.toInt64)) + 1) * (((7919 * x1.toInt64) + (6151 * x4.toInt64)) + 1)) 65521).toInt32) / 8) (h 40 1))))) &&& ((h 52 (ix (2 + (jrem (((jlrem ((((7919 * x1.toInt64) + (6151 * x4.toInt64)) + 1) * (((7919 * x1.toInt64) + (6151 * x4.toInt64)) + 1)) 65521).toInt32) / 8) (h 40 1))))) - 1)))
        else none
      else none
set_option maxHeartbeats 4000000 in
set_option maxRecDepth 100000 in
theorem ct_X7_winter_49 {E : EV} (hE : EI E) (hN : 56 ≤ eN E) (F : Nat) {tw : TW} {x1 : Int32} {x2 : Int32} {x3 : Int32} {v : Int32} {h' : HP} : ∀ (n : Nat) (x4 : Int32) (h : HP), f_X7_winter_49 F x1 x2 x3 n x4 h = some (v, h') → AW E mX7_winter (KM E mX7_winter (some (.int v)) tw h') tw h 49 [some (.ref 39), some (.int x1), some (.int x2), some (.int x3), some (.int x4), none, none, none, none] [] := by
  intro n
  induction n with
  | zero => intro x4 h hf; exact absurd (show (none : Option (Int32 × HP)) = some _ from hf) (fun z => nomatch z)
  | succ n ih =>
    intro x4 h hf
    rw [f_X7_winter_49] at hf
    refine aw_iload dX7_winter_49 rfl (aw_iload_n dX7_winter_51 rfl ?_)
    refine aw_icmp_ge 126 dX7_winter_52 rfl (fun g15 => ?_) (fun g15 => ?_)
    · replace hf := (if_pos g15).symm.trans hf
      refine aw_iconst (0 : Int32) dX7_winter_126 ki_0 (aw_istore dX7_winter_127 (Nat.le_of_ble_eq_true rfl) (aw_iconst (0 : Int32) dX7_winter_129 ki_0 (aw_istore dX7_winter_130 (Nat.le_of_ble_eq_true rfl) (aw_iconst (0 : Int32) dX7_winter_132 ki_0 (aw_istore dX7_winter_133 (Nat.le_of_ble_eq_true rfl) ?_)))))
      exact aw_dk (ct_X7_winter_135 hE hN F F _ _ _ _ hf) (And.intro rfl (And.intro rfl (And.intro rfl (And.intro rfl (And.intro rfl trivial)))))
    · replace hf := (if_neg g15).symm.trans hf
      refine aw_ldc2 kcX7_220 dX7_winter_55 (aw_iload_n dX7_winter_58 rfl (aw_i2l dX7_winter_59 (aw_lmul dX7_winter_60 (aw_ldc2 kcX7_222 dX7_winter_61 (aw_iload dX7_winter_64 rfl (aw_i2l dX7_winter_66 (aw_lmul dX7_winter_67 (aw_ladd dX7_winter_68 (aw_lconst (1 : Int64) dX7_winter_69 (by decide) (aw_ladd dX7_winter_70 (aw_lstore dX7_winter_71 (Nat.le_of_ble_eq_true rfl) ?_)))))))))))
      refine aw_lload dX7_winter_73 rfl (aw_lload dX7_winter_75 rfl (aw_lmul dX7_winter_77 (aw_ldc2 kcX7_224 dX7_winter_78 (aw_lrem (by decide) dX7_winter_81 (aw_l2i dX7_winter_82 (aw_bipush (8 : Int32) dX7_winter_83 kb_8 (aw_idiv (by decide) dX7_winter_85 (aw_istore dX7_winter_86 (Nat.le_of_ble_eq_true rfl) (aw_iconst (2 : Int32) dX7_winter_88 ki_2 (aw_iload dX7_winter_89 rfl (aw_aload_n dX7_winter_91 rfl ?_)))))))))))
      refine aw_getr fkX7_7 (nl hN rfl) kd_39 (Nat.le_of_ble_eq_true rfl) rfl dX7_winter_92 (aw_iconst (1 : Int32) dX7_winter_95 ki_1 (aw_ialdk (j := 1) cx_1 (nl hN rfl) kd_40 ib_1_19 dX7_winter_96 ?_))
      obtain ⟨g16, hf⟩ := ogd hf
      refine aw_irem g16 dX7_winter_97 (aw_iadd dX7_winter_98 (aw_istore dX7_winter_99 (Nat.le_of_ble_eq_true rfl) (aw_aload_n dX7_winter_101 rfl (aw_getr fkX7_46 (nl hN rfl) kd_39 (Nat.le_of_ble_eq_true rfl) rfl dX7_winter_102 (aw_iload dX7_winter_105 rfl (aw_dup2 dX7_winter_107 rfl rfl ?_))))))
      obtain ⟨g17, hf⟩ := ogd hf
      refine aw_iald (nl hN rfl) kd_52 g17 dX7_winter_108 (aw_aload_n dX7_winter_109 rfl (aw_getr fkX7_46 (nl hN rfl) kd_39 (Nat.le_of_ble_eq_true rfl) rfl dX7_winter_110 (aw_iload dX7_winter_113 rfl (aw_iald (nl hN rfl) kd_52 g17 dX7_winter_115 (aw_iconst (1 : Int32) dX7_winter_116 ki_1 (aw_isub dX7_winter_117 (aw_iand dX7_winter_118 (aw_iast (nl hN rfl) kd_52 g17 dX7_winter_119 (aw_iinc (1 : Int32) dX7_winter_120 rfl (Nat.le_of_ble_eq_true rfl) ki_1 (aw_goto 49 dX7_winter_123 rfl ?_))))))))))
      exact aw_dk (ih _ _ hf) (And.intro rfl (And.intro rfl (And.intro rfl (And.intro rfl (And.intro rfl trivial)))))
def f_X7_winter (F : Nat) (x1 : Int32) (x2 : Int32) (x3 : Int32) (h : HP) : Option (Int32 × HP) :=
  ob (f_X7_in F x1.toInt64 0 9999 h) (fun v3 h1 =>
  if v3 = 0 then
    some ((-1), h1)
  else
    ob (f_X7_in F x2.toInt64 1 60 h1) (fun v7 h5 =>
    if v7 = 0 then
      some ((-1), h5)
    else
      ob (f_X7_isTwo F x3 h5) (fun v11 h9 =>
      if v11 = 0 then
        some ((-1), h9)
      else
        obv (f_X7_copies F 43 0 52 0 h9) (fun h13 =>
        f_X7_winter_49 F x1 x2 x3 F 0 h13))))
set_option maxHeartbeats 4000000 in
set_option maxRecDepth 100000 in
theorem ct_X7_winter {E : EV} (hE : EI E) (hN : 56 ≤ eN E) (F : Nat) {tw : TW} {x1 : Int32} {x2 : Int32} {x3 : Int32} {h : HP} {v : Int32} {h' : HP} (hf : f_X7_winter F x1 x2 x3 h = some (v, h')) : CT E mX7_winter tw h [.ref 39, .int x1, .int x2, .int x3] (some (.int v)) tw h' := by
  refine CT.of hE (show plainFor yX7_winter = true by decide +kernel) (Nat.le_of_ble_eq_true rfl) 5 ?_
  show AW E mX7_winter (KM E mX7_winter (some (.int v)) tw h') tw h 0 [some (.ref 39), some (.int x1), some (.int x2), some (.int x3), none, none, none, none, none] []
  unfold f_X7_winter at hf
  refine aw_iload_n dX7_winter_0 rfl (aw_i2l dX7_winter_1 (aw_lconst (0 : Int64) dX7_winter_2 (by decide) (aw_ldc2 kcX7_216 dX7_winter_3 ?_)))
  obtain ⟨v3, h1, c2, hf⟩ := ob_some hf
  refine aw_callSi (N := mX7_in) (As := [.long x1.toInt64, .long 0, .long 9999]) lkX7_73 okX7_in (by rfl) (by rfl) (Nat.le_of_ble_eq_true rfl) ry_X7_winter_X7_in dX7_winter_6 (And.intro (Nat.le_refl _) (Nat.le_refl _)) (ct_X7_in hE hN F c2) ?_
  refine aw_if_eq 31 dX7_winter_9 rfl (fun g4 => ?_) (fun g4 => ?_)
  · replace hf := (if_pos g4).symm.trans hf
    cases hf
    exact aw_iconst ((-1) : Int32) dX7_winter_31 ki_m1 (aw_iret rfl dX7_winter_32)
  · replace hf := (if_neg g4).symm.trans hf
    refine aw_iload_n dX7_winter_12 rfl (aw_i2l dX7_winter_13 (aw_lconst (1 : Int64) dX7_winter_14 (by decide) (aw_ldc2 kcX7_218 dX7_winter_15 ?_)))
    obtain ⟨v7, h5, c6, hf⟩ := ob_some hf
    refine aw_callSi (N := mX7_in) (As := [.long x2.toInt64, .long 1, .long 60]) lkX7_73 okX7_in (by rfl) (by rfl) (Nat.le_of_ble_eq_true rfl) ry_X7_winter_X7_in dX7_winter_18 (And.intro (Nat.le_refl _) (Nat.le_refl _)) (ct_X7_in hE hN F c6) ?_
    refine aw_if_eq 31 dX7_winter_21 rfl (fun g8 => ?_) (fun g8 => ?_)
    · replace hf := (if_pos g8).symm.trans hf
      cases hf
      exact aw_iconst ((-1) : Int32) dX7_winter_31 ki_m1 (aw_iret rfl dX7_winter_32)
    · replace hf := (if_neg g8).symm.trans hf
      refine aw_iload_n dX7_winter_24 rfl ?_
      obtain ⟨v11, h9, c10, hf⟩ := ob_some hf
      refine aw_callSi (N := mX7_isTwo) (As := [.int x3]) lkX7_196 okX7_isTwo (by rfl) (by rfl) (Nat.le_of_ble_eq_true rfl) ry_X7_winter_X7_isTwo dX7_winter_25 (And.intro (Nat.le_refl _) (Nat.le_refl _)) (ct_X7_isTwo hE hN F c10) ?_
      refine aw_if_ne 33 dX7_winter_28 rfl (fun g12 => ?_) (fun g12 => ?_)
      · replace hf := (if_neg g12).symm.trans hf
        refine aw_aload_n dX7_winter_33 rfl (aw_getr fkX7_19 (nl hN rfl) kd_39 (Nat.le_of_ble_eq_true rfl) rfl dX7_winter_34 (aw_iconst (0 : Int32) dX7_winter_37 ki_0 (aw_aload_n dX7_winter_38 rfl (aw_getr fkX7_46 (nl hN rfl) kd_39 (Nat.le_of_ble_eq_true rfl) rfl dX7_winter_39 (aw_iconst (0 : Int32) dX7_winter_42 ki_0 ?_)))))
        obtain ⟨h13, c14, hf⟩ := obv_some hf
        refine aw_callSv (N := mX7_copies) (As := [.ref 43, .int 0, .ref 52, .int 0]) lkX7_165 okX7_copies (by rfl) (by rfl) (Nat.le_of_ble_eq_true rfl) ry_X7_winter_X7_copies dX7_winter_43 (And.intro (Nat.le_refl _) (Nat.le_refl _)) (ct_X7_copies hE hN F (IA.of kd_43 (nl hN rfl)) (IA.of kd_52 (nl hN rfl)) c14) (aw_iconst (0 : Int32) dX7_winter_46 ki_0 (aw_istore dX7_winter_47 (Nat.le_of_ble_eq_true rfl) ?_))
        exact aw_dk (ct_X7_winter_49 hE hN F F _ _ hf) (And.intro rfl (And.intro rfl (And.intro rfl (And.intro rfl (And.intro rfl trivial)))))
      · replace hf := (if_pos g12).symm.trans hf
        cases hf
        exact aw_iconst ((-1) : Int32) dX7_winter_31 ki_m1 (aw_iret rfl dX7_winter_32)
def f_X7_keep (F : Nat)  (h : HP) : Option (Int32 × HP) :=
  if (h 39 8) = 2 then
    some ((-3), h)
  else
    obv (f_X7_copies F 43 0 45 (66 * (h 39 8)) h) (fun h2 =>
    some ((up h2 39 8 ((h2 39 8) + 1)) 39 8, up h2 39 8 ((h2 39 8) + 1)))
set_option maxHeartbeats 4000000 in
set_option maxRecDepth 100000 in
theorem ct_X7_keep {E : EV} (hE : EI E) (hN : 56 ≤ eN E) (F : Nat) {tw : TW}  {h : HP} {v : Int32} {h' : HP} (hf : f_X7_keep F  h = some (v, h')) : CT E mX7_keep tw h [.ref 39] (some (.int v)) tw h' := by
  refine CT.of hE (show plainFor yX7_keep = true by decide +kernel) (Nat.le_of_ble_eq_true rfl) 0 ?_
  show AW E mX7_keep (KM E mX7_keep (some (.int v)) tw h') tw h 0 [some (.ref 39)] []
  unfold f_X7_keep at hf
  refine aw_aload_n dX7_keep_0 rfl (aw_geti fkX7_146 (nl hN rfl) kd_39 (Nat.le_of_ble_eq_true rfl) rfl dX7_keep_1 (aw_iconst (2 : Int32) dX7_keep_4 ki_2 ?_))
  refine aw_icmp_ne 11 dX7_keep_5 rfl (fun g1 => ?_) (fun g1 => ?_)
  · replace hf := (if_neg g1).symm.trans hf
    refine aw_aload_n dX7_keep_11 rfl (aw_getr fkX7_19 (nl hN rfl) kd_39 (Nat.le_of_ble_eq_true rfl) rfl dX7_keep_12 (aw_iconst (0 : Int32) dX7_keep_15 ki_0 (aw_aload_n dX7_keep_16 rfl (aw_getr fkX7_25 (nl hN rfl) kd_39 (Nat.le_of_ble_eq_true rfl) rfl dX7_keep_17 (aw_bipush (66 : Int32) dX7_keep_20 kb_66 (aw_aload_n dX7_keep_22 rfl (aw_geti fkX7_146 (nl hN rfl) kd_39 (Nat.le_of_ble_eq_true rfl) rfl dX7_keep_23 (aw_imul dX7_keep_26 ?_))))))))
    obtain ⟨h2, c3, hf⟩ := obv_some hf
    cases hf
    exact aw_callSv (N := mX7_copies) (As := [.ref 43, .int 0, .ref 45, .int (66 * (h 39 8))]) lkX7_165 okX7_copies (by rfl) (by rfl) (Nat.le_of_ble_eq_true rfl) ry_X7_keep_X7_copies dX7_keep_27 (And.intro (Nat.le_refl _) (Nat.le_refl _)) (ct_X7_copies hE hN F (IA.of kd_43 (nl hN rfl)) (IA.of kd_45 (nl hN rfl)) c3) (aw_aload_n dX7_keep_30 rfl (aw_dup dX7_keep_31 rfl (aw_geti fkX7_146 (nl hN rfl) kd_39 (Nat.le_of_ble_eq_true rfl) rfl dX7_keep_32 (aw_iconst (1 : Int32) dX7_keep_35 ki_1 (aw_iadd dX7_keep_36 (aw_puti fkX7_146 fw_7_8 (nl hN rfl) kd_39 (Nat.le_of_ble_eq_true rfl) rfl dX7_keep_37 (aw_aload_n dX7_keep_40 rfl (aw_geti fkX7_146 (nl hN rfl) kd_39 (Nat.le_of_ble_eq_true rfl) rfl dX7_keep_41 (aw_iret rfl dX7_keep_44)))))))))
  · replace hf := (if_pos g1).symm.trans hf
    cases hf
    exact aw_bipush ((-3) : Int32) dX7_keep_8 kb_m3 (aw_iret rfl dX7_keep_10)
def f_X7_back (F : Nat)  (h : HP) : Option (Int32 × HP) :=
  if (h 39 8) = 0 then
    some ((-2), h)
  else
    obv (f_X7_copies F 45 (66 * ((up h 39 8 ((h 39 8) - 1)) 39 8)) 43 0 (up h 39 8 ((h 39 8) - 1))) (fun h2 =>
    some ((up h2 39 6 0) 39 8, up h2 39 6 0))
set_option maxHeartbeats 4000000 in
set_option maxRecDepth 100000 in
theorem ct_X7_back {E : EV} (hE : EI E) (hN : 56 ≤ eN E) (F : Nat) {tw : TW}  {h : HP} {v : Int32} {h' : HP} (hf : f_X7_back F  h = some (v, h')) : CT E mX7_back tw h [.ref 39] (some (.int v)) tw h' := by
  refine CT.of hE (show plainFor yX7_back = true by decide +kernel) (Nat.le_of_ble_eq_true rfl) 0 ?_
  show AW E mX7_back (KM E mX7_back (some (.int v)) tw h') tw h 0 [some (.ref 39)] []
  unfold f_X7_back at hf
  refine aw_aload_n dX7_back_0 rfl (aw_geti fkX7_146 (nl hN rfl) kd_39 (Nat.le_of_ble_eq_true rfl) rfl dX7_back_1 ?_)
  refine aw_if_ne 10 dX7_back_4 rfl (fun g1 => ?_) (fun g1 => ?_)
  · replace hf := (if_neg g1).symm.trans hf
    refine aw_aload_n dX7_back_10 rfl (aw_dup dX7_back_11 rfl (aw_geti fkX7_146 (nl hN rfl) kd_39 (Nat.le_of_ble_eq_true rfl) rfl dX7_back_12 (aw_iconst (1 : Int32) dX7_back_15 ki_1 (aw_isub dX7_back_16 (aw_puti fkX7_146 fw_7_8 (nl hN rfl) kd_39 (Nat.le_of_ble_eq_true rfl) rfl dX7_back_17 (aw_aload_n dX7_back_20 rfl (aw_getr fkX7_25 (nl hN rfl) kd_39 (Nat.le_of_ble_eq_true rfl) rfl dX7_back_21 (aw_bipush (66 : Int32) dX7_back_24 kb_66 (aw_aload_n dX7_back_26 rfl (aw_geti fkX7_146 (nl hN rfl) kd_39 (Nat.le_of_ble_eq_true rfl) rfl dX7_back_27 (aw_imul dX7_back_30 ?_)))))))))))
    refine aw_aload_n dX7_back_31 rfl (aw_getr fkX7_19 (nl hN rfl) kd_39 (Nat.le_of_ble_eq_true rfl) rfl dX7_back_32 (aw_iconst (0 : Int32) dX7_back_35 ki_0 ?_))
    obtain ⟨h2, c3, hf⟩ := obv_some hf
    cases hf
    exact aw_callSv (N := mX7_copies) (As := [.ref 45, .int (66 * ((up h 39 8 ((h 39 8) - 1)) 39 8)), .ref 43, .int 0]) lkX7_165 okX7_copies (by rfl) (by rfl) (Nat.le_of_ble_eq_true rfl) ry_X7_back_X7_copies dX7_back_36 (And.intro (Nat.le_refl _) (Nat.le_refl _)) (ct_X7_copies hE hN F (IA.of kd_45 (nl hN rfl)) (IA.of kd_43 (nl hN rfl)) c3) (aw_aload_n dX7_back_39 rfl (aw_iconst (0 : Int32) dX7_back_40 ki_0 (aw_puti fkX7_143 fw_7_6 (nl hN rfl) kd_39 (Nat.le_of_ble_eq_true rfl) rfl dX7_back_41 (aw_aload_n dX7_back_44 rfl (aw_geti fkX7_146 (nl hN rfl) kd_39 (Nat.le_of_ble_eq_true rfl) rfl dX7_back_45 (aw_iret rfl dX7_back_48))))))
  · replace hf := (if_pos g1).symm.trans hf
    cases hf
    exact aw_bipush ((-2) : Int32) dX7_back_7 kb_m2 (aw_iret rfl dX7_back_9)
def f_X7_count_4 (F : Nat) (x1 : Int32) : Nat → Int32 → Int32 → HP → Option (Int32 × HP)
  | 0, _, _, _ => none
  | n + 1, x2, x3, h =>
    if (h 40 1) ≤ x3 then
      if x1 = 0 then
        if inb x1 19 then
          some (h 40 (ix x1), h)
        else none
      else if x1 = 1 then
        if inb x1 19 then
          some (h 40 (ix x1), h)
        else none
      else if x1 = 2 then
        if inb x1 19 then
          some (h 40 (ix x1), h)
        else none
      else if x1 = 3 then
        some (x2, h)
      else if x1 = 4 then
        some (h 43 1, h)
      else if x1 = 5 then
        some (h 43 0, h)
      else if x1 = 6 then
        some (h 39 13, h)
      else if x1 = 7 then
        some (h 39 6, h)
      else if x1 = 8 then
        some (h 39 8, h)
      else if x1 = 9 then
        some (h 39 10, h)
      else 
        some ((-1), h)
    else
      if inb (2 + x3) 66 then
        ob (f_X7_bits F (h 43 (ix (2 + x3))) h) (fun v18 h16 =>
        f_X7_count_4 F x1 n (x2 + v18) (x3 + 1) h16)
      else none
set_option maxHeartbeats 4000000 in
set_option maxRecDepth 100000 in
theorem ct_X7_count_4 {E : EV} (hE : EI E) (hN : 56 ≤ eN E) (F : Nat) {tw : TW} {x1 : Int32} {v : Int32} {h' : HP} : ∀ (n : Nat) (x2 : Int32) (x3 : Int32) (h : HP), f_X7_count_4 F x1 n x2 x3 h = some (v, h') → AW E mX7_count (KM E mX7_count (some (.int v)) tw h') tw h 4 [some (.ref 39), some (.int x1), some (.int x2), some (.int x3)] [] := by
  intro n
  induction n with
  | zero => intro x2 x3 h hf; exact absurd (show (none : Option (Int32 × HP)) = some _ from hf) (fun z => nomatch z)
  | succ n ih =>
    intro x2 x3 h hf
    rw [f_X7_count_4] at hf
    refine aw_iload_n dX7_count_4 rfl (aw_aload_n dX7_count_5 rfl (aw_getr fkX7_7 (nl hN rfl) kd_39 (Nat.le_of_ble_eq_true rfl) rfl dX7_count_6 (aw_iconst (1 : Int32) dX7_count_9 ki_1 (aw_ialdk (j := 1) cx_1 (nl hN rfl) kd_40 ib_1_19 dX7_count_10 ?_))))
    refine aw_icmp_ge 34 dX7_count_11 rfl (fun g1 => ?_) (fun g1 => ?_)
    · replace hf := (if_pos g1).symm.trans hf
      refine aw_iload_n dX7_count_34 rfl ?_
      by_cases g2 : x1 = 0
      · replace hf := (if_pos g2).symm.trans hf
        refine aw_tableIn (off := 53) 88 dX7_count_35 (by rw [g2]; decide) (by rw [g2]; decide) (by rw [g2]; decide) rfl ?_
        refine aw_aload_n dX7_count_88 rfl (aw_getr fkX7_7 (nl hN rfl) kd_39 (Nat.le_of_ble_eq_true rfl) rfl dX7_count_89 (aw_iload_n dX7_count_92 rfl ?_))
        obtain ⟨g3, hf⟩ := ogd hf
        cases hf
        exact aw_iald (nl hN rfl) kd_40 g3 dX7_count_93 (aw_iret rfl dX7_count_94)
      · replace hf := (if_neg g2).symm.trans hf
        by_cases g4 : x1 = 1
        · replace hf := (if_pos g4).symm.trans hf
          refine aw_tableIn (off := 53) 88 dX7_count_35 (by rw [g4]; decide) (by rw [g4]; decide) (by rw [g4]; decide) rfl ?_
          refine aw_aload_n dX7_count_88 rfl (aw_getr fkX7_7 (nl hN rfl) kd_39 (Nat.le_of_ble_eq_true rfl) rfl dX7_count_89 (aw_iload_n dX7_count_92 rfl ?_))
          obtain ⟨g5, hf⟩ := ogd hf
          cases hf
          exact aw_iald (nl hN rfl) kd_40 g5 dX7_count_93 (aw_iret rfl dX7_count_94)
        · replace hf := (if_neg g4).symm.trans hf
          by_cases g6 : x1 = 2
          · replace hf := (if_pos g6).symm.trans hf
            refine aw_tableIn (off := 53) 88 dX7_count_35 (by rw [g6]; decide) (by rw [g6]; decide) (by rw [g6]; decide) rfl ?_
            refine aw_aload_n dX7_count_88 rfl (aw_getr fkX7_7 (nl hN rfl) kd_39 (Nat.le_of_ble_eq_true rfl) rfl dX7_count_89 (aw_iload_n dX7_count_92 rfl ?_))
            obtain ⟨g7, hf⟩ := ogd hf
            cases hf
            exact aw_iald (nl hN rfl) kd_40 g7 dX7_count_93 (aw_iret rfl dX7_count_94)
          · replace hf := (if_neg g6).symm.trans hf
            by_cases g8 : x1 = 3
            · replace hf := (if_pos g8).symm.trans hf
              refine aw_tableIn (off := 60) 95 dX7_count_35 (by rw [g8]; decide) (by rw [g8]; decide) (by rw [g8]; decide) rfl ?_
              cases hf
              exact aw_iload_n dX7_count_95 rfl (aw_iret rfl dX7_count_96)
            · replace hf := (if_neg g8).symm.trans hf
              by_cases g9 : x1 = 4
              · replace hf := (if_pos g9).symm.trans hf
                refine aw_tableIn (off := 62) 97 dX7_count_35 (by rw [g9]; decide) (by rw [g9]; decide) (by rw [g9]; decide) rfl ?_
                cases hf
                exact aw_aload_n dX7_count_97 rfl (aw_getr fkX7_19 (nl hN rfl) kd_39 (Nat.le_of_ble_eq_true rfl) rfl dX7_count_98 (aw_iconst (1 : Int32) dX7_count_101 ki_1 (aw_ialdk (j := 1) cx_1 (nl hN rfl) kd_43 ib_1_66 dX7_count_102 (aw_iret rfl dX7_count_103))))
              · replace hf := (if_neg g9).symm.trans hf
                by_cases g10 : x1 = 5
                · replace hf := (if_pos g10).symm.trans hf
                  refine aw_tableIn (off := 69) 104 dX7_count_35 (by rw [g10]; decide) (by rw [g10]; decide) (by rw [g10]; decide) rfl ?_
                  cases hf
                  exact aw_aload_n dX7_count_104 rfl (aw_getr fkX7_19 (nl hN rfl) kd_39 (Nat.le_of_ble_eq_true rfl) rfl dX7_count_105 (aw_iconst (0 : Int32) dX7_count_108 ki_0 (aw_ialdk (j := 0) cx_0 (nl hN rfl) kd_43 ib_0_66 dX7_count_109 (aw_iret rfl dX7_count_110))))
                · replace hf := (if_neg g10).symm.trans hf
                  by_cases g11 : x1 = 6
                  · replace hf := (if_pos g11).symm.trans hf
                    refine aw_tableIn (off := 76) 111 dX7_count_35 (by rw [g11]; decide) (by rw [g11]; decide) (by rw [g11]; decide) rfl ?_
                    cases hf
                    exact aw_aload_n dX7_count_111 rfl (aw_geti fkX7_140 (nl hN rfl) kd_39 (Nat.le_of_ble_eq_true rfl) rfl dX7_count_112 (aw_iret rfl dX7_count_115))
                  · replace hf := (if_neg g11).symm.trans hf
                    by_cases g12 : x1 = 7
                    · replace hf := (if_pos g12).symm.trans hf
                      refine aw_tableIn (off := 81) 116 dX7_count_35 (by rw [g12]; decide) (by rw [g12]; decide) (by rw [g12]; decide) rfl ?_
                      cases hf
                      exact aw_aload_n dX7_count_116 rfl (aw_geti fkX7_143 (nl hN rfl) kd_39 (Nat.le_of_ble_eq_true rfl) rfl dX7_count_117 (aw_iret rfl dX7_count_120))
                    · replace hf := (if_neg g12).symm.trans hf
                      by_cases g13 : x1 = 8
                      · replace hf := (if_pos g13).symm.trans hf
                        refine aw_tableIn (off := 86) 121 dX7_count_35 (by rw [g13]; decide) (by rw [g13]; decide) (by rw [g13]; decide) rfl ?_
                        cases hf
                        exact aw_aload_n dX7_count_121 rfl (aw_geti fkX7_146 (nl hN rfl) kd_39 (Nat.le_of_ble_eq_true rfl) rfl dX7_count_122 (aw_iret rfl dX7_count_125))
                      · replace hf := (if_neg g13).symm.trans hf
                        by_cases g14 : x1 = 9
                        · replace hf := (if_pos g14).symm.trans hf
                          refine aw_tableIn (off := 91) 126 dX7_count_35 (by rw [g14]; decide) (by rw [g14]; decide) (by rw [g14]; decide) rfl ?_
                          cases hf
                          exact aw_aload_n dX7_count_126 rfl (aw_geti fkX7_81 (nl hN rfl) kd_39 (Nat.le_of_ble_eq_true rfl) rfl dX7_count_127 (aw_iret rfl dX7_count_130))
                        · replace hf := (if_neg g14).symm.trans hf
                          refine aw_tableOut 131 dX7_count_35 (tbl_out 9 [(0 : Int32), (1 : Int32), (2 : Int32), (3 : Int32), (4 : Int32), (5 : Int32), (6 : Int32), (7 : Int32), (8 : Int32), (9 : Int32)] (by rfl) (by intro k hk; simp only [List.mem_cons, List.not_mem_nil, or_false] at hk; rcases hk with rfl | rfl | rfl | rfl | rfl | rfl | rfl | rfl | rfl | rfl <;> assumption)) rfl ?_
                          cases hf
                          exact aw_iconst ((-1) : Int32) dX7_count_131 ki_m1 (aw_iret rfl dX7_count_132)
    · replace hf := (if_neg g1).symm.trans hf
      refine aw_iload_n dX7_count_14 rfl (aw_aload_n dX7_count_15 rfl (aw_getr fkX7_19 (nl hN rfl) kd_39 (Nat.le_of_ble_eq_true rfl) rfl dX7_count_16 (aw_iconst (2 : Int32) dX7_count_19 ki_2 (aw_iload_n dX7_count_20 rfl (aw_iadd dX7_count_21 ?_)))))
      obtain ⟨g15, hf⟩ := ogd hf
      refine aw_iald (nl hN rfl) kd_43 g15 dX7_count_22 ?_
      obtain ⟨v18, h16, c17, hf⟩ := ob_some hf
      refine aw_callSi (N := mX7_bits) (As := [.int (h 43 (ix (2 + x3)))]) lkX7_114 okX7_bits (by rfl) (by rfl) (Nat.le_of_ble_eq_true rfl) ry_X7_count_X7_bits dX7_count_23 (And.intro (Nat.le_refl _) (Nat.le_refl _)) (ct_X7_bits hE hN F c17) (aw_iadd dX7_count_26 (aw_istore_n dX7_count_27 (Nat.le_of_ble_eq_true rfl) (aw_iinc (1 : Int32) dX7_count_28 rfl (Nat.le_of_ble_eq_true rfl) ki_1 (aw_goto 4 dX7_count_31 rfl ?_))))
      exact aw_dk (ih _ _ _ hf) (And.intro rfl (And.intro rfl (And.intro rfl (And.intro rfl trivial))))
def f_X7_count (F : Nat) (x1 : Int32) (h : HP) : Option (Int32 × HP) :=
  f_X7_count_4 F x1 F 0 0 h
set_option maxHeartbeats 4000000 in
set_option maxRecDepth 100000 in
theorem ct_X7_count {E : EV} (hE : EI E) (hN : 56 ≤ eN E) (F : Nat) {tw : TW} {x1 : Int32} {h : HP} {v : Int32} {h' : HP} (hf : f_X7_count F x1 h = some (v, h')) : CT E mX7_count tw h [.ref 39, .int x1] (some (.int v)) tw h' := by
  refine CT.of hE (show plainFor yX7_count = true by decide +kernel) (Nat.le_of_ble_eq_true rfl) 2 ?_
  show AW E mX7_count (KM E mX7_count (some (.int v)) tw h') tw h 0 [some (.ref 39), some (.int x1), none, none] []
  unfold f_X7_count at hf
  refine aw_iconst (0 : Int32) dX7_count_0 ki_0 (aw_istore_n dX7_count_1 (Nat.le_of_ble_eq_true rfl) (aw_iconst (0 : Int32) dX7_count_2 ki_0 (aw_istore_n dX7_count_3 (Nat.le_of_ble_eq_true rfl) ?_)))
  exact aw_dk (ct_X7_count_4 hE hN F F _ _ _ hf) (And.intro rfl (And.intro rfl (And.intro rfl (And.intro rfl trivial))))
