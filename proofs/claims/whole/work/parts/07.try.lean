def f_X0_strike_7 (F : Nat) (r0 : Nat) (x1 : Int32) (r2 : Nat) : Nat → Int32 → Int32 → HP → Option (Int32 × HP)
  | 0, _, _, _ => none
  | n + 1, x3, x4, h =>
    if inb x1 8 then
      if (x3 + (h (r2 + 2) (ix x1))) ≤ x4 then
        some (0, h)
      else
        if inb x4 16 then
          if (h r0 5) < (h (r0 + 2) (ix x4)) then
            f_X0_strike_7 F r0 x1 r2 n x3 (x4 + 1) h
          else
            some (1, up h (r0 + 2) (ix x4) (((h r0 5) + (h r2 5)) + 1))
        else none
    else none
set_option maxHeartbeats 4000000 in
set_option maxRecDepth 100000 in
theorem ct_X0_strike_7 {E : EV} (hE : EI E) (hN : 39 ≤ eN E) (F : Nat) {tw : TW} {r0 : Nat} (q0 : DR r0) {x1 : Int32} {r2 : Nat} (q2 : TO r2) {v : Int32} {h' : HP} : ∀ (n : Nat) (x3 : Int32) (x4 : Int32) (h : HP), f_X0_strike_7 F r0 x1 r2 n x3 x4 h = some (v, h') → AW E mX0_strike (KM E mX0_strike (some (.int v)) tw h') tw h 7 [some (.ref r0), some (.int x1), some (.ref r2), some (.int x3), some (.int x4)] [] := by
  intro n
  induction n with
  | zero => intro x3 x4 h hf; exact absurd (show (none : Option (Int32 × HP)) = some _ from hf) (fun z => nomatch z)
  | succ n ih =>
    intro x3 x4 h hf
    rw [f_X0_strike_7] at hf
    refine aw_iload dX0_strike_7 rfl (aw_iload_n dX0_strike_9 rfl (aw_aload_n dX0_strike_10 rfl (aw_getr fkX0_65 (TO.n q2 hN) (TO.k q2) (Nat.le_of_ble_eq_true rfl) rfl dX0_strike_11 (aw_iload_n dX0_strike_14 rfl ?_))))
    obtain ⟨g1, hf⟩ := ogd hf
    refine aw_iald (TO.n2 q2 hN) (TO.k2 q2) g1 dX0_strike_15 (aw_iadd dX0_strike_16 ?_)
    refine aw_icmp_ge 60 dX0_strike_17 rfl (fun g2 => ?_) (fun g2 => ?_)
    · replace hf := (if_pos g2).symm.trans hf
      cases hf
      exact aw_iconst (0 : Int32) dX0_strike_60 ki_0 (aw_zret rfl (Or.inl rfl) dX0_strike_61)
    · replace hf := (if_neg g2).symm.trans hf
      refine aw_aload_n dX0_strike_20 rfl (aw_getr fkX0_15 (DR.n q0 hN) (DR.k q0) (Nat.le_of_ble_eq_true rfl) rfl dX0_strike_21 (aw_iload dX0_strike_24 rfl ?_))
      obtain ⟨g3, hf⟩ := ogd hf
      refine aw_iald (DR.n2 q0 hN) (DR.k2 q0) g3 dX0_strike_26 (aw_aload_n dX0_strike_27 rfl (aw_geti fkX0_51 (DR.n q0 hN) (DR.k q0) (Nat.le_of_ble_eq_true rfl) rfl dX0_strike_28 ?_))
      refine aw_icmp_gt 54 dX0_strike_31 rfl (fun g4 => ?_) (fun g4 => ?_)
      · replace hf := (if_pos g4).symm.trans hf
        refine aw_iinc (1 : Int32) dX0_strike_54 rfl (Nat.le_of_ble_eq_true rfl) ki_1 (aw_goto 7 dX0_strike_57 rfl ?_)
        exact aw_dk (ih _ _ _ hf) (And.intro rfl (And.intro rfl (And.intro rfl (And.intro rfl (And.intro rfl trivial)))))
      · replace hf := (if_neg g4).symm.trans hf
        cases hf
        refine aw_aload_n dX0_strike_34 rfl (aw_getr fkX0_15 (DR.n q0 hN) (DR.k q0) (Nat.le_of_ble_eq_true rfl) rfl dX0_strike_35 (aw_iload dX0_strike_38 rfl (aw_aload_n dX0_strike_40 rfl (aw_geti fkX0_51 (DR.n q0 hN) (DR.k q0) (Nat.le_of_ble_eq_true rfl) rfl dX0_strike_41 (aw_aload_n dX0_strike_44 rfl (aw_geti fkX0_68 (TO.n q2 hN) (TO.k q2) (Nat.le_of_ble_eq_true rfl) rfl dX0_strike_45 (aw_iadd dX0_strike_48 (aw_iconst (1 : Int32) dX0_strike_49 ki_1 (aw_iadd dX0_strike_50 (aw_iast (DR.n2 q0 hN) (DR.k2 q0) g3 dX0_strike_51 (aw_iconst (1 : Int32) dX0_strike_52 ki_1 ?_)))))))))))
        exact aw_zret rfl (Or.inr rfl) dX0_strike_53
def f_X0_strike (F : Nat) (r0 : Nat) (x1 : Int32) (r2 : Nat) (h : HP) : Option (Int32 × HP) :=
  f_X0_strike_7 F r0 x1 r2 F (x1 * 2) (x1 * 2) h
set_option maxHeartbeats 4000000 in
set_option maxRecDepth 100000 in
theorem ct_X0_strike {E : EV} (hE : EI E) (hN : 39 ≤ eN E) (F : Nat) {tw : TW} {r0 : Nat} (q0 : DR r0) {x1 : Int32} {r2 : Nat} (q2 : TO r2) {h : HP} {v : Int32} {h' : HP} (hf : f_X0_strike F r0 x1 r2 h = some (v, h')) : CT E mX0_strike tw h [.ref r0, .int x1, .ref r2] (some (.int v)) tw h' := by
  refine CT.of hE (by decide) (Nat.le_of_ble_eq_true rfl) 2 ?_
  show AW E mX0_strike (KM E mX0_strike (some (.int v)) tw h') tw h 0 [some (.ref r0), some (.int x1), some (.ref r2), none, none] []
  unfold f_X0_strike at hf
  refine aw_iload_n dX0_strike_0 rfl (aw_iconst (2 : Int32) dX0_strike_1 ki_2 (aw_imul dX0_strike_2 (aw_istore_n dX0_strike_3 (Nat.le_of_ble_eq_true rfl) (aw_iload_n dX0_strike_4 rfl (aw_istore dX0_strike_5 (Nat.le_of_ble_eq_true rfl) ?_)))))
  exact aw_dk (ct_X0_strike_7 hE hN F q0 q2 F _ _ _ hf) (And.intro rfl (And.intro rfl (And.intro rfl (And.intro rfl (And.intro rfl trivial)))))
def f_X0_ringRow_32 (F : Nat) (r0 : Nat) (x1 : Int32) (r2 : Nat) : Nat → Int32 → Int32 → HP → Option (Int32 × HP)
  | 0, _, _, _ => none
  | n + 1, x3, x4, h =>
    if (h r2 0) ≤ x4 then
      some (x3, h)
    else
      if inb x1 32 then
        if ((jshr (h (r0 + 1) (ix x1)) x4) &&& 1) = 0 then
          f_X0_ringRow_32 F r0 x1 r2 n x3 (x4 + 1) h
        else
          ob (f_X0_strike F r0 x4 r2 h) (fun v8 h6 =>
          if v8 = 0 then
            if inb x4 8 then
              f_X0_ringRow_32 F r0 x1 r2 n x3 (x4 + 1) (up h6 (r0 + 4) (ix x4) ((h6 (r0 + 4) (ix x4)) + 1))
            else none
          else
            if inb x4 8 then
              f_X0_ringRow_32 F r0 x1 r2 n (x3 ||| (jshl 1 x4)) (x4 + 1) (up h6 (r0 + 3) (ix x4) ((h6 (r0 + 3) (ix x4)) + 1))
            else none)
      else none
set_option maxHeartbeats 4000000 in
set_option maxRecDepth 100000 in
theorem ct_X0_ringRow_32 {E : EV} (hE : EI E) (hN : 39 ≤ eN E) (F : Nat) {tw : TW} {r0 : Nat} (q0 : DR r0) {x1 : Int32} {r2 : Nat} (q2 : TO r2) {v : Int32} {h' : HP} : ∀ (n : Nat) (x3 : Int32) (x4 : Int32) (h : HP), f_X0_ringRow_32 F r0 x1 r2 n x3 x4 h = some (v, h') → AW E mX0_ringRow (KM E mX0_ringRow (some (.int v)) tw h') tw h 32 [some (.ref r0), some (.int x1), some (.ref r2), some (.int x3), some (.int x4)] [] := by
  intro n
  induction n with
  | zero => intro x3 x4 h hf; exact absurd (show (none : Option (Int32 × HP)) = some _ from hf) (fun z => nomatch z)
  | succ n ih =>
    intro x3 x4 h hf
    rw [f_X0_ringRow_32] at hf
    refine aw_iload dX0_ringRow_32 rfl (aw_aload_n dX0_ringRow_34 rfl (aw_geti fkX0_58 (TO.n q2 hN) (TO.k q2) (Nat.le_of_ble_eq_true rfl) rfl dX0_ringRow_35 ?_))
    refine aw_icmp_ge 106 dX0_ringRow_38 rfl (fun g3 => ?_) (fun g3 => ?_)
    · replace hf := (if_pos g3).symm.trans hf
      cases hf
      exact aw_iload_n dX0_ringRow_106 rfl (aw_iret rfl dX0_ringRow_107)
    · replace hf := (if_neg g3).symm.trans hf
      refine aw_aload_n dX0_ringRow_41 rfl (aw_getr fkX0_9 (DR.n q0 hN) (DR.k q0) (Nat.le_of_ble_eq_true rfl) rfl dX0_ringRow_42 (aw_iload_n dX0_ringRow_45 rfl ?_))
      obtain ⟨g4, hf⟩ := ogd hf
      refine aw_iald (DR.n1 q0 hN) (DR.k1 q0) g4 dX0_ringRow_46 (aw_iload dX0_ringRow_47 rfl (aw_ishr dX0_ringRow_49 (aw_iconst (1 : Int32) dX0_ringRow_50 ki_1 (aw_iand dX0_ringRow_51 ?_))))
      refine aw_if_ne 58 dX0_ringRow_52 rfl (fun g5 => ?_) (fun g5 => ?_)
      · replace hf := (if_neg g5).symm.trans hf
        refine aw_aload_n dX0_ringRow_58 rfl (aw_iload dX0_ringRow_59 rfl (aw_aload_n dX0_ringRow_61 rfl ?_))
        obtain ⟨v8, h6, c7, hf⟩ := ob_some hf
        refine aw_callVi (N := mX0_strike) (As := [.int x4, .ref r2]) lkX0_61 okX0_strike (DR.n q0 hN) (DR.k q0) rfl (by rfl) (by rfl) (Nat.le_of_ble_eq_true rfl) ry_X0_ringRow_X0_strike dX0_ringRow_62 (And.intro (Nat.le_refl _) (Nat.le_refl _)) (ct_X0_strike hE hN F q0 q2 c7) ?_
        refine aw_if_eq 89 dX0_ringRow_65 rfl (fun g9 => ?_) (fun g9 => ?_)
        · replace hf := (if_pos g9).symm.trans hf
          refine aw_aload_n dX0_ringRow_89 rfl (aw_getr fkX0_21 (DR.n q0 hN) (DR.k q0) (Nat.le_of_ble_eq_true rfl) rfl dX0_ringRow_90 (aw_iload dX0_ringRow_93 rfl (aw_dup2 dX0_ringRow_95 rfl rfl ?_)))
          obtain ⟨g10, hf⟩ := ogd hf
          refine aw_iald (DR.n4 q0 hN) (DR.k4 q0) g10 dX0_ringRow_96 (aw_iconst (1 : Int32) dX0_ringRow_97 ki_1 (aw_iadd dX0_ringRow_98 (aw_iast (DR.n4 q0 hN) (DR.k4 q0) g10 dX0_ringRow_99 (aw_iinc (1 : Int32) dX0_ringRow_100 rfl (Nat.le_of_ble_eq_true rfl) ki_1 (aw_goto 32 dX0_ringRow_103 rfl ?_)))))
          exact aw_dk (ih _ _ _ hf) (And.intro rfl (And.intro rfl (And.intro rfl (And.intro rfl (And.intro rfl trivial)))))
        · replace hf := (if_neg g9).symm.trans hf
          refine aw_iload_n dX0_ringRow_68 rfl (aw_iconst (1 : Int32) dX0_ringRow_69 ki_1 (aw_iload dX0_ringRow_70 rfl (aw_ishl dX0_ringRow_72 (aw_ior dX0_ringRow_73 (aw_istore_n dX0_ringRow_74 (Nat.le_of_ble_eq_true rfl) (aw_aload_n dX0_ringRow_75 rfl (aw_getr fkX0_18 (DR.n q0 hN) (DR.k q0) (Nat.le_of_ble_eq_true rfl) rfl dX0_ringRow_76 (aw_iload dX0_ringRow_79 rfl (aw_dup2 dX0_ringRow_81 rfl rfl ?_)))))))))
          obtain ⟨g11, hf⟩ := ogd hf
          refine aw_iald (DR.n3 q0 hN) (DR.k3 q0) g11 dX0_ringRow_82 (aw_iconst (1 : Int32) dX0_ringRow_83 ki_1 (aw_iadd dX0_ringRow_84 (aw_iast (DR.n3 q0 hN) (DR.k3 q0) g11 dX0_ringRow_85 (aw_goto 100 dX0_ringRow_86 rfl (aw_iinc (1 : Int32) dX0_ringRow_100 rfl (Nat.le_of_ble_eq_true rfl) ki_1 (aw_goto 32 dX0_ringRow_103 rfl ?_))))))
          exact aw_dk (ih _ _ _ hf) (And.intro rfl (And.intro rfl (And.intro rfl (And.intro rfl (And.intro rfl trivial)))))
      · replace hf := (if_pos g5).symm.trans hf
        refine aw_goto 100 dX0_ringRow_55 rfl (aw_iinc (1 : Int32) dX0_ringRow_100 rfl (Nat.le_of_ble_eq_true rfl) ki_1 (aw_goto 32 dX0_ringRow_103 rfl ?_))
        exact aw_dk (ih _ _ _ hf) (And.intro rfl (And.intro rfl (And.intro rfl (And.intro rfl (And.intro rfl trivial)))))
def f_X0_ringRow (F : Nat) (r0 : Nat) (x1 : Int32) (r2 : Nat) (h : HP) : Option (Int32 × HP) :=
  if x1 < 0 then
    some (0, h)
  else
    if x1 < 32 then
      f_X0_ringRow_32 F r0 x1 r2 F 0 0 (up (up h r0 4 x1) r0 5 (((up h r0 4 x1) r0 5) + 1))
    else
      some (0, h)
set_option maxHeartbeats 4000000 in
set_option maxRecDepth 100000 in
theorem ct_X0_ringRow {E : EV} (hE : EI E) (hN : 39 ≤ eN E) (F : Nat) {tw : TW} {r0 : Nat} (q0 : DR r0) {x1 : Int32} {r2 : Nat} (q2 : TO r2) {h : HP} {v : Int32} {h' : HP} (hf : f_X0_ringRow F r0 x1 r2 h = some (v, h')) : CT E mX0_ringRow tw h [.ref r0, .int x1, .ref r2] (some (.int v)) tw h' := by
  refine CT.of hE (by decide) (Nat.le_of_ble_eq_true rfl) 2 ?_
  show AW E mX0_ringRow (KM E mX0_ringRow (some (.int v)) tw h') tw h 0 [some (.ref r0), some (.int x1), some (.ref r2), none, none] []
  unfold f_X0_ringRow at hf
  refine aw_iload_n dX0_ringRow_0 rfl ?_
  refine aw_if_lt 10 dX0_ringRow_1 rfl (fun g1 => ?_) (fun g1 => ?_)
  · replace hf := (if_pos g1).symm.trans hf
    cases hf
    exact aw_iconst (0 : Int32) dX0_ringRow_10 ki_0 (aw_iret rfl dX0_ringRow_11)
  · replace hf := (if_neg g1).symm.trans hf
    refine aw_iload_n dX0_ringRow_4 rfl (aw_bipush (32 : Int32) dX0_ringRow_5 kb_32 ?_)
    refine aw_icmp_lt 12 dX0_ringRow_7 rfl (fun g2 => ?_) (fun g2 => ?_)
    · replace hf := (if_pos g2).symm.trans hf
      refine aw_aload_n dX0_ringRow_12 rfl (aw_iload_n dX0_ringRow_13 rfl (aw_puti fkX0_48 fw_0_4 (DR.n q0 hN) (DR.k q0) (Nat.le_of_ble_eq_true rfl) rfl dX0_ringRow_14 (aw_aload_n dX0_ringRow_17 rfl (aw_dup dX0_ringRow_18 rfl (aw_geti fkX0_51 (DR.n q0 hN) (DR.k q0) (Nat.le_of_ble_eq_true rfl) rfl dX0_ringRow_19 (aw_iconst (1 : Int32) dX0_ringRow_22 ki_1 (aw_iadd dX0_ringRow_23 (aw_puti fkX0_51 fw_0_5 (DR.n q0 hN) (DR.k q0) (Nat.le_of_ble_eq_true rfl) rfl dX0_ringRow_24 (aw_iconst (0 : Int32) dX0_ringRow_27 ki_0 (aw_istore_n dX0_ringRow_28 (Nat.le_of_ble_eq_true rfl) (aw_iconst (0 : Int32) dX0_ringRow_29 ki_0 ?_)))))))))))
      refine aw_istore dX0_ringRow_30 (Nat.le_of_ble_eq_true rfl) ?_
      exact aw_dk (ct_X0_ringRow_32 hE hN F q0 q2 F _ _ _ hf) (And.intro rfl (And.intro rfl (And.intro rfl (And.intro rfl (And.intro rfl trivial)))))
    · replace hf := (if_neg g2).symm.trans hf
      cases hf
      exact aw_iconst (0 : Int32) dX0_ringRow_10 ki_0 (aw_iret rfl dX0_ringRow_11)
def f_X0_turnOn (F : Nat) (r0 : Nat) (r1 : Nat) (h : HP) : Option (Int32 × HP) :=
  ob (f_X0_ringRow F r0 (if (h r0 4) < ((h r1 4) - 1) then (h r0 4) + 1 else 0) r1 h) (fun v3 h1 =>
  some (v3, h1))
set_option maxHeartbeats 4000000 in
set_option maxRecDepth 100000 in
theorem ct_X0_turnOn {E : EV} (hE : EI E) (hN : 39 ≤ eN E) (F : Nat) {tw : TW} {r0 : Nat} (q0 : DR r0) {r1 : Nat} (q1 : TO r1) {h : HP} {v : Int32} {h' : HP} (hf : f_X0_turnOn F r0 r1 h = some (v, h')) : CT E mX0_turnOn tw h [.ref r0, .ref r1] (some (.int v)) tw h' := by
  refine CT.of hE (by decide) (Nat.le_of_ble_eq_true rfl) 0 ?_
  show AW E mX0_turnOn (KM E mX0_turnOn (some (.int v)) tw h') tw h 0 [some (.ref r0), some (.ref r1)] []
  unfold f_X0_turnOn at hf
  have key4 : AW E mX0_turnOn (KM E mX0_turnOn (some (.int v)) tw h') tw h 24 [some (.ref r0), some (.ref r1)] [.int (if (h r0 4) < ((h r1 4) - 1) then (h r0 4) + 1 else 0), .ref r0] := by
    refine aw_aload_n dX0_turnOn_24 rfl ?_
    obtain ⟨v3, h1, c2, hf⟩ := ob_some hf
    cases hf
    exact aw_callVi (N := mX0_ringRow) (As := [.int (if (h r0 4) < ((h r1 4) - 1) then (h r0 4) + 1 else 0), .ref r1]) lkX0_54 okX0_ringRow (DR.n q0 hN) (DR.k q0) rfl (by rfl) (by rfl) (Nat.le_of_ble_eq_true rfl) ry_X0_turnOn_X0_ringRow dX0_turnOn_25 (And.intro (Nat.le_refl _) (Nat.le_refl _)) (ct_X0_ringRow hE hN F q0 q1 c2) (aw_iret rfl dX0_turnOn_28)
  refine aw_aload_n dX0_turnOn_0 rfl (aw_aload_n dX0_turnOn_1 rfl (aw_geti fkX0_48 (DR.n q0 hN) (DR.k q0) (Nat.le_of_ble_eq_true rfl) rfl dX0_turnOn_2 (aw_aload_n dX0_turnOn_5 rfl (aw_geti fkX0_45 (TO.n q1 hN) (TO.k q1) (Nat.le_of_ble_eq_true rfl) rfl dX0_turnOn_6 (aw_iconst (1 : Int32) dX0_turnOn_9 ki_1 (aw_isub dX0_turnOn_10 ?_))))))
  refine aw_icmp_lt 18 dX0_turnOn_11 rfl (fun g5 => ?_) (fun g5 => ?_)
  · skip
    refine aw_aload_n dX0_turnOn_18 rfl (aw_geti fkX0_48 (DR.n q0 hN) (DR.k q0) (Nat.le_of_ble_eq_true rfl) rfl dX0_turnOn_19 (aw_iconst (1 : Int32) dX0_turnOn_22 ki_1 (aw_iadd dX0_turnOn_23 ?_)))
    simp only [if_pos g5] at key4
    exact aw_dk key4 (And.intro rfl (And.intro rfl trivial))
  · skip
    refine aw_iconst (0 : Int32) dX0_turnOn_14 ki_0 (aw_goto 24 dX0_turnOn_15 rfl ?_)
    simp only [if_neg g5] at key4
    exact aw_dk key4 (And.intro rfl (And.intro rfl trivial))
def f_J6_bitCount_0f7a4 (F : Nat) (x0 : Int32) (h : HP) : Option (Int32 × HP) :=
  some ((((((((x0 - ((jushr x0 1) &&& 1431655765)) &&& 858993459) + ((jushr (x0 - ((jushr x0 1) &&& 1431655765)) 2) &&& 858993459)) + (jushr (((x0 - ((jushr x0 1) &&& 1431655765)) &&& 858993459) + ((jushr (x0 - ((jushr x0 1) &&& 1431655765)) 2) &&& 858993459)) 4)) &&& 252645135) + (jushr (((((x0 - ((jushr x0 1) &&& 1431655765)) &&& 858993459) + ((jushr (x0 - ((jushr x0 1) &&& 1431655765)) 2) &&& 858993459)) + (jushr (((x0 - ((jushr x0 1) &&& 1431655765)) &&& 858993459) + ((jushr (x0 - ((jushr x0 1) &&& 1431655765)) 2) &&& 858993459)) 4)) &&& 252645135) 8)) + (jushr ((((((x0 - ((jushr x0 1) &&& 1431655765)) &&& 858993459) + ((jushr (x0 - ((jushr x0 1) &&& 1431655765)) 2) &&& 858993459)) + (jushr (((x0 - ((jushr x0 1) &&& 1431655765)) &&& 858993459) + ((jushr (x0 - ((jushr x0 1) &&& 1431655765)) 2) &&& 858993459)) 4)) &&& 252645135) + (jushr (((((x0 - ((jushr x0 1) &&& 1431655765)) &&& 858993459) + ((jushr (x0 - ((jushr x0 1) &&& 1431655765)) 2) &&& 858993459)) + (jushr (((x0 - ((jushr x0 1) &&& 1431655765)) &&& 858993459) + ((jushr (x0 - ((jushr x0 1) &&& 1431655765)) 2) &&& 858993459)) 4)) &&& 252645135) 8)) 16)) &&& 63, h)
set_option maxHeartbeats 4000000 in
set_option maxRecDepth 100000 in
theorem ct_J6_bitCount_0f7a4 {E : EV} (hE : EI E) {zN : Nat} (hN : zN ≤ eN E) (F : Nat) {tw : TW} {x0 : Int32} {h : HP} {v : Int32} {h' : HP} (hf : f_J6_bitCount_0f7a4 F x0 h = some (v, h')) : CT E mJ6_bitCount_0f7a4 tw h [.int x0] (some (.int v)) tw h' := by
  refine CT.of hE (by decide) (Nat.le_of_ble_eq_true rfl) 0 ?_
  show AW E mJ6_bitCount_0f7a4 (KM E mJ6_bitCount_0f7a4 (some (.int v)) tw h') tw h 0 [some (.int x0)] []
  unfold f_J6_bitCount_0f7a4 at hf
  cases hf
  refine aw_iload_n dJ6_bitCount_0f7a4_0 rfl (aw_iload_n dJ6_bitCount_0f7a4_1 rfl (aw_iconst (1 : Int32) dJ6_bitCount_0f7a4_2 ki_1 (aw_iushr dJ6_bitCount_0f7a4_3 (aw_ldcw kcJ6_265 dJ6_bitCount_0f7a4_4 (aw_iand dJ6_bitCount_0f7a4_7 (aw_isub dJ6_bitCount_0f7a4_8 (aw_istore_n dJ6_bitCount_0f7a4_9 (Nat.le_of_ble_eq_true rfl) (aw_iload_n dJ6_bitCount_0f7a4_10 rfl (aw_ldcw kcJ6_266 dJ6_bitCount_0f7a4_11 (aw_iand dJ6_bitCount_0f7a4_14 (aw_iload_n dJ6_bitCount_0f7a4_15 rfl ?_)))))))))))
  refine aw_iconst (2 : Int32) dJ6_bitCount_0f7a4_16 ki_2 (aw_iushr dJ6_bitCount_0f7a4_17 (aw_ldcw kcJ6_266 dJ6_bitCount_0f7a4_18 (aw_iand dJ6_bitCount_0f7a4_21 (aw_iadd dJ6_bitCount_0f7a4_22 (aw_istore_n dJ6_bitCount_0f7a4_23 (Nat.le_of_ble_eq_true rfl) (aw_iload_n dJ6_bitCount_0f7a4_24 rfl (aw_iload_n dJ6_bitCount_0f7a4_25 rfl (aw_iconst (4 : Int32) dJ6_bitCount_0f7a4_26 ki_4 (aw_iushr dJ6_bitCount_0f7a4_27 (aw_iadd dJ6_bitCount_0f7a4_28 (aw_ldcw kcJ6_267 dJ6_bitCount_0f7a4_29 ?_)))))))))))
  refine aw_iand dJ6_bitCount_0f7a4_32 (aw_istore_n dJ6_bitCount_0f7a4_33 (Nat.le_of_ble_eq_true rfl) (aw_iload_n dJ6_bitCount_0f7a4_34 rfl (aw_iload_n dJ6_bitCount_0f7a4_35 rfl (aw_bipush (8 : Int32) dJ6_bitCount_0f7a4_36 kb_8 (aw_iushr dJ6_bitCount_0f7a4_38 (aw_iadd dJ6_bitCount_0f7a4_39 (aw_istore_n dJ6_bitCount_0f7a4_40 (Nat.le_of_ble_eq_true rfl) (aw_iload_n dJ6_bitCount_0f7a4_41 rfl (aw_iload_n dJ6_bitCount_0f7a4_42 rfl (aw_bipush (16 : Int32) dJ6_bitCount_0f7a4_43 kb_16 (aw_iushr dJ6_bitCount_0f7a4_45 ?_)))))))))))
  refine aw_iadd dJ6_bitCount_0f7a4_46 (aw_istore_n dJ6_bitCount_0f7a4_47 (Nat.le_of_ble_eq_true rfl) (aw_iload_n dJ6_bitCount_0f7a4_48 rfl (aw_bipush (63 : Int32) dJ6_bitCount_0f7a4_49 kb_63 (aw_iand dJ6_bitCount_0f7a4_51 ?_))))
  exact aw_iret rfl dJ6_bitCount_0f7a4_52
