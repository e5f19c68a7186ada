set_option maxHeartbeats 4000000 in
set_option maxRecDepth 100000 in
theorem ct_J7_fill_53178_5 {E : EV} (hE : EI E) {zN : Nat} (hN : zN ≤ eN E) (F : Nat) {tw : TW} {r0 : Nat} (q0 : IA E r0) {x1 : Int32} {h' : HP} : ∀ (n : Nat) (x2 : Int32) (x3 : Int32) (h : HP), f_J7_fill_53178_5 F r0 x1 n x2 x3 h = some h' → AW E mJ7_fill_53178 (KM E mJ7_fill_53178 none tw h') tw h 5 [some (.ref r0), some (.int x1), some (.int x2), some (.int x3)] [] := by
  intro n
  induction n with
  | zero => intro x2 x3 h hf; exact absurd (show (none : Option (HP)) = some _ from hf) (fun z => nomatch z)
  | succ n ih =>
    intro x2 x3 h hf
    rw [f_J7_fill_53178_5] at hf
    refine aw_iload_n dJ7_fill_53178_5 rfl (aw_iload_n dJ7_fill_53178_6 rfl ?_)
    refine aw_icmp_ge 20 dJ7_fill_53178_7 rfl (fun g1 => ?_) (fun g1 => ?_)
    · replace hf := (if_pos g1).symm.trans hf
      cases hf
      exact aw_vret rfl dJ7_fill_53178_20
    · replace hf := (if_neg g1).symm.trans hf
      refine aw_aload_n dJ7_fill_53178_10 rfl (aw_iload_n dJ7_fill_53178_11 rfl (aw_iload_n dJ7_fill_53178_12 rfl ?_))
      obtain ⟨g2, hf⟩ := ogd hf
      refine aw_iast q0.2 q0.1 g2 dJ7_fill_53178_13 (aw_iinc (nI 1) dJ7_fill_53178_14 rfl (Nat.le_of_ble_eq_true rfl) ki_1 (aw_goto 5 dJ7_fill_53178_17 rfl ?_))
      exact aw_dk (ih _ _ _ hf) (And.intro rfl (And.intro rfl (And.intro rfl (And.intro rfl trivial))))
set_option maxHeartbeats 4000000 in
set_option maxRecDepth 100000 in
theorem ct_J7_fill_53178 {E : EV} (hE : EI E) {zN : Nat} (hN : zN ≤ eN E) (F : Nat) {tw : TW} {r0 : Nat} (q0 : IA E r0) {x1 : Int32} {h : HP} {h' : HP} (hf : f_J7_fill_53178 F r0 x1 h = some h') : CT E mJ7_fill_53178 tw h [.ref r0, .int x1] none tw h' := by
  refine CT.of hE (show plainFor yJ7_fill_53178 = true by decide +kernel) (Nat.le_of_ble_eq_true rfl) 2 ?_
  show AW E mJ7_fill_53178 (KM E mJ7_fill_53178 none tw h') tw h 0 [some (.ref r0), some (.int x1), none, none] []
  unfold f_J7_fill_53178 at hf
  refine aw_iconst (nI 0) dJ7_fill_53178_0 ki_0 (aw_istore_n dJ7_fill_53178_1 (Nat.le_of_ble_eq_true rfl) (aw_aload_n dJ7_fill_53178_2 rfl (aw_alen (nI (ln r0)) q0.2 q0.1 (by rfl) dJ7_fill_53178_3 (aw_istore_n dJ7_fill_53178_4 (Nat.le_of_ble_eq_true rfl) ?_))))
  exact aw_dk (ct_J7_fill_53178_5 hE hN F q0 F _ _ _ hf) (And.intro rfl (And.intro rfl (And.intro rfl (And.intro rfl trivial))))
set_option maxHeartbeats 4000000 in
set_option maxRecDepth 100000 in
theorem ct_X0_startWith {E : EV} (hE : EI E) (hN : 39 ≤ eN E) (F : Nat) {tw : TW} {r0 : Nat} (q0 : DR r0) {r1 : Nat} (q1 : TO r1) {h : HP} {h' : HP} (hf : f_X0_startWith F r0 r1 h = some h') : CT E mX0_startWith tw h [.ref r0, .ref r1] none tw h' := by
  refine CT.of hE (show plainFor yX0_startWith = true by decide +kernel) (Nat.le_of_ble_eq_true rfl) 0 ?_
  show AW E mX0_startWith (KM E mX0_startWith none tw h') tw h 0 [some (.ref r0), some (.ref r1)] []
  unfold f_X0_startWith at hf
  refine aw_aload_n dX0_startWith_0 rfl (aw_getr fkX0_9 (DR.n q0 hN) (DR.k q0) (Nat.le_of_ble_eq_true rfl) rfl dX0_startWith_1 (aw_iconst (nI 0) dX0_startWith_4 ki_0 ?_))
  obtain ⟨h1, c2, hf⟩ := obv_some hf
  refine aw_callSv (N := mJ7_fill_53178) (As := [.ref (r0 + 1), .int (nI 0)]) lkX0_24 okJ7_fill_53178 (by rfl) (by rfl) (Nat.le_of_ble_eq_true rfl) ry_X0_startWith_J7_fill_53178 dX0_startWith_5 (And.intro (Nat.le_refl _) (Nat.le_refl _)) (ct_J7_fill_53178 hE hN F (IA.of (DR.k1 q0) (DR.n1 q0 hN)) c2) (aw_aload_n dX0_startWith_8 rfl (aw_getr fkX0_30 (TO.n q1 hN) (TO.k q1) (Nat.le_of_ble_eq_true rfl) rfl dX0_startWith_9 (aw_iconst (nI 0) dX0_startWith_12 ki_0 (aw_aload_n dX0_startWith_13 rfl (aw_getr fkX0_9 (DR.n q0 hN) (DR.k q0) (Nat.le_of_ble_eq_true rfl) rfl dX0_startWith_14 (aw_iconst (nI 0) dX0_startWith_17 ki_0 (aw_aload_n dX0_startWith_18 rfl (aw_geti fkX0_35 (TO.n q1 hN) (TO.k q1) (Nat.le_of_ble_eq_true rfl) rfl dX0_startWith_19 ?_))))))))
  obtain ⟨g3, hf⟩ := ogd hf
  refine aw_copy (TO.n4 q1 hN) (TO.k4 q1) (DR.n1 q0 hN) (DR.k1 q0) g3 lkX0_39 ac_n ac_s ac_i (And.intro (Nat.le_of_ble_eq_true rfl) (Nat.le_of_ble_eq_true rfl)) dX0_startWith_22 (aw_aload_n dX0_startWith_25 rfl (aw_getr fkX0_15 (DR.n q0 hN) (DR.k q0) (Nat.le_of_ble_eq_true rfl) rfl dX0_startWith_26 (aw_iconst (nI 0) dX0_startWith_29 ki_0 ?_)))
  obtain ⟨h4, c5, hf⟩ := obv_some hf
  refine aw_callSv (N := mJ7_fill_53178) (As := [.ref (r0 + 2), .int (nI 0)]) lkX0_24 okJ7_fill_53178 (by rfl) (by rfl) (Nat.le_of_ble_eq_true rfl) ry_X0_startWith_J7_fill_53178 dX0_startWith_30 (And.intro (Nat.le_refl _) (Nat.le_refl _)) (ct_J7_fill_53178 hE hN F (IA.of (DR.k2 q0) (DR.n2 q0 hN)) c5) (aw_aload_n dX0_startWith_33 rfl (aw_getr fkX0_18 (DR.n q0 hN) (DR.k q0) (Nat.le_of_ble_eq_true rfl) rfl dX0_startWith_34 (aw_iconst (nI 0) dX0_startWith_37 ki_0 ?_)))
  obtain ⟨h6, c7, hf⟩ := obv_some hf
  refine aw_callSv (N := mJ7_fill_53178) (As := [.ref (r0 + 3), .int (nI 0)]) lkX0_24 okJ7_fill_53178 (by rfl) (by rfl) (Nat.le_of_ble_eq_true rfl) ry_X0_startWith_J7_fill_53178 dX0_startWith_38 (And.intro (Nat.le_refl _) (Nat.le_refl _)) (ct_J7_fill_53178 hE hN F (IA.of (DR.k3 q0) (DR.n3 q0 hN)) c7) (aw_aload_n dX0_startWith_41 rfl (aw_getr fkX0_21 (DR.n q0 hN) (DR.k q0) (Nat.le_of_ble_eq_true rfl) rfl dX0_startWith_42 (aw_iconst (nI 0) dX0_startWith_45 ki_0 ?_)))
  obtain ⟨h8, c9, hf⟩ := obv_some hf
  cases hf
  exact aw_callSv (N := mJ7_fill_53178) (As := [.ref (r0 + 4), .int (nI 0)]) lkX0_24 okJ7_fill_53178 (by rfl) (by rfl) (Nat.le_of_ble_eq_true rfl) ry_X0_startWith_J7_fill_53178 dX0_startWith_46 (And.intro (Nat.le_refl _) (Nat.le_refl _)) (ct_J7_fill_53178 hE hN F (IA.of (DR.k4 q0) (DR.n4 q0 hN)) c9) (aw_aload_n dX0_startWith_49 rfl (aw_aload_n dX0_startWith_50 rfl (aw_geti fkX0_45 (TO.n q1 hN) (TO.k q1) (Nat.le_of_ble_eq_true rfl) rfl dX0_startWith_51 (aw_puti fkX0_48 fw_0_4 (DR.n q0 hN) (DR.k q0) (Nat.le_of_ble_eq_true rfl) rfl dX0_startWith_54 (aw_aload_n dX0_startWith_57 rfl (aw_iconst (nI 0) dX0_startWith_58 ki_0 (aw_puti fkX0_51 fw_0_5 (DR.n q0 hN) (DR.k q0) (Nat.le_of_ble_eq_true rfl) rfl dX0_startWith_59 (aw_vret rfl dX0_startWith_62))))))))
set_option maxHeartbeats 4000000 in
set_option maxRecDepth 100000 in
theorem ct_X0_strike_7 {E : EV} (hE : EI E) (hN : 39 ≤ eN E) (F : Nat) {tw : TW} {r0 : Nat} (q0 : DR r0) {x1 : Int32} {r2 : Nat} (q2 : TO r2) {v : Int32} {h' : HP} : ∀ (n : Nat) (x3 : Int32) (x4 : Int32) (h : HP), f_X0_strike_7 F r0 x1 r2 n x3 x4 h = some (v, h') → AW E mX0_strike (KM E mX0_strike (some (.int v)) tw h') tw h 7 [some (.ref r0), some (.int x1), some (.ref r2), some (.int x3), some (.int x4)] [] := by
  intro n
  induction n with
  | zero => intro x3 x4 h hf; exact absurd (show (none : Option (Int32 × HP)) = some _ from hf) (fun z => nomatch z)
  | succ n ih =>
    intro x3 x4 h hf
    rw [f_X0_strike_7] at hf
    refine aw_iload dX0_strike_7 rfl (aw_iload_n dX0_strike_9 rfl (aw_aload_n dX0_strike_10 rfl (aw_getr fkX0_65 (TO.n q2 hN) (TO.k q2) (Nat.le_of_ble_eq_true rfl) rfl dX0_strike_11 (aw_iload_n dX0_strike_14 rfl ?_))))
    obtain ⟨g1, hf⟩ := ogd hf
    refine aw_iald (TO.n2 q2 hN) (TO.k2 q2) g1 dX0_strike_15 (aw_iadd dX0_strike_16 ?_)
    refine aw_icmp_ge 60 dX0_strike_17 rfl (fun g2 => ?_) (fun g2 => ?_)
    · replace hf := (if_pos g2).symm.trans hf
      cases hf
      exact aw_iconst (nI 0) dX0_strike_60 ki_0 (aw_zret rfl (Or.inl rfl) dX0_strike_61)
    · replace hf := (if_neg g2).symm.trans hf
      refine aw_aload_n dX0_strike_20 rfl (aw_getr fkX0_15 (DR.n q0 hN) (DR.k q0) (Nat.le_of_ble_eq_true rfl) rfl dX0_strike_21 (aw_iload dX0_strike_24 rfl ?_))
      obtain ⟨g3, hf⟩ := ogd hf
      refine aw_iald (DR.n2 q0 hN) (DR.k2 q0) g3 dX0_strike_26 (aw_aload_n dX0_strike_27 rfl (aw_geti fkX0_51 (DR.n q0 hN) (DR.k q0) (Nat.le_of_ble_eq_true rfl) rfl dX0_strike_28 ?_))
      refine aw_icmp_gt 54 dX0_strike_31 rfl (fun g4 => ?_) (fun g4 => ?_)
      · replace hf := (if_pos g4).symm.trans hf
        refine aw_iinc (nI 1) dX0_strike_54 rfl (Nat.le_of_ble_eq_true rfl) ki_1 (aw_goto 7 dX0_strike_57 rfl ?_)
        exact aw_dk (ih _ _ _ hf) (And.intro rfl (And.intro rfl (And.intro rfl (And.intro rfl (And.intro rfl trivial)))))
      · replace hf := (if_neg g4).symm.trans hf
        cases hf
        refine aw_aload_n dX0_strike_34 rfl (aw_getr fkX0_15 (DR.n q0 hN) (DR.k q0) (Nat.le_of_ble_eq_true rfl) rfl dX0_strike_35 (aw_iload dX0_strike_38 rfl (aw_aload_n dX0_strike_40 rfl (aw_geti fkX0_51 (DR.n q0 hN) (DR.k q0) (Nat.le_of_ble_eq_true rfl) rfl dX0_strike_41 (aw_aload_n dX0_strike_44 rfl (aw_geti fkX0_68 (TO.n q2 hN) (TO.k q2) (Nat.le_of_ble_eq_true rfl) rfl dX0_strike_45 (aw_iadd dX0_strike_48 (aw_iconst (nI 1) dX0_strike_49 ki_1 (aw_iadd dX0_strike_50 (aw_iast (DR.n2 q0 hN) (DR.k2 q0) g3 dX0_strike_51 (aw_iconst (nI 1) dX0_strike_52 ki_1 ?_)))))))))))
        exact aw_zret rfl (Or.inr rfl) dX0_strike_53
set_option maxHeartbeats 4000000 in
set_option maxRecDepth 100000 in
theorem ct_X0_strike {E : EV} (hE : EI E) (hN : 39 ≤ eN E) (F : Nat) {tw : TW} {r0 : Nat} (q0 : DR r0) {x1 : Int32} {r2 : Nat} (q2 : TO r2) {h : HP} {v : Int32} {h' : HP} (hf : f_X0_strike F r0 x1 r2 h = some (v, h')) : CT E mX0_strike tw h [.ref r0, .int x1, .ref r2] (some (.int v)) tw h' := by
  refine CT.of hE (show plainFor yX0_strike = true by decide +kernel) (Nat.le_of_ble_eq_true rfl) 2 ?_
  show AW E mX0_strike (KM E mX0_strike (some (.int v)) tw h') tw h 0 [some (.ref r0), some (.int x1), some (.ref r2), none, none] []
  unfold f_X0_strike at hf
  refine aw_iload_n dX0_strike_0 rfl (aw_iconst (nI 2) dX0_strike_1 ki_2 (aw_imul dX0_strike_2 (aw_istore_n dX0_strike_3 (Nat.le_of_ble_eq_true rfl) (aw_iload_n dX0_strike_4 rfl (aw_istore dX0_strike_5 (Nat.le_of_ble_eq_true rfl) ?_)))))
  exact aw_dk (ct_X0_strike_7 hE hN F q0 q2 F _ _ _ hf) (And.intro rfl (And.intro rfl (And.intro rfl (And.intro rfl (And.intro rfl trivial)))))
set_option maxHeartbeats 4000000 in
set_option maxRecDepth 100000 in
theorem ct_X0_ringRow_32 {E : EV} (hE : EI E) (hN : 39 ≤ eN E) (F : Nat) {tw : TW} {r0 : Nat} (q0 : DR r0) {x1 : Int32} {r2 : Nat} (q2 : TO r2) {v : Int32} {h' : HP} : ∀ (n : Nat) (x3 : Int32) (x4 : Int32) (h : HP), f_X0_ringRow_32 F r0 x1 r2 n x3 x4 h = some (v, h') → AW E mX0_ringRow (KM E mX0_ringRow (some (.int v)) tw h') tw h 32 [some (.ref r0), some (.int x1), some (.ref r2), some (.int x3), some (.int x4)] [] := by
  intro n
  induction n with
  | zero => intro x3 x4 h hf; exact absurd (show (none : Option (Int32 × HP)) = some _ from hf) (fun z => nomatch z)
  | succ n ih =>
    intro x3 x4 h hf
    rw [f_X0_ringRow_32] at hf
    refine aw_iload dX0_ringRow_32 rfl (aw_aload_n dX0_ringRow_34 rfl (aw_geti fkX0_58 (TO.n q2 hN) (TO.k q2) (Nat.le_of_ble_eq_true rfl) rfl dX0_ringRow_35 ?_))
    refine aw_icmp_ge 106 dX0_ringRow_38 rfl (fun g3 => ?_) (fun g3 => ?_)
    · replace hf := (if_pos g3).symm.trans hf
      cases hf
      exact aw_iload_n dX0_ringRow_106 rfl (aw_iret rfl dX0_ringRow_107)
    · replace hf := (if_neg g3).symm.trans hf
      refine aw_aload_n dX0_ringRow_41 rfl (aw_getr fkX0_9 (DR.n q0 hN) (DR.k q0) (Nat.le_of_ble_eq_true rfl) rfl dX0_ringRow_42 (aw_iload_n dX0_ringRow_45 rfl ?_))
      obtain ⟨g4, hf⟩ := ogd hf
      refine aw_iald (DR.n1 q0 hN) (DR.k1 q0) g4 dX0_ringRow_46 (aw_iload dX0_ringRow_47 rfl (aw_ishr dX0_ringRow_49 (aw_iconst (nI 1) dX0_ringRow_50 ki_1 (aw_iand dX0_ringRow_51 ?_))))
      refine aw_if_ne 58 dX0_ringRow_52 rfl (fun g5 => ?_) (fun g5 => ?_)
      · replace hf := (if_neg g5).symm.trans hf
        refine aw_aload_n dX0_ringRow_58 rfl (aw_iload dX0_ringRow_59 rfl (aw_aload_n dX0_ringRow_61 rfl ?_))
        obtain ⟨v8, h6, c7, hf⟩ := ob_some hf
        refine aw_callVi (N := mX0_strike) (As := [.int x4, .ref r2]) lkX0_61 okX0_strike (DR.n q0 hN) (DR.k q0) rfl (by rfl) (by rfl) (Nat.le_of_ble_eq_true rfl) ry_X0_ringRow_X0_strike dX0_ringRow_62 (And.intro (Nat.le_refl _) (Nat.le_refl _)) (ct_X0_strike hE hN F q0 q2 c7) ?_
        refine aw_if_eq 89 dX0_ringRow_65 rfl (fun g9 => ?_) (fun g9 => ?_)
        · replace hf := (if_pos g9).symm.trans hf
          refine aw_aload_n dX0_ringRow_89 rfl (aw_getr fkX0_21 (DR.n q0 hN) (DR.k q0) (Nat.le_of_ble_eq_true rfl) rfl dX0_ringRow_90 (aw_iload dX0_ringRow_93 rfl (aw_dup2 dX0_ringRow_95 rfl rfl ?_)))
          obtain ⟨g10, hf⟩ := ogd hf
          refine aw_iald (DR.n4 q0 hN) (DR.k4 q0) g10 dX0_ringRow_96 (aw_iconst (nI 1) dX0_ringRow_97 ki_1 (aw_iadd dX0_ringRow_98 (aw_iast (DR.n4 q0 hN) (DR.k4 q0) g10 dX0_ringRow_99 (aw_iinc (nI 1) dX0_ringRow_100 rfl (Nat.le_of_ble_eq_true rfl) ki_1 (aw_goto 32 dX0_ringRow_103 rfl ?_)))))
          exact aw_dk (ih _ _ _ hf) (And.intro rfl (And.intro rfl (And.intro rfl (And.intro rfl (And.intro rfl trivial)))))
        · replace hf := (if_neg g9).symm.trans hf
          refine aw_iload_n dX0_ringRow_68 rfl (aw_iconst (nI 1) dX0_ringRow_69 ki_1 (aw_iload dX0_ringRow_70 rfl (aw_ishl dX0_ringRow_72 (aw_ior dX0_ringRow_73 (aw_istore_n dX0_ringRow_74 (Nat.le_of_ble_eq_true rfl) (aw_aload_n dX0_ringRow_75 rfl (aw_getr fkX0_18 (DR.n q0 hN) (DR.k q0) (Nat.le_of_ble_eq_true rfl) rfl dX0_ringRow_76 (aw_iload dX0_ringRow_79 rfl (aw_dup2 dX0_ringRow_81 rfl rfl ?_)))))))))
          obtain ⟨g11, hf⟩ := ogd hf
          refine aw_iald (DR.n3 q0 hN) (DR.k3 q0) g11 dX0_ringRow_82 (aw_iconst (nI 1) dX0_ringRow_83 ki_1 (aw_iadd dX0_ringRow_84 (aw_iast (DR.n3 q0 hN) (DR.k3 q0) g11 dX0_ringRow_85 (aw_goto 100 dX0_ringRow_86 rfl (aw_iinc (nI 1) dX0_ringRow_100 rfl (Nat.le_of_ble_eq_true rfl) ki_1 (aw_goto 32 dX0_ringRow_103 rfl ?_))))))
          exact aw_dk (ih _ _ _ hf) (And.intro rfl (And.intro rfl (And.intro rfl (And.intro rfl (And.intro rfl trivial)))))
      · replace hf := (if_pos g5).symm.trans hf
        refine aw_goto 100 dX0_ringRow_55 rfl (aw_iinc (nI 1) dX0_ringRow_100 rfl (Nat.le_of_ble_eq_true rfl) ki_1 (aw_goto 32 dX0_ringRow_103 rfl ?_))
        exact aw_dk (ih _ _ _ hf) (And.intro rfl (And.intro rfl (And.intro rfl (And.intro rfl (And.intro rfl trivial)))))
set_option maxHeartbeats 4000000 in
set_option maxRecDepth 100000 in
theorem ct_X0_ringRow {E : EV} (hE : EI E) (hN : 39 ≤ eN E) (F : Nat) {tw : TW} {r0 : Nat} (q0 : DR r0) {x1 : Int32} {r2 : Nat} (q2 : TO r2) {h : HP} {v : Int32} {h' : HP} (hf : f_X0_ringRow F r0 x1 r2 h = some (v, h')) : CT E mX0_ringRow tw h [.ref r0, .int x1, .ref r2] (some (.int v)) tw h' := by
  refine CT.of hE (show plainFor yX0_ringRow = true by decide +kernel) (Nat.le_of_ble_eq_true rfl) 2 ?_
  show AW E mX0_ringRow (KM E mX0_ringRow (some (.int v)) tw h') tw h 0 [some (.ref r0), some (.int x1), some (.ref r2), none, none] []
  unfold f_X0_ringRow at hf
  refine aw_iload_n dX0_ringRow_0 rfl ?_
  refine aw_if_lt 10 dX0_ringRow_1 rfl (fun g1 => ?_) (fun g1 => ?_)
  · replace hf := (if_pos g1).symm.trans hf
    cases hf
    exact aw_iconst (nI 0) dX0_ringRow_10 ki_0 (aw_iret rfl dX0_ringRow_11)
  · replace hf := (if_neg g1).symm.trans hf
    refine aw_iload_n dX0_ringRow_4 rfl (aw_bipush (nI 32) dX0_ringRow_5 kb_32 ?_)
    refine aw_icmp_lt 12 dX0_ringRow_7 rfl (fun g2 => ?_) (fun g2 => ?_)
    · replace hf := (if_pos g2).symm.trans hf
      refine aw_aload_n dX0_ringRow_12 rfl (aw_iload_n dX0_ringRow_13 rfl (aw_puti fkX0_48 fw_0_4 (DR.n q0 hN) (DR.k q0) (Nat.le_of_ble_eq_true rfl) rfl dX0_ringRow_14 (aw_aload_n dX0_ringRow_17 rfl (aw_dup dX0_ringRow_18 rfl (aw_geti fkX0_51 (DR.n q0 hN) (DR.k q0) (Nat.le_of_ble_eq_true rfl) rfl dX0_ringRow_19 (aw_iconst (nI 1) dX0_ringRow_22 ki_1 (aw_iadd dX0_ringRow_23 (aw_puti fkX0_51 fw_0_5 (DR.n q0 hN) (DR.k q0) (Nat.le_of_ble_eq_true rfl) rfl dX0_ringRow_24 (aw_iconst (nI 0) dX0_ringRow_27 ki_0 (aw_istore_n dX0_ringRow_28 (Nat.le_of_ble_eq_true rfl) (aw_iconst (nI 0) dX0_ringRow_29 ki_0 ?_)))))))))))
      refine aw_istore dX0_ringRow_30 (Nat.le_of_ble_eq_true rfl) ?_
      exact aw_dk (ct_X0_ringRow_32 hE hN F q0 q2 F _ _ _ hf) (And.intro rfl (And.intro rfl (And.intro rfl (And.intro rfl (And.intro rfl trivial)))))
    · replace hf := (if_neg g2).symm.trans hf
      cases hf
      exact aw_iconst (nI 0) dX0_ringRow_10 ki_0 (aw_iret rfl dX0_ringRow_11)
set_option maxHeartbeats 4000000 in
set_option maxRecDepth 100000 in
theorem ct_X0_turnOn {E : EV} (hE : EI E) (hN : 39 ≤ eN E) (F : Nat) {tw : TW} {r0 : Nat} (q0 : DR r0) {r1 : Nat} (q1 : TO r1) {h : HP} {v : Int32} {h' : HP} (hf : f_X0_turnOn F r0 r1 h = some (v, h')) : CT E mX0_turnOn tw h [.ref r0, .ref r1] (some (.int v)) tw h' := by
  refine CT.of hE (show plainFor yX0_turnOn = true by decide +kernel) (Nat.le_of_ble_eq_true rfl) 0 ?_
  show AW E mX0_turnOn (KM E mX0_turnOn (some (.int v)) tw h') tw h 0 [some (.ref r0), some (.ref r1)] []
  unfold f_X0_turnOn at hf
  have key4 : AW E mX0_turnOn (KM E mX0_turnOn (some (.int v)) tw h') tw h 24 [some (.ref r0), some (.ref r1)] [.int (if (h r0 4) < ((h r1 4) - (nI 1)) then (h r0 4) + (nI 1) else (nI 0)), .ref r0] := by
    refine aw_aload_n dX0_turnOn_24 rfl ?_
    obtain ⟨v3, h1, c2, hf⟩ := ob_some hf
    cases hf
    exact aw_callVi (N := mX0_ringRow) (As := [.int (if (h r0 4) < ((h r1 4) - (nI 1)) then (h r0 4) + (nI 1) else (nI 0)), .ref r1]) lkX0_54 okX0_ringRow (DR.n q0 hN) (DR.k q0) rfl (by rfl) (by rfl) (Nat.le_of_ble_eq_true rfl) ry_X0_turnOn_X0_ringRow dX0_turnOn_25 (And.intro (Nat.le_refl _) (Nat.le_refl _)) (ct_X0_ringRow hE hN F q0 q1 c2) (aw_iret rfl dX0_turnOn_28)
  refine aw_aload_n dX0_turnOn_0 rfl (aw_aload_n dX0_turnOn_1 rfl (aw_geti fkX0_48 (DR.n q0 hN) (DR.k q0) (Nat.le_of_ble_eq_true rfl) rfl dX0_turnOn_2 (aw_aload_n dX0_turnOn_5 rfl (aw_geti fkX0_45 (TO.n q1 hN) (TO.k q1) (Nat.le_of_ble_eq_true rfl) rfl dX0_turnOn_6 (aw_iconst (nI 1) dX0_turnOn_9 ki_1 (aw_isub dX0_turnOn_10 ?_))))))
  refine aw_icmp_lt 18 dX0_turnOn_11 rfl (fun g5 => ?_) (fun g5 => ?_)
  · skip
    refine aw_aload_n dX0_turnOn_18 rfl (aw_geti fkX0_48 (DR.n q0 hN) (DR.k q0) (Nat.le_of_ble_eq_true rfl) rfl dX0_turnOn_19 (aw_iconst (nI 1) dX0_turnOn_22 ki_1 (aw_iadd dX0_turnOn_23 ?_)))
    simp only [if_pos g5] at key4 ⊢
    exact aw_dk key4 (And.intro rfl (And.intro rfl trivial))
  · skip
    refine aw_iconst (nI 0) dX0_turnOn_14 ki_0 (aw_goto 24 dX0_turnOn_15 rfl ?_)
    simp only [if_neg g5] at key4 ⊢
    exact aw_dk key4 (And.intro rfl (And.intro rfl trivial))
set_option maxHeartbeats 4000000 in
set_option maxRecDepth 100000 in
theorem ct_X0_turnOff {E : EV} (hE : EI E) (hN : 39 ≤ eN E) (F : Nat) {tw : TW} {r0 : Nat} (q0 : DR r0) {r1 : Nat} (q1 : TO r1) {h : HP} {v : Int32} {h' : HP} (hf : f_X0_turnOff F r0 r1 h = some (v, h')) : CT E mX0_turnOff tw h [.ref r0, .ref r1] (some (.int v)) tw h' := by
  refine CT.of hE (show plainFor yX0_turnOff = true by decide +kernel) (Nat.le_of_ble_eq_true rfl) 0 ?_
  show AW E mX0_turnOff (KM E mX0_turnOff (some (.int v)) tw h') tw h 0 [some (.ref r0), some (.ref r1)] []
  unfold f_X0_turnOff at hf
  have key4 : AW E mX0_turnOff (KM E mX0_turnOff (some (.int v)) tw h') tw h 23 [some (.ref r0), some (.ref r1)] [.int (if nI 0 < (h r0 4) then (h r0 4) - (nI 1) else (h r1 4) - (nI 1)), .ref r0] := by
    refine aw_aload_n dX0_turnOff_23 rfl ?_
    obtain ⟨v3, h1, c2, hf⟩ := ob_some hf
    cases hf
    exact aw_callVi (N := mX0_ringRow) (As := [.int (if nI 0 < (h r0 4) then (h r0 4) - (nI 1) else (h r1 4) - (nI 1)), .ref r1]) lkX0_54 okX0_ringRow (DR.n q0 hN) (DR.k q0) rfl (by rfl) (by rfl) (Nat.le_of_ble_eq_true rfl) ry_X0_turnOff_X0_ringRow dX0_turnOff_24 (And.intro (Nat.le_refl _) (Nat.le_refl _)) (ct_X0_ringRow hE hN F q0 q1 c2) (aw_iret rfl dX0_turnOff_27)
  refine aw_aload_n dX0_turnOff_0 rfl (aw_aload_n dX0_turnOff_1 rfl (aw_geti fkX0_48 (DR.n q0 hN) (DR.k q0) (Nat.le_of_ble_eq_true rfl) rfl dX0_turnOff_2 ?_))
  refine aw_if_gt 17 dX0_turnOff_5 rfl (fun g5 => ?_) (fun g5 => ?_)
  · skip
    refine aw_aload_n dX0_turnOff_17 rfl (aw_geti fkX0_48 (DR.n q0 hN) (DR.k q0) (Nat.le_of_ble_eq_true rfl) rfl dX0_turnOff_18 (aw_iconst (nI 1) dX0_turnOff_21 ki_1 (aw_isub dX0_turnOff_22 ?_)))
    simp only [if_pos g5] at key4 ⊢
    exact aw_dk key4 (And.intro rfl (And.intro rfl trivial))
  · skip
    refine aw_aload_n dX0_turnOff_8 rfl (aw_geti fkX0_45 (TO.n q1 hN) (TO.k q1) (Nat.le_of_ble_eq_true rfl) rfl dX0_turnOff_9 (aw_iconst (nI 1) dX0_turnOff_12 ki_1 (aw_isub dX0_turnOff_13 (aw_goto 23 dX0_turnOff_14 rfl ?_))))
    simp only [if_neg g5] at key4 ⊢
    exact aw_dk key4 (And.intro rfl (And.intro rfl trivial))
set_option maxHeartbeats 4000000 in
set_option maxRecDepth 100000 in
theorem ct_X0_copy {E : EV} (hE : EI E) (hN : 39 ≤ eN E) (F : Nat) {tw : TW} {r0 : Nat} (q0 : DR r0) {r1 : Nat} (q1 : DR r1) {h : HP} {h' : HP} (hf : f_X0_copy F r0 r1 h = some h') : CT E mX0_copy tw h [.ref r0, .ref r1] none tw h' := by
  refine CT.of hE (show plainFor yX0_copy = true by decide +kernel) (Nat.le_of_ble_eq_true rfl) 0 ?_
  show AW E mX0_copy (KM E mX0_copy none tw h') tw h 0 [some (.ref r0), some (.ref r1)] []
  unfold f_X0_copy at hf
  refine aw_aload_n dX0_copy_0 rfl (aw_getr fkX0_9 (DR.n q1 hN) (DR.k q1) (Nat.le_of_ble_eq_true rfl) rfl dX0_copy_1 (aw_iconst (nI 0) dX0_copy_4 ki_0 (aw_aload_n dX0_copy_5 rfl (aw_getr fkX0_9 (DR.n q0 hN) (DR.k q0) (Nat.le_of_ble_eq_true rfl) rfl dX0_copy_6 (aw_iconst (nI 0) dX0_copy_9 ki_0 (aw_aload_n dX0_copy_10 rfl (aw_getr fkX0_9 (DR.n q0 hN) (DR.k q0) (Nat.le_of_ble_eq_true rfl) rfl dX0_copy_11 (aw_alen (nI 32) (DR.n1 q0 hN) (DR.k1 q0) (by rfl) dX0_copy_14 ?_))))))))
  obtain ⟨g1, hf⟩ := ogd hf
  refine aw_copy (DR.n1 q1 hN) (DR.k1 q1) (DR.n1 q0 hN) (DR.k1 q0) g1 lkX0_39 ac_n ac_s ac_i (And.intro (Nat.le_of_ble_eq_true rfl) (Nat.le_of_ble_eq_true rfl)) dX0_copy_15 (aw_aload_n dX0_copy_18 rfl (aw_getr fkX0_15 (DR.n q1 hN) (DR.k q1) (Nat.le_of_ble_eq_true rfl) rfl dX0_copy_19 (aw_iconst (nI 0) dX0_copy_22 ki_0 (aw_aload_n dX0_copy_23 rfl (aw_getr fkX0_15 (DR.n q0 hN) (DR.k q0) (Nat.le_of_ble_eq_true rfl) rfl dX0_copy_24 (aw_iconst (nI 0) dX0_copy_27 ki_0 (aw_aload_n dX0_copy_28 rfl (aw_getr fkX0_15 (DR.n q0 hN) (DR.k q0) (Nat.le_of_ble_eq_true rfl) rfl dX0_copy_29 (aw_alen (nI 16) (DR.n2 q0 hN) (DR.k2 q0) (by rfl) dX0_copy_32 ?_)))))))))
  obtain ⟨g2, hf⟩ := ogd hf
  refine aw_copy (DR.n2 q1 hN) (DR.k2 q1) (DR.n2 q0 hN) (DR.k2 q0) g2 lkX0_39 ac_n ac_s ac_i (And.intro (Nat.le_of_ble_eq_true rfl) (Nat.le_of_ble_eq_true rfl)) dX0_copy_33 (aw_aload_n dX0_copy_36 rfl (aw_getr fkX0_18 (DR.n q1 hN) (DR.k q1) (Nat.le_of_ble_eq_true rfl) rfl dX0_copy_37 (aw_iconst (nI 0) dX0_copy_40 ki_0 (aw_aload_n dX0_copy_41 rfl (aw_getr fkX0_18 (DR.n q0 hN) (DR.k q0) (Nat.le_of_ble_eq_true rfl) rfl dX0_copy_42 (aw_iconst (nI 0) dX0_copy_45 ki_0 (aw_aload_n dX0_copy_46 rfl (aw_getr fkX0_18 (DR.n q0 hN) (DR.k q0) (Nat.le_of_ble_eq_true rfl) rfl dX0_copy_47 (aw_alen (nI 8) (DR.n3 q0 hN) (DR.k3 q0) (by rfl) dX0_copy_50 ?_)))))))))
  obtain ⟨g3, hf⟩ := ogd hf
  refine aw_copy (DR.n3 q1 hN) (DR.k3 q1) (DR.n3 q0 hN) (DR.k3 q0) g3 lkX0_39 ac_n ac_s ac_i (And.intro (Nat.le_of_ble_eq_true rfl) (Nat.le_of_ble_eq_true rfl)) dX0_copy_51 (aw_aload_n dX0_copy_54 rfl (aw_getr fkX0_21 (DR.n q1 hN) (DR.k q1) (Nat.le_of_ble_eq_true rfl) rfl dX0_copy_55 (aw_iconst (nI 0) dX0_copy_58 ki_0 (aw_aload_n dX0_copy_59 rfl (aw_getr fkX0_21 (DR.n q0 hN) (DR.k q0) (Nat.le_of_ble_eq_true rfl) rfl dX0_copy_60 (aw_iconst (nI 0) dX0_copy_63 ki_0 (aw_aload_n dX0_copy_64 rfl (aw_getr fkX0_21 (DR.n q0 hN) (DR.k q0) (Nat.le_of_ble_eq_true rfl) rfl dX0_copy_65 (aw_alen (nI 8) (DR.n4 q0 hN) (DR.k4 q0) (by rfl) dX0_copy_68 ?_)))))))))
  obtain ⟨g4, hf⟩ := ogd hf
  cases hf
  exact aw_copy (DR.n4 q1 hN) (DR.k4 q1) (DR.n4 q0 hN) (DR.k4 q0) g4 lkX0_39 ac_n ac_s ac_i (And.intro (Nat.le_of_ble_eq_true rfl) (Nat.le_of_ble_eq_true rfl)) dX0_copy_69 (aw_aload_n dX0_copy_72 rfl (aw_aload_n dX0_copy_73 rfl (aw_geti fkX0_48 (DR.n q1 hN) (DR.k q1) (Nat.le_of_ble_eq_true rfl) rfl dX0_copy_74 (aw_puti fkX0_48 fw_0_4 (DR.n q0 hN) (DR.k q0) (Nat.le_of_ble_eq_true rfl) rfl dX0_copy_77 (aw_aload_n dX0_copy_80 rfl (aw_aload_n dX0_copy_81 rfl (aw_geti fkX0_51 (DR.n q1 hN) (DR.k q1) (Nat.le_of_ble_eq_true rfl) rfl dX0_copy_82 (aw_puti fkX0_51 fw_0_5 (DR.n q0 hN) (DR.k q0) (Nat.le_of_ble_eq_true rfl) rfl dX0_copy_85 (aw_vret rfl dX0_copy_88)))))))))
set_option maxHeartbeats 4000000 in
set_option maxRecDepth 100000 in
theorem ct_X0_saveTo {E : EV} (hE : EI E) (hN : 39 ≤ eN E) (F : Nat) {tw : TW} {r0 : Nat} (q0 : DR r0) {r1 : Nat} (q1 : IA E r1) {x2 : Int32} {h : HP} {h' : HP} (hf : f_X0_saveTo F r0 r1 x2 h = some h') : CT E mX0_saveTo tw h [.ref r0, .ref r1, .int x2] none tw h' := by
  refine CT.of hE (show plainFor yX0_saveTo = true by decide +kernel) (Nat.le_of_ble_eq_true rfl) 1 ?_
  show AW E mX0_saveTo (KM E mX0_saveTo none tw h') tw h 0 [some (.ref r0), some (.ref r1), some (.int x2), none] []
  unfold f_X0_saveTo at hf
  refine aw_iload_n dX0_saveTo_0 rfl ?_
  refine aw_if_lt 13 dX0_saveTo_1 rfl (fun g1 => ?_) (fun g1 => ?_)
  · replace hf := (if_pos g1).symm.trans hf
    cases hf
    exact aw_vret rfl dX0_saveTo_13
  · replace hf := (if_neg g1).symm.trans hf
    refine aw_iload_n dX0_saveTo_4 rfl (aw_bipush (nI 66) dX0_saveTo_5 kb_66 (aw_iadd dX0_saveTo_7 (aw_aload_n dX0_saveTo_8 rfl (aw_alen (nI (ln r1)) q1.2 q1.1 (by rfl) dX0_saveTo_9 ?_))))
    refine aw_icmp_le 14 dX0_saveTo_10 rfl (fun g2 => ?_) (fun g2 => ?_)
    · replace hf := (if_pos g2).symm.trans hf
      refine aw_iload_n dX0_saveTo_14 rfl (aw_istore_n dX0_saveTo_15 (Nat.le_of_ble_eq_true rfl) (aw_aload_n dX0_saveTo_16 rfl (aw_iload_n dX0_saveTo_17 rfl (aw_iinc (nI 1) dX0_saveTo_18 rfl (Nat.le_of_ble_eq_true rfl) ki_1 (aw_aload_n dX0_saveTo_21 rfl (aw_geti fkX0_48 (DR.n q0 hN) (DR.k q0) (Nat.le_of_ble_eq_true rfl) rfl dX0_saveTo_22 ?_))))))
      obtain ⟨g3, hf⟩ := ogd hf
      refine aw_iast q1.2 q1.1 g3 dX0_saveTo_25 (aw_aload_n dX0_saveTo_26 rfl (aw_iload_n dX0_saveTo_27 rfl (aw_iinc (nI 1) dX0_saveTo_28 rfl (Nat.le_of_ble_eq_true rfl) ki_1 (aw_aload_n dX0_saveTo_31 rfl (aw_geti fkX0_51 (DR.n q0 hN) (DR.k q0) (Nat.le_of_ble_eq_true rfl) rfl dX0_saveTo_32 ?_)))))
      obtain ⟨g4, hf⟩ := ogd hf
      refine aw_iast q1.2 q1.1 g4 dX0_saveTo_35 (aw_aload_n dX0_saveTo_36 rfl (aw_getr fkX0_9 (DR.n q0 hN) (DR.k q0) (Nat.le_of_ble_eq_true rfl) rfl dX0_saveTo_37 (aw_iconst (nI 0) dX0_saveTo_40 ki_0 (aw_aload_n dX0_saveTo_41 rfl (aw_iload_n dX0_saveTo_42 rfl (aw_aload_n dX0_saveTo_43 rfl (aw_getr fkX0_9 (DR.n q0 hN) (DR.k q0) (Nat.le_of_ble_eq_true rfl) rfl dX0_saveTo_44 (aw_alen (nI 32) (DR.n1 q0 hN) (DR.k1 q0) (by rfl) dX0_saveTo_47 ?_))))))))
      obtain ⟨g5, hf⟩ := ogd hf
      refine aw_copy (DR.n1 q0 hN) (DR.k1 q0) q1.2 q1.1 g5 lkX0_39 ac_n ac_s ac_i (And.intro (Nat.le_of_ble_eq_true rfl) (Nat.le_of_ble_eq_true rfl)) dX0_saveTo_48 (aw_iload_n dX0_saveTo_51 rfl (aw_aload_n dX0_saveTo_52 rfl (aw_getr fkX0_9 (DR.n q0 hN) (DR.k q0) (Nat.le_of_ble_eq_true rfl) rfl dX0_saveTo_53 (aw_alen (nI 32) (DR.n1 q0 hN) (DR.k1 q0) (by rfl) dX0_saveTo_56 (aw_iadd dX0_saveTo_57 (aw_istore_n dX0_saveTo_58 (Nat.le_of_ble_eq_true rfl) (aw_aload_n dX0_saveTo_59 rfl (aw_getr fkX0_15 (DR.n q0 hN) (DR.k q0) (Nat.le_of_ble_eq_true rfl) rfl dX0_saveTo_60 (aw_iconst (nI 0) dX0_saveTo_63 ki_0 (aw_aload_n dX0_saveTo_64 rfl (aw_iload_n dX0_saveTo_65 rfl ?_)))))))))))
      refine aw_aload_n dX0_saveTo_66 rfl (aw_getr fkX0_15 (DR.n q0 hN) (DR.k q0) (Nat.le_of_ble_eq_true rfl) rfl dX0_saveTo_67 (aw_alen (nI 16) (DR.n2 q0 hN) (DR.k2 q0) (by rfl) dX0_saveTo_70 ?_))
      obtain ⟨g6, hf⟩ := ogd hf
      refine aw_copy (DR.n2 q0 hN) (DR.k2 q0) q1.2 q1.1 g6 lkX0_39 ac_n ac_s ac_i (And.intro (Nat.le_of_ble_eq_true rfl) (Nat.le_of_ble_eq_true rfl)) dX0_saveTo_71 (aw_iload_n dX0_saveTo_74 rfl (aw_aload_n dX0_saveTo_75 rfl (aw_getr fkX0_15 (DR.n q0 hN) (DR.k q0) (Nat.le_of_ble_eq_true rfl) rfl dX0_saveTo_76 (aw_alen (nI 16) (DR.n2 q0 hN) (DR.k2 q0) (by rfl) dX0_saveTo_79 (aw_iadd dX0_saveTo_80 (aw_istore_n dX0_saveTo_81 (Nat.le_of_ble_eq_true rfl) (aw_aload_n dX0_saveTo_82 rfl (aw_getr fkX0_18 (DR.n q0 hN) (DR.k q0) (Nat.le_of_ble_eq_true rfl) rfl dX0_saveTo_83 (aw_iconst (nI 0) dX0_saveTo_86 ki_0 (aw_aload_n dX0_saveTo_87 rfl (aw_iload_n dX0_saveTo_88 rfl ?_)))))))))))
      refine aw_aload_n dX0_saveTo_89 rfl (aw_getr fkX0_18 (DR.n q0 hN) (DR.k q0) (Nat.le_of_ble_eq_true rfl) rfl dX0_saveTo_90 (aw_alen (nI 8) (DR.n3 q0 hN) (DR.k3 q0) (by rfl) dX0_saveTo_93 ?_))
      obtain ⟨g7, hf⟩ := ogd hf
      refine aw_copy (DR.n3 q0 hN) (DR.k3 q0) q1.2 q1.1 g7 lkX0_39 ac_n ac_s ac_i (And.intro (Nat.le_of_ble_eq_true rfl) (Nat.le_of_ble_eq_true rfl)) dX0_saveTo_94 (aw_iload_n dX0_saveTo_97 rfl (aw_aload_n dX0_saveTo_98 rfl (aw_getr fkX0_18 (DR.n q0 hN) (DR.k q0) (Nat.le_of_ble_eq_true rfl) rfl dX0_saveTo_99 (aw_alen (nI 8) (DR.n3 q0 hN) (DR.k3 q0) (by rfl) dX0_saveTo_102 (aw_iadd dX0_saveTo_103 (aw_istore_n dX0_saveTo_104 (Nat.le_of_ble_eq_true rfl) (aw_aload_n dX0_saveTo_105 rfl (aw_getr fkX0_21 (DR.n q0 hN) (DR.k q0) (Nat.le_of_ble_eq_true rfl) rfl dX0_saveTo_106 (aw_iconst (nI 0) dX0_saveTo_109 ki_0 (aw_aload_n dX0_saveTo_110 rfl (aw_iload_n dX0_saveTo_111 rfl ?_)))))))))))
      refine aw_aload_n dX0_saveTo_112 rfl (aw_getr fkX0_21 (DR.n q0 hN) (DR.k q0) (Nat.le_of_ble_eq_true rfl) rfl dX0_saveTo_113 (aw_alen (nI 8) (DR.n4 q0 hN) (DR.k4 q0) (by rfl) dX0_saveTo_116 ?_))
      obtain ⟨g8, hf⟩ := ogd hf
      cases hf
      exact aw_copy (DR.n4 q0 hN) (DR.k4 q0) q1.2 q1.1 g8 lkX0_39 ac_n ac_s ac_i (And.intro (Nat.le_of_ble_eq_true rfl) (Nat.le_of_ble_eq_true rfl)) dX0_saveTo_117 (aw_vret rfl dX0_saveTo_120)
    · replace hf := (if_neg g2).symm.trans hf
      cases hf
      exact aw_vret rfl dX0_saveTo_13
set_option maxHeartbeats 4000000 in
set_option maxRecDepth 100000 in
theorem ct_X0_loadFrom {E : EV} (hE : EI E) (hN : 39 ≤ eN E) (F : Nat) {tw : TW} {r0 : Nat} (q0 : DR r0) {r1 : Nat} (q1 : IA E r1) {x2 : Int32} {h : HP} {h' : HP} (hf : f_X0_loadFrom F r0 r1 x2 h = some h') : CT E mX0_loadFrom tw h [.ref r0, .ref r1, .int x2] none tw h' := by
  refine CT.of hE (show plainFor yX0_loadFrom = true by decide +kernel) (Nat.le_of_ble_eq_true rfl) 1 ?_
  show AW E mX0_loadFrom (KM E mX0_loadFrom none tw h') tw h 0 [some (.ref r0), some (.ref r1), some (.int x2), none] []
  unfold f_X0_loadFrom at hf
  refine aw_iload_n dX0_loadFrom_0 rfl ?_
  refine aw_if_lt 13 dX0_loadFrom_1 rfl (fun g1 => ?_) (fun g1 => ?_)
  · replace hf := (if_pos g1).symm.trans hf
    cases hf
    exact aw_vret rfl dX0_loadFrom_13
  · replace hf := (if_neg g1).symm.trans hf
    refine aw_iload_n dX0_loadFrom_4 rfl (aw_bipush (nI 66) dX0_loadFrom_5 kb_66 (aw_iadd dX0_loadFrom_7 (aw_aload_n dX0_loadFrom_8 rfl (aw_alen (nI (ln r1)) q1.2 q1.1 (by rfl) dX0_loadFrom_9 ?_))))
    refine aw_icmp_le 14 dX0_loadFrom_10 rfl (fun g2 => ?_) (fun g2 => ?_)
    · replace hf := (if_pos g2).symm.trans hf
      refine aw_iload_n dX0_loadFrom_14 rfl (aw_istore_n dX0_loadFrom_15 (Nat.le_of_ble_eq_true rfl) (aw_aload_n dX0_loadFrom_16 rfl (aw_aload_n dX0_loadFrom_17 rfl (aw_iload_n dX0_loadFrom_18 rfl (aw_iinc (nI 1) dX0_loadFrom_19 rfl (Nat.le_of_ble_eq_true rfl) ki_1 ?_)))))
      obtain ⟨g3, hf⟩ := ogd hf
      refine aw_iald q1.2 q1.1 g3 dX0_loadFrom_22 (aw_puti fkX0_48 fw_0_4 (DR.n q0 hN) (DR.k q0) (Nat.le_of_ble_eq_true rfl) rfl dX0_loadFrom_23 (aw_aload_n dX0_loadFrom_26 rfl (aw_aload_n dX0_loadFrom_27 rfl (aw_iload_n dX0_loadFrom_28 rfl (aw_iinc (nI 1) dX0_loadFrom_29 rfl (Nat.le_of_ble_eq_true rfl) ki_1 ?_)))))
      obtain ⟨g4, hf⟩ := ogd hf
      refine aw_iald q1.2 q1.1 g4 dX0_loadFrom_32 (aw_puti fkX0_51 fw_0_5 (DR.n q0 hN) (DR.k q0) (Nat.le_of_ble_eq_true rfl) rfl dX0_loadFrom_33 (aw_aload_n dX0_loadFrom_36 rfl (aw_iload_n dX0_loadFrom_37 rfl (aw_aload_n dX0_loadFrom_38 rfl (aw_getr fkX0_9 (DR.n q0 hN) (DR.k q0) (Nat.le_of_ble_eq_true rfl) rfl dX0_loadFrom_39 (aw_iconst (nI 0) dX0_loadFrom_42 ki_0 (aw_aload_n dX0_loadFrom_43 rfl (aw_getr fkX0_9 (DR.n q0 hN) (DR.k q0) (Nat.le_of_ble_eq_true rfl) rfl dX0_loadFrom_44 (aw_alen (nI 32) (DR.n1 q0 hN) (DR.k1 q0) (by rfl) dX0_loadFrom_47 ?_)))))))))
      obtain ⟨g5, hf⟩ := ogd hf
      refine aw_copy q1.2 q1.1 (DR.n1 q0 hN) (DR.k1 q0) g5 lkX0_39 ac_n ac_s ac_i (And.intro (Nat.le_of_ble_eq_true rfl) (Nat.le_of_ble_eq_true rfl)) dX0_loadFrom_48 (aw_iload_n dX0_loadFrom_51 rfl (aw_aload_n dX0_loadFrom_52 rfl (aw_getr fkX0_9 (DR.n q0 hN) (DR.k q0) (Nat.le_of_ble_eq_true rfl) rfl dX0_loadFrom_53 (aw_alen (nI 32) (DR.n1 q0 hN) (DR.k1 q0) (by rfl) dX0_loadFrom_56 (aw_iadd dX0_loadFrom_57 (aw_istore_n dX0_loadFrom_58 (Nat.le_of_ble_eq_true rfl) (aw_aload_n dX0_loadFrom_59 rfl (aw_iload_n dX0_loadFrom_60 rfl (aw_aload_n dX0_loadFrom_61 rfl (aw_getr fkX0_15 (DR.n q0 hN) (DR.k q0) (Nat.le_of_ble_eq_true rfl) rfl dX0_loadFrom_62 (aw_iconst (nI 0) dX0_loadFrom_65 ki_0 ?_)))))))))))
      refine aw_aload_n dX0_loadFrom_66 rfl (aw_getr fkX0_15 (DR.n q0 hN) (DR.k q0) (Nat.le_of_ble_eq_true rfl) rfl dX0_loadFrom_67 (aw_alen (nI 16) (DR.n2 q0 hN) (DR.k2 q0) (by rfl) dX0_loadFrom_70 ?_))
      obtain ⟨g6, hf⟩ := ogd hf
      refine aw_copy q1.2 q1.1 (DR.n2 q0 hN) (DR.k2 q0) g6 lkX0_39 ac_n ac_s ac_i (And.intro (Nat.le_of_ble_eq_true rfl) (Nat.le_of_ble_eq_true rfl)) dX0_loadFrom_71 (aw_iload_n dX0_loadFrom_74 rfl (aw_aload_n dX0_loadFrom_75 rfl (aw_getr fkX0_15 (DR.n q0 hN) (DR.k q0) (Nat.le_of_ble_eq_true rfl) rfl dX0_loadFrom_76 (aw_alen (nI 16) (DR.n2 q0 hN) (DR.k2 q0) (by rfl) dX0_loadFrom_79 (aw_iadd dX0_loadFrom_80 (aw_istore_n dX0_loadFrom_81 (Nat.le_of_ble_eq_true rfl) (aw_aload_n dX0_loadFrom_82 rfl (aw_iload_n dX0_loadFrom_83 rfl (aw_aload_n dX0_loadFrom_84 rfl (aw_getr fkX0_18 (DR.n q0 hN) (DR.k q0) (Nat.le_of_ble_eq_true rfl) rfl dX0_loadFrom_85 (aw_iconst (nI 0) dX0_loadFrom_88 ki_0 ?_)))))))))))
      refine aw_aload_n dX0_loadFrom_89 rfl (aw_getr fkX0_18 (DR.n q0 hN) (DR.k q0) (Nat.le_of_ble_eq_true rfl) rfl dX0_loadFrom_90 (aw_alen (nI 8) (DR.n3 q0 hN) (DR.k3 q0) (by rfl) dX0_loadFrom_93 ?_))
      obtain ⟨g7, hf⟩ := ogd hf
      refine aw_copy q1.2 q1.1 (DR.n3 q0 hN) (DR.k3 q0) g7 lkX0_39 ac_n ac_s ac_i (And.intro (Nat.le_of_ble_eq_true rfl) (Nat.le_of_ble_eq_true rfl)) dX0_loadFrom_94 (aw_iload_n dX0_loadFrom_97 rfl (aw_aload_n dX0_loadFrom_98 rfl (aw_getr fkX0_18 (DR.n q0 hN) (DR.k q0) (Nat.le_of_ble_eq_true rfl) rfl dX0_loadFrom_99 (aw_alen (nI 8) (DR.n3 q0 hN) (DR.k3 q0) (by rfl) dX0_loadFrom_102 (aw_iadd dX0_loadFrom_103 (aw_istore_n dX0_loadFrom_104 (Nat.le_of_ble_eq_true rfl) (aw_aload_n dX0_loadFrom_105 rfl (aw_iload_n dX0_loadFrom_106 rfl (aw_aload_n dX0_loadFrom_107 rfl (aw_getr fkX0_21 (DR.n q0 hN) (DR.k q0) (Nat.le_of_ble_eq_true rfl) rfl dX0_loadFrom_108 (aw_iconst (nI 0) dX0_loadFrom_111 ki_0 ?_)))))))))))
      refine aw_aload_n dX0_loadFrom_112 rfl (aw_getr fkX0_21 (DR.n q0 hN) (DR.k q0) (Nat.le_of_ble_eq_true rfl) rfl dX0_loadFrom_113 (aw_alen (nI 8) (DR.n4 q0 hN) (DR.k4 q0) (by rfl) dX0_loadFrom_116 ?_))
      obtain ⟨g8, hf⟩ := ogd hf
      cases hf
      exact aw_copy q1.2 q1.1 (DR.n4 q0 hN) (DR.k4 q0) g8 lkX0_39 ac_n ac_s ac_i (And.intro (Nat.le_of_ble_eq_true rfl) (Nat.le_of_ble_eq_true rfl)) dX0_loadFrom_117 (aw_vret rfl dX0_loadFrom_120)
    · replace hf := (if_neg g2).symm.trans hf
      cases hf
      exact aw_vret rfl dX0_loadFrom_13
set_option maxHeartbeats 4000000 in
set_option maxRecDepth 100000 in
theorem ct_J9_max_7cf53 {E : EV} (hE : EI E) {zN : Nat} (hN : zN ≤ eN E) (F : Nat) {tw : TW} {x0 : Int32} {x1 : Int32} {h : HP} {v : Int32} {h' : HP} (hf : f_J9_max_7cf53 F x0 x1 h = some (v, h')) : CT E mJ9_max_7cf53 tw h [.int x0, .int x1] (some (.int v)) tw h' := by
  refine CT.of hE (show plainFor yJ9_max_7cf53 = true by decide +kernel) (Nat.le_of_ble_eq_true rfl) 0 ?_
  show AW E mJ9_max_7cf53 (KM E mJ9_max_7cf53 (some (.int v)) tw h') tw h 0 [some (.int x0), some (.int x1)] []
  unfold f_J9_max_7cf53 at hf
  refine aw_iload_n dJ9_max_7cf53_0 rfl (aw_iload_n dJ9_max_7cf53_1 rfl ?_)
  refine aw_icmp_lt 9 dJ9_max_7cf53_2 rfl (fun g1 => ?_) (fun g1 => ?_)
  · replace hf := (if_pos g1).symm.trans hf
    cases hf
    exact aw_iload_n dJ9_max_7cf53_9 rfl (aw_iret rfl dJ9_max_7cf53_10)
  · replace hf := (if_neg g1).symm.trans hf
    cases hf
    exact aw_iload_n dJ9_max_7cf53_5 rfl (aw_goto 10 dJ9_max_7cf53_6 rfl (aw_iret rfl dJ9_max_7cf53_10))
set_option maxHeartbeats 4000000 in
set_option maxRecDepth 100000 in
theorem ct_X1_partFrom_31 {E : EV} (hE : EI E) (hN : 39 ≤ eN E) (F : Nat) {dd : Nat} {tw : TW} {kr : Int32 → Int32 → HP → Option HP} (hkr : ∀ (a b : Int32) (h h' : HP), kr a b h = some h' → CT E (mX1_partFrom dd) tw h [.ref 36, .int a, .int b] none tw h') {x1 : Int32} {x2 : Int32} {h' : HP} : ∀ (n : Nat) (x3 : Int32) (h : HP), f_X1_partFrom_31 F kr x1 x2 n x3 h = some h' → AW E (mX1_partFrom (dd + 1)) (KM E (mX1_partFrom (dd + 1)) none tw h') tw h 31 [some (.ref 36), some (.int x1), some (.int x2), some (.int x3)] [] := by
  intro n
  induction n with
  | zero => intro x3 h hf; exact absurd (show (none : Option (HP)) = some _ from hf) (fun z => nomatch z)
  | succ n ih =>
    intro x3 h hf
    rw [f_X1_partFrom_31] at hf
    refine aw_iload_n dX1_partFrom_31 rfl (aw_iload_n dX1_partFrom_32 rfl ?_)
    refine aw_icmp_gt 104 dX1_partFrom_33 rfl (fun g4 => ?_) (fun g4 => ?_)
    · replace hf := (if_pos g4).symm.trans hf
      cases hf
      exact aw_vret rfl dX1_partFrom_104
    · replace hf := (if_neg g4).symm.trans hf
      refine aw_iload_n dX1_partFrom_36 rfl (aw_bipush (nI 8) dX1_partFrom_37 kb_8 ?_)
      refine aw_icmp_ge 104 dX1_partFrom_39 rfl (fun g5 => ?_) (fun g5 => ?_)
      · replace hf := (if_pos g5).symm.trans hf
        cases hf
        exact aw_vret rfl dX1_partFrom_104
      · replace hf := (if_neg g5).symm.trans hf
        refine aw_aload_n dX1_partFrom_42 rfl (aw_getr fkX1_15 (nl hN rfl) kd_36 (Nat.le_of_ble_eq_true rfl) rfl dX1_partFrom_43 (aw_iload_n dX1_partFrom_46 rfl ?_))
        obtain ⟨g6, hf⟩ := ogd hf
        refine aw_iald (nl hN rfl) kd_38 g6 dX1_partFrom_47 (aw_aload_n dX1_partFrom_48 rfl (aw_getr fkX1_9 (nl hN rfl) kd_36 (Nat.le_of_ble_eq_true rfl) rfl dX1_partFrom_49 (aw_iload_n dX1_partFrom_52 rfl ?_)))
        obtain ⟨g7, hf⟩ := ogd hf
        refine aw_iald (nl hN rfl) kd_37 g7 dX1_partFrom_53 (aw_iand dX1_partFrom_54 ?_)
        refine aw_if_ne 98 dX1_partFrom_55 rfl (fun g8 => ?_) (fun g8 => ?_)
        · replace hf := (if_neg g8).symm.trans hf
          refine aw_iinc (nI 1) dX1_partFrom_98 rfl (Nat.le_of_ble_eq_true rfl) ki_1 (aw_goto 31 dX1_partFrom_101 rfl ?_)
          exact aw_dk (ih _ _ hf) (And.intro rfl (And.intro rfl (And.intro rfl (And.intro rfl trivial))))
        · replace hf := (if_pos g8).symm.trans hf
          refine aw_aload_n dX1_partFrom_58 rfl (aw_getr fkX1_15 (nl hN rfl) kd_36 (Nat.le_of_ble_eq_true rfl) rfl dX1_partFrom_59 (aw_iload_n dX1_partFrom_62 rfl (aw_dup2 dX1_partFrom_63 rfl rfl (aw_iald (nl hN rfl) kd_38 g6 dX1_partFrom_64 (aw_iconst (nI 1) dX1_partFrom_65 ki_1 (aw_iload_n dX1_partFrom_66 rfl (aw_ishl dX1_partFrom_67 (aw_ior dX1_partFrom_68 (aw_iast (nl hN rfl) kd_38 g6 dX1_partFrom_69 (aw_aload_n dX1_partFrom_70 rfl (aw_iload_n dX1_partFrom_71 rfl ?_)))))))))))
          refine aw_iconst (nI 1) dX1_partFrom_72 ki_1 (aw_iadd dX1_partFrom_73 (aw_iload_n dX1_partFrom_74 rfl (aw_iload_n dX1_partFrom_75 rfl (aw_iconst (nI 1) dX1_partFrom_76 ki_1 (aw_iadd dX1_partFrom_77 ?_)))))
          obtain ⟨v11, h9, c10, hf⟩ := ob_some hf
          refine aw_callSi (N := mJ9_max_7cf53) (As := [.int x2, .int (x3 + (nI 1))]) lkX1_41 okJ9_max_7cf53 (by rfl) (by rfl) (Nat.le_of_ble_eq_true rfl) (ry_X1_partFrom_J9_max_7cf53 dd) dX1_partFrom_78 (And.intro (Nat.le_refl _) (Nat.le_refl _)) (ct_J9_max_7cf53 hE hN F c10) ?_
          obtain ⟨h12, c13, hf⟩ := obv_some hf
          refine aw_callVv (N := (mX1_partFrom dd)) (As := [.int (x1 + (nI 1)), .int v11]) lkX1_37 (okX1_partFrom dd) (nl hN rfl) kd_36 rfl (by rfl) (by rfl) (Nat.le_of_ble_eq_true rfl) (rm_part dd) dX1_partFrom_81 (And.intro (Nat.le_refl _) (Nat.le_refl _)) (hkr _ _ _ _ c13) (aw_aload_n dX1_partFrom_84 rfl (aw_getr fkX1_15 (nl hN rfl) kd_36 (Nat.le_of_ble_eq_true rfl) rfl dX1_partFrom_85 (aw_iload_n dX1_partFrom_88 rfl (aw_dup2 dX1_partFrom_89 rfl rfl (aw_iald (nl hN rfl) kd_38 g6 dX1_partFrom_90 (aw_iconst (nI 1) dX1_partFrom_91 ki_1 (aw_iload_n dX1_partFrom_92 rfl (aw_ishl dX1_partFrom_93 (aw_iconst (-1) dX1_partFrom_94 ki_m1 (aw_ixor dX1_partFrom_95 (aw_iand dX1_partFrom_96 ?_)))))))))))
          refine aw_iast (nl hN rfl) kd_38 g6 dX1_partFrom_97 (aw_iinc (nI 1) dX1_partFrom_98 rfl (Nat.le_of_ble_eq_true rfl) ki_1 (aw_goto 31 dX1_partFrom_101 rfl ?_))
          exact aw_dk (ih _ _ hf) (And.intro rfl (And.intro rfl (And.intro rfl (And.intro rfl trivial))))
set_option maxHeartbeats 4000000 in
set_option maxRecDepth 100000 in
theorem ct_X1_partFrom {E : EV} (hE : EI E) (hN : 39 ≤ eN E) (F : Nat) {tw : TW} : ∀ (d : Nat) {x1 x2 : Int32} {h h' : HP}, f_X1_partFrom F d x1 x2 h = some h' → CT E (mX1_partFrom d) tw h [.ref 36, .int x1, .int x2] none tw h' := by
  intro d
  induction d with
  | zero => intro x1 x2 h h' hf; exact absurd (show (none : Option HP) = some _ from hf) (fun z => nomatch z)
  | succ dd ihd =>
    intro x1 x2 h h' hf
    rw [f_X1_partFrom] at hf
    have hkr : ∀ (a b : Int32) (h h' : HP), f_X1_partFrom F dd a b h = some h' → CT E (mX1_partFrom dd) tw h [.ref 36, .int a, .int b] none tw h' := fun a b h h' z => ihd z
    refine CT.of hE (show plainFor yX1_partFrom = true by decide +kernel) (Nat.le_of_ble_eq_true rfl) 1 ?_
    show AW E (mX1_partFrom (dd + 1)) (KM E (mX1_partFrom (dd + 1)) none tw h') tw h 0 [some (.ref 36), some (.int x1), some (.int x2), none] []
    refine aw_iload_n dX1_partFrom_0 rfl (aw_aload_n dX1_partFrom_1 rfl (aw_geti fkX1_25 (nl hN rfl) kd_36 (Nat.le_of_ble_eq_true rfl) rfl dX1_partFrom_2 ?_))
    refine aw_icmp_lt 9 dX1_partFrom_5 rfl (fun g1 => ?_) (fun g1 => ?_)
    · replace hf := (if_pos g1).symm.trans hf
      refine aw_iload_n dX1_partFrom_9 rfl (aw_aload_n dX1_partFrom_10 rfl (aw_geti fkX1_24 (nl hN rfl) kd_36 (Nat.le_of_ble_eq_true rfl) rfl dX1_partFrom_11 ?_))
      refine aw_icmp_ge 23 dX1_partFrom_14 rfl (fun g2 => ?_) (fun g2 => ?_)
      · replace hf := (if_pos g2).symm.trans hf
        cases hf
        exact aw_aload_n dX1_partFrom_23 rfl (aw_iload_n dX1_partFrom_24 rfl (aw_puti fkX1_25 fw_1_3 (nl hN rfl) kd_36 (Nat.le_of_ble_eq_true rfl) rfl dX1_partFrom_25 (aw_vret rfl dX1_partFrom_28)))
      · replace hf := (if_neg g2).symm.trans hf
        refine aw_iload_n dX1_partFrom_17 rfl (aw_bipush (nI 8) dX1_partFrom_18 kb_8 ?_)
        refine aw_icmp_lt 29 dX1_partFrom_20 rfl (fun g3 => ?_) (fun g3 => ?_)
        · replace hf := (if_pos g3).symm.trans hf
          refine aw_iconst (nI 0) dX1_partFrom_29 ki_0 (aw_istore_n dX1_partFrom_30 (Nat.le_of_ble_eq_true rfl) ?_)
          exact aw_dk (ct_X1_partFrom_31 hE hN F hkr F _ _ hf) (And.intro rfl (And.intro rfl (And.intro rfl (And.intro rfl trivial))))
        · replace hf := (if_neg g3).symm.trans hf
          cases hf
          exact aw_aload_n dX1_partFrom_23 rfl (aw_iload_n dX1_partFrom_24 rfl (aw_puti fkX1_25 fw_1_3 (nl hN rfl) kd_36 (Nat.le_of_ble_eq_true rfl) rfl dX1_partFrom_25 (aw_vret rfl dX1_partFrom_28)))
    · replace hf := (if_neg g1).symm.trans hf
      cases hf
      exact aw_vret rfl dX1_partFrom_8
set_option maxHeartbeats 4000000 in
set_option maxRecDepth 100000 in
theorem ct_X1_fewestPeople_45 {E : EV} (hE : EI E) (hN : 39 ≤ eN E) (F : Nat) {tw : TW} {r1 : Nat} (q1 : IA E r1) {r2 : Nat} (q2 : TO r2) {v : Int32} {h' : HP} {k_34 : Int32 → HP → Option (Int32 × HP)} (hk_34 : ∀ (x3 : Int32) (h : HP), k_34 x3 h = some (v, h') → AW E mX1_fewestPeople (KM E mX1_fewestPeople (some (.int v)) tw h') tw h 34 [some (.ref 36), some (.ref r1), some (.ref r2), some (.int x3), none] []) : ∀ (n : Nat) (x3 : Int32) (x4 : Int32) (h : HP), f_X1_fewestPeople_45 F r1 r2 k_34 n x3 x4 h = some (v, h') → AW E mX1_fewestPeople (KM E mX1_fewestPeople (some (.int v)) tw h') tw h 45 [some (.ref 36), some (.ref r1), some (.ref r2), some (.int x3), some (.int x4)] [] := by
  intro n
  induction n with
  | zero => intro x3 x4 h hf; exact absurd (show (none : Option (Int32 × HP)) = some _ from hf) (fun z => nomatch z)
  | succ n ih =>
    intro x3 x4 h hf
    rw [f_X1_fewestPeople_45] at hf
    refine aw_iload dX1_fewestPeople_45 rfl (aw_aload_n dX1_fewestPeople_47 rfl (aw_geti fkX1_24 (nl hN rfl) kd_36 (Nat.le_of_ble_eq_true rfl) rfl dX1_fewestPeople_48 ?_))
    refine aw_icmp_ge 92 dX1_fewestPeople_51 rfl (fun g8 => ?_) (fun g8 => ?_)
    · replace hf := (if_pos g8).symm.trans hf
      refine aw_iinc (nI 1) dX1_fewestPeople_92 rfl (Nat.le_of_ble_eq_true rfl) ki_1 (aw_goto 34 dX1_fewestPeople_95 rfl ?_)
      exact aw_dk (hk_34 _ _ hf) (And.intro rfl (And.intro rfl (And.intro rfl (And.intro rfl trivial))))
    · replace hf := (if_neg g8).symm.trans hf
      refine aw_aload_n dX1_fewestPeople_54 rfl (aw_iload_n dX1_fewestPeople_55 rfl ?_)
      obtain ⟨g9, hf⟩ := ogd hf
      refine aw_iald q1.2 q1.1 g9 dX1_fewestPeople_56 (aw_iload dX1_fewestPeople_57 rfl (aw_ishr dX1_fewestPeople_59 (aw_iconst (nI 1) dX1_fewestPeople_60 ki_1 (aw_iand dX1_fewestPeople_61 (aw_iconst (nI 1) dX1_fewestPeople_62 ki_1 ?_)))))
      refine aw_icmp_ne 86 dX1_fewestPeople_63 rfl (fun g10 => ?_) (fun g10 => ?_)
      · replace hf := (if_neg g10).symm.trans hf
        refine aw_iinc (nI 1) dX1_fewestPeople_86 rfl (Nat.le_of_ble_eq_true rfl) ki_1 (aw_goto 45 dX1_fewestPeople_89 rfl ?_)
        exact aw_dk (ih _ _ _ hf) (And.intro rfl (And.intro rfl (And.intro rfl (And.intro rfl (And.intro rfl trivial)))))
      · replace hf := (if_pos g10).symm.trans hf
        refine aw_aload_n dX1_fewestPeople_66 rfl (aw_getr fkX1_9 (nl hN rfl) kd_36 (Nat.le_of_ble_eq_true rfl) rfl dX1_fewestPeople_67 (aw_iload dX1_fewestPeople_70 rfl (aw_dup2 dX1_fewestPeople_72 rfl rfl ?_)))
        obtain ⟨g11, hf⟩ := ogd hf
        refine aw_iald (nl hN rfl) kd_37 g11 dX1_fewestPeople_73 (aw_aload_n dX1_fewestPeople_74 rfl (aw_iload_n dX1_fewestPeople_75 rfl (aw_iald q1.2 q1.1 g9 dX1_fewestPeople_76 (aw_iconst (nI 1) dX1_fewestPeople_77 ki_1 (aw_iload dX1_fewestPeople_78 rfl (aw_ishl dX1_fewestPeople_80 (aw_iconst (-1) dX1_fewestPeople_81 ki_m1 (aw_ixor dX1_fewestPeople_82 (aw_iand dX1_fewestPeople_83 (aw_ior dX1_fewestPeople_84 (aw_iast (nl hN rfl) kd_37 g11 dX1_fewestPeople_85 ?_)))))))))))
        refine aw_iinc (nI 1) dX1_fewestPeople_86 rfl (Nat.le_of_ble_eq_true rfl) ki_1 (aw_goto 45 dX1_fewestPeople_89 rfl ?_)
        exact aw_dk (ih _ _ _ hf) (And.intro rfl (And.intro rfl (And.intro rfl (And.intro rfl (And.intro rfl trivial)))))
set_option maxHeartbeats 4000000 in
set_option maxRecDepth 100000 in
theorem ct_X1_fewestPeople_34 {E : EV} (hE : EI E) (hN : 39 ≤ eN E) (F : Nat) {tw : TW} {r1 : Nat} (q1 : IA E r1) {r2 : Nat} (q2 : TO r2) {v : Int32} {h' : HP} : ∀ (n : Nat) (x3 : Int32) (h : HP), f_X1_fewestPeople_34 F r1 r2 n x3 h = some (v, h') → AW E mX1_fewestPeople (KM E mX1_fewestPeople (some (.int v)) tw h') tw h 34 [some (.ref 36), some (.ref r1), some (.ref r2), some (.int x3), none] [] := by
  intro n
  induction n with
  | zero => intro x3 h hf; exact absurd (show (none : Option (Int32 × HP)) = some _ from hf) (fun z => nomatch z)
  | succ n ih =>
    intro x3 h hf
    rw [f_X1_fewestPeople_34] at hf
    refine aw_iload_n dX1_fewestPeople_34 rfl (aw_aload_n dX1_fewestPeople_35 rfl (aw_geti fkX1_34 (TO.n q2 hN) (TO.k q2) (Nat.le_of_ble_eq_true rfl) rfl dX1_fewestPeople_36 ?_))
    refine aw_icmp_ge 98 dX1_fewestPeople_39 rfl (fun g5 => ?_) (fun g5 => ?_)
    · replace hf := (if_pos g5).symm.trans hf
      refine aw_aload_n dX1_fewestPeople_98 rfl (aw_iconst (nI 0) dX1_fewestPeople_99 ki_0 (aw_iconst (nI 0) dX1_fewestPeople_100 ki_0 ?_))
      obtain ⟨h6, c7, hf⟩ := obv_some hf
      cases hf
      exact aw_callVv (N := (mX1_partFrom 12)) (As := [.int (nI 0), .int (nI 0)]) lkX1_37 (okX1_partFrom 12) (nl hN rfl) kd_36 rfl (by rfl) (by rfl) (Nat.le_of_ble_eq_true rfl) ry_X1_fewestPeople_X1_partFrom dX1_fewestPeople_101 (And.intro (Nat.le_refl _) (Nat.le_refl _)) (ct_X1_partFrom hE hN F 12 c7) (aw_aload_n dX1_fewestPeople_104 rfl (aw_geti fkX1_25 (nl hN rfl) kd_36 (Nat.le_of_ble_eq_true rfl) rfl dX1_fewestPeople_105 (aw_iret rfl dX1_fewestPeople_108)))
    · replace hf := (if_neg g5).symm.trans hf
      refine aw_iconst (nI 0) dX1_fewestPeople_42 ki_0 (aw_istore dX1_fewestPeople_43 (Nat.le_of_ble_eq_true rfl) ?_)
      exact aw_dk (ct_X1_fewestPeople_45 hE hN F q1 q2 ih F _ _ _ hf) (And.intro rfl (And.intro rfl (And.intro rfl (And.intro rfl (And.intro rfl trivial)))))
set_option maxHeartbeats 4000000 in
set_option maxRecDepth 100000 in
theorem ct_X1_fewestPeople {E : EV} (hE : EI E) (hN : 39 ≤ eN E) (F : Nat) {tw : TW} {r1 : Nat} (q1 : IA E r1) {r2 : Nat} (q2 : TO r2) {h : HP} {v : Int32} {h' : HP} (hf : f_X1_fewestPeople F r1 r2 h = some (v, h')) : CT E mX1_fewestPeople tw h [.ref 36, .ref r1, .ref r2] (some (.int v)) tw h' := by
  refine CT.of hE (show plainFor yX1_fewestPeople = true by decide +kernel) (Nat.le_of_ble_eq_true rfl) 2 ?_
  show AW E mX1_fewestPeople (KM E mX1_fewestPeople (some (.int v)) tw h') tw h 0 [some (.ref 36), some (.ref r1), some (.ref r2), none, none] []
  unfold f_X1_fewestPeople at hf
  refine aw_aload_n dX1_fewestPeople_0 rfl (aw_aload_n dX1_fewestPeople_1 rfl (aw_geti fkX1_18 (TO.n q2 hN) (TO.k q2) (Nat.le_of_ble_eq_true rfl) rfl dX1_fewestPeople_2 (aw_puti fkX1_24 fw_1_2 (nl hN rfl) kd_36 (Nat.le_of_ble_eq_true rfl) rfl dX1_fewestPeople_5 (aw_aload_n dX1_fewestPeople_8 rfl (aw_aload_n dX1_fewestPeople_9 rfl (aw_geti fkX1_24 (nl hN rfl) kd_36 (Nat.le_of_ble_eq_true rfl) rfl dX1_fewestPeople_10 (aw_puti fkX1_25 fw_1_3 (nl hN rfl) kd_36 (Nat.le_of_ble_eq_true rfl) rfl dX1_fewestPeople_13 (aw_aload_n dX1_fewestPeople_16 rfl (aw_getr fkX1_9 (nl hN rfl) kd_36 (Nat.le_of_ble_eq_true rfl) rfl dX1_fewestPeople_17 (aw_iconst (nI 0) dX1_fewestPeople_20 ki_0 ?_))))))))))
  obtain ⟨h1, c2, hf⟩ := obv_some hf
  refine aw_callSv (N := mJ7_fill_53178) (As := [.ref 37, .int (nI 0)]) lkX1_28 okJ7_fill_53178 (by rfl) (by rfl) (Nat.le_of_ble_eq_true rfl) ry_X1_fewestPeople_J7_fill_53178 dX1_fewestPeople_21 (And.intro (Nat.le_refl _) (Nat.le_refl _)) (ct_J7_fill_53178 hE hN F (IA.of kd_37 (nl hN rfl)) c2) (aw_aload_n dX1_fewestPeople_24 rfl (aw_getr fkX1_15 (nl hN rfl) kd_36 (Nat.le_of_ble_eq_true rfl) rfl dX1_fewestPeople_25 (aw_iconst (nI 0) dX1_fewestPeople_28 ki_0 ?_)))
  obtain ⟨h3, c4, hf⟩ := obv_some hf
  refine aw_callSv (N := mJ7_fill_53178) (As := [.ref 38, .int (nI 0)]) lkX1_28 okJ7_fill_53178 (by rfl) (by rfl) (Nat.le_of_ble_eq_true rfl) ry_X1_fewestPeople_J7_fill_53178 dX1_fewestPeople_29 (And.intro (Nat.le_refl _) (Nat.le_refl _)) (ct_J7_fill_53178 hE hN F (IA.of kd_38 (nl hN rfl)) c4) (aw_iconst (nI 0) dX1_fewestPeople_32 ki_0 (aw_istore_n dX1_fewestPeople_33 (Nat.le_of_ble_eq_true rfl) ?_))
  exact aw_dk (ct_X1_fewestPeople_34 hE hN F q1 q2 F _ _ hf) (And.intro rfl (And.intro rfl (And.intro rfl (And.intro rfl trivial))))
set_option maxHeartbeats 4000000 in
set_option maxRecDepth 100000 in
theorem ct_X2_clear {E : EV} (hE : EI E) (hN : 39 ≤ eN E) (F : Nat) {tw : TW} {r0 : Nat} (q0 : SF r0) {h : HP} {h' : HP} (hf : f_X2_clear F r0 h = some h') : CT E mX2_clear tw h [.ref r0] none tw h' := by
  refine CT.of hE (show plainFor yX2_clear = true by decide +kernel) (Nat.le_of_ble_eq_true rfl) 0 ?_
  show AW E mX2_clear (KM E mX2_clear none tw h') tw h 0 [some (.ref r0)] []
  unfold f_X2_clear at hf
  cases hf
  exact aw_aload_n dX2_clear_0 rfl (aw_iconst (nI 0) dX2_clear_1 ki_0 (aw_puti fkX2_25 fw_2_3 (SF.n q0 hN) (SF.k q0) (Nat.le_of_ble_eq_true rfl) rfl dX2_clear_2 (aw_vret rfl dX2_clear_5)))
set_option maxHeartbeats 4000000 in
set_option maxRecDepth 100000 in
theorem ct_J9_min_7cf53 {E : EV} (hE : EI E) {zN : Nat} (hN : zN ≤ eN E) (F : Nat) {tw : TW} {x0 : Int32} {x1 : Int32} {h : HP} {v : Int32} {h' : HP} (hf : f_J9_min_7cf53 F x0 x1 h = some (v, h')) : CT E mJ9_min_7cf53 tw h [.int x0, .int x1] (some (.int v)) tw h' := by
  refine CT.of hE (show plainFor yJ9_min_7cf53 = true by decide +kernel) (Nat.le_of_ble_eq_true rfl) 0 ?_
  show AW E mJ9_min_7cf53 (KM E mJ9_min_7cf53 (some (.int v)) tw h') tw h 0 [some (.int x0), some (.int x1)] []
  unfold f_J9_min_7cf53 at hf
  refine aw_iload_n dJ9_min_7cf53_0 rfl (aw_iload_n dJ9_min_7cf53_1 rfl ?_)
  refine aw_icmp_gt 9 dJ9_min_7cf53_2 rfl (fun g1 => ?_) (fun g1 => ?_)
  · replace hf := (if_pos g1).symm.trans hf
    cases hf
    exact aw_iload_n dJ9_min_7cf53_9 rfl (aw_iret rfl dJ9_min_7cf53_10)
  · replace hf := (if_neg g1).symm.trans hf
    cases hf
    exact aw_iload_n dJ9_min_7cf53_5 rfl (aw_goto 10 dJ9_min_7cf53_6 rfl (aw_iret rfl dJ9_min_7cf53_10))
set_option maxHeartbeats 4000000 in
set_option maxRecDepth 100000 in
theorem ct_X2_put {E : EV} (hE : EI E) (hN : 39 ≤ eN E) (F : Nat) {tw : TW} {r0 : Nat} (q0 : SF r0) {r1 : Nat} (q1 : DR r1) {h : HP} {h' : HP} (hf : f_X2_put F r0 r1 h = some h') : CT E mX2_put tw h [.ref r0, .ref r1] none tw h' := by
  refine CT.of hE (show plainFor yX2_put = true by decide +kernel) (Nat.le_of_ble_eq_true rfl) 0 ?_
  show AW E mX2_put (KM E mX2_put none tw h') tw h 0 [some (.ref r0), some (.ref r1)] []
  unfold f_X2_put at hf
  refine aw_aload_n dX2_put_0 rfl (aw_aload_n dX2_put_1 rfl (aw_getr fkX2_21 (SF.n q0 hN) (SF.k q0) (Nat.le_of_ble_eq_true rfl) rfl dX2_put_2 (aw_aload_n dX2_put_5 rfl (aw_geti fkX2_28 (SF.n q0 hN) (SF.k q0) (Nat.le_of_ble_eq_true rfl) rfl dX2_put_6 (aw_bipush (nI 66) dX2_put_9 kb_66 (aw_imul dX2_put_11 ?_))))))
  obtain ⟨h1, c2, hf⟩ := obv_some hf
  have key6 : AW E mX2_put (KM E mX2_put none tw h') tw h1 39 [some (.ref r0), some (.ref r1)] [.int (if (h1 r0 0) ≤ ((h1 r0 2) + (nI 1)) then (nI 0) else (h1 r0 2) + (nI 1)), .ref r0] := by
    refine aw_puti fkX2_28 fw_2_2 (SF.n q0 hN) (SF.k q0) (Nat.le_of_ble_eq_true rfl) rfl dX2_put_39 (aw_aload_n dX2_put_42 rfl (aw_aload_n dX2_put_43 rfl (aw_geti fkX2_25 (SF.n q0 hN) (SF.k q0) (Nat.le_of_ble_eq_true rfl) rfl dX2_put_44 (aw_iconst (nI 1) dX2_put_47 ki_1 (aw_iadd dX2_put_48 (aw_aload_n dX2_put_49 rfl (aw_geti fkX2_13 (SF.n q0 hN) (SF.k q0) (Nat.le_of_ble_eq_true rfl) rfl dX2_put_50 ?_)))))))
    obtain ⟨v5, h3, c4, hf⟩ := ob_some hf
    cases hf
    exact aw_callSi (N := mJ9_min_7cf53) (As := [.int (((up h1 r0 2 (if (h1 r0 0) ≤ ((h1 r0 2) + (nI 1)) then (nI 0) else (h1 r0 2) + (nI 1))) r0 3) + (nI 1)), .int ((up h1 r0 2 (if (h1 r0 0) ≤ ((h1 r0 2) + (nI 1)) then (nI 0) else (h1 r0 2) + (nI 1))) r0 0)]) lkX2_35 okJ9_min_7cf53 (by rfl) (by rfl) (Nat.le_of_ble_eq_true rfl) ry_X2_put_J9_min_7cf53 dX2_put_53 (And.intro (Nat.le_refl _) (Nat.le_refl _)) (ct_J9_min_7cf53 hE hN F c4) (aw_puti fkX2_25 fw_2_3 (SF.n q0 hN) (SF.k q0) (Nat.le_of_ble_eq_true rfl) rfl dX2_put_56 (aw_vret rfl dX2_put_59))
  refine aw_callVv (N := mX0_saveTo) (As := [.ref (r0 + 1), .int ((h r0 2) * (nI 66))]) lkX2_31 okX0_saveTo (DR.n q1 hN) (DR.k q1) rfl (by rfl) (by rfl) (Nat.le_of_ble_eq_true rfl) ry_X2_put_X0_saveTo dX2_put_12 (And.intro (Nat.le_refl _) (Nat.le_refl _)) (ct_X0_saveTo hE hN F q1 (IA.of (SF.k1 q0) (SF.n1 q0 hN)) c2) (aw_aload_n dX2_put_15 rfl (aw_aload_n dX2_put_16 rfl (aw_geti fkX2_28 (SF.n q0 hN) (SF.k q0) (Nat.le_of_ble_eq_true rfl) rfl dX2_put_17 (aw_iconst (nI 1) dX2_put_20 ki_1 (aw_iadd dX2_put_21 (aw_aload_n dX2_put_22 rfl (aw_geti fkX2_13 (SF.n q0 hN) (SF.k q0) (Nat.le_of_ble_eq_true rfl) rfl dX2_put_23 ?_)))))))
  refine aw_icmp_ge 38 dX2_put_26 rfl (fun g7 => ?_) (fun g7 => ?_)
  · skip
    refine aw_iconst (nI 0) dX2_put_38 ki_0 ?_
    simp only [if_pos g7] at key6 ⊢
    exact aw_dk key6 (And.intro rfl (And.intro rfl trivial))
  · skip
    refine aw_aload_n dX2_put_29 rfl (aw_geti fkX2_28 (SF.n q0 hN) (SF.k q0) (Nat.le_of_ble_eq_true rfl) rfl dX2_put_30 (aw_iconst (nI 1) dX2_put_33 ki_1 (aw_iadd dX2_put_34 (aw_goto 39 dX2_put_35 rfl ?_))))
    simp only [if_neg g7] at key6 ⊢
    exact aw_dk key6 (And.intro rfl (And.intro rfl trivial))
set_option maxHeartbeats 4000000 in
set_option maxRecDepth 100000 in
theorem ct_X2_takeInto {E : EV} (hE : EI E) (hN : 39 ≤ eN E) (F : Nat) {tw : TW} {r0 : Nat} (q0 : SF r0) {r1 : Nat} (q1 : DR r1) {h : HP} {v : Int32} {h' : HP} (hf : f_X2_takeInto F r0 r1 h = some (v, h')) : CT E mX2_takeInto tw h [.ref r0, .ref r1] (some (.int v)) tw h' := by
  refine CT.of hE (show plainFor yX2_takeInto = true by decide +kernel) (Nat.le_of_ble_eq_true rfl) 0 ?_
  show AW E mX2_takeInto (KM E mX2_takeInto (some (.int v)) tw h') tw h 0 [some (.ref r0), some (.ref r1)] []
  unfold f_X2_takeInto at hf
  refine aw_aload_n dX2_takeInto_0 rfl (aw_geti fkX2_25 (SF.n q0 hN) (SF.k q0) (Nat.le_of_ble_eq_true rfl) rfl dX2_takeInto_1 (aw_iconst (nI 1) dX2_takeInto_4 ki_1 ?_))
  refine aw_icmp_ge 10 dX2_takeInto_5 rfl (fun g1 => ?_) (fun g1 => ?_)
  · replace hf := (if_pos g1).symm.trans hf
    have key4 : AW E mX2_takeInto (KM E mX2_takeInto (some (.int v)) tw h') tw (up h r0 3 ((h r0 3) - (nI 1))) 43 [some (.ref r0), some (.ref r1)] [.int (if ((up h r0 3 ((h r0 3) - (nI 1))) r0 2) ≤ nI 0 then ((up h r0 3 ((h r0 3) - (nI 1))) r0 0) - (nI 1) else ((up h r0 3 ((h r0 3) - (nI 1))) r0 2) - (nI 1)), .ref r0] := by
      refine aw_puti fkX2_28 fw_2_2 (SF.n q0 hN) (SF.k q0) (Nat.le_of_ble_eq_true rfl) rfl dX2_takeInto_43 (aw_aload_n dX2_takeInto_46 rfl (aw_aload_n dX2_takeInto_47 rfl (aw_getr fkX2_21 (SF.n q0 hN) (SF.k q0) (Nat.le_of_ble_eq_true rfl) rfl dX2_takeInto_48 (aw_aload_n dX2_takeInto_51 rfl (aw_geti fkX2_28 (SF.n q0 hN) (SF.k q0) (Nat.le_of_ble_eq_true rfl) rfl dX2_takeInto_52 (aw_bipush (nI 66) dX2_takeInto_55 kb_66 (aw_imul dX2_takeInto_57 ?_)))))))
      obtain ⟨h2, c3, hf⟩ := obv_some hf
      cases hf
      exact aw_callVv (N := mX0_loadFrom) (As := [.ref (r0 + 1), .int (((up (up h r0 3 ((h r0 3) - (nI 1))) r0 2 (if ((up h r0 3 ((h r0 3) - (nI 1))) r0 2) ≤ nI 0 then ((up h r0 3 ((h r0 3) - (nI 1))) r0 0) - (nI 1) else ((up h r0 3 ((h r0 3) - (nI 1))) r0 2) - (nI 1))) r0 2) * (nI 66))]) lkX2_38 okX0_loadFrom (DR.n q1 hN) (DR.k q1) rfl (by rfl) (by rfl) (Nat.le_of_ble_eq_true rfl) ry_X2_takeInto_X0_loadFrom dX2_takeInto_58 (And.intro (Nat.le_refl _) (Nat.le_refl _)) (ct_X0_loadFrom hE hN F q1 (IA.of (SF.k1 q0) (SF.n1 q0 hN)) c3) (aw_iconst (nI 1) dX2_takeInto_61 ki_1 (aw_zret rfl (Or.inr rfl) dX2_takeInto_62))
    refine aw_aload_n dX2_takeInto_10 rfl (aw_dup dX2_takeInto_11 rfl (aw_geti fkX2_25 (SF.n q0 hN) (SF.k q0) (Nat.le_of_ble_eq_true rfl) rfl dX2_takeInto_12 (aw_iconst (nI 1) dX2_takeInto_15 ki_1 (aw_isub dX2_takeInto_16 (aw_puti fkX2_25 fw_2_3 (SF.n q0 hN) (SF.k q0) (Nat.le_of_ble_eq_true rfl) rfl dX2_takeInto_17 (aw_aload_n dX2_takeInto_20 rfl (aw_aload_n dX2_takeInto_21 rfl (aw_geti fkX2_28 (SF.n q0 hN) (SF.k q0) (Nat.le_of_ble_eq_true rfl) rfl dX2_takeInto_22 ?_))))))))
    refine aw_if_le 37 dX2_takeInto_25 rfl (fun g5 => ?_) (fun g5 => ?_)
    · skip
      refine aw_aload_n dX2_takeInto_37 rfl (aw_geti fkX2_13 (SF.n q0 hN) (SF.k q0) (Nat.le_of_ble_eq_true rfl) rfl dX2_takeInto_38 (aw_iconst (nI 1) dX2_takeInto_41 ki_1 (aw_isub dX2_takeInto_42 ?_)))
      simp only [if_pos g5] at key4 ⊢
      exact aw_dk key4 (And.intro rfl (And.intro rfl trivial))
    · skip
      refine aw_aload_n dX2_takeInto_28 rfl (aw_geti fkX2_28 (SF.n q0 hN) (SF.k q0) (Nat.le_of_ble_eq_true rfl) rfl dX2_takeInto_29 (aw_iconst (nI 1) dX2_takeInto_32 ki_1 (aw_isub dX2_takeInto_33 (aw_goto 43 dX2_takeInto_34 rfl ?_))))
      simp only [if_neg g5] at key4 ⊢
      exact aw_dk key4 (And.intro rfl (And.intro rfl trivial))
  · replace hf := (if_neg g1).symm.trans hf
    cases hf
    exact aw_iconst (nI 0) dX2_takeInto_8 ki_0 (aw_zret rfl (Or.inl rfl) dX2_takeInto_9)
set_option maxHeartbeats 4000000 in
set_option maxRecDepth 100000 in
theorem ct_J6_bitCount_0f7a4 {E : EV} (hE : EI E) {zN : Nat} (hN : zN ≤ eN E) (F : Nat) {tw : TW} {x0 : Int32} {h : HP} {v : Int32} {h' : HP} (hf : f_J6_bitCount_0f7a4 F x0 h = some (v, h')) : CT E mJ6_bitCount_0f7a4 tw h [.int x0] (some (.int v)) tw h' := by
  refine CT.of hE (show plainFor yJ6_bitCount_0f7a4 = true by decide +kernel) (Nat.le_of_ble_eq_true rfl) 0 ?_
  show AW E mJ6_bitCount_0f7a4 (KM E mJ6_bitCount_0f7a4 (some (.int v)) tw h') tw h 0 [some (.int x0)] []
  unfold f_J6_bitCount_0f7a4 at hf
  cases hf
  refine aw_iload_n dJ6_bitCount_0f7a4_0 rfl (aw_iload_n dJ6_bitCount_0f7a4_1 rfl (aw_iconst (nI 1) dJ6_bitCount_0f7a4_2 ki_1 (aw_iushr dJ6_bitCount_0f7a4_3 (aw_ldcw kcJ6_265 dJ6_bitCount_0f7a4_4 (aw_iand dJ6_bitCount_0f7a4_7 (aw_isub dJ6_bitCount_0f7a4_8 (aw_istore_n dJ6_bitCount_0f7a4_9 (Nat.le_of_ble_eq_true rfl) (aw_iload_n dJ6_bitCount_0f7a4_10 rfl (aw_ldcw kcJ6_266 dJ6_bitCount_0f7a4_11 (aw_iand dJ6_bitCount_0f7a4_14 (aw_iload_n dJ6_bitCount_0f7a4_15 rfl ?_)))))))))))
  refine aw_iconst (nI 2) dJ6_bitCount_0f7a4_16 ki_2 (aw_iushr dJ6_bitCount_0f7a4_17 (aw_ldcw kcJ6_266 dJ6_bitCount_0f7a4_18 (aw_iand dJ6_bitCount_0f7a4_21 (aw_iadd dJ6_bitCount_0f7a4_22 (aw_istore_n dJ6_bitCount_0f7a4_23 (Nat.le_of_ble_eq_true rfl) (aw_iload_n dJ6_bitCount_0f7a4_24 rfl (aw_iload_n dJ6_bitCount_0f7a4_25 rfl (aw_iconst (nI 4) dJ6_bitCount_0f7a4_26 ki_4 (aw_iushr dJ6_bitCount_0f7a4_27 (aw_iadd dJ6_bitCount_0f7a4_28 (aw_ldcw kcJ6_267 dJ6_bitCount_0f7a4_29 ?_)))))))))))
  refine aw_iand dJ6_bitCount_0f7a4_32 (aw_istore_n dJ6_bitCount_0f7a4_33 (Nat.le_of_ble_eq_true rfl) (aw_iload_n dJ6_bitCount_0f7a4_34 rfl (aw_iload_n dJ6_bitCount_0f7a4_35 rfl (aw_bipush (nI 8) dJ6_bitCount_0f7a4_36 kb_8 (aw_iushr dJ6_bitCount_0f7a4_38 (aw_iadd dJ6_bitCount_0f7a4_39 (aw_istore_n dJ6_bitCount_0f7a4_40 (Nat.le_of_ble_eq_true rfl) (aw_iload_n dJ6_bitCount_0f7a4_41 rfl (aw_iload_n dJ6_bitCount_0f7a4_42 rfl (aw_bipush (nI 16) dJ6_bitCount_0f7a4_43 kb_16 (aw_iushr dJ6_bitCount_0f7a4_45 ?_)))))))))))
  refine aw_iadd dJ6_bitCount_0f7a4_46 (aw_istore_n dJ6_bitCount_0f7a4_47 (Nat.le_of_ble_eq_true rfl) (aw_iload_n dJ6_bitCount_0f7a4_48 rfl (aw_bipush (nI 63) dJ6_bitCount_0f7a4_49 kb_63 (aw_iand dJ6_bitCount_0f7a4_51 ?_))))
  exact aw_iret rfl dJ6_bitCount_0f7a4_52
set_option maxHeartbeats 4000000 in
set_option maxRecDepth 100000 in
theorem ct_X3_lettersOf {E : EV} (hE : EI E) (hN : 39 ≤ eN E) (F : Nat) {tw : TW} {x0 : Int32} {h : HP} {v : Int32} {h' : HP} (hf : f_X3_lettersOf F x0 h = some (v, h')) : CT E mX3_lettersOf tw h [.int x0] (some (.int v)) tw h' := by
  refine CT.of hE (show plainFor yX3_lettersOf = true by decide +kernel) (Nat.le_of_ble_eq_true rfl) 1 ?_
  show AW E mX3_lettersOf (KM E mX3_lettersOf (some (.int v)) tw h') tw h 0 [some (.int x0), none] []
  unfold f_X3_lettersOf at hf
  refine aw_iload_n dX3_lettersOf_0 rfl ?_
  obtain ⟨v3, h1, c2, hf⟩ := ob_some hf
  refine aw_callSi (N := mJ6_bitCount_0f7a4) (As := [.int x0]) lkX3_38 okJ6_bitCount_0f7a4 (by rfl) (by rfl) (Nat.le_of_ble_eq_true rfl) ry_X3_lettersOf_J6_bitCount_0f7a4 dX3_lettersOf_1 (And.intro (Nat.le_refl _) (Nat.le_refl _)) (ct_J6_bitCount_0f7a4 hE hN F c2) (aw_istore_n dX3_lettersOf_4 (Nat.le_of_ble_eq_true rfl) (aw_iload_n dX3_lettersOf_5 rfl (aw_iconst (nI 2) dX3_lettersOf_6 ki_2 ?_)))
  refine aw_icmp_ge 14 dX3_lettersOf_7 rfl (fun g4 => ?_) (fun g4 => ?_)
  · replace hf := (if_pos g4).symm.trans hf
    cases hf
    exact aw_iload_n dX3_lettersOf_14 rfl (aw_iconst (nI 2) dX3_lettersOf_15 ki_2 (aw_iadd dX3_lettersOf_16 (aw_iret rfl dX3_lettersOf_17)))
  · replace hf := (if_neg g4).symm.trans hf
    cases hf
    exact aw_iconst (nI 1) dX3_lettersOf_10 ki_1 (aw_goto 17 dX3_lettersOf_11 rfl (aw_iret rfl dX3_lettersOf_17))
set_option maxHeartbeats 4000000 in
set_option maxRecDepth 100000 in
theorem ct_X3_timesTold_48 {E : EV} (hE : EI E) (hN : 39 ≤ eN E) (F : Nat) {tw : TW} {x1 : Int32} {x2 : Int32} {r3 : Nat} (q3 : IA E r3) {x4 : Int32} {v : Int32} {h' : HP} : ∀ (x5 : Int32) (h : HP), f_X3_timesTold_48 F x1 x2 r3 x4 x5 h = some (v, h') → AW E mX3_timesTold (KM E mX3_timesTold (some (.int v)) tw h') tw h 48 [none, none, some (.int x2), none, none, some (.int x5), none] [] := by
  intro x5 h hf
  unfold f_X3_timesTold_48 at hf
  refine aw_iload_n dX3_timesTold_48 rfl ?_
  refine aw_if_le 61 dX3_timesTold_49 rfl (fun g8 => ?_) (fun g8 => ?_)
  · replace hf := (if_pos g8).symm.trans hf
    cases hf
    exact aw_iconst (nI 1) dX3_timesTold_61 ki_1 (aw_iret rfl dX3_timesTold_62)
  · replace hf := (if_neg g8).symm.trans hf
    refine aw_iconst (nI 1) dX3_timesTold_52 ki_1 (aw_iload dX3_timesTold_53 rfl (aw_iload_n dX3_timesTold_55 rfl ?_))
    obtain ⟨g9, hf⟩ := ogd hf
    cases hf
    exact aw_idiv g9 dX3_timesTold_56 (aw_iadd dX3_timesTold_57 (aw_goto 62 dX3_timesTold_58 rfl (aw_iret rfl dX3_timesTold_62)))
set_option maxHeartbeats 4000000 in
set_option maxRecDepth 100000 in
theorem ct_X3_timesTold_18 {E : EV} (hE : EI E) (hN : 39 ≤ eN E) (F : Nat) {tw : TW} {x1 : Int32} {x2 : Int32} {r3 : Nat} (q3 : IA E r3) {x4 : Int32} {v : Int32} {h' : HP} : ∀ (n : Nat) (x5 : Int32) (x6 : Int32) (h : HP), f_X3_timesTold_18 F x1 x2 r3 x4 n x5 x6 h = some (v, h') → AW E mX3_timesTold (KM E mX3_timesTold (some (.int v)) tw h') tw h 18 [none, some (.int x1), some (.int x2), some (.ref r3), none, some (.int x5), some (.int x6)] [] := by
  intro n
  induction n with
  | zero => intro x5 x6 h hf; exact absurd (show (none : Option (Int32 × HP)) = some _ from hf) (fun z => nomatch z)
  | succ n ih =>
    intro x5 x6 h hf
    rw [f_X3_timesTold_18] at hf
    refine aw_iload dX3_timesTold_18 rfl (aw_iload dX3_timesTold_20 rfl ?_)
    refine aw_icmp_ge 48 dX3_timesTold_22 rfl (fun g4 => ?_) (fun g4 => ?_)
    · replace hf := (if_pos g4).symm.trans hf
      exact aw_dk (ct_X3_timesTold_48 hE hN F q3 _ _ hf) (And.intro rfl (And.intro rfl trivial))
    · replace hf := (if_neg g4).symm.trans hf
      refine aw_aload_n dX3_timesTold_25 rfl (aw_iload_n dX3_timesTold_26 rfl (aw_iload dX3_timesTold_27 rfl (aw_iadd dX3_timesTold_29 ?_)))
      obtain ⟨g5, hf⟩ := ogd hf
      refine aw_iald q3.2 q3.1 g5 dX3_timesTold_30 (aw_aload_n dX3_timesTold_31 rfl (aw_iload_n dX3_timesTold_32 rfl (aw_iload dX3_timesTold_33 rfl (aw_iadd dX3_timesTold_35 (aw_iload_n dX3_timesTold_36 rfl (aw_iadd dX3_timesTold_37 ?_))))))
      obtain ⟨g6, hf⟩ := ogd hf
      refine aw_iald q3.2 q3.1 g6 dX3_timesTold_38 ?_
      refine aw_icmp_ne 48 dX3_timesTold_39 rfl (fun g7 => ?_) (fun g7 => ?_)
      · replace hf := (if_neg g7).symm.trans hf
        exact aw_dk (ct_X3_timesTold_48 hE hN F q3 _ _ hf) (And.intro rfl (And.intro rfl trivial))
      · replace hf := (if_pos g7).symm.trans hf
        refine aw_iinc (nI 1) dX3_timesTold_42 rfl (Nat.le_of_ble_eq_true rfl) ki_1 (aw_goto 18 dX3_timesTold_45 rfl ?_)
        exact aw_dk (ih _ _ _ hf) (And.intro rfl (And.intro rfl (And.intro rfl (And.intro rfl (And.intro rfl trivial)))))
set_option maxHeartbeats 4000000 in
set_option maxRecDepth 100000 in
theorem ct_X3_timesTold {E : EV} (hE : EI E) (hN : 39 ≤ eN E) (F : Nat) {tw : TW} {x1 : Int32} {x2 : Int32} {r3 : Nat} (q3 : IA E r3) {x4 : Int32} {h : HP} {v : Int32} {h' : HP} (hf : f_X3_timesTold F x1 x2 r3 x4 h = some (v, h')) : CT E mX3_timesTold tw h [.ref 30, .int x1, .int x2, .ref r3, .int x4] (some (.int v)) tw h' := by
  refine CT.of hE (show plainFor yX3_timesTold = true by decide +kernel) (Nat.le_of_ble_eq_true rfl) 2 ?_
  show AW E mX3_timesTold (KM E mX3_timesTold (some (.int v)) tw h') tw h 0 [some (.ref 30), some (.int x1), some (.int x2), some (.ref r3), some (.int x4), none, none] []
  unfold f_X3_timesTold at hf
  refine aw_iconst (nI 0) dX3_timesTold_0 ki_0 (aw_istore dX3_timesTold_1 (Nat.le_of_ble_eq_true rfl) (aw_iload dX3_timesTold_3 rfl (aw_iload_n dX3_timesTold_5 rfl (aw_isub dX3_timesTold_6 (aw_iload_n dX3_timesTold_7 rfl (aw_isub dX3_timesTold_8 (aw_bipush (nI 8) dX3_timesTold_9 kb_8 (aw_iload_n dX3_timesTold_11 rfl (aw_imul dX3_timesTold_12 ?_)))))))))
  obtain ⟨v3, h1, c2, hf⟩ := ob_some hf
  refine aw_callSi (N := mJ9_min_7cf53) (As := [.int ((x4 - x1) - x2), .int ((nI 8) * x2)]) lkX3_32 okJ9_min_7cf53 (by rfl) (by rfl) (Nat.le_of_ble_eq_true rfl) ry_X3_timesTold_J9_min_7cf53 dX3_timesTold_13 (And.intro (Nat.le_refl _) (Nat.le_refl _)) (ct_J9_min_7cf53 hE hN F c2) (aw_istore dX3_timesTold_16 (Nat.le_of_ble_eq_true rfl) ?_)
  exact aw_dk (ct_X3_timesTold_18 hE hN F q3 F _ _ _ hf) (And.intro rfl (And.intro rfl (And.intro rfl (And.intro rfl (And.intro rfl trivial)))))
set_option maxHeartbeats 4000000 in
set_option maxRecDepth 100000 in
theorem ct_X3_beginWithPart_3 {E : EV} (hE : EI E) (hN : 39 ≤ eN E) (F : Nat) {tw : TW} {r1 : Nat} (q1 : IA E r1) {x2 : Int32} {x3 : Int32} {x4 : Int32} {x5 : Int32} {h' : HP} : ∀ (n : Nat) (x6 : Int32) (h : HP), f_X3_beginWithPart_3 F r1 x2 x3 x4 x5 n x6 h = some h' → AW E mX3_beginWithPart (KM E mX3_beginWithPart none tw h') tw h 3 [none, some (.ref r1), some (.int x2), some (.int x3), some (.int x4), some (.int x5), some (.int x6), none] [] := by
  intro n
  induction n with
  | zero => intro x6 h hf; exact absurd (show (none : Option (HP)) = some _ from hf) (fun z => nomatch z)
  | succ n ih =>
    intro x6 h hf
    rw [f_X3_beginWithPart_3] at hf
    refine aw_iload dX3_beginWithPart_3 rfl (aw_iload dX3_beginWithPart_5 rfl ?_)
    refine aw_icmp_gt 55 dX3_beginWithPart_7 rfl (fun g1 => ?_) (fun g1 => ?_)
    · replace hf := (if_pos g1).symm.trans hf
      cases hf
      exact aw_vret rfl dX3_beginWithPart_55
    · replace hf := (if_neg g1).symm.trans hf
      refine aw_iload dX3_beginWithPart_10 rfl (aw_aload_n dX3_beginWithPart_12 rfl (aw_iload_n dX3_beginWithPart_13 rfl (aw_bipush (nI 33) dX3_beginWithPart_14 kb_33 (aw_imul dX3_beginWithPart_16 (aw_iload dX3_beginWithPart_17 rfl (aw_iadd dX3_beginWithPart_19 ?_))))))
      obtain ⟨g2, hf⟩ := ogd hf
      refine aw_iald q1.2 q1.1 g2 dX3_beginWithPart_20 (aw_iadd dX3_beginWithPart_21 (aw_istore dX3_beginWithPart_22 (Nat.le_of_ble_eq_true rfl) (aw_iload dX3_beginWithPart_24 rfl (aw_aload_n dX3_beginWithPart_26 rfl (aw_iload_n dX3_beginWithPart_27 rfl (aw_bipush (nI 33) dX3_beginWithPart_28 kb_33 (aw_imul dX3_beginWithPart_30 (aw_iload dX3_beginWithPart_31 rfl (aw_iadd dX3_beginWithPart_33 ?_)))))))))
      obtain ⟨g3, hf⟩ := ogd hf
      refine aw_iald q1.2 q1.1 g3 dX3_beginWithPart_34 ?_
      refine aw_icmp_ge 49 dX3_beginWithPart_35 rfl (fun g4 => ?_) (fun g4 => ?_)
      · replace hf := (if_pos g4).symm.trans hf
        refine aw_iinc (nI 1) dX3_beginWithPart_49 rfl (Nat.le_of_ble_eq_true rfl) ki_1 (aw_goto 3 dX3_beginWithPart_52 rfl ?_)
        exact aw_dk (ih _ _ hf) (And.intro rfl (And.intro rfl (And.intro rfl (And.intro rfl (And.intro rfl (And.intro rfl trivial))))))
      · replace hf := (if_neg g4).symm.trans hf
        refine aw_aload_n dX3_beginWithPart_38 rfl (aw_iload_n dX3_beginWithPart_39 rfl (aw_bipush (nI 33) dX3_beginWithPart_40 kb_33 (aw_imul dX3_beginWithPart_42 (aw_iload dX3_beginWithPart_43 rfl (aw_iadd dX3_beginWithPart_45 (aw_iload dX3_beginWithPart_46 rfl (aw_iast q1.2 q1.1 g3 dX3_beginWithPart_48 (aw_iinc (nI 1) dX3_beginWithPart_49 rfl (Nat.le_of_ble_eq_true rfl) ki_1 (aw_goto 3 dX3_beginWithPart_52 rfl ?_)))))))))
        exact aw_dk (ih _ _ hf) (And.intro rfl (And.intro rfl (And.intro rfl (And.intro rfl (And.intro rfl (And.intro rfl trivial))))))
set_option maxHeartbeats 4000000 in
set_option maxRecDepth 100000 in
theorem ct_X3_beginWithPart {E : EV} (hE : EI E) (hN : 39 ≤ eN E) (F : Nat) {tw : TW} {r1 : Nat} (q1 : IA E r1) {x2 : Int32} {x3 : Int32} {x4 : Int32} {x5 : Int32} {h : HP} {h' : HP} (hf : f_X3_beginWithPart F r1 x2 x3 x4 x5 h = some h') : CT E mX3_beginWithPart tw h [.ref 30, .ref r1, .int x2, .int x3, .int x4, .int x5] none tw h' := by
  refine CT.of hE (show plainFor yX3_beginWithPart = true by decide +kernel) (Nat.le_of_ble_eq_true rfl) 2 ?_
  show AW E mX3_beginWithPart (KM E mX3_beginWithPart none tw h') tw h 0 [some (.ref 30), some (.ref r1), some (.int x2), some (.int x3), some (.int x4), some (.int x5), none, none] []
  unfold f_X3_beginWithPart at hf
  refine aw_iload_n dX3_beginWithPart_0 rfl (aw_istore dX3_beginWithPart_1 (Nat.le_of_ble_eq_true rfl) ?_)
  exact aw_dk (ct_X3_beginWithPart_3 hE hN F q1 F _ _ hf) (And.intro rfl (And.intro rfl (And.intro rfl (And.intro rfl (And.intro rfl (And.intro rfl trivial))))))
set_option maxHeartbeats 4000000 in
set_option maxRecDepth 100000 in
theorem ct_X3_fillFrom_136 {E : EV} (hE : EI E) (hN : 39 ≤ eN E) (F : Nat) {tw : TW} {x1 : Int32} {x2 : Int32} {r3 : Nat} (q3 : IA E r3) {x4 : Int32} {h' : HP} (g1 : inb x1 4 = true) {k_79 : Int32 → HP → Option (HP)} (hk_79 : ∀ (x7 : Int32) (h : HP), k_79 x7 h = some h' → AW E mX3_fillFrom (KM E mX3_fillFrom none tw h') tw h 79 [some (.ref 30), some (.int x1), some (.int x2), some (.ref r3), some (.int x4), some (.ref (31 + 1 + (ix x1))), none, some (.int x7), none, none, none] []) : ∀ (n : Nat) (x7 : Int32) (x8 : Int32) (x9 : Int32) (x10 : Int32) (h : HP), f_X3_fillFrom_136 F x1 x2 r3 x4 k_79 n x7 x8 x9 x10 h = some h' → AW E mX3_fillFrom (KM E mX3_fillFrom none tw h') tw h 136 [some (.ref 30), some (.int x1), some (.int x2), some (.ref r3), some (.int x4), some (.ref (31 + 1 + (ix x1))), none, some (.int x7), some (.int x8), some (.int x9), some (.int x10)] [] := by
  intro n
  induction n with
  | zero => intro x7 x8 x9 x10 h hf; exact absurd (show (none : Option (HP)) = some _ from hf) (fun z => nomatch z)
  | succ n ih =>
    intro x7 x8 x9 x10 h hf
    rw [f_X3_fillFrom_136] at hf
    refine aw_iload dX3_fillFrom_136 rfl (aw_iload_n dX3_fillFrom_138 rfl (aw_iload dX3_fillFrom_139 rfl (aw_iload dX3_fillFrom_141 rfl (aw_imul dX3_fillFrom_143 (aw_iadd dX3_fillFrom_144 ?_)))))
    refine aw_icmp_gt 171 dX3_fillFrom_145 rfl (fun g18 => ?_) (fun g18 => ?_)
    · replace hf := (if_pos g18).symm.trans hf
      refine aw_iinc (nI 1) dX3_fillFrom_171 rfl (Nat.le_of_ble_eq_true rfl) ki_1 (aw_goto 79 dX3_fillFrom_174 rfl ?_)
      exact aw_dk (hk_79 _ _ hf) (And.intro rfl (And.intro rfl (And.intro rfl (And.intro rfl (And.intro rfl (And.intro rfl (And.intro rfl trivial)))))))
    · replace hf := (if_neg g18).symm.trans hf
      refine aw_aload_n dX3_fillFrom_148 rfl (aw_aload dX3_fillFrom_149 rfl (aw_iload_n dX3_fillFrom_151 rfl (aw_iload dX3_fillFrom_152 rfl (aw_iload dX3_fillFrom_154 rfl (aw_iload dX3_fillFrom_156 rfl ?_)))))
      obtain ⟨h19, c20, hf⟩ := obv_some hf
      refine aw_callVv (N := mX3_beginWithPart) (As := [.ref (31 + 1 + (ix x1)), .int x2, .int x10, .int x8, .int x4]) lkX3_28 okX3_beginWithPart (nl hN rfl) kd_30 rfl (by rfl) (by rfl) (Nat.le_of_ble_eq_true rfl) ry_X3_fillFrom_X3_beginWithPart dX3_fillFrom_158 (And.intro (Nat.le_refl _) (Nat.le_refl _)) (ct_X3_beginWithPart hE hN F (IA.of (rowk g1) (rown g1 hN)) c20) (aw_iload dX3_fillFrom_161 rfl (aw_iload dX3_fillFrom_163 rfl (aw_iadd dX3_fillFrom_165 (aw_istore dX3_fillFrom_166 (Nat.le_of_ble_eq_true rfl) (aw_goto 136 dX3_fillFrom_168 rfl ?_)))))
      exact aw_dk (ih _ _ _ _ _ hf) (And.intro rfl (And.intro rfl (And.intro rfl (And.intro rfl (And.intro rfl (And.intro rfl (And.intro rfl (And.intro rfl (And.intro rfl (And.intro rfl trivial))))))))))
set_option maxHeartbeats 4000000 in
set_option maxRecDepth 100000 in
theorem ct_X3_fillFrom_79 {E : EV} (hE : EI E) (hN : 39 ≤ eN E) (F : Nat) {tw : TW} {x1 : Int32} {x2 : Int32} {r3 : Nat} (q3 : IA E r3) {x4 : Int32} {h' : HP} (g1 : inb x1 4 = true) : ∀ (n : Nat) (x7 : Int32) (h : HP), f_X3_fillFrom_79 F x1 x2 r3 x4 n x7 h = some h' → AW E mX3_fillFrom (KM E mX3_fillFrom none tw h') tw h 79 [some (.ref 30), some (.int x1), some (.int x2), some (.ref r3), some (.int x4), some (.ref (31 + 1 + (ix x1))), none, some (.int x7), none, none, none] [] := by
  intro n
  induction n with
  | zero => intro x7 h hf; exact absurd (show (none : Option (HP)) = some _ from hf) (fun z => nomatch z)
  | succ n ih =>
    intro x7 h hf
    rw [f_X3_fillFrom_79] at hf
    refine aw_iload_n dX3_fillFrom_79 rfl ?_
    refine aw_if_le 177 dX3_fillFrom_80 rfl (fun g11 => ?_) (fun g11 => ?_)
    · replace hf := (if_pos g11).symm.trans hf
      cases hf
      exact aw_vret rfl dX3_fillFrom_177
    · replace hf := (if_neg g11).symm.trans hf
      refine aw_iload_n dX3_fillFrom_83 rfl (aw_iconst (nI 2) dX3_fillFrom_84 ki_2 (aw_iload dX3_fillFrom_85 rfl (aw_imul dX3_fillFrom_87 (aw_iadd dX3_fillFrom_88 (aw_iload dX3_fillFrom_89 rfl ?_)))))
      refine aw_icmp_gt 177 dX3_fillFrom_91 rfl (fun g12 => ?_) (fun g12 => ?_)
      · replace hf := (if_pos g12).symm.trans hf
        cases hf
        exact aw_vret rfl dX3_fillFrom_177
      · replace hf := (if_neg g12).symm.trans hf
        refine aw_iconst (nI 3) dX3_fillFrom_94 ki_3 (aw_aload_n dX3_fillFrom_95 rfl (aw_getr fkX3_13 (nl hN rfl) kd_30 (Nat.le_of_ble_eq_true rfl) rfl dX3_fillFrom_96 (aw_iload_n dX3_fillFrom_99 rfl (aw_iconst (nI 1) dX3_fillFrom_100 ki_1 (aw_isub dX3_fillFrom_101 ?_)))))
        obtain ⟨g13, hf⟩ := ogd hf
        refine aw_aald (nl hN rfl) kd_31 g13 dX3_fillFrom_102 (aw_iload_n dX3_fillFrom_103 rfl (aw_bipush (nI 33) dX3_fillFrom_104 kb_33 (aw_imul dX3_fillFrom_106 (aw_iload_n dX3_fillFrom_107 rfl (aw_iadd dX3_fillFrom_108 (aw_iload dX3_fillFrom_109 rfl (aw_iadd dX3_fillFrom_111 ?_)))))))
        obtain ⟨g14, hf⟩ := ogd hf
        refine aw_iald (rown g13 hN) (rowk g13) g14 dX3_fillFrom_112 (aw_iadd dX3_fillFrom_113 (aw_istore dX3_fillFrom_114 (Nat.le_of_ble_eq_true rfl) (aw_aload_n dX3_fillFrom_116 rfl (aw_iload_n dX3_fillFrom_117 rfl (aw_iload dX3_fillFrom_118 rfl (aw_aload_n dX3_fillFrom_120 rfl (aw_iload dX3_fillFrom_121 rfl ?_)))))))
        obtain ⟨v17, h15, c16, hf⟩ := ob_some hf
        refine aw_callVi (N := mX3_timesTold) (As := [.int x2, .int x7, .ref r3, .int x4]) lkX3_24 okX3_timesTold (nl hN rfl) kd_30 rfl (by rfl) (by rfl) (Nat.le_of_ble_eq_true rfl) ry_X3_fillFrom_X3_timesTold dX3_fillFrom_123 (And.intro (Nat.le_refl _) (Nat.le_refl _)) (ct_X3_timesTold hE hN F q3 c16) (aw_istore dX3_fillFrom_126 (Nat.le_of_ble_eq_true rfl) (aw_iload_n dX3_fillFrom_128 rfl (aw_iconst (nI 2) dX3_fillFrom_129 ki_2 (aw_iload dX3_fillFrom_130 rfl (aw_imul dX3_fillFrom_132 (aw_iadd dX3_fillFrom_133 (aw_istore dX3_fillFrom_134 (Nat.le_of_ble_eq_true rfl) ?_)))))))
        exact aw_dk (ct_X3_fillFrom_136 hE hN F q3 g1 ih F _ _ _ _ _ hf) (And.intro rfl (And.intro rfl (And.intro rfl (And.intro rfl (And.intro rfl (And.intro rfl (And.intro rfl (And.intro rfl (And.intro rfl (And.intro rfl trivial))))))))))
set_option maxHeartbeats 4000000 in
set_option maxRecDepth 100000 in
theorem ct_X3_fillFrom_38 {E : EV} (hE : EI E) (hN : 39 ≤ eN E) (F : Nat) {tw : TW} {x1 : Int32} {x2 : Int32} {r3 : Nat} (q3 : IA E r3) {x4 : Int32} {h' : HP} (g1 : inb x1 4 = true) : ∀ (n : Nat) (x6 : Int32) (x7 : Int32) (h : HP), f_X3_fillFrom_38 F x1 x2 r3 x4 n x6 x7 h = some h' → AW E mX3_fillFrom (KM E mX3_fillFrom none tw h') tw h 38 [some (.ref 30), some (.int x1), some (.int x2), some (.ref r3), some (.int x4), some (.ref (31 + 1 + (ix x1))), some (.int x6), some (.int x7), none, none, none] [] := by
  intro n
  induction n with
  | zero => intro x6 x7 h hf; exact absurd (show (none : Option (HP)) = some _ from hf) (fun z => nomatch z)
  | succ n ih =>
    intro x6 x7 h hf
    rw [f_X3_fillFrom_38] at hf
    refine aw_iload dX3_fillFrom_38 rfl (aw_iload dX3_fillFrom_40 rfl ?_)
    refine aw_icmp_gt 76 dX3_fillFrom_42 rfl (fun g8 => ?_) (fun g8 => ?_)
    · replace hf := (if_pos g8).symm.trans hf
      refine aw_iconst (nI 1) dX3_fillFrom_76 ki_1 (aw_istore dX3_fillFrom_77 (Nat.le_of_ble_eq_true rfl) ?_)
      exact aw_dk (ct_X3_fillFrom_79 hE hN F q3 g1 F _ _ hf) (And.intro rfl (And.intro rfl (And.intro rfl (And.intro rfl (And.intro rfl (And.intro rfl (And.intro rfl trivial)))))))
    · replace hf := (if_neg g8).symm.trans hf
      refine aw_aload dX3_fillFrom_45 rfl (aw_iload_n dX3_fillFrom_47 rfl (aw_bipush (nI 33) dX3_fillFrom_48 kb_33 (aw_imul dX3_fillFrom_50 (aw_iload dX3_fillFrom_51 rfl (aw_iadd dX3_fillFrom_53 (aw_iload dX3_fillFrom_54 rfl (aw_aload dX3_fillFrom_56 rfl (aw_iload_n dX3_fillFrom_58 rfl (aw_iconst (nI 1) dX3_fillFrom_59 ki_1 (aw_iadd dX3_fillFrom_60 (aw_bipush (nI 33) dX3_fillFrom_61 kb_33 ?_)))))))))))
      refine aw_imul dX3_fillFrom_63 (aw_iload dX3_fillFrom_64 rfl (aw_iadd dX3_fillFrom_66 ?_))
      obtain ⟨g9, hf⟩ := ogd hf
      refine aw_iald (rown g1 hN) (rowk g1) g9 dX3_fillFrom_67 (aw_iadd dX3_fillFrom_68 ?_)
      obtain ⟨g10, hf⟩ := ogd hf
      refine aw_iast (rown g1 hN) (rowk g1) g10 dX3_fillFrom_69 (aw_iinc (nI 1) dX3_fillFrom_70 rfl (Nat.le_of_ble_eq_true rfl) ki_1 (aw_goto 38 dX3_fillFrom_73 rfl ?_))
      exact aw_dk (ih _ _ _ hf) (And.intro rfl (And.intro rfl (And.intro rfl (And.intro rfl (And.intro rfl (And.intro rfl (And.intro rfl (And.intro rfl trivial))))))))
set_option maxHeartbeats 4000000 in
set_option maxRecDepth 100000 in
theorem ct_X3_fillFrom {E : EV} (hE : EI E) (hN : 39 ≤ eN E) (F : Nat) {tw : TW} {x1 : Int32} {x2 : Int32} {r3 : Nat} (q3 : IA E r3) {x4 : Int32} {h : HP} {h' : HP} (hf : f_X3_fillFrom F x1 x2 r3 x4 h = some h') : CT E mX3_fillFrom tw h [.ref 30, .int x1, .int x2, .ref r3, .int x4] none tw h' := by
  refine CT.of hE (show plainFor yX3_fillFrom = true by decide +kernel) (Nat.le_of_ble_eq_true rfl) 6 ?_
  show AW E mX3_fillFrom (KM E mX3_fillFrom none tw h') tw h 0 [some (.ref 30), some (.int x1), some (.int x2), some (.ref r3), some (.int x4), none, none, none, none, none, none] []
  unfold f_X3_fillFrom at hf
  refine aw_aload_n dX3_fillFrom_0 rfl (aw_getr fkX3_13 (nl hN rfl) kd_30 (Nat.le_of_ble_eq_true rfl) rfl dX3_fillFrom_1 (aw_iload_n dX3_fillFrom_4 rfl ?_))
  obtain ⟨g1, hf⟩ := ogd hf
  refine aw_aald (nl hN rfl) kd_31 g1 dX3_fillFrom_5 (aw_astore dX3_fillFrom_6 (Nat.le_of_ble_eq_true rfl) (aw_aload dX3_fillFrom_8 rfl (aw_iload_n dX3_fillFrom_10 rfl (aw_bipush (nI 33) dX3_fillFrom_11 kb_33 (aw_imul dX3_fillFrom_13 (aw_iload_n dX3_fillFrom_14 rfl (aw_iadd dX3_fillFrom_15 (aw_iconst (nI 0) dX3_fillFrom_16 ki_0 ?_))))))))
  obtain ⟨g2, hf⟩ := ogd hf
  refine aw_iast (rown g1 hN) (rowk g1) g2 dX3_fillFrom_17 (aw_iload_n dX3_fillFrom_18 rfl (aw_iload dX3_fillFrom_19 rfl ?_))
  refine aw_icmp_lt 25 dX3_fillFrom_21 rfl (fun g3 => ?_) (fun g3 => ?_)
  · replace hf := (if_pos g3).symm.trans hf
    refine aw_aload_n dX3_fillFrom_25 rfl (aw_iload_n dX3_fillFrom_26 rfl ?_)
    obtain ⟨g4, hf⟩ := ogd hf
    refine aw_iald q3.2 q3.1 g4 dX3_fillFrom_27 ?_
    obtain ⟨v7, h5, c6, hf⟩ := ob_some hf
    refine aw_callSi (N := mX3_lettersOf) (As := [.int ((up h (31 + 1 + (ix x1)) (ix ((x2 * (nI 33)) + x2)) (nI 0)) r3 (ix x2))]) lkX3_20 okX3_lettersOf (by rfl) (by rfl) (Nat.le_of_ble_eq_true rfl) ry_X3_fillFrom_X3_lettersOf dX3_fillFrom_28 (And.intro (Nat.le_refl _) (Nat.le_refl _)) (ct_X3_lettersOf hE hN F c6) (aw_istore dX3_fillFrom_31 (Nat.le_of_ble_eq_true rfl) (aw_iload_n dX3_fillFrom_33 rfl (aw_iconst (nI 1) dX3_fillFrom_34 ki_1 (aw_iadd dX3_fillFrom_35 (aw_istore dX3_fillFrom_36 (Nat.le_of_ble_eq_true rfl) ?_)))))
    exact aw_dk (ct_X3_fillFrom_38 hE hN F q3 g1 F _ _ _ hf) (And.intro rfl (And.intro rfl (And.intro rfl (And.intro rfl (And.intro rfl (And.intro rfl (And.intro rfl (And.intro rfl trivial))))))))
  · replace hf := (if_neg g3).symm.trans hf
    cases hf
    exact aw_vret rfl dX3_fillFrom_24
set_option maxHeartbeats 4000000 in
set_option maxRecDepth 100000 in
theorem ct_X3_fewestLetters_28 {E : EV} (hE : EI E) (hN : 39 ≤ eN E) (F : Nat) {tw : TW} {r1 : Nat} (q1 : IA E r1) {x2 : Int32} {v : Int32} {h' : HP} {k_20 : Int32 → HP → Option (Int32 × HP)} (hk_20 : ∀ (x3 : Int32) (h : HP), k_20 x3 h = some (v, h') → AW E mX3_fewestLetters (KM E mX3_fewestLetters (some (.int v)) tw h') tw h 20 [some (.ref 30), some (.ref r1), some (.int x2), some (.int x3), none] []) : ∀ (n : Nat) (x3 : Int32) (x4 : Int32) (h : HP), f_X3_fewestLetters_28 F r1 x2 k_20 n x3 x4 h = some (v, h') → AW E mX3_fewestLetters (KM E mX3_fewestLetters (some (.int v)) tw h') tw h 28 [some (.ref 30), some (.ref r1), some (.int x2), some (.int x3), some (.int x4)] [] := by
  intro n
  induction n with
  | zero => intro x3 x4 h hf; exact absurd (show (none : Option (Int32 × HP)) = some _ from hf) (fun z => nomatch z)
  | succ n ih =>
    intro x3 x4 h hf
    rw [f_X3_fewestLetters_28] at hf
    refine aw_iload dX3_fewestLetters_28 rfl ?_
    refine aw_if_lt 48 dX3_fewestLetters_30 rfl (fun g6 => ?_) (fun g6 => ?_)
    · replace hf := (if_pos g6).symm.trans hf
      refine aw_iinc (nI 1) dX3_fewestLetters_48 rfl (Nat.le_of_ble_eq_true rfl) ki_1 (aw_goto 20 dX3_fewestLetters_51 rfl ?_)
      exact aw_dk (hk_20 _ _ hf) (And.intro rfl (And.intro rfl (And.intro rfl (And.intro rfl trivial))))
    · replace hf := (if_neg g6).symm.trans hf
      refine aw_aload_n dX3_fewestLetters_33 rfl (aw_iload_n dX3_fewestLetters_34 rfl (aw_iload dX3_fewestLetters_35 rfl (aw_aload_n dX3_fewestLetters_37 rfl (aw_iload_n dX3_fewestLetters_38 rfl ?_))))
      obtain ⟨h7, c8, hf⟩ := obv_some hf
      refine aw_callVv (N := mX3_fillFrom) (As := [.int x3, .int x4, .ref r1, .int x2]) lkX3_16 okX3_fillFrom (nl hN rfl) kd_30 rfl (by rfl) (by rfl) (Nat.le_of_ble_eq_true rfl) ry_X3_fewestLetters_X3_fillFrom dX3_fewestLetters_39 (And.intro (Nat.le_refl _) (Nat.le_refl _)) (ct_X3_fillFrom hE hN F q1 c8) (aw_iinc (-1) dX3_fewestLetters_42 rfl (Nat.le_of_ble_eq_true rfl) ki_m1 (aw_goto 28 dX3_fewestLetters_45 rfl ?_))
      exact aw_dk (ih _ _ _ hf) (And.intro rfl (And.intro rfl (And.intro rfl (And.intro rfl (And.intro rfl trivial)))))
set_option maxHeartbeats 4000000 in
set_option maxRecDepth 100000 in
theorem ct_X3_fewestLetters_20 {E : EV} (hE : EI E) (hN : 39 ≤ eN E) (F : Nat) {tw : TW} {r1 : Nat} (q1 : IA E r1) {x2 : Int32} {v : Int32} {h' : HP} : ∀ (n : Nat) (x3 : Int32) (h : HP), f_X3_fewestLetters_20 F r1 x2 n x3 h = some (v, h') → AW E mX3_fewestLetters (KM E mX3_fewestLetters (some (.int v)) tw h') tw h 20 [some (.ref 30), some (.ref r1), some (.int x2), some (.int x3), none] [] := by
  intro n
  induction n with
  | zero => intro x3 h hf; exact absurd (show (none : Option (Int32 × HP)) = some _ from hf) (fun z => nomatch z)
  | succ n ih =>
    intro x3 h hf
    rw [f_X3_fewestLetters_20] at hf
    refine aw_iload_n dX3_fewestLetters_20 rfl (aw_iconst (nI 3) dX3_fewestLetters_21 ki_3 ?_)
    refine aw_icmp_gt 54 dX3_fewestLetters_22 rfl (fun g4 => ?_) (fun g4 => ?_)
    · replace hf := (if_pos g4).symm.trans hf
      refine aw_aload_n dX3_fewestLetters_54 rfl (aw_getr fkX3_13 (nl hN rfl) kd_30 (Nat.le_of_ble_eq_true rfl) rfl dX3_fewestLetters_55 (aw_iconst (nI 3) dX3_fewestLetters_58 ki_3 (aw_aaldk (j := 3) cx_3 (nl hN rfl) kd_31 ib_3_4 dX3_fewestLetters_59 (aw_iload_n dX3_fewestLetters_60 rfl ?_))))
      obtain ⟨g5, hf⟩ := ogd hf
      cases hf
      exact aw_iald (nl hN rfl) kd_35 g5 dX3_fewestLetters_61 (aw_iret rfl dX3_fewestLetters_62)
    · replace hf := (if_neg g4).symm.trans hf
      refine aw_iload_n dX3_fewestLetters_25 rfl (aw_istore dX3_fewestLetters_26 (Nat.le_of_ble_eq_true rfl) ?_)
      exact aw_dk (ct_X3_fewestLetters_28 hE hN F q1 ih F _ _ _ hf) (And.intro rfl (And.intro rfl (And.intro rfl (And.intro rfl (And.intro rfl trivial)))))
set_option maxHeartbeats 4000000 in
set_option maxRecDepth 100000 in
theorem ct_X3_fewestLetters {E : EV} (hE : EI E) (hN : 39 ≤ eN E) (F : Nat) {tw : TW} {r1 : Nat} (q1 : IA E r1) {x2 : Int32} {h : HP} {v : Int32} {h' : HP} (hf : f_X3_fewestLetters F r1 x2 h = some (v, h')) : CT E mX3_fewestLetters tw h [.ref 30, .ref r1, .int x2] (some (.int v)) tw h' := by
  refine CT.of hE (show plainFor yX3_fewestLetters = true by decide +kernel) (Nat.le_of_ble_eq_true rfl) 2 ?_
  show AW E mX3_fewestLetters (KM E mX3_fewestLetters (some (.int v)) tw h') tw h 0 [some (.ref 30), some (.ref r1), some (.int x2), none, none] []
  unfold f_X3_fewestLetters at hf
  refine aw_iload_n dX3_fewestLetters_0 rfl ?_
  refine aw_if_lt 16 dX3_fewestLetters_1 rfl (fun g1 => ?_) (fun g1 => ?_)
  · replace hf := (if_pos g1).symm.trans hf
    cases hf
    exact aw_iconst (nI 0) dX3_fewestLetters_16 ki_0 (aw_iret rfl dX3_fewestLetters_17)
  · replace hf := (if_neg g1).symm.trans hf
    refine aw_iload_n dX3_fewestLetters_4 rfl (aw_bipush (nI 32) dX3_fewestLetters_5 kb_32 ?_)
    refine aw_icmp_gt 16 dX3_fewestLetters_7 rfl (fun g2 => ?_) (fun g2 => ?_)
    · replace hf := (if_pos g2).symm.trans hf
      cases hf
      exact aw_iconst (nI 0) dX3_fewestLetters_16 ki_0 (aw_iret rfl dX3_fewestLetters_17)
    · replace hf := (if_neg g2).symm.trans hf
      refine aw_iload_n dX3_fewestLetters_10 rfl (aw_aload_n dX3_fewestLetters_11 rfl (aw_alen (nI (ln r1)) q1.2 q1.1 (by rfl) dX3_fewestLetters_12 ?_))
      refine aw_icmp_le 18 dX3_fewestLetters_13 rfl (fun g3 => ?_) (fun g3 => ?_)
      · replace hf := (if_pos g3).symm.trans hf
        refine aw_iconst (nI 0) dX3_fewestLetters_18 ki_0 (aw_istore_n dX3_fewestLetters_19 (Nat.le_of_ble_eq_true rfl) ?_)
        exact aw_dk (ct_X3_fewestLetters_20 hE hN F q1 F _ _ hf) (And.intro rfl (And.intro rfl (And.intro rfl (And.intro rfl trivial))))
      · replace hf := (if_neg g3).symm.trans hf
        cases hf
        exact aw_iconst (nI 0) dX3_fewestLetters_16 ki_0 (aw_iret rfl dX3_fewestLetters_17)
set_option maxHeartbeats 4000000 in
set_option maxRecDepth 100000 in
theorem ct_X4_append {E : EV} (hE : EI E) (hN : 39 ≤ eN E) (F : Nat) {tw : TW} {x1 : Int32} {h : HP} {v : Int32} {h' : HP} (hf : f_X4_append F x1 h = some (v, h')) : CT E mX4_append tw h [.ref 1, .int x1] (some (.int v)) tw h' := by
  refine CT.of hE (show plainFor yX4_append = true by decide +kernel) (Nat.le_of_ble_eq_true rfl) 0 ?_
  show AW E mX4_append (KM E mX4_append (some (.int v)) tw h') tw h 0 [some (.ref 1), some (.int x1)] []
  unfold f_X4_append at hf
  refine aw_aload_n dX4_append_0 rfl (aw_geti fkX4_18 (nl hN rfl) kd_1 (Nat.le_of_ble_eq_true rfl) rfl dX4_append_1 (aw_sipush (nI 200) dX4_append_4 ks_200 ?_))
  refine aw_icmp_lt 12 dX4_append_7 rfl (fun g1 => ?_) (fun g1 => ?_)
  · replace hf := (if_pos g1).symm.trans hf
    refine aw_aload_n dX4_append_12 rfl (aw_getr fkX4_9 (nl hN rfl) kd_1 (Nat.le_of_ble_eq_true rfl) rfl dX4_append_13 (aw_aload_n dX4_append_16 rfl (aw_geti fkX4_18 (nl hN rfl) kd_1 (Nat.le_of_ble_eq_true rfl) rfl dX4_append_17 (aw_iload_n dX4_append_20 rfl ?_))))
    obtain ⟨g2, hf⟩ := ogd hf
    cases hf
    exact aw_iast (nl hN rfl) kd_2 g2 dX4_append_21 (aw_aload_n dX4_append_22 rfl (aw_dup dX4_append_23 rfl (aw_geti fkX4_18 (nl hN rfl) kd_1 (Nat.le_of_ble_eq_true rfl) rfl dX4_append_24 (aw_iconst (nI 1) dX4_append_27 ki_1 (aw_iadd dX4_append_28 (aw_puti fkX4_18 fw_4_1 (nl hN rfl) kd_1 (Nat.le_of_ble_eq_true rfl) rfl dX4_append_29 (aw_iconst (nI 1) dX4_append_32 ki_1 (aw_zret rfl (Or.inr rfl) dX4_append_33))))))))
  · replace hf := (if_neg g1).symm.trans hf
    cases hf
    exact aw_iconst (nI 0) dX4_append_10 ki_0 (aw_zret rfl (Or.inl rfl) dX4_append_11)
set_option maxHeartbeats 4000000 in
set_option maxRecDepth 100000 in
theorem ct_X4_clear {E : EV} (hE : EI E) (hN : 39 ≤ eN E) (F : Nat) {tw : TW}  {h : HP} {h' : HP} (hf : f_X4_clear F  h = some h') : CT E mX4_clear tw h [.ref 1] none tw h' := by
  refine CT.of hE (show plainFor yX4_clear = true by decide +kernel) (Nat.le_of_ble_eq_true rfl) 0 ?_
  show AW E mX4_clear (KM E mX4_clear none tw h') tw h 0 [some (.ref 1)] []
  unfold f_X4_clear at hf
  cases hf
  exact aw_aload_n dX4_clear_0 rfl (aw_iconst (nI 0) dX4_clear_1 ki_0 (aw_puti fkX4_18 fw_4_1 (nl hN rfl) kd_1 (Nat.le_of_ble_eq_true rfl) rfl dX4_clear_2 (aw_vret rfl dX4_clear_5)))
set_option maxHeartbeats 4000000 in
set_option maxRecDepth 100000 in
theorem ct_X5_clear {E : EV} (hE : EI E) (hN : 39 ≤ eN E) (F : Nat) {tw : TW} {r0 : Nat} (q0 : TO r0) {h : HP} {h' : HP} (hf : f_X5_clear F r0 h = some h') : CT E mX5_clear tw h [.ref r0] none tw h' := by
  refine CT.of hE (show plainFor yX5_clear = true by decide +kernel) (Nat.le_of_ble_eq_true rfl) 0 ?_
  show AW E mX5_clear (KM E mX5_clear none tw h') tw h 0 [some (.ref r0)] []
  unfold f_X5_clear at hf
  cases hf
  refine aw_aload_n dX5_clear_0 rfl (aw_iconst (nI 0) dX5_clear_1 ki_0 (aw_puti fkX5_31 fw_5_0 (TO.n q0 hN) (TO.k q0) (Nat.le_of_ble_eq_true rfl) rfl dX5_clear_2 (aw_aload_n dX5_clear_5 rfl (aw_bipush (nI 16) dX5_clear_6 kb_16 (aw_puti fkX5_21 fw_5_4 (TO.n q0 hN) (TO.k q0) (Nat.le_of_ble_eq_true rfl) rfl dX5_clear_8 (aw_aload_n dX5_clear_11 rfl (aw_iconst (nI 1) dX5_clear_12 ki_1 (aw_puti fkX5_25 fw_5_5 (TO.n q0 hN) (TO.k q0) (Nat.le_of_ble_eq_true rfl) rfl dX5_clear_13 (aw_aload_n dX5_clear_16 rfl (aw_iconst (nI 0) dX5_clear_17 ki_0 (aw_putz fkX5_34 fw_5_6 (TO.n q0 hN) (TO.k q0) (Nat.le_of_ble_eq_true rfl) rfl (Or.inl rfl) dX5_clear_18 ?_)))))))))))
  refine aw_aload_n dX5_clear_21 rfl (aw_iconst (nI 0) dX5_clear_22 ki_0 (aw_puti fkX5_38 fw_5_7 (TO.n q0 hN) (TO.k q0) (Nat.le_of_ble_eq_true rfl) rfl dX5_clear_23 ?_))
  exact aw_vret rfl dX5_clear_26
set_option maxHeartbeats 4000000 in
set_option maxRecDepth 100000 in
theorem ct_X4_peek {E : EV} (hE : EI E) (hN : 39 ≤ eN E) (F : Nat) {tw : TW}  {h : HP} {v : Int32} {h' : HP} (hf : f_X4_peek F  h = some (v, h')) : CT E mX4_peek tw h [.ref 1] (some (.int v)) tw h' := by
  refine CT.of hE (show plainFor yX4_peek = true by decide +kernel) (Nat.le_of_ble_eq_true rfl) 0 ?_
  show AW E mX4_peek (KM E mX4_peek (some (.int v)) tw h') tw h 0 [some (.ref 1)] []
  unfold f_X4_peek at hf
  refine aw_aload_n dX4_peek_0 rfl (aw_geti fkX4_27 (nl hN rfl) kd_1 (Nat.le_of_ble_eq_true rfl) rfl dX4_peek_1 ?_)
  refine aw_if_lt 30 dX4_peek_4 rfl (fun g1 => ?_) (fun g1 => ?_)
  · replace hf := (if_pos g1).symm.trans hf
    cases hf
    exact aw_iconst (nI 0) dX4_peek_30 ki_0 (aw_iret rfl dX4_peek_31)
  · replace hf := (if_neg g1).symm.trans hf
    refine aw_aload_n dX4_peek_7 rfl (aw_geti fkX4_27 (nl hN rfl) kd_1 (Nat.le_of_ble_eq_true rfl) rfl dX4_peek_8 (aw_aload_n dX4_peek_11 rfl (aw_geti fkX4_18 (nl hN rfl) kd_1 (Nat.le_of_ble_eq_true rfl) rfl dX4_peek_12 ?_)))
    refine aw_icmp_ge 30 dX4_peek_15 rfl (fun g2 => ?_) (fun g2 => ?_)
    · replace hf := (if_pos g2).symm.trans hf
      cases hf
      exact aw_iconst (nI 0) dX4_peek_30 ki_0 (aw_iret rfl dX4_peek_31)
    · replace hf := (if_neg g2).symm.trans hf
      refine aw_aload_n dX4_peek_18 rfl (aw_getr fkX4_9 (nl hN rfl) kd_1 (Nat.le_of_ble_eq_true rfl) rfl dX4_peek_19 (aw_aload_n dX4_peek_22 rfl (aw_geti fkX4_27 (nl hN rfl) kd_1 (Nat.le_of_ble_eq_true rfl) rfl dX4_peek_23 ?_)))
      obtain ⟨g3, hf⟩ := ogd hf
      cases hf
      exact aw_iald (nl hN rfl) kd_2 g3 dX4_peek_26 (aw_goto 31 dX4_peek_27 rfl (aw_iret rfl dX4_peek_31))
set_option maxHeartbeats 4000000 in
set_option maxRecDepth 100000 in
theorem ct_X4_readFigure {E : EV} (hE : EI E) (hN : 39 ≤ eN E) (F : Nat) {tw : TW}  {h : HP} {v : Int32} {h' : HP} (hf : f_X4_readFigure F  h = some (v, h')) : CT E mX4_readFigure tw h [.ref 1] (some (.int v)) tw h' := by
  refine CT.of hE (show plainFor yX4_readFigure = true by decide +kernel) (Nat.le_of_ble_eq_true rfl) 1 ?_
  show AW E mX4_readFigure (KM E mX4_readFigure (some (.int v)) tw h') tw h 0 [some (.ref 1), none] []
  unfold f_X4_readFigure at hf
  refine aw_aload_n dX4_readFigure_0 rfl ?_
  obtain ⟨v3, h1, c2, hf⟩ := ob_some hf
  refine aw_callVi (N := mX4_peek) (As := []) lkX4_38 okX4_peek (nl hN rfl) kd_1 rfl (by rfl) (by rfl) (Nat.le_of_ble_eq_true rfl) ry_X4_readFigure_X4_peek dX4_readFigure_1 (And.intro (Nat.le_refl _) (Nat.le_refl _)) (ct_X4_peek hE hN F c2) (aw_bipush (nI 48) dX4_readFigure_4 kb_48 (aw_isub dX4_readFigure_6 (aw_istore_n dX4_readFigure_7 (Nat.le_of_ble_eq_true rfl) (aw_iload_n dX4_readFigure_8 rfl ?_))))
  refine aw_if_lt 18 dX4_readFigure_9 rfl (fun g4 => ?_) (fun g4 => ?_)
  · replace hf := (if_pos g4).symm.trans hf
    cases hf
    exact aw_iconst (-1) dX4_readFigure_18 ki_m1 (aw_iret rfl dX4_readFigure_19)
  · replace hf := (if_neg g4).symm.trans hf
    refine aw_iload_n dX4_readFigure_12 rfl (aw_bipush (nI 9) dX4_readFigure_13 kb_9 ?_)
    refine aw_icmp_le 20 dX4_readFigure_15 rfl (fun g5 => ?_) (fun g5 => ?_)
    · replace hf := (if_pos g5).symm.trans hf
      cases hf
      exact aw_aload_n dX4_readFigure_20 rfl (aw_dup dX4_readFigure_21 rfl (aw_geti fkX4_27 (nl hN rfl) kd_1 (Nat.le_of_ble_eq_true rfl) rfl dX4_readFigure_22 (aw_iconst (nI 1) dX4_readFigure_25 ki_1 (aw_iadd dX4_readFigure_26 (aw_puti fkX4_27 fw_4_2 (nl hN rfl) kd_1 (Nat.le_of_ble_eq_true rfl) rfl dX4_readFigure_27 (aw_iload_n dX4_readFigure_30 rfl (aw_iret rfl dX4_readFigure_31)))))))
    · replace hf := (if_neg g5).symm.trans hf
      cases hf
      exact aw_iconst (-1) dX4_readFigure_18 ki_m1 (aw_iret rfl dX4_readFigure_19)
set_option maxHeartbeats 4000000 in
set_option maxRecDepth 100000 in
theorem ct_X4_readNumber {E : EV} (hE : EI E) (hN : 39 ≤ eN E) (F : Nat) {tw : TW}  {h : HP} {v : Int32} {h' : HP} (hf : f_X4_readNumber F  h = some (v, h')) : CT E mX4_readNumber tw h [.ref 1] (some (.int v)) tw h' := by
  refine CT.of hE (show plainFor yX4_readNumber = true by decide +kernel) (Nat.le_of_ble_eq_true rfl) 2 ?_
  show AW E mX4_readNumber (KM E mX4_readNumber (some (.int v)) tw h') tw h 0 [some (.ref 1), none, none] []
  unfold f_X4_readNumber at hf
  refine aw_aload_n dX4_readNumber_0 rfl ?_
  obtain ⟨v3, h1, c2, hf⟩ := ob_some hf
  refine aw_callVi (N := mX4_readFigure) (As := []) lkX4_68 okX4_readFigure (nl hN rfl) kd_1 rfl (by rfl) (by rfl) (Nat.le_of_ble_eq_true rfl) ry_X4_readNumber_X4_readFigure dX4_readNumber_1 (And.intro (Nat.le_refl _) (Nat.le_refl _)) (ct_X4_readFigure hE hN F c2) (aw_istore_n dX4_readNumber_4 (Nat.le_of_ble_eq_true rfl) (aw_iload_n dX4_readNumber_5 rfl ?_))
  refine aw_if_ge 11 dX4_readNumber_6 rfl (fun g4 => ?_) (fun g4 => ?_)
  · replace hf := (if_pos g4).symm.trans hf
    refine aw_aload_n dX4_readNumber_11 rfl ?_
    obtain ⟨v7, h5, c6, hf⟩ := ob_some hf
    refine aw_callVi (N := mX4_readFigure) (As := []) lkX4_68 okX4_readFigure (nl hN rfl) kd_1 rfl (by rfl) (by rfl) (Nat.le_of_ble_eq_true rfl) ry_X4_readNumber_X4_readFigure dX4_readNumber_12 (And.intro (Nat.le_refl _) (Nat.le_refl _)) (ct_X4_readFigure hE hN F c6) (aw_istore_n dX4_readNumber_15 (Nat.le_of_ble_eq_true rfl) (aw_iload_n dX4_readNumber_16 rfl ?_))
    refine aw_if_ge 24 dX4_readNumber_17 rfl (fun g8 => ?_) (fun g8 => ?_)
    · replace hf := (if_pos g8).symm.trans hf
      cases hf
      exact aw_iload_n dX4_readNumber_24 rfl (aw_bipush (nI 10) dX4_readNumber_25 kb_10 (aw_imul dX4_readNumber_27 (aw_iload_n dX4_readNumber_28 rfl (aw_iadd dX4_readNumber_29 (aw_iret rfl dX4_readNumber_30)))))
    · replace hf := (if_neg g8).symm.trans hf
      cases hf
      exact aw_iload_n dX4_readNumber_20 rfl (aw_goto 30 dX4_readNumber_21 rfl (aw_iret rfl dX4_readNumber_30))
  · replace hf := (if_neg g4).symm.trans hf
    cases hf
    exact aw_iconst (-1) dX4_readNumber_9 ki_m1 (aw_iret rfl dX4_readNumber_10)
set_option maxHeartbeats 4000000 in
set_option maxRecDepth 100000 in
theorem ct_X4_accept {E : EV} (hE : EI E) (hN : 39 ≤ eN E) (F : Nat) {tw : TW} {x1 : Int32} {h : HP} {v : Int32} {h' : HP} (hf : f_X4_accept F x1 h = some (v, h')) : CT E mX4_accept tw h [.ref 1, .int x1] (some (.int v)) tw h' := by
  refine CT.of hE (show plainFor yX4_accept = true by decide +kernel) (Nat.le_of_ble_eq_true rfl) 0 ?_
  show AW E mX4_accept (KM E mX4_accept (some (.int v)) tw h') tw h 0 [some (.ref 1), some (.int x1)] []
  unfold f_X4_accept at hf
  refine aw_aload_n dX4_accept_0 rfl ?_
  obtain ⟨v3, h1, c2, hf⟩ := ob_some hf
  refine aw_callVi (N := mX4_peek) (As := []) lkX4_38 okX4_peek (nl hN rfl) kd_1 rfl (by rfl) (by rfl) (Nat.le_of_ble_eq_true rfl) ry_X4_accept_X4_peek dX4_accept_1 (And.intro (Nat.le_refl _) (Nat.le_refl _)) (ct_X4_peek hE hN F c2) (aw_iload_n dX4_accept_4 rfl ?_)
  refine aw_icmp_eq 10 dX4_accept_5 rfl (fun g4 => ?_) (fun g4 => ?_)
  · replace hf := (if_pos g4).symm.trans hf
    cases hf
    exact aw_aload_n dX4_accept_10 rfl (aw_dup dX4_accept_11 rfl (aw_geti fkX4_27 (nl hN rfl) kd_1 (Nat.le_of_ble_eq_true rfl) rfl dX4_accept_12 (aw_iconst (nI 1) dX4_accept_15 ki_1 (aw_iadd dX4_accept_16 (aw_puti fkX4_27 fw_4_2 (nl hN rfl) kd_1 (Nat.le_of_ble_eq_true rfl) rfl dX4_accept_17 (aw_iconst (nI 1) dX4_accept_20 ki_1 (aw_zret rfl (Or.inr rfl) dX4_accept_21)))))))
  · replace hf := (if_neg g4).symm.trans hf
    cases hf
    exact aw_iconst (nI 0) dX4_accept_8 ki_0 (aw_zret rfl (Or.inl rfl) dX4_accept_9)
