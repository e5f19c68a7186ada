/-! ===== what the printed walks use ===== -/
theorem ob_some {α β : Type} {o : Option (α × HP)} {k : α → HP → Option β} {r : β} (h : ob o k = some r) : ∃ a h1, o = some (a, h1) ∧ k a h1 = some r := by
  cases o with
  | none => exact absurd h (fun z => nomatch z)
  | some q => exact ⟨q.1, q.2, rfl, h⟩
theorem obv_some {β : Type} {o : Option HP} {k : HP → Option β} {r : β} (h : obv o k = some r) : ∃ h1, o = some h1 ∧ k h1 = some r := by
  cases o with
  | none => exact absurd h (fun z => nomatch z)
  | some q => exact ⟨q, rfl, h⟩
theorem ogd {α : Type} {c : Prop} {hd : Decidable c} {a : Option α} {r : α} (h : (if c then a else none) = some r) : c ∧ a = some r := by
  by_cases hc : c
  · exact ⟨hc, by rwa [if_pos hc] at h⟩
  · rw [if_neg hc] at h; cases h
theorem nl {q m n : Nat} (h : m ≤ n) (b : Nat.ble (q + 1) m = true) : q < n := Nat.lt_of_lt_of_le (Nat.le_of_ble_eq_true b) h
def IA (E : EV) (a : Nat) : Prop := kd a = (0, ln a) ∧ a < eN E
theorem IA.of {E : EV} {a L : Nat} (h : kd a = (0, L)) (n : a < eN E) : IA E a := ⟨by unfold ln; rw [h], n⟩
theorem tbl_out {x : Int32} (n : Nat) (l : List Int32) (hl : l = (List.range (n + 1)).map Int32.ofNat) (h : ∀ k ∈ l, ¬ x = k) : x.toInt < 0 ∨ (n : Int) < x.toInt := by
  by_cases h1 : x.toInt < 0
  · exact Or.inl h1
  · refine Or.inr (Int.not_le.mp fun h2 => ?_)
    subst hl
    refine h (Int32.ofNat x.toInt.toNat) (List.mem_map.mpr ⟨x.toInt.toNat, List.mem_range.mpr (by omega), rfl⟩) ?_
    apply Int32.toInt_inj.mp
    have hx := x.toInt_lt
    rw [show Int32.ofNat x.toInt.toNat = nI x.toInt.toNat from rfl, nI_toInt (by omega)]
    omega
theorem lk_out {x : Int32} {o1 o2 o3 o4 df : Int} (g1 : ¬ x = nI 98) (g2 : ¬ x = nI 110) (g3 : ¬ x = nI 114) (g4 : ¬ x = nI 116) : Op.lookupswitch.offset (#[(98, o1), (110, o2), (114, o3), (116, o4)] : Array (Int × Int)).toList df x.toInt = df := by
  have e : ∀ k : Int32, ¬ x = k → ¬ k.toInt = x.toInt := fun k hk z => hk (Int32.toInt_inj.mp z).symm
  have h1 := e (nI 98) g1
  have h2 := e (nI 110) g2
  have h3 := e (nI 114) g3
  have h4 := e (nI 116) g4
  rw [show (nI 98).toInt = 98 by decide] at h1
  rw [show (nI 110).toInt = 110 by decide] at h2
  rw [show (nI 114).toInt = 114 by decide] at h3
  rw [show (nI 116).toInt = 116 by decide] at h4
  simp [Op.lookupswitch.offset, h1, h2, h3, h4]
theorem inb_lt {x : Int32} {L : Nat} (g : inb x L = true) : ix x < L := Nat.not_le.mp fun z => inb_in g (Or.inr z)
theorem rowk {x : Int32} (g : inb x 4 = true) : kd (31 + 1 + ix x) = (0, 1089) := by
  have h := inb_lt g
  generalize ix x = j at h
  rcases (show j = 0 ∨ j = 1 ∨ j = 2 ∨ j = 3 by omega) with rfl | rfl | rfl | rfl <;> rfl
theorem rown {x : Int32} {n : Nat} (g : inb x 4 = true) (hN : 39 ≤ n) : 31 + 1 + ix x < n := by
  have h := inb_lt g
  omega
theorem rm_part (d : Nat) : roomy (mX1_partFrom d) (rmM (mX1_partFrom (d + 1))) := And.intro (Nat.le_refl _) (by show 8 + (4 + 11) + 64 * d ≤ 64 * (d + 1); omega)
section AWK
variable {E : EV} {M : MI} {K : KX} {tw : TW} {h : HP} {pc : Nat} {loc : LC} {st : List Value}
theorem aw_ialdk {q N j : Nat} {x : Int32} (hx : x.toNatClampNeg = j) (hn : q < eN E) (hk : kd q = (0, N)) (hin : inb x N = true) (d : decode (mC M) pc = .ok (.iaload, 1)) (k : AW E M K tw h (pc + 1) loc (.int (h q j) :: st)) : AW E M K tw h pc loc (.int x :: .ref q :: st) := by
  subst hx
  exact aw_iald hn hk hin d k
theorem aw_iastk {q N j : Nat} {x y : Int32} (hx : x.toNatClampNeg = j) (hn : q < eN E) (hk : kd q = (0, N)) (hin : inb x N = true) (d : decode (mC M) pc = .ok (.iastore, 1)) (k : AW E M K tw (up h q j y) (pc + 1) loc st) : AW E M K tw h pc loc (.int y :: .int x :: .ref q :: st) := by
  subst hx
  exact aw_iast hn hk hin d k
theorem aw_aaldk {q N j : Nat} {x : Int32} (hx : x.toNatClampNeg = j) (hn : q < eN E) (hk : kd q = (2, N)) (hin : inb x N = true) (d : decode (mC M) pc = .ok (.aaload, 1)) (k : AW E M K tw h (pc + 1) loc (.ref (q + 1 + j) :: st)) : AW E M K tw h pc loc (.int x :: .ref q :: st) := by
  subst hx
  exact aw_aald hn hk hin d k
end AWK

theorem TO.k {t : Nat} (h : TO t) : kd t = (8, 9) := by rcases h with rfl | rfl <;> rfl
theorem TO.n {t n : Nat} (h : TO t) (hN : 39 ≤ n) : t < n := by rcases h with rfl | rfl <;> omega
theorem TO.k1 {t : Nat} (h : TO t) : kd (t + 1) = (0, 8) := by rcases h with rfl | rfl <;> rfl
theorem TO.n1 {t n : Nat} (h : TO t) (hN : 39 ≤ n) : t + 1 < n := by rcases h with rfl | rfl <;> omega
theorem TO.k2 {t : Nat} (h : TO t) : kd (t + 2) = (0, 8) := by rcases h with rfl | rfl <;> rfl
theorem TO.n2 {t n : Nat} (h : TO t) (hN : 39 ≤ n) : t + 2 < n := by rcases h with rfl | rfl <;> omega
theorem TO.k3 {t : Nat} (h : TO t) : kd (t + 3) = (0, 8) := by rcases h with rfl | rfl <;> rfl
theorem TO.n3 {t n : Nat} (h : TO t) (hN : 39 ≤ n) : t + 3 < n := by rcases h with rfl | rfl <;> omega
theorem TO.k4 {t : Nat} (h : TO t) : kd (t + 4) = (0, 32) := by rcases h with rfl | rfl <;> rfl
theorem TO.n4 {t n : Nat} (h : TO t) (hN : 39 ≤ n) : t + 4 < n := by rcases h with rfl | rfl <;> omega
theorem DR.k {t : Nat} (h : DR t) : kd t = (3, 6) := by rcases h with rfl | rfl <;> rfl
theorem DR.n {t n : Nat} (h : DR t) (hN : 39 ≤ n) : t < n := by rcases h with rfl | rfl <;> omega
theorem DR.k1 {t : Nat} (h : DR t) : kd (t + 1) = (0, 32) := by rcases h with rfl | rfl <;> rfl
theorem DR.n1 {t n : Nat} (h : DR t) (hN : 39 ≤ n) : t + 1 < n := by rcases h with rfl | rfl <;> omega
theorem DR.k2 {t : Nat} (h : DR t) : kd (t + 2) = (0, 16) := by rcases h with rfl | rfl <;> rfl
theorem DR.n2 {t n : Nat} (h : DR t) (hN : 39 ≤ n) : t + 2 < n := by rcases h with rfl | rfl <;> omega
theorem DR.k3 {t : Nat} (h : DR t) : kd (t + 3) = (0, 8) := by rcases h with rfl | rfl <;> rfl
theorem DR.n3 {t n : Nat} (h : DR t) (hN : 39 ≤ n) : t + 3 < n := by rcases h with rfl | rfl <;> omega
theorem DR.k4 {t : Nat} (h : DR t) : kd (t + 4) = (0, 8) := by rcases h with rfl | rfl <;> rfl
theorem DR.n4 {t n : Nat} (h : DR t) (hN : 39 ≤ n) : t + 4 < n := by rcases h with rfl | rfl <;> omega
theorem SF.k {t : Nat} (h : SF t) : kd t = (5, 4) := by rcases h with rfl | rfl <;> rfl
theorem SF.n {t n : Nat} (h : SF t) (hN : 39 ≤ n) : t < n := by rcases h with rfl | rfl <;> omega
theorem SF.k1 {t : Nat} (h : SF t) : kd (t + 1) = (0, ln (t + 1)) := by rcases h with rfl | rfl <;> rfl
theorem SF.n1 {t n : Nat} (h : SF t) (hN : 39 ≤ n) : t + 1 < n := by rcases h with rfl | rfl <;> omega
theorem kd_0 : kd 0 = (9, 12) := rfl
theorem kd_1 : kd 1 = (7, 4) := rfl
theorem kd_2 : kd 2 = (0, 200) := rfl
theorem kd_3 : kd 3 = (0, 3) := rfl
theorem kd_4 : kd 4 = (8, 9) := rfl
theorem kd_5 : kd 5 = (0, 8) := rfl
theorem kd_6 : kd 6 = (0, 8) := rfl
theorem kd_7 : kd 7 = (0, 8) := rfl
theorem kd_8 : kd 8 = (0, 32) := rfl
theorem kd_9 : kd 9 = (8, 9) := rfl
theorem kd_10 : kd 10 = (0, 8) := rfl
theorem kd_11 : kd 11 = (0, 8) := rfl
theorem kd_12 : kd 12 = (0, 8) := rfl
theorem kd_13 : kd 13 = (0, 32) := rfl
theorem kd_14 : kd 14 = (3, 6) := rfl
theorem kd_15 : kd 15 = (0, 32) := rfl
theorem kd_16 : kd 16 = (0, 16) := rfl
theorem kd_17 : kd 17 = (0, 8) := rfl
theorem kd_18 : kd 18 = (0, 8) := rfl
theorem kd_19 : kd 19 = (3, 6) := rfl
theorem kd_20 : kd 20 = (0, 32) := rfl
theorem kd_21 : kd 21 = (0, 16) := rfl
theorem kd_22 : kd 22 = (0, 8) := rfl
theorem kd_23 : kd 23 = (0, 8) := rfl
theorem kd_24 : kd 24 = (5, 4) := rfl
theorem kd_25 : kd 25 = (0, 528) := rfl
theorem kd_26 : kd 26 = (5, 4) := rfl
theorem kd_27 : kd 27 = (0, 132) := rfl
theorem kd_28 : kd 28 = (0, 32) := rfl
theorem kd_29 : kd 29 = (0, 8) := rfl
theorem kd_30 : kd 30 = (6, 1) := rfl
theorem kd_31 : kd 31 = (2, 4) := rfl
theorem kd_32 : kd 32 = (0, 1089) := rfl
theorem kd_33 : kd 33 = (0, 1089) := rfl
theorem kd_34 : kd 34 = (0, 1089) := rfl
theorem kd_35 : kd 35 = (0, 1089) := rfl
theorem kd_36 : kd 36 = (4, 4) := rfl
theorem kd_37 : kd 37 = (0, 8) := rfl
theorem kd_38 : kd 38 = (0, 8) := rfl
theorem kd_39 : kd 39 = (10, 23) := rfl
theorem kd_40 : kd 40 = (0, 19) := rfl
theorem kd_41 : kd 41 = (0, 19) := rfl
theorem kd_42 : kd 42 = (0, 32) := rfl
theorem kd_43 : kd 43 = (0, 66) := rfl
theorem kd_44 : kd 44 = (0, 528) := rfl
theorem kd_45 : kd 45 = (0, 132) := rfl
theorem kd_46 : kd 46 = (0, 200) := rfl
theorem kd_47 : kd 47 = (0, 32) := rfl
theorem kd_48 : kd 48 = (0, 8) := rfl
theorem kd_49 : kd 49 = (0, 2) := rfl
theorem kd_50 : kd 50 = (0, 3) := rfl
theorem kd_51 : kd 51 = (0, 32) := rfl
theorem kd_52 : kd 52 = (0, 66) := rfl
theorem kd_53 : kd 53 = (0, 4356) := rfl
theorem kd_54 : kd 54 = (0, 256) := rfl
theorem kd_55 : kd 55 = (1, 256) := rfl
theorem kb_m2 : (Int8.ofInt (-2)).toInt32 = (-2) := by decide
theorem kb_m3 : (Int8.ofInt (-3)).toInt32 = (-3) := by decide
theorem kb_m4 : (Int8.ofInt (-4)).toInt32 = (-4) := by decide
theorem kb_10 : (Int8.ofInt (10)).toInt32 = (nI 10) := by decide
theorem kb_11 : (Int8.ofInt (11)).toInt32 = (nI 11) := by decide
theorem kb_12 : (Int8.ofInt (12)).toInt32 = (nI 12) := by decide
theorem kb_126 : (Int8.ofInt (126)).toInt32 = (nI 126) := by decide
theorem kb_16 : (Int8.ofInt (16)).toInt32 = (nI 16) := by decide
theorem kb_19 : (Int8.ofInt (19)).toInt32 = (nI 19) := by decide
theorem kb_32 : (Int8.ofInt (32)).toInt32 = (nI 32) := by decide
theorem kb_33 : (Int8.ofInt (33)).toInt32 = (nI 33) := by decide
theorem kb_34 : (Int8.ofInt (34)).toInt32 = (nI 34) := by decide
theorem kb_40 : (Int8.ofInt (40)).toInt32 = (nI 40) := by decide
theorem kb_41 : (Int8.ofInt (41)).toInt32 = (nI 41) := by decide
theorem kb_44 : (Int8.ofInt (44)).toInt32 = (nI 44) := by decide
theorem kb_46 : (Int8.ofInt (46)).toInt32 = (nI 46) := by decide
theorem kb_48 : (Int8.ofInt (48)).toInt32 = (nI 48) := by decide
theorem kb_50 : (Int8.ofInt (50)).toInt32 = (nI 50) := by decide
theorem kb_58 : (Int8.ofInt (58)).toInt32 = (nI 58) := by decide
theorem kb_59 : (Int8.ofInt (59)).toInt32 = (nI 59) := by decide
theorem kb_6 : (Int8.ofInt (6)).toInt32 = (nI 6) := by decide
theorem kb_60 : (Int8.ofInt (60)).toInt32 = (nI 60) := by decide
theorem kb_63 : (Int8.ofInt (63)).toInt32 = (nI 63) := by decide
theorem kb_66 : (Int8.ofInt (66)).toInt32 = (nI 66) := by decide
theorem kb_8 : (Int8.ofInt (8)).toInt32 = (nI 8) := by decide
theorem kb_9 : (Int8.ofInt (9)).toInt32 = (nI 9) := by decide
theorem kb_91 : (Int8.ofInt (91)).toInt32 = (nI 91) := by decide
theorem kb_93 : (Int8.ofInt (93)).toInt32 = (nI 93) := by decide
theorem kb_96 : (Int8.ofInt (96)).toInt32 = (nI 96) := by decide
theorem kb_97 : (Int8.ofInt (97)).toInt32 = (nI 97) := by decide
theorem ki_m1 : Int32.ofInt (-1) = (-1) := by decide
theorem ki_0 : Int32.ofInt (0) = (nI 0) := by decide
theorem ki_1 : Int32.ofInt (1) = (nI 1) := by decide
theorem ki_2 : Int32.ofInt (2) = (nI 2) := by decide
theorem ki_3 : Int32.ofInt (3) = (nI 3) := by decide
theorem ki_4 : Int32.ofInt (4) = (nI 4) := by decide
theorem ib_0_19 : inb (nI 0) 19 = true := by decide
theorem ib_0_2 : inb (nI 0) 2 = true := by decide
theorem ib_0_32 : inb (nI 0) 32 = true := by decide
theorem ib_0_66 : inb (nI 0) 66 = true := by decide
theorem ib_1_19 : inb (nI 1) 19 = true := by decide
theorem ib_1_2 : inb (nI 1) 2 = true := by decide
theorem ib_1_66 : inb (nI 1) 66 = true := by decide
theorem ib_2_19 : inb (nI 2) 19 = true := by decide
theorem ib_2_66 : inb (nI 2) 66 = true := by decide
theorem ib_3_4 : inb (nI 3) 4 = true := by decide
theorem ks_m1000 : (Int16.ofInt (-1000)).toInt32 = (-1000) := by decide
theorem ks_200 : (Int16.ofInt (200)).toInt32 = (nI 200) := by decide
theorem ks_3142 : (Int16.ofInt (3142)).toInt32 = (nI 3142) := by decide
theorem ks_462 : (Int16.ofInt (462)).toInt32 = (nI 462) := by decide
theorem ks_9999 : (Int16.ofInt (9999)).toInt32 = (nI 9999) := by decide
theorem cx_0 : (nI 0).toNatClampNeg = 0 := by decide
theorem cx_1 : (nI 1).toNatClampNeg = 1 := by decide
theorem cx_2 : (nI 2).toNatClampNeg = 2 := by decide
theorem cx_3 : (nI 3).toNatClampNeg = 3 := by decide
theorem ry_X0_ringRow_X0_strike : roomy mX0_strike (rmM mX0_ringRow) := And.intro (Nat.le_of_ble_eq_true rfl) (Nat.le_of_ble_eq_true rfl)
theorem ry_X0_startWith_J7_fill_53178 : roomy mJ7_fill_53178 (rmM mX0_startWith) := And.intro (Nat.le_of_ble_eq_true rfl) (Nat.le_of_ble_eq_true rfl)
theorem ry_X0_turnOff_X0_ringRow : roomy mX0_ringRow (rmM mX0_turnOff) := And.intro (Nat.le_of_ble_eq_true rfl) (Nat.le_of_ble_eq_true rfl)
theorem ry_X0_turnOn_X0_ringRow : roomy mX0_ringRow (rmM mX0_turnOn) := And.intro (Nat.le_of_ble_eq_true rfl) (Nat.le_of_ble_eq_true rfl)
theorem ry_X1_fewestPeople_J7_fill_53178 : roomy mJ7_fill_53178 (rmM mX1_fewestPeople) := And.intro (Nat.le_of_ble_eq_true rfl) (Nat.le_of_ble_eq_true rfl)
theorem ry_X1_fewestPeople_X1_partFrom : roomy (mX1_partFrom 12) (rmM mX1_fewestPeople) := And.intro (Nat.le_of_ble_eq_true rfl) (Nat.le_of_ble_eq_true rfl)
theorem ry_X1_partFrom_J9_max_7cf53 (dd : Nat) : roomy mJ9_max_7cf53 (rmM (mX1_partFrom (dd + 1))) := And.intro (by show 0 + 1 ≤ dd + 1; omega) (by show 8 + (2 + 11) + 64 * 0 ≤ 64 * (dd + 1); omega)
theorem ry_X2_put_J9_min_7cf53 : roomy mJ9_min_7cf53 (rmM mX2_put) := And.intro (Nat.le_of_ble_eq_true rfl) (Nat.le_of_ble_eq_true rfl)
theorem ry_X2_put_X0_saveTo : roomy mX0_saveTo (rmM mX2_put) := And.intro (Nat.le_of_ble_eq_true rfl) (Nat.le_of_ble_eq_true rfl)
theorem ry_X2_takeInto_X0_loadFrom : roomy mX0_loadFrom (rmM mX2_takeInto) := And.intro (Nat.le_of_ble_eq_true rfl) (Nat.le_of_ble_eq_true rfl)
theorem ry_X3_fewestLetters_X3_fillFrom : roomy mX3_fillFrom (rmM mX3_fewestLetters) := And.intro (Nat.le_of_ble_eq_true rfl) (Nat.le_of_ble_eq_true rfl)
theorem ry_X3_fillFrom_X3_beginWithPart : roomy mX3_beginWithPart (rmM mX3_fillFrom) := And.intro (Nat.le_of_ble_eq_true rfl) (Nat.le_of_ble_eq_true rfl)
theorem ry_X3_fillFrom_X3_lettersOf : roomy mX3_lettersOf (rmM mX3_fillFrom) := And.intro (Nat.le_of_ble_eq_true rfl) (Nat.le_of_ble_eq_true rfl)
theorem ry_X3_fillFrom_X3_timesTold : roomy mX3_timesTold (rmM mX3_fillFrom) := And.intro (Nat.le_of_ble_eq_true rfl) (Nat.le_of_ble_eq_true rfl)
theorem ry_X3_lettersOf_J6_bitCount_0f7a4 : roomy mJ6_bitCount_0f7a4 (rmM mX3_lettersOf) := And.intro (Nat.le_of_ble_eq_true rfl) (Nat.le_of_ble_eq_true rfl)
theorem ry_X3_timesTold_J9_min_7cf53 : roomy mJ9_min_7cf53 (rmM mX3_timesTold) := And.intro (Nat.le_of_ble_eq_true rfl) (Nat.le_of_ble_eq_true rfl)
theorem ry_X4_accept_X4_peek : roomy mX4_peek (rmM mX4_accept) := And.intro (Nat.le_of_ble_eq_true rfl) (Nat.le_of_ble_eq_true rfl)
theorem ry_X4_readBell_X4_accept : roomy mX4_accept (rmM mX4_readBell) := And.intro (Nat.le_of_ble_eq_true rfl) (Nat.le_of_ble_eq_true rfl)
theorem ry_X4_readBell_X4_readNumber : roomy mX4_readNumber (rmM mX4_readBell) := And.intro (Nat.le_of_ble_eq_true rfl) (Nat.le_of_ble_eq_true rfl)
theorem ry_X4_readBell_X5_addBell : roomy mX5_addBell (rmM mX4_readBell) := And.intro (Nat.le_of_ble_eq_true rfl) (Nat.le_of_ble_eq_true rfl)
theorem ry_X4_readBellLetter_X4_peek : roomy mX4_peek (rmM mX4_readBellLetter) := And.intro (Nat.le_of_ble_eq_true rfl) (Nat.le_of_ble_eq_true rfl)
theorem ry_X4_readFigure_X4_peek : roomy mX4_peek (rmM mX4_readFigure) := And.intro (Nat.le_of_ble_eq_true rfl) (Nat.le_of_ble_eq_true rfl)
theorem ry_X4_readInto_X4_accept : roomy mX4_accept (rmM mX4_readInto) := And.intro (Nat.le_of_ble_eq_true rfl) (Nat.le_of_ble_eq_true rfl)
theorem ry_X4_readInto_X4_readItem : roomy mX4_readItem (rmM mX4_readInto) := And.intro (Nat.le_of_ble_eq_true rfl) (Nat.le_of_ble_eq_true rfl)
theorem ry_X4_readInto_X5_clear : roomy mX5_clear (rmM mX4_readInto) := And.intro (Nat.le_of_ble_eq_true rfl) (Nat.le_of_ble_eq_true rfl)
theorem ry_X4_readItem_X4_peek : roomy mX4_peek (rmM mX4_readItem) := And.intro (Nat.le_of_ble_eq_true rfl) (Nat.le_of_ble_eq_true rfl)
theorem ry_X4_readItem_X4_readBell : roomy mX4_readBell (rmM mX4_readItem) := And.intro (Nat.le_of_ble_eq_true rfl) (Nat.le_of_ble_eq_true rfl)
theorem ry_X4_readItem_X4_readNumber : roomy mX4_readNumber (rmM mX4_readItem) := And.intro (Nat.le_of_ble_eq_true rfl) (Nat.le_of_ble_eq_true rfl)
theorem ry_X4_readItem_X4_readTune : roomy mX4_readTune (rmM mX4_readItem) := And.intro (Nat.le_of_ble_eq_true rfl) (Nat.le_of_ble_eq_true rfl)
theorem ry_X4_readItem_X5_tellRest : roomy mX5_tellRest (rmM mX4_readItem) := And.intro (Nat.le_of_ble_eq_true rfl) (Nat.le_of_ble_eq_true rfl)
theorem ry_X4_readItem_X5_tellRows : roomy mX5_tellRows (rmM mX4_readItem) := And.intro (Nat.le_of_ble_eq_true rfl) (Nat.le_of_ble_eq_true rfl)
theorem ry_X4_readNumber_X4_readFigure : roomy mX4_readFigure (rmM mX4_readNumber) := And.intro (Nat.le_of_ble_eq_true rfl) (Nat.le_of_ble_eq_true rfl)
theorem ry_X4_readSet_J6_bitCount_0f7a4 : roomy mJ6_bitCount_0f7a4 (rmM mX4_readSet) := And.intro (Nat.le_of_ble_eq_true rfl) (Nat.le_of_ble_eq_true rfl)
theorem ry_X4_readSet_X4_accept : roomy mX4_accept (rmM mX4_readSet) := And.intro (Nat.le_of_ble_eq_true rfl) (Nat.le_of_ble_eq_true rfl)
theorem ry_X4_readSet_X4_peek : roomy mX4_peek (rmM mX4_readSet) := And.intro (Nat.le_of_ble_eq_true rfl) (Nat.le_of_ble_eq_true rfl)
theorem ry_X4_readSet_X4_readBellLetter : roomy mX4_readBellLetter (rmM mX4_readSet) := And.intro (Nat.le_of_ble_eq_true rfl) (Nat.le_of_ble_eq_true rfl)
theorem ry_X4_readTune_X4_accept : roomy mX4_accept (rmM mX4_readTune) := And.intro (Nat.le_of_ble_eq_true rfl) (Nat.le_of_ble_eq_true rfl)
theorem ry_X4_readTune_X4_peek : roomy mX4_peek (rmM mX4_readTune) := And.intro (Nat.le_of_ble_eq_true rfl) (Nat.le_of_ble_eq_true rfl)
theorem ry_X4_readTune_X4_readFigure : roomy mX4_readFigure (rmM mX4_readTune) := And.intro (Nat.le_of_ble_eq_true rfl) (Nat.le_of_ble_eq_true rfl)
theorem ry_X4_readTune_X4_readSet : roomy mX4_readSet (rmM mX4_readTune) := And.intro (Nat.le_of_ble_eq_true rfl) (Nat.le_of_ble_eq_true rfl)
theorem ry_X4_readTune_X5_addRow : roomy mX5_addRow (rmM mX4_readTune) := And.intro (Nat.le_of_ble_eq_true rfl) (Nat.le_of_ble_eq_true rfl)
theorem ry_X4_readTune_X5_tellAgain : roomy mX5_tellAgain (rmM mX4_readTune) := And.intro (Nat.le_of_ble_eq_true rfl) (Nat.le_of_ble_eq_true rfl)
theorem ry_X5_addBell_J9_abs_0f7a4 : roomy mJ9_abs_0f7a4 (rmM mX5_addBell) := And.intro (Nat.le_of_ble_eq_true rfl) (Nat.le_of_ble_eq_true rfl)
theorem ry_X5_highestTone_J9_max_7cf53 : roomy mJ9_max_7cf53 (rmM mX5_highestTone) := And.intro (Nat.le_of_ble_eq_true rfl) (Nat.le_of_ble_eq_true rfl)
theorem ry_X5_rowBehind_J9_floorMod_7cf53 : roomy mJ9_floorMod_7cf53 (rmM mX5_rowBehind) := And.intro (Nat.le_of_ble_eq_true rfl) (Nat.le_of_ble_eq_true rfl)
theorem ry_X5_tellAgain_X5_addRow : roomy mX5_addRow (rmM mX5_tellAgain) := And.intro (Nat.le_of_ble_eq_true rfl) (Nat.le_of_ble_eq_true rfl)
theorem ry_X6_again_X6_comesAgainAfter : roomy mX6_comesAgainAfter (rmM mX6_again) := And.intro (Nat.le_of_ble_eq_true rfl) (Nat.le_of_ble_eq_true rfl)
theorem ry_X6_allPins_J6_bitCount_0f7a4 : roomy mJ6_bitCount_0f7a4 (rmM mX6_allPins) := And.intro (Nat.le_of_ble_eq_true rfl) (Nat.le_of_ble_eq_true rfl)
theorem ry_X6_back_X2_clear : roomy mX2_clear (rmM mX6_back) := And.intro (Nat.le_of_ble_eq_true rfl) (Nat.le_of_ble_eq_true rfl)
theorem ry_X6_back_X2_takeInto : roomy mX2_takeInto (rmM mX6_back) := And.intro (Nat.le_of_ble_eq_true rfl) (Nat.le_of_ble_eq_true rfl)
theorem ry_X6_bell_X6_isBell : roomy mX6_isBell (rmM mX6_bell) := And.intro (Nat.le_of_ble_eq_true rfl) (Nat.le_of_ble_eq_true rfl)
theorem ry_X6_bell_X6_pinsOfBell : roomy mX6_pinsOfBell (rmM mX6_bell) := And.intro (Nat.le_of_ble_eq_true rfl) (Nat.le_of_ble_eq_true rfl)
theorem ry_X6_canon_X6_illTwos : roomy mX6_illTwos (rmM mX6_canon) := And.intro (Nat.le_of_ble_eq_true rfl) (Nat.le_of_ble_eq_true rfl)
theorem ry_X6_changes_X6_changesIfShifted : roomy mX6_changesIfShifted (rmM mX6_changes) := And.intro (Nat.le_of_ble_eq_true rfl) (Nat.le_of_ble_eq_true rfl)
theorem ry_X6_changesIfShifted_J6_bitCount_0f7a4 : roomy mJ6_bitCount_0f7a4 (rmM mX6_changesIfShifted) := And.intro (Nat.le_of_ble_eq_true rfl) (Nat.le_of_ble_eq_true rfl)
theorem ry_X6_changesIfShifted_X5_rowBehind : roomy mX5_rowBehind (rmM mX6_changesIfShifted) := And.intro (Nat.le_of_ble_eq_true rfl) (Nat.le_of_ble_eq_true rfl)
theorem ry_X6_comesAgainAfter_X5_rowBehind : roomy mX5_rowBehind (rmM mX6_comesAgainAfter) := And.intro (Nat.le_of_ble_eq_true rfl) (Nat.le_of_ble_eq_true rfl)
theorem ry_X6_count_X6_allPins : roomy mX6_allPins (rmM mX6_count) := And.intro (Nat.le_of_ble_eq_true rfl) (Nat.le_of_ble_eq_true rfl)
theorem ry_X6_fault_X4_readInto : roomy mX4_readInto (rmM mX6_fault) := And.intro (Nat.le_of_ble_eq_true rfl) (Nat.le_of_ble_eq_true rfl)
theorem ry_X6_harsh_X6_illTwos : roomy mX6_illTwos (rmM mX6_harsh) := And.intro (Nat.le_of_ble_eq_true rfl) (Nat.le_of_ble_eq_true rfl)
theorem ry_X6_hear_X6_isSet : roomy mX6_isSet (rmM mX6_hear) := And.intro (Nat.le_of_ble_eq_true rfl) (Nat.le_of_ble_eq_true rfl)
theorem ry_X6_illTwos_J6_bitCount_0f7a4 : roomy mJ6_bitCount_0f7a4 (rmM mX6_illTwos) := And.intro (Nat.le_of_ble_eq_true rfl) (Nat.le_of_ble_eq_true rfl)
theorem ry_X6_illTwos_X5_rowBehind : roomy mX5_rowBehind (rmM mX6_illTwos) := And.intro (Nat.le_of_ble_eq_true rfl) (Nat.le_of_ble_eq_true rfl)
theorem ry_X6_isHeardFrom_X5_rowBehind : roomy mX5_rowBehind (rmM mX6_isHeardFrom) := And.intro (Nat.le_of_ble_eq_true rfl) (Nat.le_of_ble_eq_true rfl)
theorem ry_X6_isSet_X5_everyBell : roomy mX5_everyBell (rmM mX6_isSet) := And.intro (Nat.le_of_ble_eq_true rfl) (Nat.le_of_ble_eq_true rfl)
theorem ry_X6_keep_X2_put : roomy mX2_put (rmM mX6_keep) := And.intro (Nat.le_of_ble_eq_true rfl) (Nat.le_of_ble_eq_true rfl)
theorem ry_X6_lay_X4_readInto : roomy mX4_readInto (rmM mX6_lay) := And.intro (Nat.le_of_ble_eq_true rfl) (Nat.le_of_ble_eq_true rfl)
theorem ry_X6_lay_X5_canBeLaid : roomy mX5_canBeLaid (rmM mX6_lay) := And.intro (Nat.le_of_ble_eq_true rfl) (Nat.le_of_ble_eq_true rfl)
theorem ry_X6_lay_X6_layTold : roomy mX6_layTold (rmM mX6_lay) := And.intro (Nat.le_of_ble_eq_true rfl) (Nat.le_of_ble_eq_true rfl)
theorem ry_X6_layTold_J7_fill_53178 : roomy mJ7_fill_53178 (rmM mX6_layTold) := And.intro (Nat.le_of_ble_eq_true rfl) (Nat.le_of_ble_eq_true rfl)
theorem ry_X6_layTold_X0_startWith : roomy mX0_startWith (rmM mX6_layTold) := And.intro (Nat.le_of_ble_eq_true rfl) (Nat.le_of_ble_eq_true rfl)
theorem ry_X6_layTold_X2_clear : roomy mX2_clear (rmM mX6_layTold) := And.intro (Nat.le_of_ble_eq_true rfl) (Nat.le_of_ble_eq_true rfl)
theorem ry_X6_letters_X3_fewestLetters : roomy mX3_fewestLetters (rmM mX6_letters) := And.intro (Nat.le_of_ble_eq_true rfl) (Nat.le_of_ble_eq_true rfl)
theorem ry_X6_melody_J9_abs_0f7a4 : roomy mJ9_abs_0f7a4 (rmM mX6_melody) := And.intro (Nat.le_of_ble_eq_true rfl) (Nat.le_of_ble_eq_true rfl)
theorem ry_X6_melody_J9_max_7cf53 : roomy mJ9_max_7cf53 (rmM mX6_melody) := And.intro (Nat.le_of_ble_eq_true rfl) (Nat.le_of_ble_eq_true rfl)
theorem ry_X6_melody_X5_highestTone : roomy mX5_highestTone (rmM mX6_melody) := And.intro (Nat.le_of_ble_eq_true rfl) (Nat.le_of_ble_eq_true rfl)
theorem ry_X6_octaves_J6_bitCount_0f7a4 : roomy mJ6_bitCount_0f7a4 (rmM mX6_octaves) := And.intro (Nat.le_of_ble_eq_true rfl) (Nat.le_of_ble_eq_true rfl)
theorem ry_X6_pin_J6_bitCount_0f7a4 : roomy mJ6_bitCount_0f7a4 (rmM mX6_pin) := And.intro (Nat.le_of_ble_eq_true rfl) (Nat.le_of_ble_eq_true rfl)
theorem ry_X6_pin_X2_put : roomy mX2_put (rmM mX6_pin) := And.intro (Nat.le_of_ble_eq_true rfl) (Nat.le_of_ble_eq_true rfl)
theorem ry_X6_pin_X6_isBell : roomy mX6_isBell (rmM mX6_pin) := And.intro (Nat.le_of_ble_eq_true rfl) (Nat.le_of_ble_eq_true rfl)
theorem ry_X6_pin_X6_isRow : roomy mX6_isRow (rmM mX6_pin) := And.intro (Nat.le_of_ble_eq_true rfl) (Nat.le_of_ble_eq_true rfl)
theorem ry_X6_pins_X6_isRow : roomy mX6_isRow (rmM mX6_pins) := And.intro (Nat.le_of_ble_eq_true rfl) (Nat.le_of_ble_eq_true rfl)
theorem ry_X6_ringers_X1_fewestPeople : roomy mX1_fewestPeople (rmM mX6_ringers) := And.intro (Nat.le_of_ble_eq_true rfl) (Nat.le_of_ble_eq_true rfl)
theorem ry_X6_ringsInATurn_J6_bitCount_0f7a4 : roomy mJ6_bitCount_0f7a4 (rmM mX6_ringsInATurn) := And.intro (Nat.le_of_ble_eq_true rfl) (Nat.le_of_ble_eq_true rfl)
theorem ry_X6_ringsInATurn_X0_turnOn : roomy mX0_turnOn (rmM mX6_ringsInATurn) := And.intro (Nat.le_of_ble_eq_true rfl) (Nat.le_of_ble_eq_true rfl)
theorem ry_X6_shift_X2_put : roomy mX2_put (rmM mX6_shift) := And.intro (Nat.le_of_ble_eq_true rfl) (Nat.le_of_ble_eq_true rfl)
theorem ry_X6_shift_X5_rowBehind : roomy mX5_rowBehind (rmM mX6_shift) := And.intro (Nat.le_of_ble_eq_true rfl) (Nat.le_of_ble_eq_true rfl)
theorem ry_X6_shift_X6_isRow : roomy mX6_isRow (rmM mX6_shift) := And.intro (Nat.le_of_ble_eq_true rfl) (Nat.le_of_ble_eq_true rfl)
theorem ry_X6_silence_J9_max_7cf53 : roomy mJ9_max_7cf53 (rmM mX6_silence) := And.intro (Nat.le_of_ble_eq_true rfl) (Nat.le_of_ble_eq_true rfl)
theorem ry_X6_silence_J9_min_7cf53 : roomy mJ9_min_7cf53 (rmM mX6_silence) := And.intro (Nat.le_of_ble_eq_true rfl) (Nat.le_of_ble_eq_true rfl)
theorem ry_X6_silence_X5_rowBehind : roomy mX5_rowBehind (rmM mX6_silence) := And.intro (Nat.le_of_ble_eq_true rfl) (Nat.le_of_ble_eq_true rfl)
theorem ry_X6_stood_X6_isHeardFrom : roomy mX6_isHeardFrom (rmM mX6_stood) := And.intro (Nat.le_of_ble_eq_true rfl) (Nat.le_of_ble_eq_true rfl)
theorem ry_X6_turn_X0_turnOn : roomy mX0_turnOn (rmM mX6_turn) := And.intro (Nat.le_of_ble_eq_true rfl) (Nat.le_of_ble_eq_true rfl)
theorem ry_X6_turn_X2_put : roomy mX2_put (rmM mX6_turn) := And.intro (Nat.le_of_ble_eq_true rfl) (Nat.le_of_ble_eq_true rfl)
theorem ry_X6_turnBack_X0_turnOff : roomy mX0_turnOff (rmM mX6_turnBack) := And.intro (Nat.le_of_ble_eq_true rfl) (Nat.le_of_ble_eq_true rfl)
theorem ry_X6_turnBack_X2_put : roomy mX2_put (rmM mX6_turnBack) := And.intro (Nat.le_of_ble_eq_true rfl) (Nat.le_of_ble_eq_true rfl)
theorem ry_X6_undo_X2_takeInto : roomy mX2_takeInto (rmM mX6_undo) := And.intro (Nat.le_of_ble_eq_true rfl) (Nat.le_of_ble_eq_true rfl)
theorem ry_X6_want_X6_isRow : roomy mX6_isRow (rmM mX6_want) := And.intro (Nat.le_of_ble_eq_true rfl) (Nat.le_of_ble_eq_true rfl)
theorem ry_X6_want_X6_isSet : roomy mX6_isSet (rmM mX6_want) := And.intro (Nat.le_of_ble_eq_true rfl) (Nat.le_of_ble_eq_true rfl)
theorem ry_X6_whole_X0_copy : roomy mX0_copy (rmM mX6_whole) := And.intro (Nat.le_of_ble_eq_true rfl) (Nat.le_of_ble_eq_true rfl)
theorem ry_X6_whole_X6_allPins : roomy mX6_allPins (rmM mX6_whole) := And.intro (Nat.le_of_ble_eq_true rfl) (Nat.le_of_ble_eq_true rfl)
theorem ry_X6_whole_X6_ringsInATurn : roomy mX6_ringsInATurn (rmM mX6_whole) := And.intro (Nat.le_of_ble_eq_true rfl) (Nat.le_of_ble_eq_true rfl)
theorem ry_X6_winter_J6_bitCount_0f7a4 : roomy mJ6_bitCount_0f7a4 (rmM mX6_winter) := And.intro (Nat.le_of_ble_eq_true rfl) (Nat.le_of_ble_eq_true rfl)
theorem ry_X6_winter_X0_copy : roomy mX0_copy (rmM mX6_winter) := And.intro (Nat.le_of_ble_eq_true rfl) (Nat.le_of_ble_eq_true rfl)
theorem ry_X6_winter_X5_rowBehind : roomy mX5_rowBehind (rmM mX6_winter) := And.intro (Nat.le_of_ble_eq_true rfl) (Nat.le_of_ble_eq_true rfl)
theorem ry_X6_winter_X6_draw : roomy mX6_draw (rmM mX6_winter) := And.intro (Nat.le_of_ble_eq_true rfl) (Nat.le_of_ble_eq_true rfl)
theorem ry_X6_wipe_X4_clear : roomy mX4_clear (rmM mX6_wipe) := And.intro (Nat.le_of_ble_eq_true rfl) (Nat.le_of_ble_eq_true rfl)
theorem ry_X6_write_X4_append : roomy mX4_append (rmM mX6_write) := And.intro (Nat.le_of_ble_eq_true rfl) (Nat.le_of_ble_eq_true rfl)
theorem ry_X7_again_X7_comesAgain : roomy mX7_comesAgain (rmM mX7_again) := And.intro (Nat.le_of_ble_eq_true rfl) (Nat.le_of_ble_eq_true rfl)
theorem ry_X7_areOne_X7_bits : roomy mX7_bits (rmM mX7_areOne) := And.intro (Nat.le_of_ble_eq_true rfl) (Nat.le_of_ble_eq_true rfl)
theorem ry_X7_back_X7_copies : roomy mX7_copies (rmM mX7_back) := And.intro (Nat.le_of_ble_eq_true rfl) (Nat.le_of_ble_eq_true rfl)
theorem ry_X7_bell_X7_has : roomy mX7_has (rmM mX7_bell) := And.intro (Nat.le_of_ble_eq_true rfl) (Nat.le_of_ble_eq_true rfl)
theorem ry_X7_bell_X7_isBell : roomy mX7_isBell (rmM mX7_bell) := And.intro (Nat.le_of_ble_eq_true rfl) (Nat.le_of_ble_eq_true rfl)
theorem ry_X7_canon_X7_illOf : roomy mX7_illOf (rmM mX7_canon) := And.intro (Nat.le_of_ble_eq_true rfl) (Nat.le_of_ble_eq_true rfl)
theorem ry_X7_canon_X7_isTwo : roomy mX7_isTwo (rmM mX7_canon) := And.intro (Nat.le_of_ble_eq_true rfl) (Nat.le_of_ble_eq_true rfl)
theorem ry_X7_canon_X7_shifted : roomy mX7_shifted (rmM mX7_canon) := And.intro (Nat.le_of_ble_eq_true rfl) (Nat.le_of_ble_eq_true rfl)
theorem ry_X7_changes_X7_bits : roomy mX7_bits (rmM mX7_changes) := And.intro (Nat.le_of_ble_eq_true rfl) (Nat.le_of_ble_eq_true rfl)
theorem ry_X7_changes_X7_isTwo : roomy mX7_isTwo (rmM mX7_changes) := And.intro (Nat.le_of_ble_eq_true rfl) (Nat.le_of_ble_eq_true rfl)
theorem ry_X7_changes_X7_shifted : roomy mX7_shifted (rmM mX7_changes) := And.intro (Nat.le_of_ble_eq_true rfl) (Nat.le_of_ble_eq_true rfl)
theorem ry_X7_chord_X7_bits : roomy mX7_bits (rmM mX7_chord) := And.intro (Nat.le_of_ble_eq_true rfl) (Nat.le_of_ble_eq_true rfl)
theorem ry_X7_chord_X7_here : roomy mX7_here (rmM mX7_chord) := And.intro (Nat.le_of_ble_eq_true rfl) (Nat.le_of_ble_eq_true rfl)
theorem ry_X7_chord_X7_isBellHere : roomy mX7_isBellHere (rmM mX7_chord) := And.intro (Nat.le_of_ble_eq_true rfl) (Nat.le_of_ble_eq_true rfl)
theorem ry_X7_comesAgain_X7_shifted : roomy mX7_shifted (rmM mX7_comesAgain) := And.intro (Nat.le_of_ble_eq_true rfl) (Nat.le_of_ble_eq_true rfl)
theorem ry_X7_comesNext_X7_rings : roomy mX7_rings (rmM mX7_comesNext) := And.intro (Nat.le_of_ble_eq_true rfl) (Nat.le_of_ble_eq_true rfl)
theorem ry_X7_count_X7_bits : roomy mX7_bits (rmM mX7_count) := And.intro (Nat.le_of_ble_eq_true rfl) (Nat.le_of_ble_eq_true rfl)
theorem ry_X7_fault_X7_clean : roomy mX7_clean (rmM mX7_fault) := And.intro (Nat.le_of_ble_eq_true rfl) (Nat.le_of_ble_eq_true rfl)
theorem ry_X7_fault_X7_takesItem : roomy mX7_takesItem (rmM mX7_fault) := And.intro (Nat.le_of_ble_eq_true rfl) (Nat.le_of_ble_eq_true rfl)
theorem ry_X7_fewest_X7_bits : roomy mX7_bits (rmM mX7_fewest) := And.intro (Nat.le_of_ble_eq_true rfl) (Nat.le_of_ble_eq_true rfl)
theorem ry_X7_fewest_X7_cell : roomy mX7_cell (rmM mX7_fewest) := And.intro (Nat.le_of_ble_eq_true rfl) (Nat.le_of_ble_eq_true rfl)
theorem ry_X7_fewest_X7_isAgain : roomy mX7_isAgain (rmM mX7_fewest) := And.intro (Nat.le_of_ble_eq_true rfl) (Nat.le_of_ble_eq_true rfl)
theorem ry_X7_go_X7_comesNext : roomy mX7_comesNext (rmM mX7_go) := And.intro (Nat.le_of_ble_eq_true rfl) (Nat.le_of_ble_eq_true rfl)
theorem ry_X7_harsh_X7_illOf : roomy mX7_illOf (rmM mX7_harsh) := And.intro (Nat.le_of_ble_eq_true rfl) (Nat.le_of_ble_eq_true rfl)
theorem ry_X7_hear_X7_isSet : roomy mX7_isSet (rmM mX7_hear) := And.intro (Nat.le_of_ble_eq_true rfl) (Nat.le_of_ble_eq_true rfl)
theorem ry_X7_illOf_X7_has : roomy mX7_has (rmM mX7_illOf) := And.intro (Nat.le_of_ble_eq_true rfl) (Nat.le_of_ble_eq_true rfl)
theorem ry_X7_illOf_X7_isIll : roomy mX7_isIll (rmM mX7_illOf) := And.intro (Nat.le_of_ble_eq_true rfl) (Nat.le_of_ble_eq_true rfl)
theorem ry_X7_isBell_X7_in : roomy mX7_in (rmM mX7_isBell) := And.intro (Nat.le_of_ble_eq_true rfl) (Nat.le_of_ble_eq_true rfl)
theorem ry_X7_isBellHere_X7_here : roomy mX7_here (rmM mX7_isBellHere) := And.intro (Nat.le_of_ble_eq_true rfl) (Nat.le_of_ble_eq_true rfl)
theorem ry_X7_isBellHere_X7_in : roomy mX7_in (rmM mX7_isBellHere) := And.intro (Nat.le_of_ble_eq_true rfl) (Nat.le_of_ble_eq_true rfl)
theorem ry_X7_isRow_X7_in : roomy mX7_in (rmM mX7_isRow) := And.intro (Nat.le_of_ble_eq_true rfl) (Nat.le_of_ble_eq_true rfl)
theorem ry_X7_isSet_X7_in : roomy mX7_in (rmM mX7_isSet) := And.intro (Nat.le_of_ble_eq_true rfl) (Nat.le_of_ble_eq_true rfl)
theorem ry_X7_isTwo_X7_in : roomy mX7_in (rmM mX7_isTwo) := And.intro (Nat.le_of_ble_eq_true rfl) (Nat.le_of_ble_eq_true rfl)
theorem ry_X7_keep_X7_copies : roomy mX7_copies (rmM mX7_keep) := And.intro (Nat.le_of_ble_eq_true rfl) (Nat.le_of_ble_eq_true rfl)
theorem ry_X7_lay_X7_begins : roomy mX7_begins (rmM mX7_lay) := And.intro (Nat.le_of_ble_eq_true rfl) (Nat.le_of_ble_eq_true rfl)
theorem ry_X7_lay_X7_fault : roomy mX7_fault (rmM mX7_lay) := And.intro (Nat.le_of_ble_eq_true rfl) (Nat.le_of_ble_eq_true rfl)
theorem ry_X7_letters_X7_cell : roomy mX7_cell (rmM mX7_letters) := And.intro (Nat.le_of_ble_eq_true rfl) (Nat.le_of_ble_eq_true rfl)
theorem ry_X7_letters_X7_fewest : roomy mX7_fewest (rmM mX7_letters) := And.intro (Nat.le_of_ble_eq_true rfl) (Nat.le_of_ble_eq_true rfl)
theorem ry_X7_melody_X7_has : roomy mX7_has (rmM mX7_melody) := And.intro (Nat.le_of_ble_eq_true rfl) (Nat.le_of_ble_eq_true rfl)
theorem ry_X7_melody_X7_in : roomy mX7_in (rmM mX7_melody) := And.intro (Nat.le_of_ble_eq_true rfl) (Nat.le_of_ble_eq_true rfl)
theorem ry_X7_pin_X7_bits : roomy mX7_bits (rmM mX7_pin) := And.intro (Nat.le_of_ble_eq_true rfl) (Nat.le_of_ble_eq_true rfl)
theorem ry_X7_pin_X7_has : roomy mX7_has (rmM mX7_pin) := And.intro (Nat.le_of_ble_eq_true rfl) (Nat.le_of_ble_eq_true rfl)
theorem ry_X7_pin_X7_isBell : roomy mX7_isBell (rmM mX7_pin) := And.intro (Nat.le_of_ble_eq_true rfl) (Nat.le_of_ble_eq_true rfl)
theorem ry_X7_pin_X7_isRow : roomy mX7_isRow (rmM mX7_pin) := And.intro (Nat.le_of_ble_eq_true rfl) (Nat.le_of_ble_eq_true rfl)
theorem ry_X7_pin_X7_remember : roomy mX7_remember (rmM mX7_pin) := And.intro (Nat.le_of_ble_eq_true rfl) (Nat.le_of_ble_eq_true rfl)
theorem ry_X7_pins_X7_isRow : roomy mX7_isRow (rmM mX7_pins) := And.intro (Nat.le_of_ble_eq_true rfl) (Nat.le_of_ble_eq_true rfl)
theorem ry_X7_remember_X7_copies : roomy mX7_copies (rmM mX7_remember) := And.intro (Nat.le_of_ble_eq_true rfl) (Nat.le_of_ble_eq_true rfl)
theorem ry_X7_ringers_X7_areOne : roomy mX7_areOne (rmM mX7_ringers) := And.intro (Nat.le_of_ble_eq_true rfl) (Nat.le_of_ble_eq_true rfl)
theorem ry_X7_rings_X7_has : roomy mX7_has (rmM mX7_rings) := And.intro (Nat.le_of_ble_eq_true rfl) (Nat.le_of_ble_eq_true rfl)
theorem ry_X7_shift_X7_isRow : roomy mX7_isRow (rmM mX7_shift) := And.intro (Nat.le_of_ble_eq_true rfl) (Nat.le_of_ble_eq_true rfl)
theorem ry_X7_shift_X7_remember : roomy mX7_remember (rmM mX7_shift) := And.intro (Nat.le_of_ble_eq_true rfl) (Nat.le_of_ble_eq_true rfl)
theorem ry_X7_shift_X7_shifted : roomy mX7_shifted (rmM mX7_shift) := And.intro (Nat.le_of_ble_eq_true rfl) (Nat.le_of_ble_eq_true rfl)
theorem ry_X7_takes_X7_here : roomy mX7_here (rmM mX7_takes) := And.intro (Nat.le_of_ble_eq_true rfl) (Nat.le_of_ble_eq_true rfl)
theorem ry_X7_takes_X7_in : roomy mX7_in (rmM mX7_takes) := And.intro (Nat.le_of_ble_eq_true rfl) (Nat.le_of_ble_eq_true rfl)
theorem ry_X7_takesBell_X7_comes : roomy mX7_comes (rmM mX7_takesBell) := And.intro (Nat.le_of_ble_eq_true rfl) (Nat.le_of_ble_eq_true rfl)
theorem ry_X7_takesBell_X7_in : roomy mX7_in (rmM mX7_takesBell) := And.intro (Nat.le_of_ble_eq_true rfl) (Nat.le_of_ble_eq_true rfl)
theorem ry_X7_takesBell_X7_takes : roomy mX7_takes (rmM mX7_takesBell) := And.intro (Nat.le_of_ble_eq_true rfl) (Nat.le_of_ble_eq_true rfl)
theorem ry_X7_takesItem_X7_here : roomy mX7_here (rmM mX7_takesItem) := And.intro (Nat.le_of_ble_eq_true rfl) (Nat.le_of_ble_eq_true rfl)
theorem ry_X7_takesItem_X7_takesBell : roomy mX7_takesBell (rmM mX7_takesItem) := And.intro (Nat.le_of_ble_eq_true rfl) (Nat.le_of_ble_eq_true rfl)
theorem ry_X7_takesItem_X7_takesOne : roomy mX7_takesOne (rmM mX7_takesItem) := And.intro (Nat.le_of_ble_eq_true rfl) (Nat.le_of_ble_eq_true rfl)
theorem ry_X7_takesItem_X7_takesTune : roomy mX7_takesTune (rmM mX7_takesItem) := And.intro (Nat.le_of_ble_eq_true rfl) (Nat.le_of_ble_eq_true rfl)
theorem ry_X7_takesOne_X7_in : roomy mX7_in (rmM mX7_takesOne) := And.intro (Nat.le_of_ble_eq_true rfl) (Nat.le_of_ble_eq_true rfl)
theorem ry_X7_takesOne_X7_takes : roomy mX7_takes (rmM mX7_takesOne) := And.intro (Nat.le_of_ble_eq_true rfl) (Nat.le_of_ble_eq_true rfl)
theorem ry_X7_takesTune_X7_chord : roomy mX7_chord (rmM mX7_takesTune) := And.intro (Nat.le_of_ble_eq_true rfl) (Nat.le_of_ble_eq_true rfl)
theorem ry_X7_takesTune_X7_here : roomy mX7_here (rmM mX7_takesTune) := And.intro (Nat.le_of_ble_eq_true rfl) (Nat.le_of_ble_eq_true rfl)
theorem ry_X7_takesTune_X7_in : roomy mX7_in (rmM mX7_takesTune) := And.intro (Nat.le_of_ble_eq_true rfl) (Nat.le_of_ble_eq_true rfl)
theorem ry_X7_takesTune_X7_isBellHere : roomy mX7_isBellHere (rmM mX7_takesTune) := And.intro (Nat.le_of_ble_eq_true rfl) (Nat.le_of_ble_eq_true rfl)
theorem ry_X7_takesTune_X7_put : roomy mX7_put (rmM mX7_takesTune) := And.intro (Nat.le_of_ble_eq_true rfl) (Nat.le_of_ble_eq_true rfl)
theorem ry_X7_takesTune_X7_tellsAgain : roomy mX7_tellsAgain (rmM mX7_takesTune) := And.intro (Nat.le_of_ble_eq_true rfl) (Nat.le_of_ble_eq_true rfl)
theorem ry_X7_tellsAgain_X7_put : roomy mX7_put (rmM mX7_tellsAgain) := And.intro (Nat.le_of_ble_eq_true rfl) (Nat.le_of_ble_eq_true rfl)
theorem ry_X7_turn_X7_comesNext : roomy mX7_comesNext (rmM mX7_turn) := And.intro (Nat.le_of_ble_eq_true rfl) (Nat.le_of_ble_eq_true rfl)
theorem ry_X7_turn_X7_remember : roomy mX7_remember (rmM mX7_turn) := And.intro (Nat.le_of_ble_eq_true rfl) (Nat.le_of_ble_eq_true rfl)
theorem ry_X7_turnBack_X7_remember : roomy mX7_remember (rmM mX7_turnBack) := And.intro (Nat.le_of_ble_eq_true rfl) (Nat.le_of_ble_eq_true rfl)
theorem ry_X7_turnBack_X7_rings : roomy mX7_rings (rmM mX7_turnBack) := And.intro (Nat.le_of_ble_eq_true rfl) (Nat.le_of_ble_eq_true rfl)
theorem ry_X7_undo_X7_copies : roomy mX7_copies (rmM mX7_undo) := And.intro (Nat.le_of_ble_eq_true rfl) (Nat.le_of_ble_eq_true rfl)
theorem ry_X7_want_X7_isRow : roomy mX7_isRow (rmM mX7_want) := And.intro (Nat.le_of_ble_eq_true rfl) (Nat.le_of_ble_eq_true rfl)
theorem ry_X7_want_X7_isSet : roomy mX7_isSet (rmM mX7_want) := And.intro (Nat.le_of_ble_eq_true rfl) (Nat.le_of_ble_eq_true rfl)
theorem ry_X7_whole_X7_copies : roomy mX7_copies (rmM mX7_whole) := And.intro (Nat.le_of_ble_eq_true rfl) (Nat.le_of_ble_eq_true rfl)
theorem ry_X7_whole_X7_go : roomy mX7_go (rmM mX7_whole) := And.intro (Nat.le_of_ble_eq_true rfl) (Nat.le_of_ble_eq_true rfl)
theorem ry_X7_whole_X7_in : roomy mX7_in (rmM mX7_whole) := And.intro (Nat.le_of_ble_eq_true rfl) (Nat.le_of_ble_eq_true rfl)
theorem ry_X7_whole_X7_sumOf : roomy mX7_sumOf (rmM mX7_whole) := And.intro (Nat.le_of_ble_eq_true rfl) (Nat.le_of_ble_eq_true rfl)
theorem ry_X7_winter_X7_bits : roomy mX7_bits (rmM mX7_winter) := And.intro (Nat.le_of_ble_eq_true rfl) (Nat.le_of_ble_eq_true rfl)
theorem ry_X7_winter_X7_copies : roomy mX7_copies (rmM mX7_winter) := And.intro (Nat.le_of_ble_eq_true rfl) (Nat.le_of_ble_eq_true rfl)
theorem ry_X7_winter_X7_in : roomy mX7_in (rmM mX7_winter) := And.intro (Nat.le_of_ble_eq_true rfl) (Nat.le_of_ble_eq_true rfl)
theorem ry_X7_winter_X7_isTwo : roomy mX7_isTwo (rmM mX7_winter) := And.intro (Nat.le_of_ble_eq_true rfl) (Nat.le_of_ble_eq_true rfl)
theorem ry_X7_write_X7_in : roomy mX7_in (rmM mX7_write) := And.intro (Nat.le_of_ble_eq_true rfl) (Nat.le_of_ble_eq_true rfl)
