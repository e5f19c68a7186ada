/-! ===== constructors: words ===== -/
theorem gObjI : Cond.instanceMethod Lib.objectInit ∈ gt := gt_in 77 (by decide +kernel) (by decide +kernel)
theorem gObjC : Cond.code Lib.objectInit ⟨#[0xb1]⟩ 1 none ∈ gt := gt_in 78 (by decide +kernel) (by decide +kernel)
theorem gArrI : Cond.arrayClass .int ∈ gt := gt_in 99 (by decide +kernel) (by decide +kernel)
theorem gArrZ : Cond.arrayClass .boolean ∈ gt := gt_in 774 (by decide +kernel) (by decide +kernel)
theorem gMaxS : Cond.static Lib.Math.max.name ∈ gt := gt_in 189 (by decide +kernel) (by decide +kernel)
theorem gMaxI : Cond.initialized "java/lang/Math" ∈ gt := gt_in 60 (by decide +kernel) (by decide +kernel)
theorem gMaxC : Cond.code Lib.Math.max.name Lib.Math.max.code 2 (some .int) ∈ gt := gt_in 190 (by decide +kernel) (by decide +kernel)
def mX0_init : MI := (yX0_init, cX0_init, 1, none, 1)
theorem okX0_init : okI mX0_init 0 := ⟨gt_in 155 (by decide +kernel) (by decide +kernel), gt_in 58 (by decide +kernel) (by decide +kernel), gt_in 156 (by decide +kernel) (by decide +kernel), rfl, rfl, by decide +kernel, by decide +kernel, by decide +kernel⟩
theorem liX0_3 : Cond.methodLink RX0 3 Lib.objectInit ∈ gt := gt_in 157 (by decide +kernel) (by decide +kernel)
theorem fwF_0_0 : fwF RX0 0 0 (.array .int) := ⟨(RX0, TX0, 6), tyX0, rfl, tyX0_ok, nmX0, by decide +kernel, by decide +kernel, by decide +kernel⟩
theorem fwF_0_1 : fwF RX0 0 1 (.array .int) := ⟨(RX0, TX0, 6), tyX0, rfl, tyX0_ok, nmX0, by decide +kernel, by decide +kernel, by decide +kernel⟩
theorem fwF_0_2 : fwF RX0 0 2 (.array .int) := ⟨(RX0, TX0, 6), tyX0, rfl, tyX0_ok, nmX0, by decide +kernel, by decide +kernel, by decide +kernel⟩
theorem fwF_0_3 : fwF RX0 0 3 (.array .int) := ⟨(RX0, TX0, 6), tyX0, rfl, tyX0_ok, nmX0, by decide +kernel, by decide +kernel, by decide +kernel⟩
def mX1_init : MI := (yX1_init, cX1_init, 1, none, 1)
theorem okX1_init : okI mX1_init 0 := ⟨gt_in 220 (by decide +kernel) (by decide +kernel), gt_in 62 (by decide +kernel) (by decide +kernel), gt_in 221 (by decide +kernel) (by decide +kernel), rfl, rfl, by decide +kernel, by decide +kernel, by decide +kernel⟩
theorem liX1_3 : Cond.methodLink RX1 3 Lib.objectInit ∈ gt := gt_in 222 (by decide +kernel) (by decide +kernel)
theorem fwF_1_0 : fwF RX1 1 0 (.array .int) := ⟨(RX1, TX1, 4), tyX1, rfl, tyX1_ok, nmX1, by decide +kernel, by decide +kernel, by decide +kernel⟩
theorem fwF_1_1 : fwF RX1 1 1 (.array .int) := ⟨(RX1, TX1, 4), tyX1, rfl, tyX1_ok, nmX1, by decide +kernel, by decide +kernel, by decide +kernel⟩
def mX2_init : MI := (yX2_init, cX2_init, 2, none, 1)
theorem okX2_init : okI mX2_init 1 := ⟨gt_in 185 (by decide +kernel) (by decide +kernel), gt_in 59 (by decide +kernel) (by decide +kernel), gt_in 186 (by decide +kernel) (by decide +kernel), rfl, rfl, by decide +kernel, by decide +kernel, by decide +kernel⟩
theorem liX2_1 : Cond.methodLink RX2 1 Lib.objectInit ∈ gt := gt_in 187 (by decide +kernel) (by decide +kernel)
theorem lmX2_7 : Cond.methodLink RX2 7 Lib.Math.max.name ∈ gt := gt_in 188 (by decide +kernel) (by decide +kernel)
theorem fwF_2_0 : fwF RX2 2 0 .int := ⟨(RX2, TX2, 4), tyX2, rfl, tyX2_ok, nmX2, by decide +kernel, by decide +kernel, by decide +kernel⟩
theorem fwF_2_1 : fwF RX2 2 1 (.array .int) := ⟨(RX2, TX2, 4), tyX2, rfl, tyX2_ok, nmX2, by decide +kernel, by decide +kernel, by decide +kernel⟩
def mX3_init : MI := (yX3_init, cX3_init, 1, none, 1)
theorem okX3_init : okI mX3_init 0 := ⟨gt_in 208 (by decide +kernel) (by decide +kernel), gt_in 61 (by decide +kernel) (by decide +kernel), gt_in 209 (by decide +kernel) (by decide +kernel), rfl, rfl, by decide +kernel, by decide +kernel, by decide +kernel⟩
theorem liX3_3 : Cond.methodLink RX3 3 Lib.objectInit ∈ gt := gt_in 210 (by decide +kernel) (by decide +kernel)
theorem fwF_3_0 : fwF RX3 3 0 (.array (.array .int)) := ⟨(RX3, TX3, 1), tyX3, rfl, tyX3_ok, nmX3, by decide +kernel, by decide +kernel, by decide +kernel⟩
def mX4_init : MI := (yX4_init, cX4_init, 1, none, 1)
theorem okX4_init : okI mX4_init 0 := ⟨gt_in 82 (by decide +kernel) (by decide +kernel), gt_in 56 (by decide +kernel) (by decide +kernel), gt_in 83 (by decide +kernel) (by decide +kernel), rfl, rfl, by decide +kernel, by decide +kernel, by decide +kernel⟩
theorem liX4_3 : Cond.methodLink RX4 3 Lib.objectInit ∈ gt := gt_in 84 (by decide +kernel) (by decide +kernel)
theorem fwF_4_0 : fwF RX4 4 0 (.array .int) := ⟨(RX4, TX4, 4), tyX4, rfl, tyX4_ok, nmX4, by decide +kernel, by decide +kernel, by decide +kernel⟩
theorem fwF_4_3 : fwF RX4 4 3 (.array .int) := ⟨(RX4, TX4, 4), tyX4, rfl, tyX4_ok, nmX4, by decide +kernel, by decide +kernel, by decide +kernel⟩
def mX5_init : MI := (yX5_init, cX5_init, 1, none, 1)
theorem okX5_init : okI mX5_init 0 := ⟨gt_in 103 (by decide +kernel) (by decide +kernel), gt_in 57 (by decide +kernel) (by decide +kernel), gt_in 104 (by decide +kernel) (by decide +kernel), rfl, rfl, by decide +kernel, by decide +kernel, by decide +kernel⟩
theorem liX5_3 : Cond.methodLink RX5 3 Lib.objectInit ∈ gt := gt_in 105 (by decide +kernel) (by decide +kernel)
theorem fwF_5_1 : fwF RX5 5 1 (.array .int) := ⟨(RX5, TX5, 9), tyX5, rfl, tyX5_ok, nmX5, by decide +kernel, by decide +kernel, by decide +kernel⟩
theorem fwF_5_2 : fwF RX5 5 2 (.array .int) := ⟨(RX5, TX5, 9), tyX5, rfl, tyX5_ok, nmX5, by decide +kernel, by decide +kernel, by decide +kernel⟩
theorem fwF_5_3 : fwF RX5 5 3 (.array .int) := ⟨(RX5, TX5, 9), tyX5, rfl, tyX5_ok, nmX5, by decide +kernel, by decide +kernel, by decide +kernel⟩
theorem fwF_5_8 : fwF RX5 5 8 (.array .int) := ⟨(RX5, TX5, 9), tyX5, rfl, tyX5_ok, nmX5, by decide +kernel, by decide +kernel, by decide +kernel⟩
def mX6_init : MI := (yX6_init, cX6_init, 2, none, 8)
theorem okX6_init : okI mX6_init 0 := ⟨gt_in 74 (by decide +kernel) (by decide +kernel), gt_in 55 (by decide +kernel) (by decide +kernel), gt_in 75 (by decide +kernel) (by decide +kernel), rfl, rfl, by decide +kernel, by decide +kernel, by decide +kernel⟩
theorem liX6_1 : Cond.methodLink RX6 1 Lib.objectInit ∈ gt := gt_in 76 (by decide +kernel) (by decide +kernel)
theorem fwF_6_0 : fwF RX6 6 0 (.object "RungByADrum$Text") := ⟨(RX6, TX6, 12), tyX6, rfl, tyX6_ok, nmX6, by decide +kernel, by decide +kernel, by decide +kernel⟩
theorem fwF_6_3 : fwF RX6 6 3 (.object "RungByADrum$Drum") := ⟨(RX6, TX6, 12), tyX6, rfl, tyX6_ok, nmX6, by decide +kernel, by decide +kernel, by decide +kernel⟩
theorem fwF_6_4 : fwF RX6 6 4 (.object "RungByADrum$Drum") := ⟨(RX6, TX6, 12), tyX6, rfl, tyX6_ok, nmX6, by decide +kernel, by decide +kernel, by decide +kernel⟩
theorem liX6_38 : Cond.methodLink RX6 38 yX2_init ∈ gt := gt_in 184 (by decide +kernel) (by decide +kernel)
theorem fwF_6_5 : fwF RX6 6 5 (.object "RungByADrum$Shelf") := ⟨(RX6, TX6, 12), tyX6, rfl, tyX6_ok, nmX6, by decide +kernel, by decide +kernel, by decide +kernel⟩
theorem fwF_6_6 : fwF RX6 6 6 (.object "RungByADrum$Shelf") := ⟨(RX6, TX6, 12), tyX6, rfl, tyX6_ok, nmX6, by decide +kernel, by decide +kernel, by decide +kernel⟩
theorem fwF_6_7 : fwF RX6 6 7 (.array .int) := ⟨(RX6, TX6, 12), tyX6, rfl, tyX6_ok, nmX6, by decide +kernel, by decide +kernel, by decide +kernel⟩
theorem fwF_6_8 : fwF RX6 6 8 (.array .int) := ⟨(RX6, TX6, 12), tyX6, rfl, tyX6_ok, nmX6, by decide +kernel, by decide +kernel, by decide +kernel⟩
theorem fwF_6_10 : fwF RX6 6 10 (.object "RungByADrum$Shortener") := ⟨(RX6, TX6, 12), tyX6, rfl, tyX6_ok, nmX6, by decide +kernel, by decide +kernel, by decide +kernel⟩
theorem fwF_6_11 : fwF RX6 6 11 (.object "RungByADrum$Parting") := ⟨(RX6, TX6, 12), tyX6, rfl, tyX6_ok, nmX6, by decide +kernel, by decide +kernel, by decide +kernel⟩
def mX7_init : MI := (yX7_init, cX7_init, 1, none, 1)
theorem okX7_init : okI mX7_init 0 := ⟨gt_in 685 (by decide +kernel) (by decide +kernel), gt_in 70 (by decide +kernel) (by decide +kernel), gt_in 686 (by decide +kernel) (by decide +kernel), rfl, rfl, by decide +kernel, by decide +kernel, by decide +kernel⟩
theorem liX7_1 : Cond.methodLink RX7 1 Lib.objectInit ∈ gt := gt_in 687 (by decide +kernel) (by decide +kernel)
theorem fwF_7_0 : fwF RX7 7 0 (.array .int) := ⟨(RX7, TX7, 23), tyX7, rfl, tyX7_ok, nmX7, by decide +kernel, by decide +kernel, by decide +kernel⟩
theorem fwF_7_1 : fwF RX7 7 1 (.array .int) := ⟨(RX7, TX7, 23), tyX7, rfl, tyX7_ok, nmX7, by decide +kernel, by decide +kernel, by decide +kernel⟩
theorem fwF_7_2 : fwF RX7 7 2 (.array .int) := ⟨(RX7, TX7, 23), tyX7, rfl, tyX7_ok, nmX7, by decide +kernel, by decide +kernel, by decide +kernel⟩
theorem fwF_7_4 : fwF RX7 7 4 (.array .int) := ⟨(RX7, TX7, 23), tyX7, rfl, tyX7_ok, nmX7, by decide +kernel, by decide +kernel, by decide +kernel⟩
theorem fwF_7_5 : fwF RX7 7 5 (.array .int) := ⟨(RX7, TX7, 23), tyX7, rfl, tyX7_ok, nmX7, by decide +kernel, by decide +kernel, by decide +kernel⟩
theorem fwF_7_7 : fwF RX7 7 7 (.array .int) := ⟨(RX7, TX7, 23), tyX7, rfl, tyX7_ok, nmX7, by decide +kernel, by decide +kernel, by decide +kernel⟩
theorem fwF_7_9 : fwF RX7 7 9 (.array .int) := ⟨(RX7, TX7, 23), tyX7, rfl, tyX7_ok, nmX7, by decide +kernel, by decide +kernel, by decide +kernel⟩
theorem fwF_7_11 : fwF RX7 7 11 (.array .int) := ⟨(RX7, TX7, 23), tyX7, rfl, tyX7_ok, nmX7, by decide +kernel, by decide +kernel, by decide +kernel⟩
theorem fwF_7_12 : fwF RX7 7 12 (.array .int) := ⟨(RX7, TX7, 23), tyX7, rfl, tyX7_ok, nmX7, by decide +kernel, by decide +kernel, by decide +kernel⟩
theorem fwF_7_16 : fwF RX7 7 16 (.array .int) := ⟨(RX7, TX7, 23), tyX7, rfl, tyX7_ok, nmX7, by decide +kernel, by decide +kernel, by decide +kernel⟩
theorem fwF_7_17 : fwF RX7 7 17 (.array .int) := ⟨(RX7, TX7, 23), tyX7, rfl, tyX7_ok, nmX7, by decide +kernel, by decide +kernel, by decide +kernel⟩
theorem fwF_7_18 : fwF RX7 7 18 (.array .int) := ⟨(RX7, TX7, 23), tyX7, rfl, tyX7_ok, nmX7, by decide +kernel, by decide +kernel, by decide +kernel⟩
theorem fwF_7_19 : fwF RX7 7 19 (.array .int) := ⟨(RX7, TX7, 23), tyX7, rfl, tyX7_ok, nmX7, by decide +kernel, by decide +kernel, by decide +kernel⟩
theorem fwF_7_20 : fwF RX7 7 20 (.array .int) := ⟨(RX7, TX7, 23), tyX7, rfl, tyX7_ok, nmX7, by decide +kernel, by decide +kernel, by decide +kernel⟩
theorem fwF_7_21 : fwF RX7 7 21 (.array .int) := ⟨(RX7, TX7, 23), tyX7, rfl, tyX7_ok, nmX7, by decide +kernel, by decide +kernel, by decide +kernel⟩
theorem fwF_7_22 : fwF RX7 7 22 (.array .boolean) := ⟨(RX7, TX7, 23), tyX7, rfl, tyX7_ok, nmX7, by decide +kernel, by decide +kernel, by decide +kernel⟩
abbrev bl0 : List Value := [.null, .null, .null, .null, .int (nI 0), .int (nI 0)]
abbrev bl1 : List Value := [.null, .null, .int (nI 0), .int (nI 0)]
abbrev bl2 : List Value := [.int (nI 0), .null, .int (nI 0), .int (nI 0)]
abbrev bl3 : List Value := [.null]
abbrev bl4 : List Value := [.null, .int (nI 0), .int (nI 0), .null]
abbrev bl5 : List Value := [.int (nI 0), .null, .null, .null, .int (nI 0), .int (nI 0), .int (nI 0), .int (nI 0), .null]
abbrev bl6 : List Value := [.null, .null, .null, .null, .null, .null, .null, .null, .null, .int (nI 0), .null, .null]
abbrev bl7 : List Value := [.null, .null, .null, .int (nI 0), .null, .null, .int (nI 0), .null, .int (nI 0), .null, .int (nI 0), .null, .null, .int (nI 0), .int (nI 0), .int (nI 0), .null, .null, .null, .null, .null, .null, .null]
/-! a row of N zeros -/
abbrev zr (E : EV) (N : Nat) : va_E := .inl (eI E, N, .inl (fun _ => nI 0))
abbrev zz (E : EV) (N : Nat) : va_E := .inl (eZ E, N, .inl (fun _ => nI 0))
theorem cb_X4_init {E : EV} (a : Nat) : CBo E mX4_init (fun _ => True) (FO a) [(a, .inr (4, bl4))] a [] 2 203 (fun ad => [(ad 0, .inr (4, [.ref (ad 1), .int (nI 0), .int (nI 0), .ref (ad 2)])), ((ad 1), zr E 200), ((ad 2), zr E 3)]) := by
  refine CBo.of (by decide +kernel) (Nat.le_of_ble_eq_true rfl) (fun sz q h => Or.inr h) (fun sz => FO.D _ _ sz) ?_
  refine bw_aload 0 dX4_init_0 rfl ?_
  refine bw_obj liX4_3 gObjI gObjC dX4_init_1 (Nat.le_of_ble_eq_true rfl) (Nat.le_of_ble_eq_true rfl) ?_
  refine bw_aload 0 dX4_init_4 rfl ?_
  refine bw_sipush (nI 200) dX4_init_5 (by decide) ?_
  refine bw_newi 200 gArrI (by decide) (Nat.le_of_ble_eq_true rfl) dX4_init_8 ⟨Nat.le_of_ble_eq_true rfl, Nat.le_of_ble_eq_true rfl⟩ (fun q1 => ?_)
  refine bw_putF (pre := []) (post := [(q1, zr E 200)]) (a := a) (fs := [.null, .int (nI 0), .int (nI 0), .null]) (v := .ref q1) fkX4_9 fwF_4_0 rfl (Nat.le_of_ble_eq_true rfl) rfl rfl dX4_init_10 ?_
  refine bw_aload 0 dX4_init_13 rfl ?_
  refine bw_iconst (nI 3) dX4_init_14 (by decide) ?_
  refine bw_newi 3 gArrI (by decide) (Nat.le_of_ble_eq_true rfl) dX4_init_15 ⟨Nat.le_of_ble_eq_true rfl, Nat.le_of_ble_eq_true rfl⟩ (fun q2 => ?_)
  refine bw_putF (pre := []) (post := [(q1, zr E 200), (q2, zr E 3)]) (a := a) (fs := [.ref q1, .int (nI 0), .int (nI 0), .null]) (v := .ref q2) fkX4_15 fwF_4_3 rfl (Nat.le_of_ble_eq_true rfl) rfl rfl dX4_init_17 ?_
  exact bw_ret (fun k => [a, q1, q2].getD k 0) rfl rfl rfl dX4_init_20
theorem cb_X5_init {E : EV} (a : Nat) : CBo E mX5_init (fun _ => True) (FO a) [(a, .inr (5, bl5))] a [] 4 56 (fun ad => [(ad 0, .inr (5, [.int (nI 0), .ref (ad 1), .ref (ad 2), .ref (ad 3), .int (nI 16), .int (nI 1), .int (nI 0), .int (nI 0), .ref (ad 4)])), ((ad 1), zr E 8), ((ad 2), zr E 8), ((ad 3), zr E 8), ((ad 4), zr E 32)]) := by
  refine CBo.of (by decide +kernel) (Nat.le_of_ble_eq_true rfl) (fun sz q h => Or.inr h) (fun sz => FO.D _ _ sz) ?_
  refine bw_aload 0 dX5_init_0 rfl ?_
  refine bw_obj liX5_3 gObjI gObjC dX5_init_1 (Nat.le_of_ble_eq_true rfl) (Nat.le_of_ble_eq_true rfl) ?_
  refine bw_aload 0 dX5_init_4 rfl ?_
  refine bw_bipush (nI 8) dX5_init_5 (by decide) ?_
  refine bw_newi 8 gArrI (by decide) (Nat.le_of_ble_eq_true rfl) dX5_init_7 ⟨Nat.le_of_ble_eq_true rfl, Nat.le_of_ble_eq_true rfl⟩ (fun q1 => ?_)
  refine bw_putF (pre := []) (post := [(q1, zr E 8)]) (a := a) (fs := [.int (nI 0), .null, .null, .null, .int (nI 0), .int (nI 0), .int (nI 0), .int (nI 0), .null]) (v := .ref q1) fkX5_9 fwF_5_1 rfl (Nat.le_of_ble_eq_true rfl) rfl rfl dX5_init_9 ?_
  refine bw_aload 0 dX5_init_12 rfl ?_
  refine bw_bipush (nI 8) dX5_init_13 (by decide) ?_
  refine bw_newi 8 gArrI (by decide) (Nat.le_of_ble_eq_true rfl) dX5_init_15 ⟨Nat.le_of_ble_eq_true rfl, Nat.le_of_ble_eq_true rfl⟩ (fun q2 => ?_)
  refine bw_putF (pre := []) (post := [(q1, zr E 8), (q2, zr E 8)]) (a := a) (fs := [.int (nI 0), .ref q1, .null, .null, .int (nI 0), .int (nI 0), .int (nI 0), .int (nI 0), .null]) (v := .ref q2) fkX5_15 fwF_5_2 rfl (Nat.le_of_ble_eq_true rfl) rfl rfl dX5_init_17 ?_
  refine bw_aload 0 dX5_init_20 rfl ?_
  refine bw_bipush (nI 8) dX5_init_21 (by decide) ?_
  refine bw_newi 8 gArrI (by decide) (Nat.le_of_ble_eq_true rfl) dX5_init_23 ⟨Nat.le_of_ble_eq_true rfl, Nat.le_of_ble_eq_true rfl⟩ (fun q3 => ?_)
  refine bw_putF (pre := []) (post := [(q1, zr E 8), (q2, zr E 8), (q3, zr E 8)]) (a := a) (fs := [.int (nI 0), .ref q1, .ref q2, .null, .int (nI 0), .int (nI 0), .int (nI 0), .int (nI 0), .null]) (v := .ref q3) fkX5_18 fwF_5_3 rfl (Nat.le_of_ble_eq_true rfl) rfl rfl dX5_init_25 ?_
  refine bw_aload 0 dX5_init_28 rfl ?_
  refine bw_bipush (nI 16) dX5_init_29 (by decide) ?_
  refine bw_put (pre := []) (post := [(q1, zr E 8), (q2, zr E 8), (q3, zr E 8)]) (a := a) (fs := [.int (nI 0), .ref q1, .ref q2, .ref q3, .int (nI 0), .int (nI 0), .int (nI 0), .int (nI 0), .null]) (v := .int (nI 16)) fkX5_21 fw_5_4 (Nat.le_of_ble_eq_true rfl) rfl rfl dX5_init_31 ?_
  refine bw_aload 0 dX5_init_34 rfl ?_
  refine bw_iconst (nI 1) dX5_init_35 (by decide) ?_
  refine bw_put (pre := []) (post := [(q1, zr E 8), (q2, zr E 8), (q3, zr E 8)]) (a := a) (fs := [.int (nI 0), .ref q1, .ref q2, .ref q3, .int (nI 16), .int (nI 0), .int (nI 0), .int (nI 0), .null]) (v := .int (nI 1)) fkX5_25 fw_5_5 (Nat.le_of_ble_eq_true rfl) rfl rfl dX5_init_36 ?_
  refine bw_aload 0 dX5_init_39 rfl ?_
  refine bw_bipush (nI 32) dX5_init_40 (by decide) ?_
  refine bw_newi 32 gArrI (by decide) (Nat.le_of_ble_eq_true rfl) dX5_init_42 ⟨Nat.le_of_ble_eq_true rfl, Nat.le_of_ble_eq_true rfl⟩ (fun q4 => ?_)
  refine bw_putF (pre := []) (post := [(q1, zr E 8), (q2, zr E 8), (q3, zr E 8), (q4, zr E 32)]) (a := a) (fs := [.int (nI 0), .ref q1, .ref q2, .ref q3, .int (nI 16), .int (nI 1), .int (nI 0), .int (nI 0), .null]) (v := .ref q4) fkX5_28 fwF_5_8 rfl (Nat.le_of_ble_eq_true rfl) rfl rfl dX5_init_44 ?_
  exact bw_ret (fun k => [a, q1, q2, q3, q4].getD k 0) rfl rfl rfl dX5_init_47
theorem cb_X0_init {E : EV} (a : Nat) : CBo E mX0_init (fun _ => True) (FO a) [(a, .inr (0, bl0))] a [] 4 64 (fun ad => [(ad 0, .inr (0, [.ref (ad 1), .ref (ad 2), .ref (ad 3), .ref (ad 4), .int (nI 0), .int (nI 0)])), ((ad 1), zr E 32), ((ad 2), zr E 16), ((ad 3), zr E 8), ((ad 4), zr E 8)]) := by
  refine CBo.of (by decide +kernel) (Nat.le_of_ble_eq_true rfl) (fun sz q h => Or.inr h) (fun sz => FO.D _ _ sz) ?_
  refine bw_aload 0 dX0_init_0 rfl ?_
  refine bw_obj liX0_3 gObjI gObjC dX0_init_1 (Nat.le_of_ble_eq_true rfl) (Nat.le_of_ble_eq_true rfl) ?_
  refine bw_aload 0 dX0_init_4 rfl ?_
  refine bw_bipush (nI 32) dX0_init_5 (by decide) ?_
  refine bw_newi 32 gArrI (by decide) (Nat.le_of_ble_eq_true rfl) dX0_init_7 ⟨Nat.le_of_ble_eq_true rfl, Nat.le_of_ble_eq_true rfl⟩ (fun q1 => ?_)
  refine bw_putF (pre := []) (post := [(q1, zr E 32)]) (a := a) (fs := [.null, .null, .null, .null, .int (nI 0), .int (nI 0)]) (v := .ref q1) fkX0_9 fwF_0_0 rfl (Nat.le_of_ble_eq_true rfl) rfl rfl dX0_init_9 ?_
  refine bw_aload 0 dX0_init_12 rfl ?_
  refine bw_bipush (nI 16) dX0_init_13 (by decide) ?_
  refine bw_newi 16 gArrI (by decide) (Nat.le_of_ble_eq_true rfl) dX0_init_15 ⟨Nat.le_of_ble_eq_true rfl, Nat.le_of_ble_eq_true rfl⟩ (fun q2 => ?_)
  refine bw_putF (pre := []) (post := [(q1, zr E 32), (q2, zr E 16)]) (a := a) (fs := [.ref q1, .null, .null, .null, .int (nI 0), .int (nI 0)]) (v := .ref q2) fkX0_15 fwF_0_1 rfl (Nat.le_of_ble_eq_true rfl) rfl rfl dX0_init_17 ?_
  refine bw_aload 0 dX0_init_20 rfl ?_
  refine bw_bipush (nI 8) dX0_init_21 (by decide) ?_
  refine bw_newi 8 gArrI (by decide) (Nat.le_of_ble_eq_true rfl) dX0_init_23 ⟨Nat.le_of_ble_eq_true rfl, Nat.le_of_ble_eq_true rfl⟩ (fun q3 => ?_)
  refine bw_putF (pre := []) (post := [(q1, zr E 32), (q2, zr E 16), (q3, zr E 8)]) (a := a) (fs := [.ref q1, .ref q2, .null, .null, .int (nI 0), .int (nI 0)]) (v := .ref q3) fkX0_18 fwF_0_2 rfl (Nat.le_of_ble_eq_true rfl) rfl rfl dX0_init_25 ?_
  refine bw_aload 0 dX0_init_28 rfl ?_
  refine bw_bipush (nI 8) dX0_init_29 (by decide) ?_
  refine bw_newi 8 gArrI (by decide) (Nat.le_of_ble_eq_true rfl) dX0_init_31 ⟨Nat.le_of_ble_eq_true rfl, Nat.le_of_ble_eq_true rfl⟩ (fun q4 => ?_)
  refine bw_putF (pre := []) (post := [(q1, zr E 32), (q2, zr E 16), (q3, zr E 8), (q4, zr E 8)]) (a := a) (fs := [.ref q1, .ref q2, .ref q3, .null, .int (nI 0), .int (nI 0)]) (v := .ref q4) fkX0_21 fwF_0_3 rfl (Nat.le_of_ble_eq_true rfl) rfl rfl dX0_init_33 ?_
  exact bw_ret (fun k => [a, q1, q2, q3, q4].getD k 0) rfl rfl rfl dX0_init_36
theorem cb_X2_init8 {E : EV} (a : Nat) : CBo E mX2_init (fun _ => True) (FO a) [(a, .inr (2, bl2))] a [.int (nI 8)] 1 528 (fun ad => [(ad 0, .inr (2, [.int (nI 8), .ref (ad 1), .int (nI 0), .int (nI 0)])), ((ad 1), zr E 528)]) := by
  refine CBo.of (by decide +kernel) (Nat.le_of_ble_eq_true rfl) (fun sz q h => Or.inr h) (fun sz => FO.D _ _ sz) ?_
  refine bw_aload 0 dX2_init_0 rfl ?_
  refine bw_obj liX2_1 gObjI gObjC dX2_init_1 (Nat.le_of_ble_eq_true rfl) (Nat.le_of_ble_eq_true rfl) ?_
  refine bw_aload 0 dX2_init_4 rfl ?_
  refine bw_iload 1 dX2_init_5 rfl ?_
  refine bw_iconst (nI 1) dX2_init_6 (by decide) ?_
  refine bw_max lmX2_7 gMaxS gMaxI gMaxC ⟨Nat.le_of_ble_eq_true rfl, Nat.le_of_ble_eq_true rfl, Nat.le_of_ble_eq_true rfl, Nat.le_of_ble_eq_true rfl⟩ dX2_init_7 ?_
  rw [show (if (nI 8) < (nI 1) then nI 1 else nI 8) = nI 8 by decide]
  refine bw_putF (pre := []) (post := []) (a := a) (fs := [.int (nI 0), .null, .int (nI 0), .int (nI 0)]) (v := .int (nI 8)) fkX2_13 fwF_2_0 rfl (Nat.le_of_ble_eq_true rfl) rfl rfl dX2_init_10 ?_
  refine bw_aload 0 dX2_init_13 rfl ?_
  refine bw_aload 0 dX2_init_14 rfl ?_
  refine bw_get (pre := []) (post := []) (a := a) (fs := [.int (nI 8), .null, .int (nI 0), .int (nI 0)]) (v := .int (nI 8)) fkX2_13 rfl dX2_init_15 ?_
  refine bw_bipush (nI 66) dX2_init_18 (by decide) ?_
  refine bw_imul dX2_init_20 ?_
  refine bw_newi 528 gArrI (by decide) (Nat.le_of_ble_eq_true rfl) dX2_init_21 ⟨Nat.le_of_ble_eq_true rfl, Nat.le_of_ble_eq_true rfl⟩ (fun q1 => ?_)
  refine bw_putF (pre := []) (post := [(q1, zr E 528)]) (a := a) (fs := [.int (nI 8), .null, .int (nI 0), .int (nI 0)]) (v := .ref q1) fkX2_21 fwF_2_1 rfl (Nat.le_of_ble_eq_true rfl) rfl rfl dX2_init_23 ?_
  exact bw_ret (fun k => [a, q1].getD k 0) rfl rfl rfl dX2_init_26
theorem cb_X2_init2 {E : EV} (a : Nat) : CBo E mX2_init (fun _ => True) (FO a) [(a, .inr (2, bl2))] a [.int (nI 2)] 1 132 (fun ad => [(ad 0, .inr (2, [.int (nI 2), .ref (ad 1), .int (nI 0), .int (nI 0)])), ((ad 1), zr E 132)]) := by
  refine CBo.of (by decide +kernel) (Nat.le_of_ble_eq_true rfl) (fun sz q h => Or.inr h) (fun sz => FO.D _ _ sz) ?_
  refine bw_aload 0 dX2_init_0 rfl ?_
  refine bw_obj liX2_1 gObjI gObjC dX2_init_1 (Nat.le_of_ble_eq_true rfl) (Nat.le_of_ble_eq_true rfl) ?_
  refine bw_aload 0 dX2_init_4 rfl ?_
  refine bw_iload 1 dX2_init_5 rfl ?_
  refine bw_iconst (nI 1) dX2_init_6 (by decide) ?_
  refine bw_max lmX2_7 gMaxS gMaxI gMaxC ⟨Nat.le_of_ble_eq_true rfl, Nat.le_of_ble_eq_true rfl, Nat.le_of_ble_eq_true rfl, Nat.le_of_ble_eq_true rfl⟩ dX2_init_7 ?_
  rw [show (if (nI 2) < (nI 1) then nI 1 else nI 2) = nI 2 by decide]
  refine bw_putF (pre := []) (post := []) (a := a) (fs := [.int (nI 0), .null, .int (nI 0), .int (nI 0)]) (v := .int (nI 2)) fkX2_13 fwF_2_0 rfl (Nat.le_of_ble_eq_true rfl) rfl rfl dX2_init_10 ?_
  refine bw_aload 0 dX2_init_13 rfl ?_
  refine bw_aload 0 dX2_init_14 rfl ?_
  refine bw_get (pre := []) (post := []) (a := a) (fs := [.int (nI 2), .null, .int (nI 0), .int (nI 0)]) (v := .int (nI 2)) fkX2_13 rfl dX2_init_15 ?_
  refine bw_bipush (nI 66) dX2_init_18 (by decide) ?_
  refine bw_imul dX2_init_20 ?_
  refine bw_newi 132 gArrI (by decide) (Nat.le_of_ble_eq_true rfl) dX2_init_21 ⟨Nat.le_of_ble_eq_true rfl, Nat.le_of_ble_eq_true rfl⟩ (fun q1 => ?_)
  refine bw_putF (pre := []) (post := [(q1, zr E 132)]) (a := a) (fs := [.int (nI 2), .null, .int (nI 0), .int (nI 0)]) (v := .ref q1) fkX2_21 fwF_2_1 rfl (Nat.le_of_ble_eq_true rfl) rfl rfl dX2_init_23 ?_
  exact bw_ret (fun k => [a, q1].getD k 0) rfl rfl rfl dX2_init_26
theorem cb_X1_init {E : EV} (a : Nat) : CBo E mX1_init (fun _ => True) (FO a) [(a, .inr (1, bl1))] a [] 2 16 (fun ad => [(ad 0, .inr (1, [.ref (ad 1), .ref (ad 2), .int (nI 0), .int (nI 0)])), ((ad 1), zr E 8), ((ad 2), zr E 8)]) := by
  refine CBo.of (by decide +kernel) (Nat.le_of_ble_eq_true rfl) (fun sz q h => Or.inr h) (fun sz => FO.D _ _ sz) ?_
  refine bw_aload 0 dX1_init_0 rfl ?_
  refine bw_obj liX1_3 gObjI gObjC dX1_init_1 (Nat.le_of_ble_eq_true rfl) (Nat.le_of_ble_eq_true rfl) ?_
  refine bw_aload 0 dX1_init_4 rfl ?_
  refine bw_bipush (nI 8) dX1_init_5 (by decide) ?_
  refine bw_newi 8 gArrI (by decide) (Nat.le_of_ble_eq_true rfl) dX1_init_7 ⟨Nat.le_of_ble_eq_true rfl, Nat.le_of_ble_eq_true rfl⟩ (fun q1 => ?_)
  refine bw_putF (pre := []) (post := [(q1, zr E 8)]) (a := a) (fs := [.null, .null, .int (nI 0), .int (nI 0)]) (v := .ref q1) fkX1_9 fwF_1_0 rfl (Nat.le_of_ble_eq_true rfl) rfl rfl dX1_init_9 ?_
  refine bw_aload 0 dX1_init_12 rfl ?_
  refine bw_bipush (nI 8) dX1_init_13 (by decide) ?_
  refine bw_newi 8 gArrI (by decide) (Nat.le_of_ble_eq_true rfl) dX1_init_15 ⟨Nat.le_of_ble_eq_true rfl, Nat.le_of_ble_eq_true rfl⟩ (fun q2 => ?_)
  refine bw_putF (pre := []) (post := [(q1, zr E 8), (q2, zr E 8)]) (a := a) (fs := [.ref q1, .null, .int (nI 0), .int (nI 0)]) (v := .ref q2) fkX1_15 fwF_1_1 rfl (Nat.le_of_ble_eq_true rfl) rfl rfl dX1_init_17 ?_
  exact bw_ret (fun k => [a, q1, q2].getD k 0) rfl rfl rfl dX1_init_20
