/-! ===== the law from its entry ===== -/
theorem bw_astore {E : EV} {M : MI} {K : BK} {ws : va_W} {n k pc : Nat} {lv : List (Nat × Value)} {st : List Value} {z : Fin 4} {x : Nat} (d : decode (mC M) pc = .ok (.astore_n z, 1)) (q : (z : Nat) < mL M) (kk : BW E M K ws n k (pc + 1) (((z : Nat), .ref x) :: lv.filter (fun q => !(q.1 == (z : Nat)) && !(q.1 + 1 == (z : Nat) && q.2.category == 2))) st) : BW E M K ws n k pc lv (.ref x :: st) :=
  fun p e s m args below meth c H ls locs C hP hD hS hl => lv_astore_n C.1 C.2.1 d rfl hl q rfl (fun ls2 h2 => kk p e s m args below meth c H ls2 locs C hP hD hS h2)
theorem bw_istore {E : EV} {M : MI} {K : BK} {ws : va_W} {n k pc : Nat} {lv : List (Nat × Value)} {st : List Value} {z : Fin 4} {x : Int32} (d : decode (mC M) pc = .ok (.istore_n z, 1)) (q : (z : Nat) < mL M) (kk : BW E M K ws n k (pc + 1) (((z : Nat), .int x) :: lv.filter (fun q => !(q.1 == (z : Nat)) && !(q.1 + 1 == (z : Nat) && q.2.category == 2))) st) : BW E M K ws n k pc lv (.int x :: st) :=
  fun p e s m args below meth c H ls locs C hP hD hS hl => lv_istore_n C.1 C.2.1 d rfl hl q rfl (fun ls2 h2 => kk p e s m args below meth c H ls2 locs C hP hD hS h2)
theorem aw_more {E : EV} {M : MI} {R : Room} {c1 k1 c2 k2 pc : Nat} {Q : List Frame → Array Value → State → State → Prop} {X1 X2 : State → Prop} {tw : TW} {h : HP} {loc : LC} {st : List Value} (hc : c1 ≤ c2) (hk : k1 ≤ k2) (hX : ∀ s, X1 s → X2 s) (k : AW E M (R, c2, k2, Q, X2) tw h pc loc st) : AW E M (R, c1, k1, Q, X1) tw h pc loc st :=
  fun p e s m args below meth c H ls locs C hP hS hl => W.widen hc hk (k p e s m args below meth c H ls locs ⟨C.1, C.2.1, C.2.2.1, C.2.2.2.1, C.2.2.2.2.1, C.2.2.2.2.2.1, C.2.2.2.2.2.2.1, C.2.2.2.2.2.2.2.1, C.2.2.2.2.2.2.2.2.1, hX s C.2.2.2.2.2.2.2.2.2⟩ hP hS hl)
/-- a row of rows has been made before: its class, and that of the rows in it -/
theorem over_int {args : Array Value} {s : State} (h : (Cond.arrayOver (.array .int)).before args s = true) : ∃ (cA comp : ClassId) (kA : Class), s.vm.findClass "[I" = some comp ∧ s.vm.findClass "[[I" = some cA ∧ s.vm.classes[cA]? = some kA ∧ kA.kind = .array comp (.array .int) := by
  have h : (Cond.arrayOver (.array .int)).holds args s none s [] = true := h
  simp only [Cond.holds, Cond.value, beq_iff_eq] at h
  cases hf : s.vm.findClass (FieldType.array .int).toString with
  | none => simp [hf] at h
  | some comp =>
    simp only [hf, Option.bind_some, Option.bind_eq_some_iff, Option.map_eq_some_iff] at h
    obtain ⟨cA, hidx, kA, hkA, hres⟩ := h
    have hp := (Array.findIdx?_eq_some_iff_getElem.mp hidx).2.1
    rw [(Array.getElem?_eq_some_iff.mp hkA).2] at hp
    cases hkd : kA.kind with
    | array cc ty =>
      rw [hkd] at hp hres
      simp at hp hres
      exact ⟨cA, comp, kA, hf, hres.2, hkA, by rw [hkd, hp, hres.1]⟩
    | _ => rw [hkd] at hres; simp at hres
def XL (E : EV) (b L : Nat) (xs : Nat → Int32) (sa sv : Nat) (s : State) : Prop := va_X b L xs s s.heap ∧ b < s.heap.size ∧ MU E s ∧ vk_R RX6 69 txt0 sa s ∧ SG sa sv (fun q => s.heap.size ≤ q) s s.heap ∧ va_Nw (.methodLinkNest RX6 9 yX4_init RX6) s ∧ va_Nw (.methodLinkNest RX6 18 yX5_init RX6) s ∧ va_Nw (.methodLinkNest RX6 28 yX0_init RX6) s ∧ va_Nw (.methodLinkNest RX6 57 yX3_init RX6) s ∧ va_Nw (.methodLinkNest RX6 64 yX1_init RX6) s
def KW (E : EV) (b L : Nat) (xs : Nat → Int32) (sa sv : Nat) : BK := (room_1, fun s q => s.heap.size ≤ q, fun below args s => lw_Z below args s, XL E b L xs sa sv)
theorem nwL6 : nwc RL 7 6 bl6 := ⟨(RX6, TX6, 12), tyX6, rfl, usX6, tyX6_ok, gt_in 71 (by decide +kernel) (by decide +kernel), gt_in 72 (by decide +kernel) (by decide +kernel), gt_in 55 (by decide +kernel) (by decide +kernel), by decide +kernel, rfl⟩
theorem nwL7 : nwc RL 10 7 bl7 := ⟨(RX7, TX7, 23), tyX7, rfl, usX7, tyX7_ok, gt_in 682 (by decide +kernel) (by decide +kernel), gt_in 683 (by decide +kernel) (by decide +kernel), gt_in 70 (by decide +kernel) (by decide +kernel), by decide +kernel, rfl⟩
theorem liL_9 : Cond.methodLink RL 9 yX6_init ∈ gt := gt_in 73 (by decide +kernel) (by decide +kernel)
theorem liL_12 : Cond.methodLink RL 12 yX7_init ∈ gt := gt_in 684 (by decide +kernel) (by decide +kernel)
theorem X6.of {E : EV} {b L : Nat} {xs : Nat → Int32} {sa sv a : Nat} {z : va_E} : ∀ (s U : State) (locs : List Loc), (KW E b L xs sa sv).2.2.2 s → va_D ((KW E b L xs sa sv).2.1 s) ([] ++ [(a, z)]) → (∀ q, s.heap.size ≤ q → (KW E b L xs sa sv).2.1 s q) → va_S ((KW E b L xs sa sv).2.1 s) s.heap U.heap locs → s.WarmedH U.vm → X6 E a sa sv U := by
  intro s U locs hX hD _ hS hW
  obtain ⟨x1, x2, x3, x4, x5, n1, n2, n3, n4, n5⟩ := hX
  have ha : s.heap.size ≤ a := hD.2 0 (a, z) rfl
  refine ⟨x3.moved hW.alike, x4.warm hW, ?_, n1.warmM hW, n2.warmM hW, n3.warmM hW, n4.warmM hW, n5.warmM hW⟩
  refine SG.moved hW.alike (SG.narrow (x5.kept hS.2.1) (fun q hq => ?_))
  rcases hq with rfl | hq
  · exact ha
  · exact Nat.le_trans hS.1 hq
theorem X6.blind {E : EV} {sa sv a : Nat} : ∀ (U : State) (g : JFrame) (mk : MethodId) (ar : Array Value), X6 E a sa sv U → X6 E a sa sv (U.calling g mk ar) := by
  intro U g mk ar h
  obtain ⟨x3, x4, x5, n1, n2, n3, n4, n5⟩ := h
  have hv : (U.calling g mk ar).vm = U.vm := rfl
  exact ⟨x3.moved (Vm.Alike.refl U.vm), x4.same hv, x5.moved (Vm.Alike.refl U.vm), n1.same rfl hv.symm, n2.same rfl hv.symm, n3.same rfl hv.symm, n4.same rfl hv.symm, n5.same rfl hv.symm⟩
theorem w39_at {E : EV} {ad : Nat → Nat} {h : HP} {a : Nat} {z : va_E} {k : Nat} (hk : k < 39) : (wW (eS E ad 39) (9, 4) h ++ [(a, z)])[k]? = some (ad k, wE (eS E ad 39) (9, 4) h k) := by
  have hl : (wW (eS E ad 39) (9, 4) h).length = 39 := by unfold wW; rw [List.length_map, List.length_range]; rfl
  rw [List.getElem?_append_left (by rw [hl]; exact hk)]
  exact wW_get (eS E ad 39) (9, 4) h hk
theorem w39_la {E : EV} {ad : Nat → Nat} {h : HP} {a : Nat} {z : va_E} : (wW (eS E ad 39) (9, 4) h ++ [(a, z)])[39]? = some (a, z) := by
  have hl : (wW (eS E ad 39) (9, 4) h).length = 39 := by unfold wW; rw [List.length_map, List.length_range]; rfl
  rw [List.getElem?_append_right (by rw [hl]; exact Nat.le_refl _), hl]
  rfl
theorem w39_len {E : EV} {ad : Nat → Nat} {h : HP} {a : Nat} {z : va_E} {k : Nat} {q : Nat × va_E} (hk : (wW (eS E ad 39) (9, 4) h ++ [(a, z)])[k]? = some q) : k < 39 ∧ q.1 = ad k ∨ k = 39 ∧ q.1 = a := by
  have hl : (wW (eS E ad 39) (9, 4) h).length = 39 := by unfold wW; rw [List.length_map, List.length_range]; rfl
  have := (List.getElem?_eq_some_iff.mp hk).1
  rw [List.length_append, hl] at this
  have h1 : ([(a, z)] : List (Nat × va_E)).length = 1 := rfl
  by_cases c : k < 39
  · rw [w39_at c] at hk; cases hk; exact Or.inl ⟨c, rfl⟩
  · have : k = 39 := by omega
    subst this
    rw [w39_la] at hk; cases hk; exact Or.inr ⟨rfl, rfl⟩
theorem FM.in {K : BK} {E : EV} {ad : Nat → Nat} {h : HP} {a : Nat} {z : va_E} : ∀ (s : State) (sz x : Nat), s.heap.size ≤ sz → va_D (K.2.1 s) ([] ++ (wW (eS E ad 39) (9, 4) h ++ [(a, z)])) → (∀ q, s.heap.size ≤ q → K.2.1 s q) → FM ad a sz x → K.2.1 s x := by
  intro s sz x hsz hD hA hx
  rcases hx with ⟨k, hk, rfl⟩ | rfl | hx
  · exact hD.2 k _ (w39_at hk)
  · exact hD.2 39 _ w39_la
  · exact hA x (Nat.le_trans hsz hx)
theorem X7.of {K : BK} {E : EV} {ad : Nat → Nat} {h : HP} {a : Nat} : ∀ (s U : State) (locs : List Loc), K.2.2.2 s → va_D (K.2.1 s) ([] ++ (wW (eS E ad 39) (9, 4) h ++ [(a, .inr (7, bl7))])) → (∀ q, s.heap.size ≤ q → K.2.1 s q) → va_S (K.2.1 s) s.heap U.heap locs → s.WarmedH U.vm → X7 E ad h a U := by
  intro s U locs _ hD _ _ _
  refine ⟨hD.1, fun k q hk => ?_⟩
  rcases w39_len hk with ⟨c, e⟩ | ⟨_, e⟩
  · rw [e]; exact Or.inl ⟨k, c, rfl⟩
  · rw [e]; exact Or.inr (Or.inl rfl)
set_option maxRecDepth 100000 in
set_option maxHeartbeats 4000000 in
/-- the law's body: two objects, then the loop -/
theorem law_body {E : EV} {b L : Nat} {xs : Nat → Int32} (hL : L ≤ 2048) (sa sv : Nat) : BW E mL_law (KW E b L xs sa sv) [] 0 0 0 [(0, .ref b)] [] := by
  refine bw_new nwL6 dL_law_0 ⟨(Nat.le_of_ble_eq_true rfl), (Nat.le_of_ble_eq_true rfl)⟩ (fun q0 => ?_)
  refine bw_dup dL_law_3 ?_
  show BW E mL_law _ ([] ++ [(q0, .inr (6, bl6))]) _ _ 4 _ _
  refine bw_init (N := mX6_init) (pre := []) (W0 := [(q0, .inr (6, bl6))]) (av := []) (X := X6 E q0 sa sv) (mk := fun ad => wW (eS E ad 39) (9, 4) hI) okX6_init (Or.inl liL_9) rfl rfl (Nat.le_of_ble_eq_true rfl) ⟨(Nat.le_of_ble_eq_true rfl), (Nat.le_of_ble_eq_true rfl)⟩ dL_law_4 ⟨(Nat.le_of_ble_eq_true rfl), (Nat.le_of_ble_eq_true rfl)⟩ X6.of X6.blind (cb_X6_init hI_eq q0 sa sv) FO.in FO.out (fun ad e0 => ?_)
  subst e0
  refine bw_astore dL_law_7 (Nat.le_of_ble_eq_true rfl) ?_
  refine bw_new nwL7 dL_law_8 ⟨(Nat.le_of_ble_eq_true rfl), (Nat.le_of_ble_eq_true rfl)⟩ (fun q1 => ?_)
  refine bw_dup dL_law_11 ?_
  show BW E mL_law _ ([] ++ (wW (eS E ad 39) (9, 4) hI ++ [(q1, .inr (7, bl7))])) _ _ 12 _ _
  refine bw_init (E := E) (M := mL_law) (K := KW E b L xs sa sv) (n := 0 + 1 + 38 + 1) (k := 0 + bl6.length + 5566 + bl7.length) (pc := 12) (st := [Value.ref q1]) (N := mX7_init) (pre := []) (W0 := wW (eS E ad 39) (9, 4) hI ++ [(q1, .inr (7, bl7))]) (av := []) (X := X7 E ad hI q1) (mk := fun ad2 => wW (eS E (ad56 b ad ad2) 56) (9, 4) hJ) okX7_init (Or.inl liL_12) rfl rfl (Nat.le_of_ble_eq_true rfl) ⟨(Nat.le_of_ble_eq_true rfl), (Nat.le_of_ble_eq_true rfl)⟩ dL_law_12 ⟨(Nat.le_of_ble_eq_true rfl), (Nat.le_of_ble_eq_true rfl)⟩ X7.of (fun U g mk ar h => h) (cb_X7_init (b := b) hJ_eq q1) FM.in (fun A H _ _ i z hz => by cases hz) (fun ad2 e1 => ?_)
  subst e1
  refine bw_astore dL_law_15 (Nat.le_of_ble_eq_true rfl) ?_
  refine bw_iconst (nI 0) dL_law_16 (by decide) ?_
  refine bw_istore dL_law_17 (Nat.le_of_ble_eq_true rfl) ?_
  refine bw_aw (ad := ad56 b ad ad2) (N := 56) (tw := (9, 4)) (h := hJ) (loc := [some (.ref 1000), some (.ref 0), some (.ref 39), some (.int (nI 0))]) (st' := []) rfl ?_ rfl ?_ (fun hE => ?_)
  · intro s x hx
    exact Or.inr hx
  · intro i v hv
    match i, hv with
    | 0, hv => cases hv; exact List.mem_of_getElem? (i := 3) rfl
    | 1, hv => cases hv; exact List.mem_of_getElem? (i := 2) rfl
    | 2, hv => cases hv; exact List.mem_of_getElem? (i := 1) rfl
    | 3, hv => cases hv; exact List.mem_of_getElem? (i := 0) rfl
    | i + 4, hv => cases hv
  · obtain ⟨h', hf⟩ := law_go (F := 600) (xs := xs) (L := L) (Nat.le_refl _) hL 512 0 600 (9, 4) hJ (by omega) (by decide) (Nat.zero_le _) inv0
    exact aw_more (c2 := 56) (k2 := 20000) (Nat.le_of_ble_eq_true rfl) (Nat.le_of_ble_eq_true rfl) (fun s hs => ⟨hs.1.1, hs.1.2.1, fun k hk => hs.2 k hk⟩) (ct_L_law_18 hE (Nat.le_refl _) 600 rfl 600 (nI 0) (9, 4) hJ (Or.inr rfl) (Or.inl rfl) hf)
theorem elems_in : ∀ j, j < 42 → Cond.eq (.elem (.field (.string "RungByADrum" 69) "java/lang/String" "value" "[B") (.int (Int32.ofNat j))) (.int ((btL.map nI).getD j 0)) ∈ flatC (Jvm.Cond.and given_1 narrow_1) := by decide +kernel
theorem bt_map (j : Nat) : (btL.map nI).getD j 0 = btx j := by
  unfold btx
  rw [List.getD_eq_getElem?_getD, List.getElem?_map, List.getD_eq_getElem?_getD]
  cases btL[j]? <;> rfl
set_option maxRecDepth 100000 in
set_option maxHeartbeats 4000000 in
/-- the law comes to its end with true, on every script of at most 2048 ints -/
theorem whole_start {p : Program} {e : Env} {s : State} {m : MethodId} {below : List Frame} {meth : Method} {c : Code} (l : Launch) (hflags : l.flags = flags0) {b L : Nat} {xs : Nat → Int32} (hL : L ≤ 2048) (C0 : lw_At p s m meth c b L xs) : W p l e room_1 s m #[Value.ref b] below meth c s.heap [] 0 0 (lw_Z below #[Value.ref b] s) (entryFrame m ([Value.ref b] : List Value).toArray 4) := by
  obtain ⟨hx, hb, hr, hml, hown, hts, hX, hbl, hlocks, hgv⟩ := id C0
  have hgt : ∀ w ∈ gt, w.before #[Value.ref b] s = true := fun w hw => hts w (List.mem_filter.mp hw).1
  have hs := flat_of_before _ hgv
  have hA : ∀ q : Nat, q < s.heap.size → ¬ (fun q : Nat => s.heap.size ≤ q) q := fun q h z => absurd h (Nat.not_lt.mpr z)
  obtain ⟨c0, iS0, hKn0⟩ := u_known (C := RX0) (T := TX0) (N := 6) (n := 6) hgt usX0 (hgt _ (gt_in 153 (by decide +kernel) (by decide +kernel)))
  obtain ⟨c1, iS1, hKn1⟩ := u_known (C := RX1) (T := TX1) (N := 4) (n := 4) hgt usX1 (hgt _ (gt_in 218 (by decide +kernel) (by decide +kernel)))
  obtain ⟨c2, iS2, hKn2⟩ := u_known (C := RX2) (T := TX2) (N := 4) (n := 4) hgt usX2 (hgt _ (gt_in 183 (by decide +kernel) (by decide +kernel)))
  obtain ⟨c3, iS3, hKn3⟩ := u_known (C := RX3) (T := TX3) (N := 1) (n := 1) hgt usX3 (hgt _ (gt_in 206 (by decide +kernel) (by decide +kernel)))
  obtain ⟨c4, iS4, hKn4⟩ := u_known (C := RX4) (T := TX4) (N := 4) (n := 4) hgt usX4 (hgt _ (gt_in 80 (by decide +kernel) (by decide +kernel)))
  obtain ⟨c5, iS5, hKn5⟩ := u_known (C := RX5) (T := TX5) (N := 9) (n := 9) hgt usX5 (hgt _ (gt_in 101 (by decide +kernel) (by decide +kernel)))
  obtain ⟨c6, iS6, hKn6⟩ := u_known (C := RX6) (T := TX6) (N := 12) (n := 12) hgt usX6 (hgt _ (gt_in 72 (by decide +kernel) (by decide +kernel)))
  obtain ⟨c7, iS7, hKn7⟩ := u_known (C := RX7) (T := TX7) (N := 23) (n := 23) hgt usX7 (hgt _ (gt_in 683 (by decide +kernel) (by decide +kernel)))
  obtain ⟨dC, dI, hKc⟩ : ∃ (dC : Nat → ClassId) (dI : Nat → Nat → Nat), ∀ (k : Nat) (q : vw_C), vwCl[k]? = some q → u_Kn s q.1 q.2.1 q.2.2 (dC k) (dI k) := by
    refine ⟨fun k => if k = 0 then c0 else if k = 1 then c1 else if k = 2 then c2 else if k = 3 then c3 else if k = 4 then c4 else if k = 5 then c5 else if k = 6 then c6 else c7, fun k => if k = 0 then iS0 else if k = 1 then iS1 else if k = 2 then iS2 else if k = 3 then iS3 else if k = 4 then iS4 else if k = 5 then iS5 else if k = 6 then iS6 else iS7, ?_⟩
    intro k q hq
    match k, hq with
    | 0, hq => cases hq; exact hKn0
    | 1, hq => cases hq; exact hKn1
    | 2, hq => cases hq; exact hKn2
    | 3, hq => cases hq; exact hKn3
    | 4, hq => cases hq; exact hKn4
    | 5, hq => cases hq; exact hKn5
    | 6, hq => cases hq; exact hKn6
    | 7, hq => cases hq; exact hKn7
    | k + 8, hq => simp [vwCl] at hq
  obtain ⟨cI, kI, compI, hI1, hI2, hI3⟩ := Cond.arrayClass_spec (hgt _ gArrI)
  obtain ⟨cZ, kZ, compZ, hZ1, hZ2, hZ3⟩ := Cond.arrayClass_spec (hgt _ gArrZ)
  obtain ⟨cO, comp, kO, hO0, hO1, hO2, hO3⟩ := over_int (hts _ (List.mem_of_getElem? (i := 212) (by decide +kernel)))
  have hcomp : comp = cI := Option.some.inj (hO0.symm.trans hI1)
  subst hcomp
  have hMU : MU ((l, fun _ => 0, 0, (dC, dI), comp, cZ, cO) : EV) s := ⟨kO, hO2, hO3, hO0, hO1⟩
  have hK : va_K (dC, dI) vwCl (tyE ((l, fun _ => 0, 0, (dC, dI), comp, cZ, cO) : EV)) s := by
    refine ⟨hKc, fun k q hq => ?_⟩
    match k, hq with
    | 0, hq => cases hq; exact ⟨fun n z => ⟨fun k h => (by cases h), kI, hI2, compI, hI3⟩, hI1⟩
    | 1, hq => cases hq; exact ⟨fun n z => ⟨fun k h => (by cases h), kZ, hZ2, compZ, hZ3⟩, hZ1⟩
    | 2, hq => cases hq; exact ⟨fun n z => ⟨fun k h => (by cases h), kO, hO2, comp, hO3⟩, hO1⟩
    | k + 3, hq => simp [tyE] at hq
  obtain ⟨adK, adV, hS1, hS2⟩ := vk_Sof (args := #[Value.ref b]) (s := s) (N := 1) (tm := fun _ => Term.string "RungByADrum" 69) (len := [42]) (byt := [btL.map nI]) (A := fun q => s.heap.size ≤ q)
    (fun i hi => by have : i = 0 := by omega
                    subst this; decide)
    (fun i hi => hs _ (by decide +kernel)) (fun i hi => hs _ (by decide +kernel)) (fun i hi => hs _ (by decide +kernel))
    (fun i hi => by have : i = 0 := by omega
                    subst this; exact hs _ (by decide +kernel))
    (fun i hi j hj => by have : i = 0 := by omega
                         subst this; exact hs _ (elems_in j hj))
    (fun i j hi hj hne => absurd (show i = j by omega) hne) hA
  obtain ⟨s1, s2, s3, s4⟩ := hS1.1 0 (by decide)
  have s4' : va_T .byte (adV 0) 42 (fun j => .int (btx j)) (fun q => s.heap.size ≤ q) s s.heap := by
    have : (fun j => Value.int (((([btL.map nI] : List (List Int32)).getD 0 [])).getD j 0)) = fun j => .int (btx j) := funext fun j => congrArg Value.int (bt_map j)
    rw [this] at s4
    exact s4
  have hC : va_Z "java/lang/String" "COMPACT_STRINGS" "Z" (.int 1) (fun q => s.heap.size ≤ q) s s.heap := va_Zof (hts _ (List.mem_of_getElem? (i := 246) (by decide +kernel))) (hgt _ (gt_in 63 (by decide +kernel) (by decide +kernel))) (va_eqt (hs _ (by decide +kernel))) hA
  have hF : va_Zq "jdk/internal/util/Preconditions" "SIOOBE_FORMATTER" "Ljava/util/function/BiFunction;" (fun q => s.heap.size ≤ q) s s.heap := va_Zqof (hts _ (List.mem_of_getElem? (i := 262) (by decide +kernel))) (hgt _ (gt_in 65 (by decide +kernel) (by decide +kernel))) (hs _ (by decide +kernel)) hA
  have hXL : XL ((l, fun _ => 0, 0, (dC, dI), comp, cZ, cO) : EV) b L xs (adK 0) (adV 0) s := ⟨hX, hbl, hMU, vk_R.of (hts _ (List.mem_of_getElem? (i := 236) (by decide +kernel))) (hS2 0 (by decide)), ⟨s1, s2, s3, s4', hC, hF⟩, va_Nw.of rfl (hts _ (List.mem_of_getElem? (i := 81) (by decide +kernel))), va_Nw.of rfl (hts _ (List.mem_of_getElem? (i := 102) (by decide +kernel))), va_Nw.of rfl (hts _ (List.mem_of_getElem? (i := 154) (by decide +kernel))), va_Nw.of rfl (hts _ (List.mem_of_getElem? (i := 207) (by decide +kernel))), va_Nw.of rfl (hts _ (List.mem_of_getElem? (i := 219) (by decide +kernel)))⟩
  have hl := lv_entry ([.ref b]) (n := 4) (Nat.le_of_ble_eq_true rfl)
  rw [lg_entry_eq]
  generalize (lg_sl ([.ref b]) ++ List.replicate (4 - (lg_sl ([.ref b])).length) Slot.unset).toArray = ls at hl ⊢
  exact law_body (E := ((l, fun _ => 0, 0, (dC, dI), comp, cZ, cO) : EV)) hL (adK 0) (adV 0) p e s m #[Value.ref b] below meth c s.heap ls [] ⟨hx, hb, hr, hml, hown, hgt, hK, hlocks, fun h => absurd h (by decide), fun q h => h, hXL⟩ (fun k q h => by simp at h) ⟨fun i j p q h => by simp at h, fun k q h => by simp at h⟩ va_S.rf hl
