/-! THE CLAIM OUT OF ONE WALK OF THE LAW'S BODY. Your part is whole_start (and what it stands on); all else here is the same for every law, but numbers. -/
def R_law : String := "RungByADrumLaw"
def lw_P (b : Addr) (xs : List Int32) (args : Array Value) (s : State) : Prop := args = #[.ref b] ∧ s.IntsAt b xs ∧ xs.length ≤ 2048 ∧ (Jvm.Cond.and given_1 narrow_1).before args s = true
def lw_Q (_ : Array Value) (s : State) (o : Outcome) (t : State) : Prop := o = .returned (some (.int 1)) ∧ Framed s o t [] 600000 7302250
def lw_Z (below : List Frame) (a : Array Value) (s : State) : State → Prop := fun t => ∃ o, t.status = .running ∧ Ended t below o ∧ lw_Q a s o t
/-- the law's own end, with 1 on the stack, nothing written that was there before, its room as the claim has it -/
theorem lw_ret {p : Program} {l : Launch} {e : Env} {s : State} {m : MethodId} {below : List Frame} {meth : Method} {c : Code} {b : Nat} (hx : p.tables.exec = Jvm.exec) (hb : c.code = code) (hr : meth.sig.returnType = ret) (hlocks : meth.locks = false) {pc : Nat} {H : Heap} {ls : Array Slot} (hdg : decode code pc = .ok (.ireturn, 1)) : W p l e room_1 s m #[Value.ref b] below meth c H [] 600000 7302250 (lw_Z below #[Value.ref b] s) (F0 m pc ls [.int 1]) := by
  intro T hT X
  obtain ⟨fs, hret, hrun, hended, hW, hframe⟩ := X.leave (v := some (.int 1)) (hlocks := hlocks) (fun h => by rw [hr] at h; cases h)
  have hmeth' : T.vm.method? m = some meth := X.method'
  refine ⟨T.setFrames fs, ?_, .returned (some (.int 1)), hrun, hended, rfl, ⟨_, rfl⟩, hW, hframe⟩
  jvm_step X.here [X.here.top, hx, hb, hdg, hmeth', hr, ret, narrow_b1]
  (try refine ⟨rfl, ?_⟩); (try refine ⟨rfl, ?_⟩)
  first | (intro acts; rw [hret _ acts rfl rfl rfl]) | rw [hret _ _ rfl rfl rfl]
  exact Steps.refl _
/-- what holds at the law's entry: the machine, the code, the tables' words (any of lw_tbl by 'hts w (by decide +kernel)'), the script of L ints xs at the cell b, what the Statement gives of the start (any of its parts by flat_of_before) -/
def lw_At (p : Program) (s : State) (m : MethodId) (meth : Method) (c : Code) (b L : Nat) (xs : Nat → Int32) : Prop :=
  p.tables.exec = Jvm.exec ∧ c.code = code ∧ meth.sig.returnType = ret ∧ c.maxLocals = 4 ∧ s.vm.findClass R_law = some m.cls ∧ (∀ w ∈ lw_tbl, w.before #[Value.ref b] s = true) ∧ va_X b L xs s s.heap ∧ b < s.heap.size ∧ meth.locks = false ∧ (Jvm.Cond.and given_1 narrow_1).before #[Value.ref b] s = true
theorem kb_31 : (Int8.ofInt 31).toInt32 = nI 31 := by decide
def mL_law : MI := (yL_law, code, 4, some .boolean, 0)
/-- the law's own end, for any arguments -/
theorem lw_retg {p : Program} {l : Launch} {e : Env} {s : State} {m : MethodId} {below : List Frame} {meth : Method} {c : Code} {args : Array Value} (hx : p.tables.exec = Jvm.exec) (hb : c.code = code) (hr : meth.sig.returnType = ret) (hlocks : meth.locks = false) {pc : Nat} {H : Heap} {ls : Array Slot} (hdg : decode code pc = .ok (.ireturn, 1)) : W p l e room_1 s m args below meth c H [] 600000 7302250 (lw_Z below args s) (F0 m pc ls [.int 1]) := by
  intro T hT X
  obtain ⟨fs, hret, hrun, hended, hW, hframe⟩ := X.leave (v := some (.int 1)) (hlocks := hlocks) (fun h => by rw [hr] at h; cases h)
  have hmeth' : T.vm.method? m = some meth := X.method'
  refine ⟨T.setFrames fs, ?_, .returned (some (.int 1)), hrun, hended, rfl, ⟨_, rfl⟩, hW, hframe⟩
  jvm_step X.here [X.here.top, hx, hb, hdg, hmeth', hr, ret, narrow_b1]
  (try refine ⟨rfl, ?_⟩); (try refine ⟨rfl, ?_⟩)
  first | (intro acts; rw [hret _ acts rfl rfl rfl]) | rw [hret _ _ rfl rfl rfl]
  exact Steps.refl _
/-- the law's loop: 56 cells are made, of so many slots -/
def KL (E : EV) (b L : Nat) (xs : Nat → Int32) : KX := (room_1, 56, 20000, fun below args s => lw_Z below args s, fun s => va_X b L xs s s.heap ∧ b < s.heap.size ∧ ∀ k, k < eN E → s.heap.size ≤ eA E k)
theorem KL.nb {E : EV} {b L : Nat} {xs : Nat → Int32} {s : State} (hX : va_X b L xs s s.heap ∧ b < s.heap.size ∧ ∀ k, k < eN E → s.heap.size ≤ eA E k) : ¬ fA E s.heap.size b := by
  rintro (⟨k, hk, e⟩ | h)
  · have := hX.2.2 k hk
    have := hX.2.1
    omega
  · have := hX.2.1
    omega
section AWL
variable {E : EV} {L : Nat} {xs : Nat → Int32} {tw : TW} {h : HP} {pc : Nat} {loc : LC} {st : List Value}
theorem aw_sld {x : Int32} (hin : inb x L = true) (d : decode (mC mL_law) pc = .ok (.iaload, 1)) (k : AW E mL_law (KL E (eA E 1000) L xs) tw h (pc + 1) loc (.int (xs (ix x)) :: st)) : AW E mL_law (KL E (eA E 1000) L xs) tw h pc loc (.int x :: .ref 1000 :: st) :=
  fun p e s m args below meth c H ls locs C hP hS hl => va_sld C.1 C.2.1 C.2.2.2.2.2.2.2.2.2.1 C.2.2.2.2.2.2.2.2.2.2.1 (KL.nb C.2.2.2.2.2.2.2.2.2) hS (inb_in hin) d (k p e s m args below meth c H ls locs C hP hS hl)
theorem aw_slen (d : decode (mC mL_law) pc = .ok (.arraylength, 1)) (k : AW E mL_law (KL E (eA E 1000) L xs) tw h (pc + 1) loc (.int (nI L) :: st)) : AW E mL_law (KL E (eA E 1000) L xs) tw h pc loc (.ref 1000 :: st) :=
  fun p e s m args below meth c H ls locs C hP hS hl => va_slen C.1 C.2.1 C.2.2.2.2.2.2.2.2.2.1 C.2.2.2.2.2.2.2.2.2.2.1 (KL.nb C.2.2.2.2.2.2.2.2.2) hS d (k p e s m args below meth c H ls locs C hP hS hl)
theorem aw_lret (d : decode (mC mL_law) pc = .ok (.ireturn, 1)) : AW E mL_law (KL E (eA E 1000) L xs) tw h pc loc [.int (nI 1)] := by
  intro p e s m args below meth c H ls locs C hP hS hl
  refine va_forget (fun q hq => ?_) ?_
  · rcases hS.2.2 q hq with ⟨k, hk, e1⟩ | h1
    · rw [e1]; exact C.2.2.2.2.2.2.2.2.2.2.2 k hk
    · exact h1
  · refine W.widen (k := 600000) (n := 7302250) (Nat.le_of_ble_eq_true rfl) (Nat.le_of_ble_eq_true rfl) ?_
    exact lw_retg C.1 C.2.1 C.2.2.1 C.2.2.2.2.2.2.2.1 d
end AWL
theorem ob3_some {β : Type} {o : Option (Int32 × TW × HP)} {k : Int32 → TW → HP → Option β} {r : β} (h : ob3 o k = some r) : ∃ a t h1, o = some (a, t, h1) ∧ k a t h1 = some r := by
  cases o with
  | none => exact absurd h (fun z => nomatch z)
  | some q => exact ⟨q.1, q.2.1, q.2.2, rfl, h⟩
theorem lay_tw {F : Nat} {tw t : TW} {h h1 : HP} {v : Int32} (hc : f_X6_lay F tw h = some (v, t, h1)) : t = tw ∨ t = (tw.2, tw.1) := by
  unfold f_X6_lay at hc
  obtain ⟨v3, h3, -, hc⟩ := ob_some hc
  by_cases g : v3 = -4
  · replace hc := (if_pos g).symm.trans hc
    obtain ⟨v7, h5, -, hc⟩ := ob_some hc
    by_cases g2 : v7 = 0
    · replace hc := (if_pos g2).symm.trans hc
      cases hc
      exact Or.inl rfl
    · replace hc := (if_neg g2).symm.trans hc
      obtain ⟨h9, -, hc⟩ := obv_some hc
      cases hc
      exact Or.inr rfl
  · replace hc := (if_neg g).symm.trans hc
    cases hc
    exact Or.inl rfl
theorem lay_TO {F : Nat} {tw t : TW} {h h1 : HP} {v : Int32} (qT : TO tw.1) (qU : TO tw.2) (hc : f_X6_lay F tw h = some (v, t, h1)) : TO t.1 ∧ TO t.2 := by
  rcases lay_tw hc with rfl | rfl
  · exact ⟨qT, qU⟩
  · exact ⟨qU, qT⟩
theorem ry_L_law_X6_again : roomy mX6_again room_1 := And.intro (Nat.le_of_ble_eq_true rfl) (Nat.le_of_ble_eq_true rfl)
theorem ry_L_law_X6_back : roomy mX6_back room_1 := And.intro (Nat.le_of_ble_eq_true rfl) (Nat.le_of_ble_eq_true rfl)
theorem ry_L_law_X6_bell : roomy mX6_bell room_1 := And.intro (Nat.le_of_ble_eq_true rfl) (Nat.le_of_ble_eq_true rfl)
theorem ry_L_law_X6_canon : roomy mX6_canon room_1 := And.intro (Nat.le_of_ble_eq_true rfl) (Nat.le_of_ble_eq_true rfl)
theorem ry_L_law_X6_changes : roomy mX6_changes room_1 := And.intro (Nat.le_of_ble_eq_true rfl) (Nat.le_of_ble_eq_true rfl)
theorem ry_L_law_X6_count : roomy mX6_count room_1 := And.intro (Nat.le_of_ble_eq_true rfl) (Nat.le_of_ble_eq_true rfl)
theorem ry_L_law_X6_fault : roomy mX6_fault room_1 := And.intro (Nat.le_of_ble_eq_true rfl) (Nat.le_of_ble_eq_true rfl)
theorem ry_L_law_X6_forget : roomy mX6_forget room_1 := And.intro (Nat.le_of_ble_eq_true rfl) (Nat.le_of_ble_eq_true rfl)
theorem ry_L_law_X6_harsh : roomy mX6_harsh room_1 := And.intro (Nat.le_of_ble_eq_true rfl) (Nat.le_of_ble_eq_true rfl)
theorem ry_L_law_X6_hear : roomy mX6_hear room_1 := And.intro (Nat.le_of_ble_eq_true rfl) (Nat.le_of_ble_eq_true rfl)
theorem ry_L_law_X6_keep : roomy mX6_keep room_1 := And.intro (Nat.le_of_ble_eq_true rfl) (Nat.le_of_ble_eq_true rfl)
theorem ry_L_law_X6_lay : roomy mX6_lay room_1 := And.intro (Nat.le_of_ble_eq_true rfl) (Nat.le_of_ble_eq_true rfl)
theorem ry_L_law_X6_letters : roomy mX6_letters room_1 := And.intro (Nat.le_of_ble_eq_true rfl) (Nat.le_of_ble_eq_true rfl)
theorem ry_L_law_X6_melody : roomy mX6_melody room_1 := And.intro (Nat.le_of_ble_eq_true rfl) (Nat.le_of_ble_eq_true rfl)
theorem ry_L_law_X6_octaves : roomy mX6_octaves room_1 := And.intro (Nat.le_of_ble_eq_true rfl) (Nat.le_of_ble_eq_true rfl)
theorem ry_L_law_X6_pin : roomy mX6_pin room_1 := And.intro (Nat.le_of_ble_eq_true rfl) (Nat.le_of_ble_eq_true rfl)
theorem ry_L_law_X6_pins : roomy mX6_pins room_1 := And.intro (Nat.le_of_ble_eq_true rfl) (Nat.le_of_ble_eq_true rfl)
theorem ry_L_law_X6_ringers : roomy mX6_ringers room_1 := And.intro (Nat.le_of_ble_eq_true rfl) (Nat.le_of_ble_eq_true rfl)
theorem ry_L_law_X6_shift : roomy mX6_shift room_1 := And.intro (Nat.le_of_ble_eq_true rfl) (Nat.le_of_ble_eq_true rfl)
theorem ry_L_law_X6_silence : roomy mX6_silence room_1 := And.intro (Nat.le_of_ble_eq_true rfl) (Nat.le_of_ble_eq_true rfl)
theorem ry_L_law_X6_stood : roomy mX6_stood room_1 := And.intro (Nat.le_of_ble_eq_true rfl) (Nat.le_of_ble_eq_true rfl)
theorem ry_L_law_X6_turn : roomy mX6_turn room_1 := And.intro (Nat.le_of_ble_eq_true rfl) (Nat.le_of_ble_eq_true rfl)
theorem ry_L_law_X6_turnBack : roomy mX6_turnBack room_1 := And.intro (Nat.le_of_ble_eq_true rfl) (Nat.le_of_ble_eq_true rfl)
theorem ry_L_law_X6_undo : roomy mX6_undo room_1 := And.intro (Nat.le_of_ble_eq_true rfl) (Nat.le_of_ble_eq_true rfl)
theorem ry_L_law_X6_want : roomy mX6_want room_1 := And.intro (Nat.le_of_ble_eq_true rfl) (Nat.le_of_ble_eq_true rfl)
theorem ry_L_law_X6_whole : roomy mX6_whole room_1 := And.intro (Nat.le_of_ble_eq_true rfl) (Nat.le_of_ble_eq_true rfl)
theorem ry_L_law_X6_winter : roomy mX6_winter room_1 := And.intro (Nat.le_of_ble_eq_true rfl) (Nat.le_of_ble_eq_true rfl)
theorem ry_L_law_X6_wipe : roomy mX6_wipe room_1 := And.intro (Nat.le_of_ble_eq_true rfl) (Nat.le_of_ble_eq_true rfl)
theorem ry_L_law_X6_write : roomy mX6_write room_1 := And.intro (Nat.le_of_ble_eq_true rfl) (Nat.le_of_ble_eq_true rfl)
theorem ry_L_law_X7_again : roomy mX7_again room_1 := And.intro (Nat.le_of_ble_eq_true rfl) (Nat.le_of_ble_eq_true rfl)
theorem ry_L_law_X7_back : roomy mX7_back room_1 := And.intro (Nat.le_of_ble_eq_true rfl) (Nat.le_of_ble_eq_true rfl)
theorem ry_L_law_X7_bell : roomy mX7_bell room_1 := And.intro (Nat.le_of_ble_eq_true rfl) (Nat.le_of_ble_eq_true rfl)
theorem ry_L_law_X7_canon : roomy mX7_canon room_1 := And.intro (Nat.le_of_ble_eq_true rfl) (Nat.le_of_ble_eq_true rfl)
theorem ry_L_law_X7_changes : roomy mX7_changes room_1 := And.intro (Nat.le_of_ble_eq_true rfl) (Nat.le_of_ble_eq_true rfl)
theorem ry_L_law_X7_count : roomy mX7_count room_1 := And.intro (Nat.le_of_ble_eq_true rfl) (Nat.le_of_ble_eq_true rfl)
theorem ry_L_law_X7_fault : roomy mX7_fault room_1 := And.intro (Nat.le_of_ble_eq_true rfl) (Nat.le_of_ble_eq_true rfl)
theorem ry_L_law_X7_forget : roomy mX7_forget room_1 := And.intro (Nat.le_of_ble_eq_true rfl) (Nat.le_of_ble_eq_true rfl)
theorem ry_L_law_X7_harsh : roomy mX7_harsh room_1 := And.intro (Nat.le_of_ble_eq_true rfl) (Nat.le_of_ble_eq_true rfl)
theorem ry_L_law_X7_hear : roomy mX7_hear room_1 := And.intro (Nat.le_of_ble_eq_true rfl) (Nat.le_of_ble_eq_true rfl)
theorem ry_L_law_X7_keep : roomy mX7_keep room_1 := And.intro (Nat.le_of_ble_eq_true rfl) (Nat.le_of_ble_eq_true rfl)
theorem ry_L_law_X7_lay : roomy mX7_lay room_1 := And.intro (Nat.le_of_ble_eq_true rfl) (Nat.le_of_ble_eq_true rfl)
theorem ry_L_law_X7_letters : roomy mX7_letters room_1 := And.intro (Nat.le_of_ble_eq_true rfl) (Nat.le_of_ble_eq_true rfl)
theorem ry_L_law_X7_melody : roomy mX7_melody room_1 := And.intro (Nat.le_of_ble_eq_true rfl) (Nat.le_of_ble_eq_true rfl)
theorem ry_L_law_X7_octaves : roomy mX7_octaves room_1 := And.intro (Nat.le_of_ble_eq_true rfl) (Nat.le_of_ble_eq_true rfl)
theorem ry_L_law_X7_pin : roomy mX7_pin room_1 := And.intro (Nat.le_of_ble_eq_true rfl) (Nat.le_of_ble_eq_true rfl)
theorem ry_L_law_X7_pins : roomy mX7_pins room_1 := And.intro (Nat.le_of_ble_eq_true rfl) (Nat.le_of_ble_eq_true rfl)
theorem ry_L_law_X7_ringers : roomy mX7_ringers room_1 := And.intro (Nat.le_of_ble_eq_true rfl) (Nat.le_of_ble_eq_true rfl)
theorem ry_L_law_X7_shift : roomy mX7_shift room_1 := And.intro (Nat.le_of_ble_eq_true rfl) (Nat.le_of_ble_eq_true rfl)
theorem ry_L_law_X7_silence : roomy mX7_silence room_1 := And.intro (Nat.le_of_ble_eq_true rfl) (Nat.le_of_ble_eq_true rfl)
theorem ry_L_law_X7_stood : roomy mX7_stood room_1 := And.intro (Nat.le_of_ble_eq_true rfl) (Nat.le_of_ble_eq_true rfl)
theorem ry_L_law_X7_turn : roomy mX7_turn room_1 := And.intro (Nat.le_of_ble_eq_true rfl) (Nat.le_of_ble_eq_true rfl)
theorem ry_L_law_X7_turnBack : roomy mX7_turnBack room_1 := And.intro (Nat.le_of_ble_eq_true rfl) (Nat.le_of_ble_eq_true rfl)
theorem ry_L_law_X7_undo : roomy mX7_undo room_1 := And.intro (Nat.le_of_ble_eq_true rfl) (Nat.le_of_ble_eq_true rfl)
theorem ry_L_law_X7_want : roomy mX7_want room_1 := And.intro (Nat.le_of_ble_eq_true rfl) (Nat.le_of_ble_eq_true rfl)
theorem ry_L_law_X7_whole : roomy mX7_whole room_1 := And.intro (Nat.le_of_ble_eq_true rfl) (Nat.le_of_ble_eq_true rfl)
theorem ry_L_law_X7_winter : roomy mX7_winter room_1 := And.intro (Nat.le_of_ble_eq_true rfl) (Nat.le_of_ble_eq_true rfl)
theorem ry_L_law_X7_wipe : roomy mX7_wipe room_1 := And.intro (Nat.le_of_ble_eq_true rfl) (Nat.le_of_ble_eq_true rfl)
theorem ry_L_law_X7_write : roomy mX7_write room_1 := And.intro (Nat.le_of_ble_eq_true rfl) (Nat.le_of_ble_eq_true rfl)
set_option maxHeartbeats 40000000 in
set_option maxRecDepth 100000 in
theorem ct_L_law_18 {E : EV} (hE : EI E) (hN : 56 ≤ eN E) (F : Nat) {b L : Nat} {xs : Nat → Int32} (hb : eA E 1000 = b) {h' : HP} : ∀ (n : Nat) (x3 : Int32) (tw : TW) (h : HP) (qT : TO tw.1) (qU : TO tw.2), f_L_law_18 F xs L n x3 tw h = some h' → AW E mL_law (KL E b L xs) tw h 18 [some (.ref 1000), some (.ref 0), some (.ref 39), some (.int x3)] [] := by
  have hN39 : 39 ≤ eN E := Nat.le_trans (by omega) hN
  subst hb
  intro n
  induction n with
  | zero => intro x3 tw h qT qU hf; exact absurd (show (none : Option HP) = some _ from hf) (fun z => nomatch z)
  | succ n ih =>
    intro x3 tw h qT qU hf
    rw [f_L_law_18] at hf
    refine aw_iload_n dL_law_18 rfl (aw_aload_n dL_law_19 rfl (aw_slen dL_law_20 (aw_iconst (nI 4) dL_law_21 ki_4 (aw_isub dL_law_22 ?_))))
    refine aw_icmp_gt 753 dL_law_23 rfl (fun g0 => ?_) (fun g0 => ?_)
    · exact aw_iconst (nI 1) dL_law_753 ki_1 (aw_lret dL_law_754)
    · replace hf := (if_neg g0).symm.trans hf
      obtain ⟨gi, hf⟩ := ogd hf
      refine aw_aload_n dL_law_26 rfl (aw_iload_n dL_law_27 rfl (aw_sld gi dL_law_28 (aw_bipush (nI 31) dL_law_29 kb_31 (aw_iand dL_law_31 ?_))))
      by_cases a0 : ((xs (ix x3)) &&& (nI 31)) = nI 0
      · replace hf := (if_pos a0).symm.trans hf
        refine aw_tableIn (off := 132) 164 dL_law_32 (by rw [a0]; decide) (by rw [a0]; decide) (by rw [a0]; decide) rfl ?_
        refine aw_aload_n dL_law_164 rfl (aw_aload_n dL_law_165 rfl (aw_iload_n dL_law_166 rfl (aw_iconst (nI 1) dL_law_167 ki_1 (aw_iadd dL_law_168 ?_))))
        obtain ⟨g1, hf⟩ := ogd hf
        refine aw_sld g1 dL_law_169 ?_
        obtain ⟨v4, h2, c3, hf⟩ := ob_some hf
        refine aw_callVi (N := mX6_write) (As := [.int (xs (ix (x3 + (nI 1))))]) lkL_13 okX6_write (nl hN rfl) kd_0 rfl (by rfl) (by rfl) (Nat.le_of_ble_eq_true rfl) ry_L_law_X6_write dL_law_170 (And.intro (Nat.le_of_ble_eq_true rfl) (Nat.le_of_ble_eq_true rfl)) (ct_X6_write hE hN39 F qT qU c3) (aw_aload_n dL_law_173 rfl (aw_aload_n dL_law_174 rfl (aw_iload_n dL_law_175 rfl (aw_iconst (nI 1) dL_law_176 ki_1 (aw_iadd dL_law_177 (aw_sld g1 dL_law_178 ?_))))))
        obtain ⟨v7, h5, c6, hf⟩ := ob_some hf
        refine aw_callVi (N := mX7_write) (As := [.int (xs (ix (x3 + (nI 1))))]) lkL_17 okX7_write (nl hN rfl) kd_39 rfl (by rfl) (by rfl) (Nat.le_of_ble_eq_true rfl) ry_L_law_X7_write dL_law_179 (And.intro (Nat.le_of_ble_eq_true rfl) (Nat.le_of_ble_eq_true rfl)) (ct_X7_write hE hN F c6) ?_
        refine aw_icmp_eq 747 dL_law_182 rfl (fun g8 => ?_) (fun g8 => ?_)
        · replace hf := (if_pos g8).symm.trans hf
          refine aw_iinc (nI 4) dL_law_747 rfl (Nat.le_of_ble_eq_true rfl) ki_4 (aw_goto 18 dL_law_750 rfl ?_)
          exact aw_dk (ih _ _ _ qT qU hf) (And.intro rfl (And.intro rfl (And.intro rfl (And.intro rfl trivial))))
        · replace hf := (if_neg g8).symm.trans hf
          exact absurd hf (fun z => nomatch z)
      replace hf := (if_neg a0).symm.trans hf
      by_cases a1 : ((xs (ix x3)) &&& (nI 31)) = nI 1
      · replace hf := (if_pos a1).symm.trans hf
        refine aw_tableIn (off := 155) 187 dL_law_32 (by rw [a1]; decide) (by rw [a1]; decide) (by rw [a1]; decide) rfl ?_
        refine aw_aload_n dL_law_187 rfl ?_
        obtain ⟨v11, h9, c10, hf⟩ := ob_some hf
        refine aw_callVi (N := mX6_wipe) (As := []) lkL_18 okX6_wipe (nl hN rfl) kd_0 rfl (by rfl) (by rfl) (Nat.le_of_ble_eq_true rfl) ry_L_law_X6_wipe dL_law_188 (And.intro (Nat.le_of_ble_eq_true rfl) (Nat.le_of_ble_eq_true rfl)) (ct_X6_wipe hE hN39 F qT qU c10) (aw_aload_n dL_law_191 rfl ?_)
        obtain ⟨v14, h12, c13, hf⟩ := ob_some hf
        refine aw_callVi (N := mX7_wipe) (As := []) lkL_22 okX7_wipe (nl hN rfl) kd_39 rfl (by rfl) (by rfl) (Nat.le_of_ble_eq_true rfl) ry_L_law_X7_wipe dL_law_192 (And.intro (Nat.le_of_ble_eq_true rfl) (Nat.le_of_ble_eq_true rfl)) (ct_X7_wipe hE hN F c13) ?_
        refine aw_icmp_eq 747 dL_law_195 rfl (fun g15 => ?_) (fun g15 => ?_)
        · replace hf := (if_pos g15).symm.trans hf
          refine aw_iinc (nI 4) dL_law_747 rfl (Nat.le_of_ble_eq_true rfl) ki_4 (aw_goto 18 dL_law_750 rfl ?_)
          exact aw_dk (ih _ _ _ qT qU hf) (And.intro rfl (And.intro rfl (And.intro rfl (And.intro rfl trivial))))
        · replace hf := (if_neg g15).symm.trans hf
          exact absurd hf (fun z => nomatch z)
      replace hf := (if_neg a1).symm.trans hf
      by_cases a2 : ((xs (ix x3)) &&& (nI 31)) = nI 2
      · replace hf := (if_pos a2).symm.trans hf
        refine aw_tableIn (off := 168) 200 dL_law_32 (by rw [a2]; decide) (by rw [a2]; decide) (by rw [a2]; decide) rfl ?_
        refine aw_aload_n dL_law_200 rfl ?_
        obtain ⟨v18, h16, c17, hf⟩ := ob_some hf
        refine aw_callVi (N := mX6_fault) (As := []) lkL_23 okX6_fault (nl hN rfl) kd_0 rfl (by rfl) (by rfl) (Nat.le_of_ble_eq_true rfl) ry_L_law_X6_fault dL_law_201 (And.intro (Nat.le_of_ble_eq_true rfl) (Nat.le_of_ble_eq_true rfl)) (ct_X6_fault hE hN39 F qT qU c17) (aw_aload_n dL_law_204 rfl ?_)
        obtain ⟨v21, h19, c20, hf⟩ := ob_some hf
        refine aw_callVi (N := mX7_fault) (As := []) lkL_26 okX7_fault (nl hN rfl) kd_39 rfl (by rfl) (by rfl) (Nat.le_of_ble_eq_true rfl) ry_L_law_X7_fault dL_law_205 (And.intro (Nat.le_of_ble_eq_true rfl) (Nat.le_of_ble_eq_true rfl)) (ct_X7_fault hE hN F c20) ?_
        refine aw_icmp_eq 747 dL_law_208 rfl (fun g22 => ?_) (fun g22 => ?_)
        · replace hf := (if_pos g22).symm.trans hf
          refine aw_iinc (nI 4) dL_law_747 rfl (Nat.le_of_ble_eq_true rfl) ki_4 (aw_goto 18 dL_law_750 rfl ?_)
          exact aw_dk (ih _ _ _ qT qU hf) (And.intro rfl (And.intro rfl (And.intro rfl (And.intro rfl trivial))))
        · replace hf := (if_neg g22).symm.trans hf
          exact absurd hf (fun z => nomatch z)
      replace hf := (if_neg a2).symm.trans hf
      by_cases a3 : ((xs (ix x3)) &&& (nI 31)) = nI 3
      · replace hf := (if_pos a3).symm.trans hf
        refine aw_tableIn (off := 181) 213 dL_law_32 (by rw [a3]; decide) (by rw [a3]; decide) (by rw [a3]; decide) rfl ?_
        refine aw_aload_n dL_law_213 rfl ?_
        obtain ⟨v25, t26, h23, c24, hf⟩ := ob3_some hf
        refine aw_callVi (N := mX6_lay) (As := []) lkL_27 okX6_lay (nl hN rfl) kd_0 rfl (by rfl) (by rfl) (Nat.le_of_ble_eq_true rfl) ry_L_law_X6_lay dL_law_214 (And.intro (Nat.le_of_ble_eq_true rfl) (Nat.le_of_ble_eq_true rfl)) (ct_X6_lay hE hN39 F qT qU c24) (aw_aload_n dL_law_217 rfl ?_)
        obtain ⟨v29, h27, c28, hf⟩ := ob_some hf
        refine aw_callVi (N := mX7_lay) (As := []) lkL_30 okX7_lay (nl hN rfl) kd_39 rfl (by rfl) (by rfl) (Nat.le_of_ble_eq_true rfl) ry_L_law_X7_lay dL_law_218 (And.intro (Nat.le_of_ble_eq_true rfl) (Nat.le_of_ble_eq_true rfl)) (ct_X7_lay hE hN F c28) ?_
        refine aw_icmp_eq 747 dL_law_221 rfl (fun g30 => ?_) (fun g30 => ?_)
        · replace hf := (if_pos g30).symm.trans hf
          refine aw_iinc (nI 4) dL_law_747 rfl (Nat.le_of_ble_eq_true rfl) ki_4 (aw_goto 18 dL_law_750 rfl ?_)
          exact aw_dk (ih _ _ _ (lay_TO qT qU c24).1 (lay_TO qT qU c24).2 hf) (And.intro rfl (And.intro rfl (And.intro rfl (And.intro rfl trivial))))
        · replace hf := (if_neg g30).symm.trans hf
          exact absurd hf (fun z => nomatch z)
      replace hf := (if_neg a3).symm.trans hf
      by_cases a4 : ((xs (ix x3)) &&& (nI 31)) = nI 4
      · replace hf := (if_pos a4).symm.trans hf
        refine aw_tableIn (off := 194) 226 dL_law_32 (by rw [a4]; decide) (by rw [a4]; decide) (by rw [a4]; decide) rfl ?_
        refine aw_aload_n dL_law_226 rfl (aw_aload_n dL_law_227 rfl (aw_iload_n dL_law_228 rfl (aw_iconst (nI 1) dL_law_229 ki_1 (aw_iadd dL_law_230 ?_))))
        obtain ⟨g31, hf⟩ := ogd hf
        refine aw_sld g31 dL_law_231 (aw_aload_n dL_law_232 rfl (aw_iload_n dL_law_233 rfl (aw_iconst (nI 2) dL_law_234 ki_2 (aw_iadd dL_law_235 ?_))))
        obtain ⟨g32, hf⟩ := ogd hf
        refine aw_sld g32 dL_law_236 ?_
        obtain ⟨v35, h33, c34, hf⟩ := ob_some hf
        refine aw_callVi (N := mX6_bell) (As := [.int (xs (ix (x3 + (nI 1)))), .int (xs (ix (x3 + (nI 2))))]) lkL_31 okX6_bell (nl hN rfl) kd_0 rfl (by rfl) (by rfl) (Nat.le_of_ble_eq_true rfl) ry_L_law_X6_bell dL_law_237 (And.intro (Nat.le_of_ble_eq_true rfl) (Nat.le_of_ble_eq_true rfl)) (ct_X6_bell hE hN39 F qT qU c34) (aw_aload_n dL_law_240 rfl (aw_aload_n dL_law_241 rfl (aw_iload_n dL_law_242 rfl (aw_iconst (nI 1) dL_law_243 ki_1 (aw_iadd dL_law_244 (aw_sld g31 dL_law_245 (aw_aload_n dL_law_246 rfl (aw_iload_n dL_law_247 rfl (aw_iconst (nI 2) dL_law_248 ki_2 (aw_iadd dL_law_249 (aw_sld g32 dL_law_250 ?_)))))))))))
        obtain ⟨v38, h36, c37, hf⟩ := ob_some hf
        refine aw_callVi (N := mX7_bell) (As := [.int (xs (ix (x3 + (nI 1)))), .int (xs (ix (x3 + (nI 2))))]) lkL_35 okX7_bell (nl hN rfl) kd_39 rfl (by rfl) (by rfl) (Nat.le_of_ble_eq_true rfl) ry_L_law_X7_bell dL_law_251 (And.intro (Nat.le_of_ble_eq_true rfl) (Nat.le_of_ble_eq_true rfl)) (ct_X7_bell hE hN F c37) ?_
        refine aw_icmp_eq 747 dL_law_254 rfl (fun g39 => ?_) (fun g39 => ?_)
        · replace hf := (if_pos g39).symm.trans hf
          refine aw_iinc (nI 4) dL_law_747 rfl (Nat.le_of_ble_eq_true rfl) ki_4 (aw_goto 18 dL_law_750 rfl ?_)
          exact aw_dk (ih _ _ _ qT qU hf) (And.intro rfl (And.intro rfl (And.intro rfl (And.intro rfl trivial))))
        · replace hf := (if_neg g39).symm.trans hf
          exact absurd hf (fun z => nomatch z)
      replace hf := (if_neg a4).symm.trans hf
      by_cases a5 : ((xs (ix x3)) &&& (nI 31)) = nI 5
      · replace hf := (if_pos a5).symm.trans hf
        refine aw_tableIn (off := 227) 259 dL_law_32 (by rw [a5]; decide) (by rw [a5]; decide) (by rw [a5]; decide) rfl ?_
        refine aw_aload_n dL_law_259 rfl (aw_aload_n dL_law_260 rfl (aw_iload_n dL_law_261 rfl (aw_iconst (nI 1) dL_law_262 ki_1 (aw_iadd dL_law_263 ?_))))
        obtain ⟨g40, hf⟩ := ogd hf
        refine aw_sld g40 dL_law_264 ?_
        obtain ⟨v43, h41, c42, hf⟩ := ob_some hf
        refine aw_callVi (N := mX6_pins) (As := [.int (xs (ix (x3 + (nI 1))))]) lkL_36 okX6_pins (nl hN rfl) kd_0 rfl (by rfl) (by rfl) (Nat.le_of_ble_eq_true rfl) ry_L_law_X6_pins dL_law_265 (And.intro (Nat.le_of_ble_eq_true rfl) (Nat.le_of_ble_eq_true rfl)) (ct_X6_pins hE hN39 F qT qU c42) (aw_aload_n dL_law_268 rfl (aw_aload_n dL_law_269 rfl (aw_iload_n dL_law_270 rfl (aw_iconst (nI 1) dL_law_271 ki_1 (aw_iadd dL_law_272 (aw_sld g40 dL_law_273 ?_))))))
        obtain ⟨v46, h44, c45, hf⟩ := ob_some hf
        refine aw_callVi (N := mX7_pins) (As := [.int (xs (ix (x3 + (nI 1))))]) lkL_39 okX7_pins (nl hN rfl) kd_39 rfl (by rfl) (by rfl) (Nat.le_of_ble_eq_true rfl) ry_L_law_X7_pins dL_law_274 (And.intro (Nat.le_of_ble_eq_true rfl) (Nat.le_of_ble_eq_true rfl)) (ct_X7_pins hE hN F c45) ?_
        refine aw_icmp_eq 747 dL_law_277 rfl (fun g47 => ?_) (fun g47 => ?_)
        · replace hf := (if_pos g47).symm.trans hf
          refine aw_iinc (nI 4) dL_law_747 rfl (Nat.le_of_ble_eq_true rfl) ki_4 (aw_goto 18 dL_law_750 rfl ?_)
          exact aw_dk (ih _ _ _ qT qU hf) (And.intro rfl (And.intro rfl (And.intro rfl (And.intro rfl trivial))))
        · replace hf := (if_neg g47).symm.trans hf
          exact absurd hf (fun z => nomatch z)
      replace hf := (if_neg a5).symm.trans hf
      by_cases a6 : ((xs (ix x3)) &&& (nI 31)) = nI 6
      · replace hf := (if_pos a6).symm.trans hf
        refine aw_tableIn (off := 250) 282 dL_law_32 (by rw [a6]; decide) (by rw [a6]; decide) (by rw [a6]; decide) rfl ?_
        refine aw_aload_n dL_law_282 rfl ?_
        obtain ⟨v50, h48, c49, hf⟩ := ob_some hf
        refine aw_callVi (N := mX6_turn) (As := []) lkL_40 okX6_turn (nl hN rfl) kd_0 rfl (by rfl) (by rfl) (Nat.le_of_ble_eq_true rfl) ry_L_law_X6_turn dL_law_283 (And.intro (Nat.le_of_ble_eq_true rfl) (Nat.le_of_ble_eq_true rfl)) (ct_X6_turn hE hN39 F qT qU c49) (aw_aload_n dL_law_286 rfl ?_)
        obtain ⟨v53, h51, c52, hf⟩ := ob_some hf
        refine aw_callVi (N := mX7_turn) (As := []) lkL_43 okX7_turn (nl hN rfl) kd_39 rfl (by rfl) (by rfl) (Nat.le_of_ble_eq_true rfl) ry_L_law_X7_turn dL_law_287 (And.intro (Nat.le_of_ble_eq_true rfl) (Nat.le_of_ble_eq_true rfl)) (ct_X7_turn hE hN F c52) ?_
        refine aw_icmp_eq 747 dL_law_290 rfl (fun g54 => ?_) (fun g54 => ?_)
        · replace hf := (if_pos g54).symm.trans hf
          refine aw_iinc (nI 4) dL_law_747 rfl (Nat.le_of_ble_eq_true rfl) ki_4 (aw_goto 18 dL_law_750 rfl ?_)
          exact aw_dk (ih _ _ _ qT qU hf) (And.intro rfl (And.intro rfl (And.intro rfl (And.intro rfl trivial))))
        · replace hf := (if_neg g54).symm.trans hf
          exact absurd hf (fun z => nomatch z)
      replace hf := (if_neg a6).symm.trans hf
      by_cases a7 : ((xs (ix x3)) &&& (nI 31)) = nI 7
      · replace hf := (if_pos a7).symm.trans hf
        refine aw_tableIn (off := 263) 295 dL_law_32 (by rw [a7]; decide) (by rw [a7]; decide) (by rw [a7]; decide) rfl ?_
        refine aw_aload_n dL_law_295 rfl ?_
        obtain ⟨v57, h55, c56, hf⟩ := ob_some hf
        refine aw_callVi (N := mX6_turnBack) (As := []) lkL_44 okX6_turnBack (nl hN rfl) kd_0 rfl (by rfl) (by rfl) (Nat.le_of_ble_eq_true rfl) ry_L_law_X6_turnBack dL_law_296 (And.intro (Nat.le_of_ble_eq_true rfl) (Nat.le_of_ble_eq_true rfl)) (ct_X6_turnBack hE hN39 F qT qU c56) (aw_aload_n dL_law_299 rfl ?_)
        obtain ⟨v60, h58, c59, hf⟩ := ob_some hf
        refine aw_callVi (N := mX7_turnBack) (As := []) lkL_47 okX7_turnBack (nl hN rfl) kd_39 rfl (by rfl) (by rfl) (Nat.le_of_ble_eq_true rfl) ry_L_law_X7_turnBack dL_law_300 (And.intro (Nat.le_of_ble_eq_true rfl) (Nat.le_of_ble_eq_true rfl)) (ct_X7_turnBack hE hN F c59) ?_
        refine aw_icmp_eq 747 dL_law_303 rfl (fun g61 => ?_) (fun g61 => ?_)
        · replace hf := (if_pos g61).symm.trans hf
          refine aw_iinc (nI 4) dL_law_747 rfl (Nat.le_of_ble_eq_true rfl) ki_4 (aw_goto 18 dL_law_750 rfl ?_)
          exact aw_dk (ih _ _ _ qT qU hf) (And.intro rfl (And.intro rfl (And.intro rfl (And.intro rfl trivial))))
        · replace hf := (if_neg g61).symm.trans hf
          exact absurd hf (fun z => nomatch z)
      replace hf := (if_neg a7).symm.trans hf
      by_cases a8 : ((xs (ix x3)) &&& (nI 31)) = nI 8
      · replace hf := (if_pos a8).symm.trans hf
        refine aw_tableIn (off := 276) 308 dL_law_32 (by rw [a8]; decide) (by rw [a8]; decide) (by rw [a8]; decide) rfl ?_
        refine aw_aload_n dL_law_308 rfl (aw_aload_n dL_law_309 rfl (aw_iload_n dL_law_310 rfl (aw_iconst (nI 1) dL_law_311 ki_1 (aw_iadd dL_law_312 ?_))))
        obtain ⟨g62, hf⟩ := ogd hf
        refine aw_sld g62 dL_law_313 (aw_aload_n dL_law_314 rfl (aw_iload_n dL_law_315 rfl (aw_iconst (nI 2) dL_law_316 ki_2 (aw_iadd dL_law_317 ?_))))
        obtain ⟨g63, hf⟩ := ogd hf
        refine aw_sld g63 dL_law_318 (aw_aload_n dL_law_319 rfl (aw_iload_n dL_law_320 rfl (aw_iconst (nI 3) dL_law_321 ki_3 (aw_iadd dL_law_322 ?_))))
        obtain ⟨g64, hf⟩ := ogd hf
        refine aw_sld g64 dL_law_323 ?_
        have key66 : AW E mL_law (KL E (eA E 1000) L xs) tw h 332 [some (.ref 1000), some (.ref 0), some (.ref 39), some (.int x3)] [.int (if (xs (ix (x3 + (nI 3)))) = nI 0 then nI 0 else nI 1), .int (xs (ix (x3 + (nI 2)))), .int (xs (ix (x3 + (nI 1)))), .ref 0] := by
          obtain ⟨v69, h67, c68, hf⟩ := ob_some hf
          refine aw_callVi (N := mX6_pin) (As := [.int (xs (ix (x3 + (nI 1)))), .int (xs (ix (x3 + (nI 2)))), .int (if (xs (ix (x3 + (nI 3)))) = nI 0 then nI 0 else nI 1)]) lkL_48 okX6_pin (nl hN rfl) kd_0 rfl (by rfl) (by rfl) (Nat.le_of_ble_eq_true rfl) ry_L_law_X6_pin dL_law_332 (And.intro (Nat.le_of_ble_eq_true rfl) (Nat.le_of_ble_eq_true rfl)) (ct_X6_pin hE hN39 F qT qU c68) (aw_aload_n dL_law_335 rfl (aw_aload_n dL_law_336 rfl (aw_iload_n dL_law_337 rfl (aw_iconst (nI 1) dL_law_338 ki_1 (aw_iadd dL_law_339 (aw_sld g62 dL_law_340 (aw_aload_n dL_law_341 rfl (aw_iload_n dL_law_342 rfl (aw_iconst (nI 2) dL_law_343 ki_2 (aw_iadd dL_law_344 (aw_sld g63 dL_law_345 ?_)))))))))))
          refine aw_aload_n dL_law_346 rfl (aw_iload_n dL_law_347 rfl (aw_iconst (nI 3) dL_law_348 ki_3 (aw_iadd dL_law_349 (aw_sld g64 dL_law_350 ?_))))
          have key71 : AW E mL_law (KL E (eA E 1000) L xs) tw h67 359 [some (.ref 1000), some (.ref 0), some (.ref 39), some (.int x3)] [.int (if (xs (ix (x3 + (nI 3)))) = nI 0 then nI 0 else nI 1), .int (xs (ix (x3 + (nI 2)))), .int (xs (ix (x3 + (nI 1)))), .ref 39, .int v69] := by
            obtain ⟨v74, h72, c73, hf⟩ := ob_some hf
            refine aw_callVi (N := mX7_pin) (As := [.int (xs (ix (x3 + (nI 1)))), .int (xs (ix (x3 + (nI 2)))), .int (if (xs (ix (x3 + (nI 3)))) = nI 0 then nI 0 else nI 1)]) lkL_52 okX7_pin (nl hN rfl) kd_39 rfl (by rfl) (by rfl) (Nat.le_of_ble_eq_true rfl) ry_L_law_X7_pin dL_law_359 (And.intro (Nat.le_of_ble_eq_true rfl) (Nat.le_of_ble_eq_true rfl)) (ct_X7_pin hE hN F c73) ?_
            refine aw_icmp_eq 747 dL_law_362 rfl (fun g75 => ?_) (fun g75 => ?_)
            · replace hf := (if_pos g75).symm.trans hf
              refine aw_iinc (nI 4) dL_law_747 rfl (Nat.le_of_ble_eq_true rfl) ki_4 (aw_goto 18 dL_law_750 rfl ?_)
              exact aw_dk (ih _ _ _ qT qU hf) (And.intro rfl (And.intro rfl (And.intro rfl (And.intro rfl trivial))))
            · replace hf := (if_neg g75).symm.trans hf
              exact absurd hf (fun z => nomatch z)
          refine aw_if_eq 358 dL_law_351 rfl (fun g70 => ?_) (fun g70 => ?_)
          · refine aw_iconst (nI 0) dL_law_358 ki_0 ?_
            simp only [if_pos g70] at key71
            exact key71
          · refine aw_iconst (nI 1) dL_law_354 ki_1 (aw_goto 359 dL_law_355 rfl ?_)
            simp only [if_neg g70] at key71
            exact key71
        refine aw_if_eq 331 dL_law_324 rfl (fun g65 => ?_) (fun g65 => ?_)
        · refine aw_iconst (nI 0) dL_law_331 ki_0 ?_
          simp only [if_pos g65] at key66
          exact key66
        · refine aw_iconst (nI 1) dL_law_327 ki_1 (aw_goto 332 dL_law_328 rfl ?_)
          simp only [if_neg g65] at key66
          exact key66
      replace hf := (if_neg a8).symm.trans hf
      by_cases a9 : ((xs (ix x3)) &&& (nI 31)) = nI 9
      · replace hf := (if_pos a9).symm.trans hf
        refine aw_tableIn (off := 335) 367 dL_law_32 (by rw [a9]; decide) (by rw [a9]; decide) (by rw [a9]; decide) rfl ?_
        refine aw_aload_n dL_law_367 rfl (aw_aload_n dL_law_368 rfl (aw_iload_n dL_law_369 rfl (aw_iconst (nI 1) dL_law_370 ki_1 (aw_iadd dL_law_371 ?_))))
        obtain ⟨g76, hf⟩ := ogd hf
        refine aw_sld g76 dL_law_372 ?_
        obtain ⟨v79, h77, c78, hf⟩ := ob_some hf
        refine aw_callVi (N := mX6_shift) (As := [.int (xs (ix (x3 + (nI 1))))]) lkL_53 okX6_shift (nl hN rfl) kd_0 rfl (by rfl) (by rfl) (Nat.le_of_ble_eq_true rfl) ry_L_law_X6_shift dL_law_373 (And.intro (Nat.le_of_ble_eq_true rfl) (Nat.le_of_ble_eq_true rfl)) (ct_X6_shift hE hN39 F qT qU c78) (aw_aload_n dL_law_376 rfl (aw_aload_n dL_law_377 rfl (aw_iload_n dL_law_378 rfl (aw_iconst (nI 1) dL_law_379 ki_1 (aw_iadd dL_law_380 (aw_sld g76 dL_law_381 ?_))))))
        obtain ⟨v82, h80, c81, hf⟩ := ob_some hf
        refine aw_callVi (N := mX7_shift) (As := [.int (xs (ix (x3 + (nI 1))))]) lkL_56 okX7_shift (nl hN rfl) kd_39 rfl (by rfl) (by rfl) (Nat.le_of_ble_eq_true rfl) ry_L_law_X7_shift dL_law_382 (And.intro (Nat.le_of_ble_eq_true rfl) (Nat.le_of_ble_eq_true rfl)) (ct_X7_shift hE hN F c81) ?_
        refine aw_icmp_eq 747 dL_law_385 rfl (fun g83 => ?_) (fun g83 => ?_)
        · replace hf := (if_pos g83).symm.trans hf
          refine aw_iinc (nI 4) dL_law_747 rfl (Nat.le_of_ble_eq_true rfl) ki_4 (aw_goto 18 dL_law_750 rfl ?_)
          exact aw_dk (ih _ _ _ qT qU hf) (And.intro rfl (And.intro rfl (And.intro rfl (And.intro rfl trivial))))
        · replace hf := (if_neg g83).symm.trans hf
          exact absurd hf (fun z => nomatch z)
      replace hf := (if_neg a9).symm.trans hf
      by_cases a10 : ((xs (ix x3)) &&& (nI 31)) = nI 10
      · replace hf := (if_pos a10).symm.trans hf
        refine aw_tableIn (off := 358) 390 dL_law_32 (by rw [a10]; decide) (by rw [a10]; decide) (by rw [a10]; decide) rfl ?_
        refine aw_aload_n dL_law_390 rfl ?_
        obtain ⟨v86, h84, c85, hf⟩ := ob_some hf
        refine aw_callVi (N := mX6_undo) (As := []) lkL_57 okX6_undo (nl hN rfl) kd_0 rfl (by rfl) (by rfl) (Nat.le_of_ble_eq_true rfl) ry_L_law_X6_undo dL_law_391 (And.intro (Nat.le_of_ble_eq_true rfl) (Nat.le_of_ble_eq_true rfl)) (ct_X6_undo hE hN39 F qT qU c85) (aw_aload_n dL_law_394 rfl ?_)
        obtain ⟨v89, h87, c88, hf⟩ := ob_some hf
        refine aw_callVi (N := mX7_undo) (As := []) lkL_60 okX7_undo (nl hN rfl) kd_39 rfl (by rfl) (by rfl) (Nat.le_of_ble_eq_true rfl) ry_L_law_X7_undo dL_law_395 (And.intro (Nat.le_of_ble_eq_true rfl) (Nat.le_of_ble_eq_true rfl)) (ct_X7_undo hE hN F c88) ?_
        refine aw_icmp_eq 747 dL_law_398 rfl (fun g90 => ?_) (fun g90 => ?_)
        · replace hf := (if_pos g90).symm.trans hf
          refine aw_iinc (nI 4) dL_law_747 rfl (Nat.le_of_ble_eq_true rfl) ki_4 (aw_goto 18 dL_law_750 rfl ?_)
          exact aw_dk (ih _ _ _ qT qU hf) (And.intro rfl (And.intro rfl (And.intro rfl (And.intro rfl trivial))))
        · replace hf := (if_neg g90).symm.trans hf
          exact absurd hf (fun z => nomatch z)
      replace hf := (if_neg a10).symm.trans hf
      by_cases a11 : ((xs (ix x3)) &&& (nI 31)) = nI 11
      · replace hf := (if_pos a11).symm.trans hf
        refine aw_tableIn (off := 371) 403 dL_law_32 (by rw [a11]; decide) (by rw [a11]; decide) (by rw [a11]; decide) rfl ?_
        refine aw_aload_n dL_law_403 rfl (aw_aload_n dL_law_404 rfl (aw_iload_n dL_law_405 rfl (aw_iconst (nI 1) dL_law_406 ki_1 (aw_iadd dL_law_407 ?_))))
        obtain ⟨g91, hf⟩ := ogd hf
        refine aw_sld g91 dL_law_408 ?_
        obtain ⟨v94, h92, c93, hf⟩ := ob_some hf
        refine aw_callVi (N := mX6_whole) (As := [.int (xs (ix (x3 + (nI 1))))]) lkL_61 okX6_whole (nl hN rfl) kd_0 rfl (by rfl) (by rfl) (Nat.le_of_ble_eq_true rfl) ry_L_law_X6_whole dL_law_409 (And.intro (Nat.le_of_ble_eq_true rfl) (Nat.le_of_ble_eq_true rfl)) (ct_X6_whole hE hN39 F qT qU c93) (aw_aload_n dL_law_412 rfl (aw_aload_n dL_law_413 rfl (aw_iload_n dL_law_414 rfl (aw_iconst (nI 1) dL_law_415 ki_1 (aw_iadd dL_law_416 (aw_sld g91 dL_law_417 ?_))))))
        obtain ⟨v97, h95, c96, hf⟩ := ob_some hf
        refine aw_callVi (N := mX7_whole) (As := [.int (xs (ix (x3 + (nI 1))))]) lkL_64 okX7_whole (nl hN rfl) kd_39 rfl (by rfl) (by rfl) (Nat.le_of_ble_eq_true rfl) ry_L_law_X7_whole dL_law_418 (And.intro (Nat.le_of_ble_eq_true rfl) (Nat.le_of_ble_eq_true rfl)) (ct_X7_whole hE hN F c96) ?_
        refine aw_icmp_eq 747 dL_law_421 rfl (fun g98 => ?_) (fun g98 => ?_)
        · replace hf := (if_pos g98).symm.trans hf
          refine aw_iinc (nI 4) dL_law_747 rfl (Nat.le_of_ble_eq_true rfl) ki_4 (aw_goto 18 dL_law_750 rfl ?_)
          exact aw_dk (ih _ _ _ qT qU hf) (And.intro rfl (And.intro rfl (And.intro rfl (And.intro rfl trivial))))
        · replace hf := (if_neg g98).symm.trans hf
          exact absurd hf (fun z => nomatch z)
      replace hf := (if_neg a11).symm.trans hf
      by_cases a12 : ((xs (ix x3)) &&& (nI 31)) = nI 12
      · replace hf := (if_pos a12).symm.trans hf
        refine aw_tableIn (off := 394) 426 dL_law_32 (by rw [a12]; decide) (by rw [a12]; decide) (by rw [a12]; decide) rfl ?_
        refine aw_aload_n dL_law_426 rfl ?_
        obtain ⟨v101, h99, c100, hf⟩ := ob_some hf
        refine aw_callVi (N := mX6_silence) (As := []) lkL_65 okX6_silence (nl hN rfl) kd_0 rfl (by rfl) (by rfl) (Nat.le_of_ble_eq_true rfl) ry_L_law_X6_silence dL_law_427 (And.intro (Nat.le_of_ble_eq_true rfl) (Nat.le_of_ble_eq_true rfl)) (ct_X6_silence hE hN39 F qT qU c100) (aw_aload_n dL_law_430 rfl ?_)
        obtain ⟨v104, h102, c103, hf⟩ := ob_some hf
        refine aw_callVi (N := mX7_silence) (As := []) lkL_68 okX7_silence (nl hN rfl) kd_39 rfl (by rfl) (by rfl) (Nat.le_of_ble_eq_true rfl) ry_L_law_X7_silence dL_law_431 (And.intro (Nat.le_of_ble_eq_true rfl) (Nat.le_of_ble_eq_true rfl)) (ct_X7_silence hE hN F c103) ?_
        refine aw_icmp_eq 747 dL_law_434 rfl (fun g105 => ?_) (fun g105 => ?_)
        · replace hf := (if_pos g105).symm.trans hf
          refine aw_iinc (nI 4) dL_law_747 rfl (Nat.le_of_ble_eq_true rfl) ki_4 (aw_goto 18 dL_law_750 rfl ?_)
          exact aw_dk (ih _ _ _ qT qU hf) (And.intro rfl (And.intro rfl (And.intro rfl (And.intro rfl trivial))))
        · replace hf := (if_neg g105).symm.trans hf
          exact absurd hf (fun z => nomatch z)
      replace hf := (if_neg a12).symm.trans hf
      by_cases a13 : ((xs (ix x3)) &&& (nI 31)) = nI 13
      · replace hf := (if_pos a13).symm.trans hf
        refine aw_tableIn (off := 407) 439 dL_law_32 (by rw [a13]; decide) (by rw [a13]; decide) (by rw [a13]; decide) rfl ?_
        refine aw_aload_n dL_law_439 rfl ?_
        obtain ⟨v108, h106, c107, hf⟩ := ob_some hf
        refine aw_callVi (N := mX6_again) (As := []) lkL_69 okX6_again (nl hN rfl) kd_0 rfl (by rfl) (by rfl) (Nat.le_of_ble_eq_true rfl) ry_L_law_X6_again dL_law_440 (And.intro (Nat.le_of_ble_eq_true rfl) (Nat.le_of_ble_eq_true rfl)) (ct_X6_again hE hN39 F qT qU c107) (aw_aload_n dL_law_443 rfl ?_)
        obtain ⟨v111, h109, c110, hf⟩ := ob_some hf
        refine aw_callVi (N := mX7_again) (As := []) lkL_72 okX7_again (nl hN rfl) kd_39 rfl (by rfl) (by rfl) (Nat.le_of_ble_eq_true rfl) ry_L_law_X7_again dL_law_444 (And.intro (Nat.le_of_ble_eq_true rfl) (Nat.le_of_ble_eq_true rfl)) (ct_X7_again hE hN F c110) ?_
        refine aw_icmp_eq 747 dL_law_447 rfl (fun g112 => ?_) (fun g112 => ?_)
        · replace hf := (if_pos g112).symm.trans hf
          refine aw_iinc (nI 4) dL_law_747 rfl (Nat.le_of_ble_eq_true rfl) ki_4 (aw_goto 18 dL_law_750 rfl ?_)
          exact aw_dk (ih _ _ _ qT qU hf) (And.intro rfl (And.intro rfl (And.intro rfl (And.intro rfl trivial))))
        · replace hf := (if_neg g112).symm.trans hf
          exact absurd hf (fun z => nomatch z)
      replace hf := (if_neg a13).symm.trans hf
      by_cases a14 : ((xs (ix x3)) &&& (nI 31)) = nI 14
      · replace hf := (if_pos a14).symm.trans hf
        refine aw_tableIn (off := 420) 452 dL_law_32 (by rw [a14]; decide) (by rw [a14]; decide) (by rw [a14]; decide) rfl ?_
        refine aw_aload_n dL_law_452 rfl ?_
        obtain ⟨v115, h113, c114, hf⟩ := ob_some hf
        refine aw_callVi (N := mX6_harsh) (As := []) lkL_73 okX6_harsh (nl hN rfl) kd_0 rfl (by rfl) (by rfl) (Nat.le_of_ble_eq_true rfl) ry_L_law_X6_harsh dL_law_453 (And.intro (Nat.le_of_ble_eq_true rfl) (Nat.le_of_ble_eq_true rfl)) (ct_X6_harsh hE hN39 F qT qU c114) (aw_aload_n dL_law_456 rfl ?_)
        obtain ⟨v118, h116, c117, hf⟩ := ob_some hf
        refine aw_callVi (N := mX7_harsh) (As := []) lkL_76 okX7_harsh (nl hN rfl) kd_39 rfl (by rfl) (by rfl) (Nat.le_of_ble_eq_true rfl) ry_L_law_X7_harsh dL_law_457 (And.intro (Nat.le_of_ble_eq_true rfl) (Nat.le_of_ble_eq_true rfl)) (ct_X7_harsh hE hN F c117) ?_
        refine aw_icmp_eq 747 dL_law_460 rfl (fun g119 => ?_) (fun g119 => ?_)
        · replace hf := (if_pos g119).symm.trans hf
          refine aw_iinc (nI 4) dL_law_747 rfl (Nat.le_of_ble_eq_true rfl) ki_4 (aw_goto 18 dL_law_750 rfl ?_)
          exact aw_dk (ih _ _ _ qT qU hf) (And.intro rfl (And.intro rfl (And.intro rfl (And.intro rfl trivial))))
        · replace hf := (if_neg g119).symm.trans hf
          exact absurd hf (fun z => nomatch z)
      replace hf := (if_neg a14).symm.trans hf
      by_cases a15 : ((xs (ix x3)) &&& (nI 31)) = nI 15
      · replace hf := (if_pos a15).symm.trans hf
        refine aw_tableIn (off := 433) 465 dL_law_32 (by rw [a15]; decide) (by rw [a15]; decide) (by rw [a15]; decide) rfl ?_
        refine aw_aload_n dL_law_465 rfl (aw_aload_n dL_law_466 rfl (aw_iload_n dL_law_467 rfl (aw_iconst (nI 1) dL_law_468 ki_1 (aw_iadd dL_law_469 ?_))))
        obtain ⟨g120, hf⟩ := ogd hf
        refine aw_sld g120 dL_law_470 ?_
        obtain ⟨v123, h121, c122, hf⟩ := ob_some hf
        refine aw_callVi (N := mX6_canon) (As := [.int (xs (ix (x3 + (nI 1))))]) lkL_77 okX6_canon (nl hN rfl) kd_0 rfl (by rfl) (by rfl) (Nat.le_of_ble_eq_true rfl) ry_L_law_X6_canon dL_law_471 (And.intro (Nat.le_of_ble_eq_true rfl) (Nat.le_of_ble_eq_true rfl)) (ct_X6_canon hE hN39 F qT qU c122) (aw_aload_n dL_law_474 rfl (aw_aload_n dL_law_475 rfl (aw_iload_n dL_law_476 rfl (aw_iconst (nI 1) dL_law_477 ki_1 (aw_iadd dL_law_478 (aw_sld g120 dL_law_479 ?_))))))
        obtain ⟨v126, h124, c125, hf⟩ := ob_some hf
        refine aw_callVi (N := mX7_canon) (As := [.int (xs (ix (x3 + (nI 1))))]) lkL_80 okX7_canon (nl hN rfl) kd_39 rfl (by rfl) (by rfl) (Nat.le_of_ble_eq_true rfl) ry_L_law_X7_canon dL_law_480 (And.intro (Nat.le_of_ble_eq_true rfl) (Nat.le_of_ble_eq_true rfl)) (ct_X7_canon hE hN F c125) ?_
        refine aw_icmp_eq 747 dL_law_483 rfl (fun g127 => ?_) (fun g127 => ?_)
        · replace hf := (if_pos g127).symm.trans hf
          refine aw_iinc (nI 4) dL_law_747 rfl (Nat.le_of_ble_eq_true rfl) ki_4 (aw_goto 18 dL_law_750 rfl ?_)
          exact aw_dk (ih _ _ _ qT qU hf) (And.intro rfl (And.intro rfl (And.intro rfl (And.intro rfl trivial))))
        · replace hf := (if_neg g127).symm.trans hf
          exact absurd hf (fun z => nomatch z)
      replace hf := (if_neg a15).symm.trans hf
      by_cases a16 : ((xs (ix x3)) &&& (nI 31)) = nI 16
      · replace hf := (if_pos a16).symm.trans hf
        refine aw_tableIn (off := 456) 488 dL_law_32 (by rw [a16]; decide) (by rw [a16]; decide) (by rw [a16]; decide) rfl ?_
        refine aw_aload_n dL_law_488 rfl (aw_aload_n dL_law_489 rfl (aw_iload_n dL_law_490 rfl (aw_iconst (nI 1) dL_law_491 ki_1 (aw_iadd dL_law_492 ?_))))
        obtain ⟨g128, hf⟩ := ogd hf
        refine aw_sld g128 dL_law_493 (aw_aload_n dL_law_494 rfl (aw_iload_n dL_law_495 rfl (aw_iconst (nI 2) dL_law_496 ki_2 (aw_iadd dL_law_497 ?_))))
        obtain ⟨g129, hf⟩ := ogd hf
        refine aw_sld g129 dL_law_498 ?_
        obtain ⟨v132, h130, c131, hf⟩ := ob_some hf
        refine aw_callVi (N := mX6_want) (As := [.int (xs (ix (x3 + (nI 1)))), .int (xs (ix (x3 + (nI 2))))]) lkL_81 okX6_want (nl hN rfl) kd_0 rfl (by rfl) (by rfl) (Nat.le_of_ble_eq_true rfl) ry_L_law_X6_want dL_law_499 (And.intro (Nat.le_of_ble_eq_true rfl) (Nat.le_of_ble_eq_true rfl)) (ct_X6_want hE hN39 F qT qU c131) (aw_aload_n dL_law_502 rfl (aw_aload_n dL_law_503 rfl (aw_iload_n dL_law_504 rfl (aw_iconst (nI 1) dL_law_505 ki_1 (aw_iadd dL_law_506 (aw_sld g128 dL_law_507 (aw_aload_n dL_law_508 rfl (aw_iload_n dL_law_509 rfl (aw_iconst (nI 2) dL_law_510 ki_2 (aw_iadd dL_law_511 (aw_sld g129 dL_law_512 ?_)))))))))))
        obtain ⟨v135, h133, c134, hf⟩ := ob_some hf
        refine aw_callVi (N := mX7_want) (As := [.int (xs (ix (x3 + (nI 1)))), .int (xs (ix (x3 + (nI 2))))]) lkL_84 okX7_want (nl hN rfl) kd_39 rfl (by rfl) (by rfl) (Nat.le_of_ble_eq_true rfl) ry_L_law_X7_want dL_law_513 (And.intro (Nat.le_of_ble_eq_true rfl) (Nat.le_of_ble_eq_true rfl)) (ct_X7_want hE hN F c134) ?_
        refine aw_icmp_eq 747 dL_law_516 rfl (fun g136 => ?_) (fun g136 => ?_)
        · replace hf := (if_pos g136).symm.trans hf
          refine aw_iinc (nI 4) dL_law_747 rfl (Nat.le_of_ble_eq_true rfl) ki_4 (aw_goto 18 dL_law_750 rfl ?_)
          exact aw_dk (ih _ _ _ qT qU hf) (And.intro rfl (And.intro rfl (And.intro rfl (And.intro rfl trivial))))
        · replace hf := (if_neg g136).symm.trans hf
          exact absurd hf (fun z => nomatch z)
      replace hf := (if_neg a16).symm.trans hf
      by_cases a17 : ((xs (ix x3)) &&& (nI 31)) = nI 17
      · replace hf := (if_pos a17).symm.trans hf
        refine aw_tableIn (off := 489) 521 dL_law_32 (by rw [a17]; decide) (by rw [a17]; decide) (by rw [a17]; decide) rfl ?_
        refine aw_aload_n dL_law_521 rfl (aw_aload_n dL_law_522 rfl (aw_iload_n dL_law_523 rfl (aw_iconst (nI 1) dL_law_524 ki_1 (aw_iadd dL_law_525 ?_))))
        obtain ⟨g137, hf⟩ := ogd hf
        refine aw_sld g137 dL_law_526 ?_
        obtain ⟨v140, h138, c139, hf⟩ := ob_some hf
        refine aw_callVi (N := mX6_changes) (As := [.int (xs (ix (x3 + (nI 1))))]) lkL_85 okX6_changes (nl hN rfl) kd_0 rfl (by rfl) (by rfl) (Nat.le_of_ble_eq_true rfl) ry_L_law_X6_changes dL_law_527 (And.intro (Nat.le_of_ble_eq_true rfl) (Nat.le_of_ble_eq_true rfl)) (ct_X6_changes hE hN39 F qT qU c139) (aw_aload_n dL_law_530 rfl (aw_aload_n dL_law_531 rfl (aw_iload_n dL_law_532 rfl (aw_iconst (nI 1) dL_law_533 ki_1 (aw_iadd dL_law_534 (aw_sld g137 dL_law_535 ?_))))))
        obtain ⟨v143, h141, c142, hf⟩ := ob_some hf
        refine aw_callVi (N := mX7_changes) (As := [.int (xs (ix (x3 + (nI 1))))]) lkL_88 okX7_changes (nl hN rfl) kd_39 rfl (by rfl) (by rfl) (Nat.le_of_ble_eq_true rfl) ry_L_law_X7_changes dL_law_536 (And.intro (Nat.le_of_ble_eq_true rfl) (Nat.le_of_ble_eq_true rfl)) (ct_X7_changes hE hN F c142) ?_
        refine aw_icmp_eq 747 dL_law_539 rfl (fun g144 => ?_) (fun g144 => ?_)
        · replace hf := (if_pos g144).symm.trans hf
          refine aw_iinc (nI 4) dL_law_747 rfl (Nat.le_of_ble_eq_true rfl) ki_4 (aw_goto 18 dL_law_750 rfl ?_)
          exact aw_dk (ih _ _ _ qT qU hf) (And.intro rfl (And.intro rfl (And.intro rfl (And.intro rfl trivial))))
        · replace hf := (if_neg g144).symm.trans hf
          exact absurd hf (fun z => nomatch z)
      replace hf := (if_neg a17).symm.trans hf
      by_cases a18 : ((xs (ix x3)) &&& (nI 31)) = nI 18
      · replace hf := (if_pos a18).symm.trans hf
        refine aw_tableIn (off := 512) 544 dL_law_32 (by rw [a18]; decide) (by rw [a18]; decide) (by rw [a18]; decide) rfl ?_
        refine aw_aload_n dL_law_544 rfl ?_
        obtain ⟨v147, h145, c146, hf⟩ := ob_some hf
        refine aw_callVi (N := mX6_letters) (As := []) lkL_89 okX6_letters (nl hN rfl) kd_0 rfl (by rfl) (by rfl) (Nat.le_of_ble_eq_true rfl) ry_L_law_X6_letters dL_law_545 (And.intro (Nat.le_of_ble_eq_true rfl) (Nat.le_of_ble_eq_true rfl)) (ct_X6_letters hE hN39 F qT qU c146) (aw_aload_n dL_law_548 rfl ?_)
        obtain ⟨v150, h148, c149, hf⟩ := ob_some hf
        refine aw_callVi (N := mX7_letters) (As := []) lkL_92 okX7_letters (nl hN rfl) kd_39 rfl (by rfl) (by rfl) (Nat.le_of_ble_eq_true rfl) ry_L_law_X7_letters dL_law_549 (And.intro (Nat.le_of_ble_eq_true rfl) (Nat.le_of_ble_eq_true rfl)) (ct_X7_letters hE hN F c149) ?_
        refine aw_icmp_eq 747 dL_law_552 rfl (fun g151 => ?_) (fun g151 => ?_)
        · replace hf := (if_pos g151).symm.trans hf
          refine aw_iinc (nI 4) dL_law_747 rfl (Nat.le_of_ble_eq_true rfl) ki_4 (aw_goto 18 dL_law_750 rfl ?_)
          exact aw_dk (ih _ _ _ qT qU hf) (And.intro rfl (And.intro rfl (And.intro rfl (And.intro rfl trivial))))
        · replace hf := (if_neg g151).symm.trans hf
          exact absurd hf (fun z => nomatch z)
      replace hf := (if_neg a18).symm.trans hf
      by_cases a19 : ((xs (ix x3)) &&& (nI 31)) = nI 19
      · replace hf := (if_pos a19).symm.trans hf
        refine aw_tableIn (off := 525) 557 dL_law_32 (by rw [a19]; decide) (by rw [a19]; decide) (by rw [a19]; decide) rfl ?_
        refine aw_aload_n dL_law_557 rfl ?_
        obtain ⟨v154, h152, c153, hf⟩ := ob_some hf
        refine aw_callVi (N := mX6_ringers) (As := []) lkL_93 okX6_ringers (nl hN rfl) kd_0 rfl (by rfl) (by rfl) (Nat.le_of_ble_eq_true rfl) ry_L_law_X6_ringers dL_law_558 (And.intro (Nat.le_of_ble_eq_true rfl) (Nat.le_of_ble_eq_true rfl)) (ct_X6_ringers hE hN39 F qT qU c153) (aw_aload_n dL_law_561 rfl ?_)
        obtain ⟨v157, h155, c156, hf⟩ := ob_some hf
        refine aw_callVi (N := mX7_ringers) (As := []) lkL_96 okX7_ringers (nl hN rfl) kd_39 rfl (by rfl) (by rfl) (Nat.le_of_ble_eq_true rfl) ry_L_law_X7_ringers dL_law_562 (And.intro (Nat.le_of_ble_eq_true rfl) (Nat.le_of_ble_eq_true rfl)) (ct_X7_ringers hE hN F c156) ?_
        refine aw_icmp_eq 747 dL_law_565 rfl (fun g158 => ?_) (fun g158 => ?_)
        · replace hf := (if_pos g158).symm.trans hf
          refine aw_iinc (nI 4) dL_law_747 rfl (Nat.le_of_ble_eq_true rfl) ki_4 (aw_goto 18 dL_law_750 rfl ?_)
          exact aw_dk (ih _ _ _ qT qU hf) (And.intro rfl (And.intro rfl (And.intro rfl (And.intro rfl trivial))))
        · replace hf := (if_neg g158).symm.trans hf
          exact absurd hf (fun z => nomatch z)
      replace hf := (if_neg a19).symm.trans hf
      by_cases a20 : ((xs (ix x3)) &&& (nI 31)) = nI 20
      · replace hf := (if_pos a20).symm.trans hf
        refine aw_tableIn (off := 538) 570 dL_law_32 (by rw [a20]; decide) (by rw [a20]; decide) (by rw [a20]; decide) rfl ?_
        refine aw_aload_n dL_law_570 rfl (aw_aload_n dL_law_571 rfl (aw_iload_n dL_law_572 rfl (aw_iconst (nI 1) dL_law_573 ki_1 (aw_iadd dL_law_574 ?_))))
        obtain ⟨g159, hf⟩ := ogd hf
        refine aw_sld g159 dL_law_575 ?_
        obtain ⟨v162, h160, c161, hf⟩ := ob_some hf
        refine aw_callVi (N := mX6_hear) (As := [.int (xs (ix (x3 + (nI 1))))]) lkL_97 okX6_hear (nl hN rfl) kd_0 rfl (by rfl) (by rfl) (Nat.le_of_ble_eq_true rfl) ry_L_law_X6_hear dL_law_576 (And.intro (Nat.le_of_ble_eq_true rfl) (Nat.le_of_ble_eq_true rfl)) (ct_X6_hear hE hN39 F qT qU c161) (aw_aload_n dL_law_579 rfl (aw_aload_n dL_law_580 rfl (aw_iload_n dL_law_581 rfl (aw_iconst (nI 1) dL_law_582 ki_1 (aw_iadd dL_law_583 (aw_sld g159 dL_law_584 ?_))))))
        obtain ⟨v165, h163, c164, hf⟩ := ob_some hf
        refine aw_callVi (N := mX7_hear) (As := [.int (xs (ix (x3 + (nI 1))))]) lkL_100 okX7_hear (nl hN rfl) kd_39 rfl (by rfl) (by rfl) (Nat.le_of_ble_eq_true rfl) ry_L_law_X7_hear dL_law_585 (And.intro (Nat.le_of_ble_eq_true rfl) (Nat.le_of_ble_eq_true rfl)) (ct_X7_hear hE hN F c164) ?_
        refine aw_icmp_eq 747 dL_law_588 rfl (fun g166 => ?_) (fun g166 => ?_)
        · replace hf := (if_pos g166).symm.trans hf
          refine aw_iinc (nI 4) dL_law_747 rfl (Nat.le_of_ble_eq_true rfl) ki_4 (aw_goto 18 dL_law_750 rfl ?_)
          exact aw_dk (ih _ _ _ qT qU hf) (And.intro rfl (And.intro rfl (And.intro rfl (And.intro rfl trivial))))
        · replace hf := (if_neg g166).symm.trans hf
          exact absurd hf (fun z => nomatch z)
      replace hf := (if_neg a20).symm.trans hf
      by_cases a21 : ((xs (ix x3)) &&& (nI 31)) = nI 21
      · replace hf := (if_pos a21).symm.trans hf
        refine aw_tableIn (off := 561) 593 dL_law_32 (by rw [a21]; decide) (by rw [a21]; decide) (by rw [a21]; decide) rfl ?_
        refine aw_aload_n dL_law_593 rfl ?_
        obtain ⟨v169, h167, c168, hf⟩ := ob_some hf
        refine aw_callVi (N := mX6_forget) (As := []) lkL_101 okX6_forget (nl hN rfl) kd_0 rfl (by rfl) (by rfl) (Nat.le_of_ble_eq_true rfl) ry_L_law_X6_forget dL_law_594 (And.intro (Nat.le_of_ble_eq_true rfl) (Nat.le_of_ble_eq_true rfl)) (ct_X6_forget hE hN39 F qT qU c168) (aw_aload_n dL_law_597 rfl ?_)
        obtain ⟨v172, h170, c171, hf⟩ := ob_some hf
        refine aw_callVi (N := mX7_forget) (As := []) lkL_104 okX7_forget (nl hN rfl) kd_39 rfl (by rfl) (by rfl) (Nat.le_of_ble_eq_true rfl) ry_L_law_X7_forget dL_law_598 (And.intro (Nat.le_of_ble_eq_true rfl) (Nat.le_of_ble_eq_true rfl)) (ct_X7_forget hE hN F c171) ?_
        refine aw_icmp_eq 747 dL_law_601 rfl (fun g173 => ?_) (fun g173 => ?_)
        · replace hf := (if_pos g173).symm.trans hf
          refine aw_iinc (nI 4) dL_law_747 rfl (Nat.le_of_ble_eq_true rfl) ki_4 (aw_goto 18 dL_law_750 rfl ?_)
          exact aw_dk (ih _ _ _ qT qU hf) (And.intro rfl (And.intro rfl (And.intro rfl (And.intro rfl trivial))))
        · replace hf := (if_neg g173).symm.trans hf
          exact absurd hf (fun z => nomatch z)
      replace hf := (if_neg a21).symm.trans hf
      by_cases a22 : ((xs (ix x3)) &&& (nI 31)) = nI 22
      · replace hf := (if_pos a22).symm.trans hf
        refine aw_tableIn (off := 574) 606 dL_law_32 (by rw [a22]; decide) (by rw [a22]; decide) (by rw [a22]; decide) rfl ?_
        refine aw_aload_n dL_law_606 rfl ?_
        obtain ⟨v176, h174, c175, hf⟩ := ob_some hf
        refine aw_callVi (N := mX6_stood) (As := []) lkL_105 okX6_stood (nl hN rfl) kd_0 rfl (by rfl) (by rfl) (Nat.le_of_ble_eq_true rfl) ry_L_law_X6_stood dL_law_607 (And.intro (Nat.le_of_ble_eq_true rfl) (Nat.le_of_ble_eq_true rfl)) (ct_X6_stood hE hN39 F qT qU c175) (aw_aload_n dL_law_610 rfl ?_)
        obtain ⟨v179, h177, c178, hf⟩ := ob_some hf
        refine aw_callVi (N := mX7_stood) (As := []) lkL_108 okX7_stood (nl hN rfl) kd_39 rfl (by rfl) (by rfl) (Nat.le_of_ble_eq_true rfl) ry_L_law_X7_stood dL_law_611 (And.intro (Nat.le_of_ble_eq_true rfl) (Nat.le_of_ble_eq_true rfl)) (ct_X7_stood hE hN F c178) ?_
        refine aw_icmp_eq 747 dL_law_614 rfl (fun g180 => ?_) (fun g180 => ?_)
        · replace hf := (if_pos g180).symm.trans hf
          refine aw_iinc (nI 4) dL_law_747 rfl (Nat.le_of_ble_eq_true rfl) ki_4 (aw_goto 18 dL_law_750 rfl ?_)
          exact aw_dk (ih _ _ _ qT qU hf) (And.intro rfl (And.intro rfl (And.intro rfl (And.intro rfl trivial))))
        · replace hf := (if_neg g180).symm.trans hf
          exact absurd hf (fun z => nomatch z)
      replace hf := (if_neg a22).symm.trans hf
      by_cases a23 : ((xs (ix x3)) &&& (nI 31)) = nI 23
      · replace hf := (if_pos a23).symm.trans hf
        refine aw_tableIn (off := 587) 619 dL_law_32 (by rw [a23]; decide) (by rw [a23]; decide) (by rw [a23]; decide) rfl ?_
        refine aw_aload_n dL_law_619 rfl ?_
        obtain ⟨v183, h181, c182, hf⟩ := ob_some hf
        refine aw_callVi (N := mX6_octaves) (As := []) lkL_109 okX6_octaves (nl hN rfl) kd_0 rfl (by rfl) (by rfl) (Nat.le_of_ble_eq_true rfl) ry_L_law_X6_octaves dL_law_620 (And.intro (Nat.le_of_ble_eq_true rfl) (Nat.le_of_ble_eq_true rfl)) (ct_X6_octaves hE hN39 F qT qU c182) (aw_aload_n dL_law_623 rfl ?_)
        obtain ⟨v186, h184, c185, hf⟩ := ob_some hf
        refine aw_callVi (N := mX7_octaves) (As := []) lkL_112 okX7_octaves (nl hN rfl) kd_39 rfl (by rfl) (by rfl) (Nat.le_of_ble_eq_true rfl) ry_L_law_X7_octaves dL_law_624 (And.intro (Nat.le_of_ble_eq_true rfl) (Nat.le_of_ble_eq_true rfl)) (ct_X7_octaves hE hN F c185) ?_
        refine aw_icmp_eq 747 dL_law_627 rfl (fun g187 => ?_) (fun g187 => ?_)
        · replace hf := (if_pos g187).symm.trans hf
          refine aw_iinc (nI 4) dL_law_747 rfl (Nat.le_of_ble_eq_true rfl) ki_4 (aw_goto 18 dL_law_750 rfl ?_)
          exact aw_dk (ih _ _ _ qT qU hf) (And.intro rfl (And.intro rfl (And.intro rfl (And.intro rfl trivial))))
        · replace hf := (if_neg g187).symm.trans hf
          exact absurd hf (fun z => nomatch z)
      replace hf := (if_neg a23).symm.trans hf
      by_cases a24 : ((xs (ix x3)) &&& (nI 31)) = nI 24
      · replace hf := (if_pos a24).symm.trans hf
        refine aw_tableIn (off := 600) 632 dL_law_32 (by rw [a24]; decide) (by rw [a24]; decide) (by rw [a24]; decide) rfl ?_
        refine aw_aload_n dL_law_632 rfl (aw_aload_n dL_law_633 rfl (aw_iload_n dL_law_634 rfl (aw_iconst (nI 1) dL_law_635 ki_1 (aw_iadd dL_law_636 ?_))))
        obtain ⟨g188, hf⟩ := ogd hf
        refine aw_sld g188 dL_law_637 ?_
        obtain ⟨v191, h189, c190, hf⟩ := ob_some hf
        refine aw_callVi (N := mX6_melody) (As := [.int (xs (ix (x3 + (nI 1))))]) lkL_113 okX6_melody (nl hN rfl) kd_0 rfl (by rfl) (by rfl) (Nat.le_of_ble_eq_true rfl) ry_L_law_X6_melody dL_law_638 (And.intro (Nat.le_of_ble_eq_true rfl) (Nat.le_of_ble_eq_true rfl)) (ct_X6_melody hE hN39 F qT qU c190) (aw_aload_n dL_law_641 rfl (aw_aload_n dL_law_642 rfl (aw_iload_n dL_law_643 rfl (aw_iconst (nI 1) dL_law_644 ki_1 (aw_iadd dL_law_645 (aw_sld g188 dL_law_646 ?_))))))
        obtain ⟨v194, h192, c193, hf⟩ := ob_some hf
        refine aw_callVi (N := mX7_melody) (As := [.int (xs (ix (x3 + (nI 1))))]) lkL_116 okX7_melody (nl hN rfl) kd_39 rfl (by rfl) (by rfl) (Nat.le_of_ble_eq_true rfl) ry_L_law_X7_melody dL_law_647 (And.intro (Nat.le_of_ble_eq_true rfl) (Nat.le_of_ble_eq_true rfl)) (ct_X7_melody hE hN F c193) ?_
        refine aw_icmp_eq 747 dL_law_650 rfl (fun g195 => ?_) (fun g195 => ?_)
        · replace hf := (if_pos g195).symm.trans hf
          refine aw_iinc (nI 4) dL_law_747 rfl (Nat.le_of_ble_eq_true rfl) ki_4 (aw_goto 18 dL_law_750 rfl ?_)
          exact aw_dk (ih _ _ _ qT qU hf) (And.intro rfl (And.intro rfl (And.intro rfl (And.intro rfl trivial))))
        · replace hf := (if_neg g195).symm.trans hf
          exact absurd hf (fun z => nomatch z)
      replace hf := (if_neg a24).symm.trans hf
      by_cases a25 : ((xs (ix x3)) &&& (nI 31)) = nI 25
      · replace hf := (if_pos a25).symm.trans hf
        refine aw_tableIn (off := 623) 655 dL_law_32 (by rw [a25]; decide) (by rw [a25]; decide) (by rw [a25]; decide) rfl ?_
        refine aw_aload_n dL_law_655 rfl (aw_aload_n dL_law_656 rfl (aw_iload_n dL_law_657 rfl (aw_iconst (nI 1) dL_law_658 ki_1 (aw_iadd dL_law_659 ?_))))
        obtain ⟨g196, hf⟩ := ogd hf
        refine aw_sld g196 dL_law_660 (aw_aload_n dL_law_661 rfl (aw_iload_n dL_law_662 rfl (aw_iconst (nI 2) dL_law_663 ki_2 (aw_iadd dL_law_664 ?_))))
        obtain ⟨g197, hf⟩ := ogd hf
        refine aw_sld g197 dL_law_665 (aw_aload_n dL_law_666 rfl (aw_iload_n dL_law_667 rfl (aw_iconst (nI 3) dL_law_668 ki_3 (aw_iadd dL_law_669 ?_))))
        obtain ⟨g198, hf⟩ := ogd hf
        refine aw_sld g198 dL_law_670 ?_
        obtain ⟨v201, h199, c200, hf⟩ := ob_some hf
        refine aw_callVi (N := mX6_winter) (As := [.int (xs (ix (x3 + (nI 1)))), .int (xs (ix (x3 + (nI 2)))), .int (xs (ix (x3 + (nI 3))))]) lkL_117 okX6_winter (nl hN rfl) kd_0 rfl (by rfl) (by rfl) (Nat.le_of_ble_eq_true rfl) ry_L_law_X6_winter dL_law_671 (And.intro (Nat.le_of_ble_eq_true rfl) (Nat.le_of_ble_eq_true rfl)) (ct_X6_winter hE hN39 F qT qU c200) (aw_aload_n dL_law_674 rfl (aw_aload_n dL_law_675 rfl (aw_iload_n dL_law_676 rfl (aw_iconst (nI 1) dL_law_677 ki_1 (aw_iadd dL_law_678 (aw_sld g196 dL_law_679 (aw_aload_n dL_law_680 rfl (aw_iload_n dL_law_681 rfl (aw_iconst (nI 2) dL_law_682 ki_2 (aw_iadd dL_law_683 (aw_sld g197 dL_law_684 ?_)))))))))))
        refine aw_aload_n dL_law_685 rfl (aw_iload_n dL_law_686 rfl (aw_iconst (nI 3) dL_law_687 ki_3 (aw_iadd dL_law_688 (aw_sld g198 dL_law_689 ?_))))
        obtain ⟨v204, h202, c203, hf⟩ := ob_some hf
        refine aw_callVi (N := mX7_winter) (As := [.int (xs (ix (x3 + (nI 1)))), .int (xs (ix (x3 + (nI 2)))), .int (xs (ix (x3 + (nI 3))))]) lkL_121 okX7_winter (nl hN rfl) kd_39 rfl (by rfl) (by rfl) (Nat.le_of_ble_eq_true rfl) ry_L_law_X7_winter dL_law_690 (And.intro (Nat.le_of_ble_eq_true rfl) (Nat.le_of_ble_eq_true rfl)) (ct_X7_winter hE hN F c203) ?_
        refine aw_icmp_eq 747 dL_law_693 rfl (fun g205 => ?_) (fun g205 => ?_)
        · replace hf := (if_pos g205).symm.trans hf
          refine aw_iinc (nI 4) dL_law_747 rfl (Nat.le_of_ble_eq_true rfl) ki_4 (aw_goto 18 dL_law_750 rfl ?_)
          exact aw_dk (ih _ _ _ qT qU hf) (And.intro rfl (And.intro rfl (And.intro rfl (And.intro rfl trivial))))
        · replace hf := (if_neg g205).symm.trans hf
          exact absurd hf (fun z => nomatch z)
      replace hf := (if_neg a25).symm.trans hf
      by_cases a26 : ((xs (ix x3)) &&& (nI 31)) = nI 26
      · replace hf := (if_pos a26).symm.trans hf
        refine aw_tableIn (off := 666) 698 dL_law_32 (by rw [a26]; decide) (by rw [a26]; decide) (by rw [a26]; decide) rfl ?_
        refine aw_aload_n dL_law_698 rfl ?_
        obtain ⟨v208, h206, c207, hf⟩ := ob_some hf
        refine aw_callVi (N := mX6_keep) (As := []) lkL_122 okX6_keep (nl hN rfl) kd_0 rfl (by rfl) (by rfl) (Nat.le_of_ble_eq_true rfl) ry_L_law_X6_keep dL_law_699 (And.intro (Nat.le_of_ble_eq_true rfl) (Nat.le_of_ble_eq_true rfl)) (ct_X6_keep hE hN39 F qT qU c207) (aw_aload_n dL_law_702 rfl ?_)
        obtain ⟨v211, h209, c210, hf⟩ := ob_some hf
        refine aw_callVi (N := mX7_keep) (As := []) lkL_125 okX7_keep (nl hN rfl) kd_39 rfl (by rfl) (by rfl) (Nat.le_of_ble_eq_true rfl) ry_L_law_X7_keep dL_law_703 (And.intro (Nat.le_of_ble_eq_true rfl) (Nat.le_of_ble_eq_true rfl)) (ct_X7_keep hE hN F c210) ?_
        refine aw_icmp_eq 747 dL_law_706 rfl (fun g212 => ?_) (fun g212 => ?_)
        · replace hf := (if_pos g212).symm.trans hf
          refine aw_iinc (nI 4) dL_law_747 rfl (Nat.le_of_ble_eq_true rfl) ki_4 (aw_goto 18 dL_law_750 rfl ?_)
          exact aw_dk (ih _ _ _ qT qU hf) (And.intro rfl (And.intro rfl (And.intro rfl (And.intro rfl trivial))))
        · replace hf := (if_neg g212).symm.trans hf
          exact absurd hf (fun z => nomatch z)
      replace hf := (if_neg a26).symm.trans hf
      by_cases a27 : ((xs (ix x3)) &&& (nI 31)) = nI 27
      · replace hf := (if_pos a27).symm.trans hf
        refine aw_tableIn (off := 679) 711 dL_law_32 (by rw [a27]; decide) (by rw [a27]; decide) (by rw [a27]; decide) rfl ?_
        refine aw_aload_n dL_law_711 rfl ?_
        obtain ⟨v215, h213, c214, hf⟩ := ob_some hf
        refine aw_callVi (N := mX6_back) (As := []) lkL_126 okX6_back (nl hN rfl) kd_0 rfl (by rfl) (by rfl) (Nat.le_of_ble_eq_true rfl) ry_L_law_X6_back dL_law_712 (And.intro (Nat.le_of_ble_eq_true rfl) (Nat.le_of_ble_eq_true rfl)) (ct_X6_back hE hN39 F qT qU c214) (aw_aload_n dL_law_715 rfl ?_)
        obtain ⟨v218, h216, c217, hf⟩ := ob_some hf
        refine aw_callVi (N := mX7_back) (As := []) lkL_129 okX7_back (nl hN rfl) kd_39 rfl (by rfl) (by rfl) (Nat.le_of_ble_eq_true rfl) ry_L_law_X7_back dL_law_716 (And.intro (Nat.le_of_ble_eq_true rfl) (Nat.le_of_ble_eq_true rfl)) (ct_X7_back hE hN F c217) ?_
        refine aw_icmp_eq 747 dL_law_719 rfl (fun g219 => ?_) (fun g219 => ?_)
        · replace hf := (if_pos g219).symm.trans hf
          refine aw_iinc (nI 4) dL_law_747 rfl (Nat.le_of_ble_eq_true rfl) ki_4 (aw_goto 18 dL_law_750 rfl ?_)
          exact aw_dk (ih _ _ _ qT qU hf) (And.intro rfl (And.intro rfl (And.intro rfl (And.intro rfl trivial))))
        · replace hf := (if_neg g219).symm.trans hf
          exact absurd hf (fun z => nomatch z)
      replace hf := (if_neg a27).symm.trans hf
      by_cases a28 : ((xs (ix x3)) &&& (nI 31)) = nI 28
      · replace hf := (if_pos a28).symm.trans hf
        refine aw_tableIn (off := 692) 724 dL_law_32 (by rw [a28]; decide) (by rw [a28]; decide) (by rw [a28]; decide) rfl ?_
        refine aw_aload_n dL_law_724 rfl (aw_aload_n dL_law_725 rfl (aw_iload_n dL_law_726 rfl (aw_iconst (nI 1) dL_law_727 ki_1 (aw_iadd dL_law_728 ?_))))
        obtain ⟨g220, hf⟩ := ogd hf
        refine aw_sld g220 dL_law_729 ?_
        obtain ⟨v223, h221, c222, hf⟩ := ob_some hf
        refine aw_callVi (N := mX6_count) (As := [.int (xs (ix (x3 + (nI 1))))]) lkL_130 okX6_count (nl hN rfl) kd_0 rfl (by rfl) (by rfl) (Nat.le_of_ble_eq_true rfl) ry_L_law_X6_count dL_law_730 (And.intro (Nat.le_of_ble_eq_true rfl) (Nat.le_of_ble_eq_true rfl)) (ct_X6_count hE hN39 F qT qU c222) (aw_aload_n dL_law_733 rfl (aw_aload_n dL_law_734 rfl (aw_iload_n dL_law_735 rfl (aw_iconst (nI 1) dL_law_736 ki_1 (aw_iadd dL_law_737 (aw_sld g220 dL_law_738 ?_))))))
        obtain ⟨v226, h224, c225, hf⟩ := ob_some hf
        refine aw_callVi (N := mX7_count) (As := [.int (xs (ix (x3 + (nI 1))))]) lkL_133 okX7_count (nl hN rfl) kd_39 rfl (by rfl) (by rfl) (Nat.le_of_ble_eq_true rfl) ry_L_law_X7_count dL_law_739 (And.intro (Nat.le_of_ble_eq_true rfl) (Nat.le_of_ble_eq_true rfl)) (ct_X7_count hE hN F c225) ?_
        refine aw_icmp_eq 747 dL_law_742 rfl (fun g227 => ?_) (fun g227 => ?_)
        · replace hf := (if_pos g227).symm.trans hf
          refine aw_iinc (nI 4) dL_law_747 rfl (Nat.le_of_ble_eq_true rfl) ki_4 (aw_goto 18 dL_law_750 rfl ?_)
          exact aw_dk (ih _ _ _ qT qU hf) (And.intro rfl (And.intro rfl (And.intro rfl (And.intro rfl trivial))))
        · replace hf := (if_neg g227).symm.trans hf
          exact absurd hf (fun z => nomatch z)
      replace hf := (if_neg a28).symm.trans hf
      refine aw_tableOut 747 dL_law_32 (tbl_out 28 [nI 0, nI 1, nI 2, nI 3, nI 4, nI 5, nI 6, nI 7, nI 8, nI 9, nI 10, nI 11, nI 12, nI 13, nI 14, nI 15, nI 16, nI 17, nI 18, nI 19, nI 20, nI 21, nI 22, nI 23, nI 24, nI 25, nI 26, nI 27, nI 28] (by rfl) (by intro k hk; simp only [List.mem_cons, List.not_mem_nil, or_false] at hk; rcases hk with rfl | rfl | rfl | rfl | rfl | rfl | rfl | rfl | rfl | rfl | rfl | rfl | rfl | rfl | rfl | rfl | rfl | rfl | rfl | rfl | rfl | rfl | rfl | rfl | rfl | rfl | rfl | rfl | rfl <;> assumption)) rfl ?_
      refine aw_iinc (nI 4) dL_law_747 rfl (Nat.le_of_ble_eq_true rfl) ki_4 (aw_goto 18 dL_law_750 rfl ?_)
      exact aw_dk (ih _ _ _ qT qU hf) (And.intro rfl (And.intro rfl (And.intro rfl (And.intro rfl trivial))))
