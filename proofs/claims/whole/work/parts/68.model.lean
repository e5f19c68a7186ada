/-! ===== the reference's constructor ===== -/
def f_inp (F : Nat) : List Nat → HP → Option HP
  | [], h => f_X7_begins F h
  | x :: t, h => ob (f_X7_put F (nI x) h) (fun _ h1 => f_inp F t h1)
def f_inm (F : Nat) (h : HP) : Option HP :=
  obv (f_X7_clean F h) (fun h1 => obv (f_X7_comes F (nI 0) (nI 1) h1) (fun h2 => obv (f_X7_comes F (nI 4) (nI 1) h2) (fun h3 => obv (f_X7_comes F (nI 7) (nI 2) h3) (fun h4 => f_inp F [1, 2, 1, 2, 5, 0, 0, 4, 2, 4, 2, 4, 0] (up h4 41 1 (nI 14))))))
def FM (ad : Nat → Nat) (a sz x : Nat) : Prop := (∃ k, k < 39 ∧ x = ad k) ∨ x = a ∨ sz ≤ x
def ad56 (b : Nat) (ad ad2 : Nat → Nat) : Nat → Nat := fun k => if k < 39 then ad k else if k < 56 then ad2 (k - 39) else b
def h56 (h : HP) : HP := fun k => if k < 39 then h k else fun _ => nI 0
theorem CBo.of2 {E : EV} {M : MI} {X : State → Prop} {FA : Nat → Nat → Prop} {W0 : va_W} {a : Nat} {av : List Value} {mc ms : Nat} {mk : (Nat → Nat) → va_W} (hpl : plainFor (mY M) = true) (hlen : (lg_sl (.ref a :: av)).length ≤ mL M) (hFA : ∀ sz q, sz ≤ q → FA sz q) (hD0 : ∀ U, X U → va_D (FA U.heap.size) W0)
    (k : BW E M (KB E M X FA a mc ms mk) W0 0 0 0 (lv_args 0 (.ref a :: av)) []) : CBo E M X FA W0 a av mc ms mk := by
  intro sz
  refine met_of (cc := mC M) (maxL := mL M) (ret := mR M) hpl rfl ?_
  intro p e s m args below meth c s₁ B hml hv
  obtain ⟨rfl, hsz, hP, hK, hX⟩ := hv
  subst hsz
  have hts := atoms_spec (ws := wds M) B.pre
  have hown : s.vm.findClass (mY M).cls = some m.cls := findClass_of_methodNamed B.named
  have hl := lv_entry (.ref a :: av) (n := mL M) hlen
  rw [lg_entry_eq]
  generalize (lg_sl (.ref a :: av) ++ List.replicate (mL M - (lg_sl (.ref a :: av)).length) Slot.unset).toArray = ls at hl ⊢
  exact k p e s m _ below meth c s.heap ls [] ⟨B.exec, B.bytes, B.returns, hml, hown, fun w hw => hts w (List.mem_cons_of_mem _ hw), hK, B.notSynchronized, fun hi => (name_of_methodNamed B.named B.method).1.trans hi, fun q hq => hFA _ q hq, hX⟩ hP (hD0 s hX) va_S.rf hl
set_option maxHeartbeats 4000000 in
theorem ct_inm {E : EV} (hE : EI E) (hN : 56 ≤ eN E) (F : Nat) {K : KX} {tw : TW} (hR : 1 ≤ K.1.frames ∧ 64 ≤ K.1.locals) (hR2 : K.2.1 ≤ K.1.cells ∧ K.2.2.1 ≤ K.1.slots) {h h' : HP} (kr : AW E mX7_init K tw h' 249 [none] []) (hf : f_inm F h = some h') : AW E mX7_init K tw h 136 [some (.ref 39)] [] := by
  have ry : ∀ N : MI, mD N + 1 ≤ 1 → 8 + (mL N + 11) + 64 * mD N ≤ 64 → roomy N K.1 := fun N h1 h2 => ⟨Nat.le_trans h1 hR.1, Nat.le_trans h2 hR.2⟩
  refine aw_aload_n dX7_init_136 rfl (?_)
  obtain ⟨h0, c0, hf⟩ := obv_end hf
  refine aw_callVv (N := mX7_clean) (As := []) lkX7_59 okX7_clean (nl hN rfl) kd_39 rfl (by rfl) (by rfl) (Nat.le_of_ble_eq_true rfl) (ry _ (Nat.le_of_ble_eq_true rfl) (Nat.le_of_ble_eq_true rfl)) dX7_init_137 hR2 (ct_X7_clean hE hN F c0) ?_
  refine aw_aload_n dX7_init_140 rfl (aw_iconst (nI 0) dX7_init_141 (by decide) (aw_iconst (nI 1) dX7_init_142 (by decide) (?_)))
  obtain ⟨h1, c1, hf⟩ := obv_end hf
  refine aw_callVv (N := mX7_comes) (As := [.int (nI 0), .int (nI 1)]) lkX7_62 okX7_comes (nl hN rfl) kd_39 rfl (by rfl) (by rfl) (Nat.le_of_ble_eq_true rfl) (ry _ (Nat.le_of_ble_eq_true rfl) (Nat.le_of_ble_eq_true rfl)) dX7_init_143 hR2 (ct_X7_comes hE hN F c1) ?_
  refine aw_aload_n dX7_init_146 rfl (aw_iconst (nI 4) dX7_init_147 (by decide) (aw_iconst (nI 1) dX7_init_148 (by decide) (?_)))
  obtain ⟨h2, c2, hf⟩ := obv_end hf
  refine aw_callVv (N := mX7_comes) (As := [.int (nI 4), .int (nI 1)]) lkX7_62 okX7_comes (nl hN rfl) kd_39 rfl (by rfl) (by rfl) (Nat.le_of_ble_eq_true rfl) (ry _ (Nat.le_of_ble_eq_true rfl) (Nat.le_of_ble_eq_true rfl)) dX7_init_149 hR2 (ct_X7_comes hE hN F c2) ?_
  refine aw_aload_n dX7_init_152 rfl (aw_bipush (nI 7) dX7_init_153 (by decide) (aw_iconst (nI 2) dX7_init_155 (by decide) (?_)))
  obtain ⟨h3, c3, hf⟩ := obv_end hf
  refine aw_callVv (N := mX7_comes) (As := [.int (nI 7), .int (nI 2)]) lkX7_62 okX7_comes (nl hN rfl) kd_39 rfl (by rfl) (by rfl) (Nat.le_of_ble_eq_true rfl) (ry _ (Nat.le_of_ble_eq_true rfl) (Nat.le_of_ble_eq_true rfl)) dX7_init_156 hR2 (ct_X7_comes hE hN F c3) ?_
  refine aw_aload_n dX7_init_159 rfl (aw_getr fkX7_13 (nl hN rfl) kd_39 (Nat.le_of_ble_eq_true rfl) rfl dX7_init_160 (aw_iconst (nI 1) dX7_init_163 (by decide) (aw_bipush (nI 14) dX7_init_164 (by decide) ?_)))
  refine aw_iast (q := 41) (N := 19) (nl hN rfl) rfl (by decide) dX7_init_166 ?_
  refine aw_aload_n dX7_init_167 rfl (aw_iconst (nI 1) dX7_init_168 (by decide) (?_))
  obtain ⟨v4, h4, c4, hf⟩ := ob_end hf
  refine aw_callVi (N := mX7_put) (As := [.int (nI 1)]) lkX7_66 okX7_put (nl hN rfl) kd_39 rfl (by rfl) (by rfl) (Nat.le_of_ble_eq_true rfl) (ry _ (Nat.le_of_ble_eq_true rfl) (Nat.le_of_ble_eq_true rfl)) dX7_init_169 hR2 (ct_X7_put hE hN F c4) ?_
  refine aw_pop dX7_init_172 rfl ?_
  refine aw_aload_n dX7_init_173 rfl (aw_iconst (nI 2) dX7_init_174 (by decide) (?_))
  obtain ⟨v5, h5, c5, hf⟩ := ob_end hf
  refine aw_callVi (N := mX7_put) (As := [.int (nI 2)]) lkX7_66 okX7_put (nl hN rfl) kd_39 rfl (by rfl) (by rfl) (Nat.le_of_ble_eq_true rfl) (ry _ (Nat.le_of_ble_eq_true rfl) (Nat.le_of_ble_eq_true rfl)) dX7_init_175 hR2 (ct_X7_put hE hN F c5) ?_
  refine aw_pop dX7_init_178 rfl ?_
  refine aw_aload_n dX7_init_179 rfl (aw_iconst (nI 1) dX7_init_180 (by decide) (?_))
  obtain ⟨v6, h6, c6, hf⟩ := ob_end hf
  refine aw_callVi (N := mX7_put) (As := [.int (nI 1)]) lkX7_66 okX7_put (nl hN rfl) kd_39 rfl (by rfl) (by rfl) (Nat.le_of_ble_eq_true rfl) (ry _ (Nat.le_of_ble_eq_true rfl) (Nat.le_of_ble_eq_true rfl)) dX7_init_181 hR2 (ct_X7_put hE hN F c6) ?_
  refine aw_pop dX7_init_184 rfl ?_
  refine aw_aload_n dX7_init_185 rfl (aw_iconst (nI 2) dX7_init_186 (by decide) (?_))
  obtain ⟨v7, h7, c7, hf⟩ := ob_end hf
  refine aw_callVi (N := mX7_put) (As := [.int (nI 2)]) lkX7_66 okX7_put (nl hN rfl) kd_39 rfl (by rfl) (by rfl) (Nat.le_of_ble_eq_true rfl) (ry _ (Nat.le_of_ble_eq_true rfl) (Nat.le_of_ble_eq_true rfl)) dX7_init_187 hR2 (ct_X7_put hE hN F c7) ?_
  refine aw_pop dX7_init_190 rfl ?_
  refine aw_aload_n dX7_init_191 rfl (aw_iconst (nI 5) dX7_init_192 (by decide) (?_))
  obtain ⟨v8, h8, c8, hf⟩ := ob_end hf
  refine aw_callVi (N := mX7_put) (As := [.int (nI 5)]) lkX7_66 okX7_put (nl hN rfl) kd_39 rfl (by rfl) (by rfl) (Nat.le_of_ble_eq_true rfl) (ry _ (Nat.le_of_ble_eq_true rfl) (Nat.le_of_ble_eq_true rfl)) dX7_init_193 hR2 (ct_X7_put hE hN F c8) ?_
  refine aw_pop dX7_init_196 rfl ?_
  refine aw_aload_n dX7_init_197 rfl (aw_iconst (nI 0) dX7_init_198 (by decide) (?_))
  obtain ⟨v9, h9, c9, hf⟩ := ob_end hf
  refine aw_callVi (N := mX7_put) (As := [.int (nI 0)]) lkX7_66 okX7_put (nl hN rfl) kd_39 rfl (by rfl) (by rfl) (Nat.le_of_ble_eq_true rfl) (ry _ (Nat.le_of_ble_eq_true rfl) (Nat.le_of_ble_eq_true rfl)) dX7_init_199 hR2 (ct_X7_put hE hN F c9) ?_
  refine aw_pop dX7_init_202 rfl ?_
  refine aw_aload_n dX7_init_203 rfl (aw_iconst (nI 0) dX7_init_204 (by decide) (?_))
  obtain ⟨v10, h10, c10, hf⟩ := ob_end hf
  refine aw_callVi (N := mX7_put) (As := [.int (nI 0)]) lkX7_66 okX7_put (nl hN rfl) kd_39 rfl (by rfl) (by rfl) (Nat.le_of_ble_eq_true rfl) (ry _ (Nat.le_of_ble_eq_true rfl) (Nat.le_of_ble_eq_true rfl)) dX7_init_205 hR2 (ct_X7_put hE hN F c10) ?_
  refine aw_pop dX7_init_208 rfl ?_
  refine aw_aload_n dX7_init_209 rfl (aw_iconst (nI 4) dX7_init_210 (by decide) (?_))
  obtain ⟨v11, h11, c11, hf⟩ := ob_end hf
  refine aw_callVi (N := mX7_put) (As := [.int (nI 4)]) lkX7_66 okX7_put (nl hN rfl) kd_39 rfl (by rfl) (by rfl) (Nat.le_of_ble_eq_true rfl) (ry _ (Nat.le_of_ble_eq_true rfl) (Nat.le_of_ble_eq_true rfl)) dX7_init_211 hR2 (ct_X7_put hE hN F c11) ?_
  refine aw_pop dX7_init_214 rfl ?_
  refine aw_aload_n dX7_init_215 rfl (aw_iconst (nI 2) dX7_init_216 (by decide) (?_))
  obtain ⟨v12, h12, c12, hf⟩ := ob_end hf
  refine aw_callVi (N := mX7_put) (As := [.int (nI 2)]) lkX7_66 okX7_put (nl hN rfl) kd_39 rfl (by rfl) (by rfl) (Nat.le_of_ble_eq_true rfl) (ry _ (Nat.le_of_ble_eq_true rfl) (Nat.le_of_ble_eq_true rfl)) dX7_init_217 hR2 (ct_X7_put hE hN F c12) ?_
  refine aw_pop dX7_init_220 rfl ?_
  refine aw_aload_n dX7_init_221 rfl (aw_iconst (nI 4) dX7_init_222 (by decide) (?_))
  obtain ⟨v13, h13, c13, hf⟩ := ob_end hf
  refine aw_callVi (N := mX7_put) (As := [.int (nI 4)]) lkX7_66 okX7_put (nl hN rfl) kd_39 rfl (by rfl) (by rfl) (Nat.le_of_ble_eq_true rfl) (ry _ (Nat.le_of_ble_eq_true rfl) (Nat.le_of_ble_eq_true rfl)) dX7_init_223 hR2 (ct_X7_put hE hN F c13) ?_
  refine aw_pop dX7_init_226 rfl ?_
  refine aw_aload_n dX7_init_227 rfl (aw_iconst (nI 2) dX7_init_228 (by decide) (?_))
  obtain ⟨v14, h14, c14, hf⟩ := ob_end hf
  refine aw_callVi (N := mX7_put) (As := [.int (nI 2)]) lkX7_66 okX7_put (nl hN rfl) kd_39 rfl (by rfl) (by rfl) (Nat.le_of_ble_eq_true rfl) (ry _ (Nat.le_of_ble_eq_true rfl) (Nat.le_of_ble_eq_true rfl)) dX7_init_229 hR2 (ct_X7_put hE hN F c14) ?_
  refine aw_pop dX7_init_232 rfl ?_
  refine aw_aload_n dX7_init_233 rfl (aw_iconst (nI 4) dX7_init_234 (by decide) (?_))
  obtain ⟨v15, h15, c15, hf⟩ := ob_end hf
  refine aw_callVi (N := mX7_put) (As := [.int (nI 4)]) lkX7_66 okX7_put (nl hN rfl) kd_39 rfl (by rfl) (by rfl) (Nat.le_of_ble_eq_true rfl) (ry _ (Nat.le_of_ble_eq_true rfl) (Nat.le_of_ble_eq_true rfl)) dX7_init_235 hR2 (ct_X7_put hE hN F c15) ?_
  refine aw_pop dX7_init_238 rfl ?_
  refine aw_aload_n dX7_init_239 rfl (aw_iconst (nI 0) dX7_init_240 (by decide) (?_))
  obtain ⟨v16, h16, c16, hf⟩ := ob_end hf
  refine aw_callVi (N := mX7_put) (As := [.int (nI 0)]) lkX7_66 okX7_put (nl hN rfl) kd_39 rfl (by rfl) (by rfl) (Nat.le_of_ble_eq_true rfl) (ry _ (Nat.le_of_ble_eq_true rfl) (Nat.le_of_ble_eq_true rfl)) dX7_init_241 hR2 (ct_X7_put hE hN F c16) ?_
  refine aw_pop dX7_init_244 rfl ?_
  refine aw_aload_n dX7_init_245 rfl (?_)
  refine aw_callVv (N := mX7_begins) (As := []) lkX7_70 okX7_begins (nl hN rfl) kd_39 rfl (by rfl) (by rfl) (Nat.le_of_ble_eq_true rfl) (ry _ (Nat.le_of_ble_eq_true rfl) (Nat.le_of_ble_eq_true rfl)) dX7_init_246 hR2 (ct_X7_begins hE hN F hf) ?_
  exact aw_dk kr trivial
def adM (a q1 q2 q3 q4 q5 q6 q7 q8 q9 q10 q11 q12 q13 q14 q15 q16 : Nat) : Nat → Nat := fun k => [a, q1, q2, q3, q4, q5, q6, q7, q8, q9, q10, q11, q12, q13, q14, q15, q16].getD k 0
set_option maxRecDepth 100000 in
set_option maxHeartbeats 4000000 in
theorem wE56 {E : EV} {b : Nat} (ad ad2 : Nat → Nat) (h : HP) : ∀ k, k < 39 → wE (eS E (ad56 b ad ad2) 56) (9, 4) (h56 h) k = wE (eS E ad 39) (9, 4) h k := by
  have main : ∀ k, k < 39 → k ≠ 31 → wE (eS E (ad56 b ad ad2) 56) (9, 4) (h56 h) k = wE (eS E ad 39) (9, 4) h k := by
    intro k hk hne
    match k, hk, hne with
    | 0, _, _ => rfl
    | 1, _, _ => rfl
    | 2, _, _ => rfl
    | 3, _, _ => rfl
    | 4, _, _ => rfl
    | 5, _, _ => rfl
    | 6, _, _ => rfl
    | 7, _, _ => rfl
    | 8, _, _ => rfl
    | 9, _, _ => rfl
    | 10, _, _ => rfl
    | 11, _, _ => rfl
    | 12, _, _ => rfl
    | 13, _, _ => rfl
    | 14, _, _ => rfl
    | 15, _, _ => rfl
    | 16, _, _ => rfl
    | 17, _, _ => rfl
    | 18, _, _ => rfl
    | 19, _, _ => rfl
    | 20, _, _ => rfl
    | 21, _, _ => rfl
    | 22, _, _ => rfl
    | 23, _, _ => rfl
    | 24, _, _ => rfl
    | 25, _, _ => rfl
    | 26, _, _ => rfl
    | 27, _, _ => rfl
    | 28, _, _ => rfl
    | 29, _, _ => rfl
    | 30, _, _ => rfl
    | 31, _, h => exact absurd rfl h
    | 32, _, _ => rfl
    | 33, _, _ => rfl
    | 34, _, _ => rfl
    | 35, _, _ => rfl
    | 36, _, _ => rfl
    | 37, _, _ => rfl
    | 38, _, _ => rfl
    | k + 39, hk, _ => exact absurd hk (by omega)
  intro k hk
  by_cases z : k = 31
  · subst z
    have : (fun j => if j < 4 then some (ad56 b ad ad2 (31 + 1 + j)) else none) = (fun j => if j < 4 then some (ad (31 + 1 + j)) else none) := by
      funext j
      by_cases hj : j < 4
      · have : j = 0 ∨ j = 1 ∨ j = 2 ∨ j = 3 := by omega
        rcases this with rfl | rfl | rfl | rfl <;> rfl
      · rw [if_neg hj, if_neg hj]
    exact congrArg (fun f => (Sum.inl (eO E, 4, Sum.inr (Sum.inr (Sum.inr (Sum.inr f)))) : va_E)) this
  · exact main k hk z
set_option maxRecDepth 100000 in
set_option maxHeartbeats 4000000 in
theorem w56 {E : EV} (b : Nat) (ad : Nat → Nat) (h : HP) (a q1 q2 q3 q4 q5 q6 q7 q8 q9 q10 q11 q12 q13 q14 q15 q16 : Nat) : wW (eS E ad 39) (9, 4) h ++ (a, .inr (7, [.ref q1, .ref q2, .ref q3, .int (nI 0), .ref q4, .ref q5, .int (nI 0), .ref q6, .int (nI 0), .ref q7, .int (nI 0), .ref q8, .ref q9, .int (nI 0), .int (nI 0), .int (nI 0), .ref q10, .ref q11, .ref q12, .ref q13, .ref q14, .ref q15, .ref q16])) :: [(q1, zr E 19), (q2, zr E 19), (q3, zr E 32), (q4, zr E 66), (q5, zr E 528), (q6, zr E 132), (q7, zr E 200), (q8, zr E 32), (q9, zr E 8), (q10, zr E 2), (q11, zr E 3), (q12, zr E 32), (q13, zr E 66), (q14, zr E 4356), (q15, zr E 256), (q16, zz E 256)] = wW (eS E (ad56 b ad (adM a q1 q2 q3 q4 q5 q6 q7 q8 q9 q10 q11 q12 q13 q14 q15 q16)) 56) (9, 4) (h56 h) := by
  have e1 : wW (eS E (ad56 b ad (adM a q1 q2 q3 q4 q5 q6 q7 q8 q9 q10 q11 q12 q13 q14 q15 q16)) 56) (9, 4) (h56 h) = (List.range 39).map (fun k => (ad56 b ad (adM a q1 q2 q3 q4 q5 q6 q7 q8 q9 q10 q11 q12 q13 q14 q15 q16) k, wE (eS E (ad56 b ad (adM a q1 q2 q3 q4 q5 q6 q7 q8 q9 q10 q11 q12 q13 q14 q15 q16)) 56) (9, 4) (h56 h) k)) ++ (List.range 17).map (fun i => (ad56 b ad (adM a q1 q2 q3 q4 q5 q6 q7 q8 q9 q10 q11 q12 q13 q14 q15 q16) (39 + i), wE (eS E (ad56 b ad (adM a q1 q2 q3 q4 q5 q6 q7 q8 q9 q10 q11 q12 q13 q14 q15 q16)) 56) (9, 4) (h56 h) (39 + i))) := by
    unfold wW
    show (List.range 56).map _ = _
    rw [show List.range 56 = List.range 39 ++ (List.range 17).map (fun i => 39 + i) by decide, List.map_append, List.map_map]
    rfl
  rw [e1]
  have e2 : (List.range 39).map (fun k => (ad56 b ad (adM a q1 q2 q3 q4 q5 q6 q7 q8 q9 q10 q11 q12 q13 q14 q15 q16) k, wE (eS E (ad56 b ad (adM a q1 q2 q3 q4 q5 q6 q7 q8 q9 q10 q11 q12 q13 q14 q15 q16)) 56) (9, 4) (h56 h) k)) = wW (eS E ad 39) (9, 4) h := by
    unfold wW
    refine List.map_congr_left (fun k hk => ?_)
    have hk' : k < 39 := List.mem_range.mp hk
    show (ad56 b ad (adM a q1 q2 q3 q4 q5 q6 q7 q8 q9 q10 q11 q12 q13 q14 q15 q16) k, _) = (ad k, _)
    rw [wE56 ad _ h k hk', show ad56 b ad (adM a q1 q2 q3 q4 q5 q6 q7 q8 q9 q10 q11 q12 q13 q14 q15 q16) k = ad k from if_pos hk']
  rw [e2]
  rfl
def X7 (E : EV) (ad : Nat → Nat) (h : HP) (a : Nat) (U : State) : Prop := va_D (FM ad a U.heap.size) (wW (eS E ad 39) (9, 4) h ++ [(a, .inr (7, bl7))])
set_option maxRecDepth 100000 in
set_option maxHeartbeats 4000000 in
theorem cb_X7_init {E : EV} {F b : Nat} {ad : Nat → Nat} {h hJ : HP} (hf : f_inm F (h56 h) = some hJ) (a : Nat) : CBo E mX7_init (X7 E ad h a) (FM ad a) (wW (eS E ad 39) (9, 4) h ++ [(a, .inr (7, bl7))]) a [] 16 6007 (fun ad2 => wW (eS E (ad56 b ad ad2) 56) (9, 4) hJ) := by
  refine CBo.of2 (by decide +kernel) (Nat.le_of_ble_eq_true rfl) (fun sz q h => Or.inr (Or.inr h)) (fun U hU => hU) ?_
  have hw := fun q1 q2 q3 q4 q5 q6 q7 q8 q9 q10 q11 q12 q13 q14 q15 q16 => w56 (E := E) b ad h a q1 q2 q3 q4 q5 q6 q7 q8 q9 q10 q11 q12 q13 q14 q15 q16
  generalize wW (eS E ad 39) (9, 4) h = W9 at hw ⊢
  refine bw_aload 0 dX7_init_0 rfl ?_
  refine bw_obj liX7_1 gObjI gObjC dX7_init_1 (Nat.le_of_ble_eq_true rfl) (Nat.le_of_ble_eq_true rfl) ?_
  refine bw_aload 0 dX7_init_4 rfl ?_
  refine bw_bipush (nI 19) dX7_init_5 (by decide) ?_
  refine bw_newi 19 gArrI rfl (Nat.le_of_ble_eq_true rfl) dX7_init_7 ⟨(Nat.le_of_ble_eq_true rfl), (Nat.le_of_ble_eq_true rfl)⟩ (fun q1 => ?_)
  rw [List.append_assoc]
  show BW E mX7_init _ (W9 ++ (a, .inr (7, [.null, .null, .null, .int (nI 0), .null, .null, .int (nI 0), .null, .int (nI 0), .null, .int (nI 0), .null, .null, .int (nI 0), .int (nI 0), .int (nI 0), .null, .null, .null, .null, .null, .null, .null])) :: [(q1, zr E 19)]) _ _ 9 _ _
  refine bw_putF (pre := W9) (post := [(q1, zr E 19)]) (a := a) (fs := [.null, .null, .null, .int (nI 0), .null, .null, .int (nI 0), .null, .int (nI 0), .null, .int (nI 0), .null, .null, .int (nI 0), .int (nI 0), .int (nI 0), .null, .null, .null, .null, .null, .null, .null]) (v := .ref q1) fkX7_7 fwF_7_0 rfl (Nat.le_of_ble_eq_true rfl) rfl rfl dX7_init_9 ?_
  refine bw_aload 0 dX7_init_12 rfl ?_
  refine bw_bipush (nI 19) dX7_init_13 (by decide) ?_
  refine bw_newi 19 gArrI rfl (Nat.le_of_ble_eq_true rfl) dX7_init_15 ⟨(Nat.le_of_ble_eq_true rfl), (Nat.le_of_ble_eq_true rfl)⟩ (fun q2 => ?_)
  rw [List.append_assoc]
  show BW E mX7_init _ (W9 ++ (a, .inr (7, [.ref q1, .null, .null, .int (nI 0), .null, .null, .int (nI 0), .null, .int (nI 0), .null, .int (nI 0), .null, .null, .int (nI 0), .int (nI 0), .int (nI 0), .null, .null, .null, .null, .null, .null, .null])) :: [(q1, zr E 19), (q2, zr E 19)]) _ _ 17 _ _
  refine bw_putF (pre := W9) (post := [(q1, zr E 19), (q2, zr E 19)]) (a := a) (fs := [.ref q1, .null, .null, .int (nI 0), .null, .null, .int (nI 0), .null, .int (nI 0), .null, .int (nI 0), .null, .null, .int (nI 0), .int (nI 0), .int (nI 0), .null, .null, .null, .null, .null, .null, .null]) (v := .ref q2) fkX7_13 fwF_7_1 rfl (Nat.le_of_ble_eq_true rfl) rfl rfl dX7_init_17 ?_
  refine bw_aload 0 dX7_init_20 rfl ?_
  refine bw_bipush (nI 32) dX7_init_21 (by decide) ?_
  refine bw_newi 32 gArrI rfl (Nat.le_of_ble_eq_true rfl) dX7_init_23 ⟨(Nat.le_of_ble_eq_true rfl), (Nat.le_of_ble_eq_true rfl)⟩ (fun q3 => ?_)
  rw [List.append_assoc]
  show BW E mX7_init _ (W9 ++ (a, .inr (7, [.ref q1, .ref q2, .null, .int (nI 0), .null, .null, .int (nI 0), .null, .int (nI 0), .null, .int (nI 0), .null, .null, .int (nI 0), .int (nI 0), .int (nI 0), .null, .null, .null, .null, .null, .null, .null])) :: [(q1, zr E 19), (q2, zr E 19), (q3, zr E 32)]) _ _ 25 _ _
  refine bw_putF (pre := W9) (post := [(q1, zr E 19), (q2, zr E 19), (q3, zr E 32)]) (a := a) (fs := [.ref q1, .ref q2, .null, .int (nI 0), .null, .null, .int (nI 0), .null, .int (nI 0), .null, .int (nI 0), .null, .null, .int (nI 0), .int (nI 0), .int (nI 0), .null, .null, .null, .null, .null, .null, .null]) (v := .ref q3) fkX7_16 fwF_7_2 rfl (Nat.le_of_ble_eq_true rfl) rfl rfl dX7_init_25 ?_
  refine bw_aload 0 dX7_init_28 rfl ?_
  refine bw_bipush (nI 66) dX7_init_29 (by decide) ?_
  refine bw_newi 66 gArrI rfl (Nat.le_of_ble_eq_true rfl) dX7_init_31 ⟨(Nat.le_of_ble_eq_true rfl), (Nat.le_of_ble_eq_true rfl)⟩ (fun q4 => ?_)
  rw [List.append_assoc]
  show BW E mX7_init _ (W9 ++ (a, .inr (7, [.ref q1, .ref q2, .ref q3, .int (nI 0), .null, .null, .int (nI 0), .null, .int (nI 0), .null, .int (nI 0), .null, .null, .int (nI 0), .int (nI 0), .int (nI 0), .null, .null, .null, .null, .null, .null, .null])) :: [(q1, zr E 19), (q2, zr E 19), (q3, zr E 32), (q4, zr E 66)]) _ _ 33 _ _
  refine bw_putF (pre := W9) (post := [(q1, zr E 19), (q2, zr E 19), (q3, zr E 32), (q4, zr E 66)]) (a := a) (fs := [.ref q1, .ref q2, .ref q3, .int (nI 0), .null, .null, .int (nI 0), .null, .int (nI 0), .null, .int (nI 0), .null, .null, .int (nI 0), .int (nI 0), .int (nI 0), .null, .null, .null, .null, .null, .null, .null]) (v := .ref q4) fkX7_19 fwF_7_4 rfl (Nat.le_of_ble_eq_true rfl) rfl rfl dX7_init_33 ?_
  refine bw_aload 0 dX7_init_36 rfl ?_
  refine bw_sipush (nI 528) dX7_init_37 (by decide) ?_
  refine bw_newi 528 gArrI rfl (Nat.le_of_ble_eq_true rfl) dX7_init_40 ⟨(Nat.le_of_ble_eq_true rfl), (Nat.le_of_ble_eq_true rfl)⟩ (fun q5 => ?_)
  rw [List.append_assoc]
  show BW E mX7_init _ (W9 ++ (a, .inr (7, [.ref q1, .ref q2, .ref q3, .int (nI 0), .ref q4, .null, .int (nI 0), .null, .int (nI 0), .null, .int (nI 0), .null, .null, .int (nI 0), .int (nI 0), .int (nI 0), .null, .null, .null, .null, .null, .null, .null])) :: [(q1, zr E 19), (q2, zr E 19), (q3, zr E 32), (q4, zr E 66), (q5, zr E 528)]) _ _ 42 _ _
  refine bw_putF (pre := W9) (post := [(q1, zr E 19), (q2, zr E 19), (q3, zr E 32), (q4, zr E 66), (q5, zr E 528)]) (a := a) (fs := [.ref q1, .ref q2, .ref q3, .int (nI 0), .ref q4, .null, .int (nI 0), .null, .int (nI 0), .null, .int (nI 0), .null, .null, .int (nI 0), .int (nI 0), .int (nI 0), .null, .null, .null, .null, .null, .null, .null]) (v := .ref q5) fkX7_22 fwF_7_5 rfl (Nat.le_of_ble_eq_true rfl) rfl rfl dX7_init_42 ?_
  refine bw_aload 0 dX7_init_45 rfl ?_
  refine bw_sipush (nI 132) dX7_init_46 (by decide) ?_
  refine bw_newi 132 gArrI rfl (Nat.le_of_ble_eq_true rfl) dX7_init_49 ⟨(Nat.le_of_ble_eq_true rfl), (Nat.le_of_ble_eq_true rfl)⟩ (fun q6 => ?_)
  rw [List.append_assoc]
  show BW E mX7_init _ (W9 ++ (a, .inr (7, [.ref q1, .ref q2, .ref q3, .int (nI 0), .ref q4, .ref q5, .int (nI 0), .null, .int (nI 0), .null, .int (nI 0), .null, .null, .int (nI 0), .int (nI 0), .int (nI 0), .null, .null, .null, .null, .null, .null, .null])) :: [(q1, zr E 19), (q2, zr E 19), (q3, zr E 32), (q4, zr E 66), (q5, zr E 528), (q6, zr E 132)]) _ _ 51 _ _
  refine bw_putF (pre := W9) (post := [(q1, zr E 19), (q2, zr E 19), (q3, zr E 32), (q4, zr E 66), (q5, zr E 528), (q6, zr E 132)]) (a := a) (fs := [.ref q1, .ref q2, .ref q3, .int (nI 0), .ref q4, .ref q5, .int (nI 0), .null, .int (nI 0), .null, .int (nI 0), .null, .null, .int (nI 0), .int (nI 0), .int (nI 0), .null, .null, .null, .null, .null, .null, .null]) (v := .ref q6) fkX7_25 fwF_7_7 rfl (Nat.le_of_ble_eq_true rfl) rfl rfl dX7_init_51 ?_
  refine bw_aload 0 dX7_init_54 rfl ?_
  refine bw_sipush (nI 200) dX7_init_55 (by decide) ?_
  refine bw_newi 200 gArrI rfl (Nat.le_of_ble_eq_true rfl) dX7_init_58 ⟨(Nat.le_of_ble_eq_true rfl), (Nat.le_of_ble_eq_true rfl)⟩ (fun q7 => ?_)
  rw [List.append_assoc]
  show BW E mX7_init _ (W9 ++ (a, .inr (7, [.ref q1, .ref q2, .ref q3, .int (nI 0), .ref q4, .ref q5, .int (nI 0), .ref q6, .int (nI 0), .null, .int (nI 0), .null, .null, .int (nI 0), .int (nI 0), .int (nI 0), .null, .null, .null, .null, .null, .null, .null])) :: [(q1, zr E 19), (q2, zr E 19), (q3, zr E 32), (q4, zr E 66), (q5, zr E 528), (q6, zr E 132), (q7, zr E 200)]) _ _ 60 _ _
  refine bw_putF (pre := W9) (post := [(q1, zr E 19), (q2, zr E 19), (q3, zr E 32), (q4, zr E 66), (q5, zr E 528), (q6, zr E 132), (q7, zr E 200)]) (a := a) (fs := [.ref q1, .ref q2, .ref q3, .int (nI 0), .ref q4, .ref q5, .int (nI 0), .ref q6, .int (nI 0), .null, .int (nI 0), .null, .null, .int (nI 0), .int (nI 0), .int (nI 0), .null, .null, .null, .null, .null, .null, .null]) (v := .ref q7) fkX7_28 fwF_7_9 rfl (Nat.le_of_ble_eq_true rfl) rfl rfl dX7_init_60 ?_
  refine bw_aload 0 dX7_init_63 rfl ?_
  refine bw_bipush (nI 32) dX7_init_64 (by decide) ?_
  refine bw_newi 32 gArrI rfl (Nat.le_of_ble_eq_true rfl) dX7_init_66 ⟨(Nat.le_of_ble_eq_true rfl), (Nat.le_of_ble_eq_true rfl)⟩ (fun q8 => ?_)
  rw [List.append_assoc]
  show BW E mX7_init _ (W9 ++ (a, .inr (7, [.ref q1, .ref q2, .ref q3, .int (nI 0), .ref q4, .ref q5, .int (nI 0), .ref q6, .int (nI 0), .ref q7, .int (nI 0), .null, .null, .int (nI 0), .int (nI 0), .int (nI 0), .null, .null, .null, .null, .null, .null, .null])) :: [(q1, zr E 19), (q2, zr E 19), (q3, zr E 32), (q4, zr E 66), (q5, zr E 528), (q6, zr E 132), (q7, zr E 200), (q8, zr E 32)]) _ _ 68 _ _
  refine bw_putF (pre := W9) (post := [(q1, zr E 19), (q2, zr E 19), (q3, zr E 32), (q4, zr E 66), (q5, zr E 528), (q6, zr E 132), (q7, zr E 200), (q8, zr E 32)]) (a := a) (fs := [.ref q1, .ref q2, .ref q3, .int (nI 0), .ref q4, .ref q5, .int (nI 0), .ref q6, .int (nI 0), .ref q7, .int (nI 0), .null, .null, .int (nI 0), .int (nI 0), .int (nI 0), .null, .null, .null, .null, .null, .null, .null]) (v := .ref q8) fkX7_31 fwF_7_11 rfl (Nat.le_of_ble_eq_true rfl) rfl rfl dX7_init_68 ?_
  refine bw_aload 0 dX7_init_71 rfl ?_
  refine bw_bipush (nI 8) dX7_init_72 (by decide) ?_
  refine bw_newi 8 gArrI rfl (Nat.le_of_ble_eq_true rfl) dX7_init_74 ⟨(Nat.le_of_ble_eq_true rfl), (Nat.le_of_ble_eq_true rfl)⟩ (fun q9 => ?_)
  rw [List.append_assoc]
  show BW E mX7_init _ (W9 ++ (a, .inr (7, [.ref q1, .ref q2, .ref q3, .int (nI 0), .ref q4, .ref q5, .int (nI 0), .ref q6, .int (nI 0), .ref q7, .int (nI 0), .ref q8, .null, .int (nI 0), .int (nI 0), .int (nI 0), .null, .null, .null, .null, .null, .null, .null])) :: [(q1, zr E 19), (q2, zr E 19), (q3, zr E 32), (q4, zr E 66), (q5, zr E 528), (q6, zr E 132), (q7, zr E 200), (q8, zr E 32), (q9, zr E 8)]) _ _ 76 _ _
  refine bw_putF (pre := W9) (post := [(q1, zr E 19), (q2, zr E 19), (q3, zr E 32), (q4, zr E 66), (q5, zr E 528), (q6, zr E 132), (q7, zr E 200), (q8, zr E 32), (q9, zr E 8)]) (a := a) (fs := [.ref q1, .ref q2, .ref q3, .int (nI 0), .ref q4, .ref q5, .int (nI 0), .ref q6, .int (nI 0), .ref q7, .int (nI 0), .ref q8, .null, .int (nI 0), .int (nI 0), .int (nI 0), .null, .null, .null, .null, .null, .null, .null]) (v := .ref q9) fkX7_34 fwF_7_12 rfl (Nat.le_of_ble_eq_true rfl) rfl rfl dX7_init_76 ?_
  refine bw_aload 0 dX7_init_79 rfl ?_
  refine bw_iconst (nI 2) dX7_init_80 (by decide) ?_
  refine bw_newi 2 gArrI rfl (Nat.le_of_ble_eq_true rfl) dX7_init_81 ⟨(Nat.le_of_ble_eq_true rfl), (Nat.le_of_ble_eq_true rfl)⟩ (fun q10 => ?_)
  rw [List.append_assoc]
  show BW E mX7_init _ (W9 ++ (a, .inr (7, [.ref q1, .ref q2, .ref q3, .int (nI 0), .ref q4, .ref q5, .int (nI 0), .ref q6, .int (nI 0), .ref q7, .int (nI 0), .ref q8, .ref q9, .int (nI 0), .int (nI 0), .int (nI 0), .null, .null, .null, .null, .null, .null, .null])) :: [(q1, zr E 19), (q2, zr E 19), (q3, zr E 32), (q4, zr E 66), (q5, zr E 528), (q6, zr E 132), (q7, zr E 200), (q8, zr E 32), (q9, zr E 8), (q10, zr E 2)]) _ _ 83 _ _
  refine bw_putF (pre := W9) (post := [(q1, zr E 19), (q2, zr E 19), (q3, zr E 32), (q4, zr E 66), (q5, zr E 528), (q6, zr E 132), (q7, zr E 200), (q8, zr E 32), (q9, zr E 8), (q10, zr E 2)]) (a := a) (fs := [.ref q1, .ref q2, .ref q3, .int (nI 0), .ref q4, .ref q5, .int (nI 0), .ref q6, .int (nI 0), .ref q7, .int (nI 0), .ref q8, .ref q9, .int (nI 0), .int (nI 0), .int (nI 0), .null, .null, .null, .null, .null, .null, .null]) (v := .ref q10) fkX7_37 fwF_7_16 rfl (Nat.le_of_ble_eq_true rfl) rfl rfl dX7_init_83 ?_
  refine bw_aload 0 dX7_init_86 rfl ?_
  refine bw_iconst (nI 3) dX7_init_87 (by decide) ?_
  refine bw_newi 3 gArrI rfl (Nat.le_of_ble_eq_true rfl) dX7_init_88 ⟨(Nat.le_of_ble_eq_true rfl), (Nat.le_of_ble_eq_true rfl)⟩ (fun q11 => ?_)
  rw [List.append_assoc]
  show BW E mX7_init _ (W9 ++ (a, .inr (7, [.ref q1, .ref q2, .ref q3, .int (nI 0), .ref q4, .ref q5, .int (nI 0), .ref q6, .int (nI 0), .ref q7, .int (nI 0), .ref q8, .ref q9, .int (nI 0), .int (nI 0), .int (nI 0), .ref q10, .null, .null, .null, .null, .null, .null])) :: [(q1, zr E 19), (q2, zr E 19), (q3, zr E 32), (q4, zr E 66), (q5, zr E 528), (q6, zr E 132), (q7, zr E 200), (q8, zr E 32), (q9, zr E 8), (q10, zr E 2), (q11, zr E 3)]) _ _ 90 _ _
  refine bw_putF (pre := W9) (post := [(q1, zr E 19), (q2, zr E 19), (q3, zr E 32), (q4, zr E 66), (q5, zr E 528), (q6, zr E 132), (q7, zr E 200), (q8, zr E 32), (q9, zr E 8), (q10, zr E 2), (q11, zr E 3)]) (a := a) (fs := [.ref q1, .ref q2, .ref q3, .int (nI 0), .ref q4, .ref q5, .int (nI 0), .ref q6, .int (nI 0), .ref q7, .int (nI 0), .ref q8, .ref q9, .int (nI 0), .int (nI 0), .int (nI 0), .ref q10, .null, .null, .null, .null, .null, .null]) (v := .ref q11) fkX7_40 fwF_7_17 rfl (Nat.le_of_ble_eq_true rfl) rfl rfl dX7_init_90 ?_
  refine bw_aload 0 dX7_init_93 rfl ?_
  refine bw_bipush (nI 32) dX7_init_94 (by decide) ?_
  refine bw_newi 32 gArrI rfl (Nat.le_of_ble_eq_true rfl) dX7_init_96 ⟨(Nat.le_of_ble_eq_true rfl), (Nat.le_of_ble_eq_true rfl)⟩ (fun q12 => ?_)
  rw [List.append_assoc]
  show BW E mX7_init _ (W9 ++ (a, .inr (7, [.ref q1, .ref q2, .ref q3, .int (nI 0), .ref q4, .ref q5, .int (nI 0), .ref q6, .int (nI 0), .ref q7, .int (nI 0), .ref q8, .ref q9, .int (nI 0), .int (nI 0), .int (nI 0), .ref q10, .ref q11, .null, .null, .null, .null, .null])) :: [(q1, zr E 19), (q2, zr E 19), (q3, zr E 32), (q4, zr E 66), (q5, zr E 528), (q6, zr E 132), (q7, zr E 200), (q8, zr E 32), (q9, zr E 8), (q10, zr E 2), (q11, zr E 3), (q12, zr E 32)]) _ _ 98 _ _
  refine bw_putF (pre := W9) (post := [(q1, zr E 19), (q2, zr E 19), (q3, zr E 32), (q4, zr E 66), (q5, zr E 528), (q6, zr E 132), (q7, zr E 200), (q8, zr E 32), (q9, zr E 8), (q10, zr E 2), (q11, zr E 3), (q12, zr E 32)]) (a := a) (fs := [.ref q1, .ref q2, .ref q3, .int (nI 0), .ref q4, .ref q5, .int (nI 0), .ref q6, .int (nI 0), .ref q7, .int (nI 0), .ref q8, .ref q9, .int (nI 0), .int (nI 0), .int (nI 0), .ref q10, .ref q11, .null, .null, .null, .null, .null]) (v := .ref q12) fkX7_43 fwF_7_18 rfl (Nat.le_of_ble_eq_true rfl) rfl rfl dX7_init_98 ?_
  refine bw_aload 0 dX7_init_101 rfl ?_
  refine bw_bipush (nI 66) dX7_init_102 (by decide) ?_
  refine bw_newi 66 gArrI rfl (Nat.le_of_ble_eq_true rfl) dX7_init_104 ⟨(Nat.le_of_ble_eq_true rfl), (Nat.le_of_ble_eq_true rfl)⟩ (fun q13 => ?_)
  rw [List.append_assoc]
  show BW E mX7_init _ (W9 ++ (a, .inr (7, [.ref q1, .ref q2, .ref q3, .int (nI 0), .ref q4, .ref q5, .int (nI 0), .ref q6, .int (nI 0), .ref q7, .int (nI 0), .ref q8, .ref q9, .int (nI 0), .int (nI 0), .int (nI 0), .ref q10, .ref q11, .ref q12, .null, .null, .null, .null])) :: [(q1, zr E 19), (q2, zr E 19), (q3, zr E 32), (q4, zr E 66), (q5, zr E 528), (q6, zr E 132), (q7, zr E 200), (q8, zr E 32), (q9, zr E 8), (q10, zr E 2), (q11, zr E 3), (q12, zr E 32), (q13, zr E 66)]) _ _ 106 _ _
  refine bw_putF (pre := W9) (post := [(q1, zr E 19), (q2, zr E 19), (q3, zr E 32), (q4, zr E 66), (q5, zr E 528), (q6, zr E 132), (q7, zr E 200), (q8, zr E 32), (q9, zr E 8), (q10, zr E 2), (q11, zr E 3), (q12, zr E 32), (q13, zr E 66)]) (a := a) (fs := [.ref q1, .ref q2, .ref q3, .int (nI 0), .ref q4, .ref q5, .int (nI 0), .ref q6, .int (nI 0), .ref q7, .int (nI 0), .ref q8, .ref q9, .int (nI 0), .int (nI 0), .int (nI 0), .ref q10, .ref q11, .ref q12, .null, .null, .null, .null]) (v := .ref q13) fkX7_46 fwF_7_19 rfl (Nat.le_of_ble_eq_true rfl) rfl rfl dX7_init_106 ?_
  refine bw_aload 0 dX7_init_109 rfl ?_
  refine bw_sipush (nI 4356) dX7_init_110 (by decide) ?_
  refine bw_newi 4356 gArrI rfl (Nat.le_of_ble_eq_true rfl) dX7_init_113 ⟨(Nat.le_of_ble_eq_true rfl), (Nat.le_of_ble_eq_true rfl)⟩ (fun q14 => ?_)
  rw [List.append_assoc]
  show BW E mX7_init _ (W9 ++ (a, .inr (7, [.ref q1, .ref q2, .ref q3, .int (nI 0), .ref q4, .ref q5, .int (nI 0), .ref q6, .int (nI 0), .ref q7, .int (nI 0), .ref q8, .ref q9, .int (nI 0), .int (nI 0), .int (nI 0), .ref q10, .ref q11, .ref q12, .ref q13, .null, .null, .null])) :: [(q1, zr E 19), (q2, zr E 19), (q3, zr E 32), (q4, zr E 66), (q5, zr E 528), (q6, zr E 132), (q7, zr E 200), (q8, zr E 32), (q9, zr E 8), (q10, zr E 2), (q11, zr E 3), (q12, zr E 32), (q13, zr E 66), (q14, zr E 4356)]) _ _ 115 _ _
  refine bw_putF (pre := W9) (post := [(q1, zr E 19), (q2, zr E 19), (q3, zr E 32), (q4, zr E 66), (q5, zr E 528), (q6, zr E 132), (q7, zr E 200), (q8, zr E 32), (q9, zr E 8), (q10, zr E 2), (q11, zr E 3), (q12, zr E 32), (q13, zr E 66), (q14, zr E 4356)]) (a := a) (fs := [.ref q1, .ref q2, .ref q3, .int (nI 0), .ref q4, .ref q5, .int (nI 0), .ref q6, .int (nI 0), .ref q7, .int (nI 0), .ref q8, .ref q9, .int (nI 0), .int (nI 0), .int (nI 0), .ref q10, .ref q11, .ref q12, .ref q13, .null, .null, .null]) (v := .ref q14) fkX7_49 fwF_7_20 rfl (Nat.le_of_ble_eq_true rfl) rfl rfl dX7_init_115 ?_
  refine bw_aload 0 dX7_init_118 rfl ?_
  refine bw_sipush (nI 256) dX7_init_119 (by decide) ?_
  refine bw_newi 256 gArrI rfl (Nat.le_of_ble_eq_true rfl) dX7_init_122 ⟨(Nat.le_of_ble_eq_true rfl), (Nat.le_of_ble_eq_true rfl)⟩ (fun q15 => ?_)
  rw [List.append_assoc]
  show BW E mX7_init _ (W9 ++ (a, .inr (7, [.ref q1, .ref q2, .ref q3, .int (nI 0), .ref q4, .ref q5, .int (nI 0), .ref q6, .int (nI 0), .ref q7, .int (nI 0), .ref q8, .ref q9, .int (nI 0), .int (nI 0), .int (nI 0), .ref q10, .ref q11, .ref q12, .ref q13, .ref q14, .null, .null])) :: [(q1, zr E 19), (q2, zr E 19), (q3, zr E 32), (q4, zr E 66), (q5, zr E 528), (q6, zr E 132), (q7, zr E 200), (q8, zr E 32), (q9, zr E 8), (q10, zr E 2), (q11, zr E 3), (q12, zr E 32), (q13, zr E 66), (q14, zr E 4356), (q15, zr E 256)]) _ _ 124 _ _
  refine bw_putF (pre := W9) (post := [(q1, zr E 19), (q2, zr E 19), (q3, zr E 32), (q4, zr E 66), (q5, zr E 528), (q6, zr E 132), (q7, zr E 200), (q8, zr E 32), (q9, zr E 8), (q10, zr E 2), (q11, zr E 3), (q12, zr E 32), (q13, zr E 66), (q14, zr E 4356), (q15, zr E 256)]) (a := a) (fs := [.ref q1, .ref q2, .ref q3, .int (nI 0), .ref q4, .ref q5, .int (nI 0), .ref q6, .int (nI 0), .ref q7, .int (nI 0), .ref q8, .ref q9, .int (nI 0), .int (nI 0), .int (nI 0), .ref q10, .ref q11, .ref q12, .ref q13, .ref q14, .null, .null]) (v := .ref q15) fkX7_52 fwF_7_21 rfl (Nat.le_of_ble_eq_true rfl) rfl rfl dX7_init_124 ?_
  refine bw_aload 0 dX7_init_127 rfl ?_
  refine bw_sipush (nI 256) dX7_init_128 (by decide) ?_
  refine bw_newz 256 gArrZ rfl (Nat.le_of_ble_eq_true rfl) dX7_init_131 ⟨(Nat.le_of_ble_eq_true rfl), (Nat.le_of_ble_eq_true rfl)⟩ (fun q16 => ?_)
  rw [List.append_assoc]
  show BW E mX7_init _ (W9 ++ (a, .inr (7, [.ref q1, .ref q2, .ref q3, .int (nI 0), .ref q4, .ref q5, .int (nI 0), .ref q6, .int (nI 0), .ref q7, .int (nI 0), .ref q8, .ref q9, .int (nI 0), .int (nI 0), .int (nI 0), .ref q10, .ref q11, .ref q12, .ref q13, .ref q14, .ref q15, .null])) :: [(q1, zr E 19), (q2, zr E 19), (q3, zr E 32), (q4, zr E 66), (q5, zr E 528), (q6, zr E 132), (q7, zr E 200), (q8, zr E 32), (q9, zr E 8), (q10, zr E 2), (q11, zr E 3), (q12, zr E 32), (q13, zr E 66), (q14, zr E 4356), (q15, zr E 256), (q16, zz E 256)]) _ _ 133 _ _
  refine bw_putF (pre := W9) (post := [(q1, zr E 19), (q2, zr E 19), (q3, zr E 32), (q4, zr E 66), (q5, zr E 528), (q6, zr E 132), (q7, zr E 200), (q8, zr E 32), (q9, zr E 8), (q10, zr E 2), (q11, zr E 3), (q12, zr E 32), (q13, zr E 66), (q14, zr E 4356), (q15, zr E 256), (q16, zz E 256)]) (a := a) (fs := [.ref q1, .ref q2, .ref q3, .int (nI 0), .ref q4, .ref q5, .int (nI 0), .ref q6, .int (nI 0), .ref q7, .int (nI 0), .ref q8, .ref q9, .int (nI 0), .int (nI 0), .int (nI 0), .ref q10, .ref q11, .ref q12, .ref q13, .ref q14, .ref q15, .null]) (v := .ref q16) fkX7_55 fwF_7_22 rfl (Nat.le_of_ble_eq_true rfl) rfl rfl dX7_init_133 ?_
  refine bw_aw (ad := ad56 b ad (adM a q1 q2 q3 q4 q5 q6 q7 q8 q9 q10 q11 q12 q13 q14 q15 q16)) (N := 56) (tw := (9, 4)) (h := h56 h) (loc := [some (.ref 39)]) (st' := []) (hw q1 q2 q3 q4 q5 q6 q7 q8 q9 q10 q11 q12 q13 q14 q15 q16) ?_ rfl ?_ (fun hE => ?_)
  · intro s x hx
    rcases hx with ⟨k, hk, rfl⟩ | rfl | hx
    · exact Or.inl ⟨k, by show k < 56; omega, (if_pos hk).symm⟩
    · exact Or.inl ⟨39, by show 39 < 56; decide, rfl⟩
    · exact Or.inr hx
  · intro i v hv
    match i, hv with
    | 0, hv => cases hv; exact List.mem_cons_self
    | i + 1, hv => cases hv
  · exact ct_inm hE (Nat.le_refl _) F ⟨(Nat.le_of_ble_eq_true rfl), (Nat.le_of_ble_eq_true rfl)⟩ ⟨Nat.le_refl _, Nat.le_refl _⟩ (aw_retB (ad' := adM a q1 q2 q3 q4 q5 q6 q7 q8 q9 q10 q11 q12 q13 q14 q15 q16) rfl rfl (fun sz q h => Or.inr (Or.inr h)) (fun s hs j hj => hs.2 j hj) rfl dX7_init_249) hf
