section AWR
variable {E : EV} {M : MI} {K : KX} {tw tw' : TW} {h h' : HP} {pc : Nat} {loc : LC} {st : List Value}
theorem aw_iconst {n : Int} (v : Int32) (d : decode (mC M) pc = .ok (.iconst n, 1)) (hv : Int32.ofInt n = v) (k : AW E M K tw h (pc + 1) loc (.int v :: st)) : AW E M K tw h pc loc (st) :=
  fun p e s m args below meth c H ls locs C hP hS hl => lv_iconst C.1 C.2.1 d hv (k p e s m args below meth c H ls locs C hP hS hl)
theorem aw_bipush {n : Int} (v : Int32) (d : decode (mC M) pc = .ok (.bipush n, 2)) (hv : (Int8.ofInt n).toInt32 = v) (k : AW E M K tw h (pc + 2) loc (.int v :: st)) : AW E M K tw h pc loc (st) :=
  fun p e s m args below meth c H ls locs C hP hS hl => lv_bipush C.1 C.2.1 d hv (k p e s m args below meth c H ls locs C hP hS hl)
theorem aw_sipush {n : Int} (v : Int32) (d : decode (mC M) pc = .ok (.sipush n, 3)) (hv : (Int16.ofInt n).toInt32 = v) (k : AW E M K tw h (pc + 3) loc (.int v :: st)) : AW E M K tw h pc loc (st) :=
  fun p e s m args below meth c H ls locs C hP hS hl => lv_sipush C.1 C.2.1 d hv (k p e s m args below meth c H ls locs C hP hS hl)
theorem aw_ldc {i : Nat} {v : Int32} (g : Cond.constant (mY M).cls i v ∈ gt) (d : decode (mC M) pc = .ok (.ldc i, 2)) (k : AW E M K tw h (pc + 2) loc (.int v :: st)) : AW E M K tw h pc loc (st) :=
  fun p e s m args below meth c H ls locs C hP hS hl => lv_ldc C.1 C.2.1 C.2.2.2.2.1 (C.2.2.2.2.2.1 _ g) d (k p e s m args below meth c H ls locs C hP hS hl)
theorem aw_ldcw {i : Nat} {v : Int32} (g : Cond.constant (mY M).cls i v ∈ gt) (d : decode (mC M) pc = .ok (.ldc_w i, 3)) (k : AW E M K tw h (pc + 3) loc (.int v :: st)) : AW E M K tw h pc loc (st) :=
  fun p e s m args below meth c H ls locs C hP hS hl => lv_ldcw C.1 C.2.1 C.2.2.2.2.1 (C.2.2.2.2.2.1 _ g) d (k p e s m args below meth c H ls locs C hP hS hl)
theorem aw_ldc2 {i : Nat} {v : Int64} (g : Cond.constantLong (mY M).cls i v ∈ gt) (d : decode (mC M) pc = .ok (.ldc2_w i, 3)) (k : AW E M K tw h (pc + 3) loc (.long v :: st)) : AW E M K tw h pc loc (st) :=
  fun p e s m args below meth c H ls locs C hP hS hl => lv_ldc2 C.1 C.2.1 C.2.2.2.2.1 (C.2.2.2.2.2.1 _ g) d (k p e s m args below meth c H ls locs C hP hS hl)
theorem aw_lconst {n : Fin 2} (v : Int64) (d : decode (mC M) pc = .ok (.lconst n, 1)) (hv : Int64.ofNat n = v) (k : AW E M K tw h (pc + 1) loc (.long v :: st)) : AW E M K tw h pc loc (st) :=
  fun p e s m args below meth c H ls locs C hP hS hl => lv_lconst C.1 C.2.1 d hv (k p e s m args below meth c H ls locs C hP hS hl)
theorem aw_iload_n {n : Fin 4} {x : Int32} (d : decode (mC M) pc = .ok (.iload_n n, 1)) (q : ld loc n = some (.int x)) (k : AW E M K tw h (pc + 1) loc (.int x :: st)) : AW E M K tw h pc loc (st) :=
  fun p e s m args below meth c H ls locs C hP hS hl => lv_iload_n C.1 C.2.1 d rfl (hl.2.2 _ _ q) (k p e s m args below meth c H ls locs C hP hS hl)
theorem aw_iload {i : Nat} {x : Int32} (d : decode (mC M) pc = .ok (.iload i, 2)) (q : ld loc i = some (.int x)) (k : AW E M K tw h (pc + 2) loc (.int x :: st)) : AW E M K tw h pc loc (st) :=
  fun p e s m args below meth c H ls locs C hP hS hl => lv_iload C.1 C.2.1 d (hl.2.2 _ _ q) (k p e s m args below meth c H ls locs C hP hS hl)
theorem aw_lload_n {n : Fin 4} {x : Int64} (d : decode (mC M) pc = .ok (.lload_n n, 1)) (q : ld loc n = some (.long x)) (k : AW E M K tw h (pc + 1) loc (.long x :: st)) : AW E M K tw h pc loc (st) :=
  fun p e s m args below meth c H ls locs C hP hS hl => lv_lload_n C.1 C.2.1 d rfl (hl.2.2 _ _ q) (k p e s m args below meth c H ls locs C hP hS hl)
theorem aw_lload {i : Nat} {x : Int64} (d : decode (mC M) pc = .ok (.lload i, 2)) (q : ld loc i = some (.long x)) (k : AW E M K tw h (pc + 2) loc (.long x :: st)) : AW E M K tw h pc loc (st) :=
  fun p e s m args below meth c H ls locs C hP hS hl => lv_lload C.1 C.2.1 d (hl.2.2 _ _ q) (k p e s m args below meth c H ls locs C hP hS hl)
theorem aw_aload_n {n : Fin 4} {x : Nat} (d : decode (mC M) pc = .ok (.aload_n n, 1)) (q : ld loc n = some (.ref x)) (k : AW E M K tw h (pc + 1) loc (.ref x :: st)) : AW E M K tw h pc loc (st) :=
  fun p e s m args below meth c H ls locs C hP hS hl => lv_aload_n C.1 C.2.1 d rfl (hl.2.2 _ _ q) (k p e s m args below meth c H ls locs C hP hS hl)
theorem aw_aload {i : Nat} {x : Nat} (d : decode (mC M) pc = .ok (.aload i, 2)) (q : ld loc i = some (.ref x)) (k : AW E M K tw h (pc + 2) loc (.ref x :: st)) : AW E M K tw h pc loc (st) :=
  fun p e s m args below meth c H ls locs C hP hS hl => lv_aload C.1 C.2.1 d (hl.2.2 _ _ q) (k p e s m args below meth c H ls locs C hP hS hl)
theorem aw_istore_n {n : Fin 4} {x : Int32} (d : decode (mC M) pc = .ok (.istore_n n, 1)) (q : (n : Nat) < mL M) (k : AW E M K tw h (pc + 1) (so loc n (.int x)) (st)) : AW E M K tw h pc loc (.int x :: st) :=
  fun p e s m args below meth c H ls locs C hP hS hl => lv_istore_n C.1 C.2.1 d rfl hl.has q rfl (fun ls2 h2 => k p e s m args below meth c H ls2 locs C hP hS (LR.so h2))
theorem aw_istore {i : Nat} {x : Int32} (d : decode (mC M) pc = .ok (.istore i, 2)) (q : i < mL M) (k : AW E M K tw h (pc + 2) (so loc i (.int x)) (st)) : AW E M K tw h pc loc (.int x :: st) :=
  fun p e s m args below meth c H ls locs C hP hS hl => lv_istore C.1 C.2.1 d hl.has q rfl (fun ls2 h2 => k p e s m args below meth c H ls2 locs C hP hS (LR.so h2))
theorem aw_astore_n {n : Fin 4} {x : Nat} (d : decode (mC M) pc = .ok (.astore_n n, 1)) (q : (n : Nat) < mL M) (k : AW E M K tw h (pc + 1) (so loc n (.ref x)) (st)) : AW E M K tw h pc loc (.ref x :: st) :=
  fun p e s m args below meth c H ls locs C hP hS hl => lv_astore_n C.1 C.2.1 d rfl hl.has q rfl (fun ls2 h2 => k p e s m args below meth c H ls2 locs C hP hS (LR.so h2))
theorem aw_astore {i : Nat} {x : Nat} (d : decode (mC M) pc = .ok (.astore i, 2)) (q : i < mL M) (k : AW E M K tw h (pc + 2) (so loc i (.ref x)) (st)) : AW E M K tw h pc loc (.ref x :: st) :=
  fun p e s m args below meth c H ls locs C hP hS hl => lv_astore C.1 C.2.1 d hl.has q rfl (fun ls2 h2 => k p e s m args below meth c H ls2 locs C hP hS (LR.so h2))
theorem aw_lstore_n {n : Fin 4} {x : Int64} (d : decode (mC M) pc = .ok (.lstore_n n, 1)) (q : (n : Nat) + 1 < mL M) (k : AW E M K tw h (pc + 1) (so2 loc n (.long x)) (st)) : AW E M K tw h pc loc (.long x :: st) :=
  fun p e s m args below meth c H ls locs C hP hS hl => lv_lstore_n C.1 C.2.1 d rfl hl.has q rfl (fun ls2 h2 => k p e s m args below meth c H ls2 locs C hP hS (LR.so2 h2))
theorem aw_lstore {i : Nat} {x : Int64} (d : decode (mC M) pc = .ok (.lstore i, 2)) (q : i + 1 < mL M) (k : AW E M K tw h (pc + 2) (so2 loc i (.long x)) (st)) : AW E M K tw h pc loc (.long x :: st) :=
  fun p e s m args below meth c H ls locs C hP hS hl => lv_lstore C.1 C.2.1 d hl.has q rfl (fun ls2 h2 => k p e s m args below meth c H ls2 locs C hP hS (LR.so2 h2))
theorem lvl_at {loc : LC} {i : Nat} {v : Value} (q : ld loc i = some v) : ∃ j : Nat, (lvl E 0 loc)[j]? = some (i, cv E v) := by
  have := lvl_mem (E := E) (i := 0) q
  rw [Nat.zero_add] at this
  exact List.getElem?_of_mem this
theorem aw_iinc {i : Nat} {n : Int} {x : Int32} (v : Int32) (d : decode (mC M) pc = .ok (.iinc i n, 3)) (q : ld loc i = some (.int x)) (hn : i < mL M) (hv : Int32.ofInt n = v) (k : AW E M K tw h (pc + 3) (so loc i (.int (x + v))) st) : AW E M K tw h pc loc st := by
  intro p e s m args below meth c H ls locs C hP hS hl
  obtain ⟨j, hj⟩ := lvl_at (E := E) q
  exact lv_iinc C.1 C.2.1 d hl.has hj (by rw [hv]) hn rfl (fun ls2 h2 => k p e s m args below meth c H ls2 locs C hP hS (LR.so h2))
theorem aw_iadd {x y : Int32} (d : decode (mC M) pc = .ok (.iadd, 1)) (k : AW E M K tw h (pc + 1) loc (.int (x + y) :: st)) : AW E M K tw h pc loc (.int y :: .int x :: st) :=
  fun p e s m args below meth c H ls locs C hP hS hl => lv_iadd C.1 C.2.1 d (k p e s m args below meth c H ls locs C hP hS hl)
theorem aw_isub {x y : Int32} (d : decode (mC M) pc = .ok (.isub, 1)) (k : AW E M K tw h (pc + 1) loc (.int (x - y) :: st)) : AW E M K tw h pc loc (.int y :: .int x :: st) :=
  fun p e s m args below meth c H ls locs C hP hS hl => lv_isub C.1 C.2.1 d (k p e s m args below meth c H ls locs C hP hS hl)
theorem aw_imul {x y : Int32} (d : decode (mC M) pc = .ok (.imul, 1)) (k : AW E M K tw h (pc + 1) loc (.int (x * y) :: st)) : AW E M K tw h pc loc (.int y :: .int x :: st) :=
  fun p e s m args below meth c H ls locs C hP hS hl => lv_imul C.1 C.2.1 d (k p e s m args below meth c H ls locs C hP hS hl)
theorem aw_iand {x y : Int32} (d : decode (mC M) pc = .ok (.iand, 1)) (k : AW E M K tw h (pc + 1) loc (.int (x &&& y) :: st)) : AW E M K tw h pc loc (.int y :: .int x :: st) :=
  fun p e s m args below meth c H ls locs C hP hS hl => lv_iand C.1 C.2.1 d (k p e s m args below meth c H ls locs C hP hS hl)
theorem aw_ior {x y : Int32} (d : decode (mC M) pc = .ok (.ior, 1)) (k : AW E M K tw h (pc + 1) loc (.int (x ||| y) :: st)) : AW E M K tw h pc loc (.int y :: .int x :: st) :=
  fun p e s m args below meth c H ls locs C hP hS hl => lv_ior C.1 C.2.1 d (k p e s m args below meth c H ls locs C hP hS hl)
theorem aw_ixor {x y : Int32} (d : decode (mC M) pc = .ok (.ixor, 1)) (k : AW E M K tw h (pc + 1) loc (.int (x ^^^ y) :: st)) : AW E M K tw h pc loc (.int y :: .int x :: st) :=
  fun p e s m args below meth c H ls locs C hP hS hl => lv_ixor C.1 C.2.1 d (k p e s m args below meth c H ls locs C hP hS hl)
theorem aw_ishl {x y : Int32} (d : decode (mC M) pc = .ok (.ishl, 1)) (k : AW E M K tw h (pc + 1) loc (.int (jshl x y) :: st)) : AW E M K tw h pc loc (.int y :: .int x :: st) :=
  fun p e s m args below meth c H ls locs C hP hS hl => lv_ishl C.1 C.2.1 d (k p e s m args below meth c H ls locs C hP hS hl)
theorem aw_ishr {x y : Int32} (d : decode (mC M) pc = .ok (.ishr, 1)) (k : AW E M K tw h (pc + 1) loc (.int (jshr x y) :: st)) : AW E M K tw h pc loc (.int y :: .int x :: st) :=
  fun p e s m args below meth c H ls locs C hP hS hl => lv_ishr C.1 C.2.1 d (k p e s m args below meth c H ls locs C hP hS hl)
theorem aw_iushr {x y : Int32} (d : decode (mC M) pc = .ok (.iushr, 1)) (k : AW E M K tw h (pc + 1) loc (.int (jushr x y) :: st)) : AW E M K tw h pc loc (.int y :: .int x :: st) :=
  fun p e s m args below meth c H ls locs C hP hS hl => lv_iushr C.1 C.2.1 d rfl (k p e s m args below meth c H ls locs C hP hS hl)
theorem aw_ladd {x y : Int64} (d : decode (mC M) pc = .ok (.ladd, 1)) (k : AW E M K tw h (pc + 1) loc (.long (x + y) :: st)) : AW E M K tw h pc loc (.long y :: .long x :: st) :=
  fun p e s m args below meth c H ls locs C hP hS hl => lv_ladd C.1 C.2.1 d (k p e s m args below meth c H ls locs C hP hS hl)
theorem aw_lmul {x y : Int64} (d : decode (mC M) pc = .ok (.lmul, 1)) (k : AW E M K tw h (pc + 1) loc (.long (x * y) :: st)) : AW E M K tw h pc loc (.long y :: .long x :: st) :=
  fun p e s m args below meth c H ls locs C hP hS hl => lv_lmul C.1 C.2.1 d (k p e s m args below meth c H ls locs C hP hS hl)
theorem aw_idiv {x y : Int32} (hne : ¬ y = nI 0) (d : decode (mC M) pc = .ok (.idiv, 1)) (k : AW E M K tw h (pc + 1) loc (.int (x / y) :: st)) : AW E M K tw h pc loc (.int y :: .int x :: st) :=
  fun p e s m args below meth c H ls locs C hP hS hl => lv_idiv C.1 C.2.1 d (nI_0 ▸ hne) (k p e s m args below meth c H ls locs C hP hS hl)
theorem aw_irem {x y : Int32} (hne : ¬ y = nI 0) (d : decode (mC M) pc = .ok (.irem, 1)) (k : AW E M K tw h (pc + 1) loc (.int (jrem x y) :: st)) : AW E M K tw h pc loc (.int y :: .int x :: st) :=
  fun p e s m args below meth c H ls locs C hP hS hl => lv_irem C.1 C.2.1 d (nI_0 ▸ hne) (k p e s m args below meth c H ls locs C hP hS hl)
theorem aw_ldiv {x y : Int64} (hne : ¬ y = 0) (d : decode (mC M) pc = .ok (.ldiv, 1)) (k : AW E M K tw h (pc + 1) loc (.long (x / y) :: st)) : AW E M K tw h pc loc (.long y :: .long x :: st) :=
  fun p e s m args below meth c H ls locs C hP hS hl => lv_ldiv C.1 C.2.1 d hne (k p e s m args below meth c H ls locs C hP hS hl)
theorem aw_lrem {x y : Int64} (hne : ¬ y = 0) (d : decode (mC M) pc = .ok (.lrem, 1)) (k : AW E M K tw h (pc + 1) loc (.long (jlrem x y) :: st)) : AW E M K tw h pc loc (.long y :: .long x :: st) :=
  fun p e s m args below meth c H ls locs C hP hS hl => lv_lrem C.1 C.2.1 d hne (k p e s m args below meth c H ls locs C hP hS hl)
theorem aw_ineg {x : Int32} (d : decode (mC M) pc = .ok (.ineg, 1)) (k : AW E M K tw h (pc + 1) loc (.int (-x) :: st)) : AW E M K tw h pc loc (.int x :: st) :=
  fun p e s m args below meth c H ls locs C hP hS hl => lv_ineg C.1 C.2.1 d (k p e s m args below meth c H ls locs C hP hS hl)
theorem aw_i2l {x : Int32} (d : decode (mC M) pc = .ok (.i2l, 1)) (k : AW E M K tw h (pc + 1) loc (.long x.toInt64 :: st)) : AW E M K tw h pc loc (.int x :: st) :=
  fun p e s m args below meth c H ls locs C hP hS hl => lv_i2l C.1 C.2.1 d rfl (k p e s m args below meth c H ls locs C hP hS hl)
theorem aw_l2i {x : Int64} (d : decode (mC M) pc = .ok (.l2i, 1)) (k : AW E M K tw h (pc + 1) loc (.int x.toInt32 :: st)) : AW E M K tw h pc loc (.long x :: st) :=
  fun p e s m args below meth c H ls locs C hP hS hl => lv_l2i C.1 C.2.1 d rfl (k p e s m args below meth c H ls locs C hP hS hl)
theorem aw_lcmp {x y : Int64} (d : decode (mC M) pc = .ok (.lcmp, 1)) (k : AW E M K tw h (pc + 1) loc (.int (lg_cmp x y) :: st)) : AW E M K tw h pc loc (.long y :: .long x :: st) :=
  fun p e s m args below meth c H ls locs C hP hS hl => W.lcmp C.1 C.2.1 d (k p e s m args below meth c H ls locs C hP hS hl)
theorem aw_dup {v : Value} (d : decode (mC M) pc = .ok (.dup, 1)) (q : v.category = 1) (k : AW E M K tw h (pc + 1) loc (v :: v :: st)) : AW E M K tw h pc loc (v :: st) :=
  fun p e s m args below meth c H ls locs C hP hS hl => lv_dup C.1 C.2.1 d (by rw [cv_cat]; exact q) (k p e s m args below meth c H ls locs C hP hS hl)
theorem aw_pop {v : Value} (d : decode (mC M) pc = .ok (.pop, 1)) (q : v.category = 1) (k : AW E M K tw h (pc + 1) loc (st)) : AW E M K tw h pc loc (v :: st) :=
  fun p e s m args below meth c H ls locs C hP hS hl => lv_pop C.1 C.2.1 d (by rw [cv_cat]; exact q) (k p e s m args below meth c H ls locs C hP hS hl)
theorem aw_dup2 {v u : Value} (d : decode (mC M) pc = .ok (.dup2, 1)) (q : v.category = 1) (q2 : u.category = 1) (k : AW E M K tw h (pc + 1) loc (v :: u :: v :: u :: st)) : AW E M K tw h pc loc (v :: u :: st) :=
  fun p e s m args below meth c H ls locs C hP hS hl => lv_dup2_11 C.1 C.2.1 d (by rw [cv_cat]; exact q) (by rw [cv_cat]; exact q2) (k p e s m args below meth c H ls locs C hP hS hl)
theorem aw_goto {off : Int} (tgt : Nat) (d : decode (mC M) pc = .ok (.goto off, 3)) (ht : (pc : Int) + off = (tgt : Int)) (k : AW E M K tw h (tgt) loc (st)) : AW E M K tw h pc loc (st) :=
  fun p e s m args below meth c H ls locs C hP hS hl => lv_goto C.1 C.2.1 d ht (k p e s m args below meth c H ls locs C hP hS hl)
theorem aw_if_eq {x : Int32} {off : Int} (tgt : Nat) (d : decode (mC M) pc = .ok (.ifCond .eq off, 3)) (ht : (pc : Int) + off = (tgt : Int)) (kt : x = nI 0 → AW E M K tw h tgt loc st) (kf : ¬ x = nI 0 → AW E M K tw h (pc + 3) loc st) : AW E M K tw h pc loc (.int x :: st) :=
  fun p e s m args below meth c H ls locs C hP hS hl => lv_if_eq C.1 C.2.1 d ht (fun q => kt (nI_0.symm ▸ q) p e s m args below meth c H ls locs C hP hS hl) (fun q => kf (nI_0.symm ▸ q) p e s m args below meth c H ls locs C hP hS hl)
theorem aw_if_ne {x : Int32} {off : Int} (tgt : Nat) (d : decode (mC M) pc = .ok (.ifCond .ne off, 3)) (ht : (pc : Int) + off = (tgt : Int)) (kt : ¬ x = nI 0 → AW E M K tw h tgt loc st) (kf : x = nI 0 → AW E M K tw h (pc + 3) loc st) : AW E M K tw h pc loc (.int x :: st) :=
  fun p e s m args below meth c H ls locs C hP hS hl => lv_if_ne C.1 C.2.1 d ht (fun q => kt (nI_0.symm ▸ q) p e s m args below meth c H ls locs C hP hS hl) (fun q => kf (nI_0.symm ▸ q) p e s m args below meth c H ls locs C hP hS hl)
theorem aw_if_lt {x : Int32} {off : Int} (tgt : Nat) (d : decode (mC M) pc = .ok (.ifCond .lt off, 3)) (ht : (pc : Int) + off = (tgt : Int)) (kt : x < nI 0 → AW E M K tw h tgt loc st) (kf : ¬ x < nI 0 → AW E M K tw h (pc + 3) loc st) : AW E M K tw h pc loc (.int x :: st) :=
  fun p e s m args below meth c H ls locs C hP hS hl => lv_if_lt C.1 C.2.1 d ht (fun q => kt (nI_0.symm ▸ q) p e s m args below meth c H ls locs C hP hS hl) (fun q => kf (nI_0.symm ▸ q) p e s m args below meth c H ls locs C hP hS hl)
theorem aw_if_ge {x : Int32} {off : Int} (tgt : Nat) (d : decode (mC M) pc = .ok (.ifCond .ge off, 3)) (ht : (pc : Int) + off = (tgt : Int)) (kt : nI 0 ≤ x → AW E M K tw h tgt loc st) (kf : ¬ nI 0 ≤ x → AW E M K tw h (pc + 3) loc st) : AW E M K tw h pc loc (.int x :: st) :=
  fun p e s m args below meth c H ls locs C hP hS hl => lv_if_ge C.1 C.2.1 d ht (fun q => kt (nI_0.symm ▸ q) p e s m args below meth c H ls locs C hP hS hl) (fun q => kf (nI_0.symm ▸ q) p e s m args below meth c H ls locs C hP hS hl)
theorem aw_if_gt {x : Int32} {off : Int} (tgt : Nat) (d : decode (mC M) pc = .ok (.ifCond .gt off, 3)) (ht : (pc : Int) + off = (tgt : Int)) (kt : nI 0 < x → AW E M K tw h tgt loc st) (kf : ¬ nI 0 < x → AW E M K tw h (pc + 3) loc st) : AW E M K tw h pc loc (.int x :: st) :=
  fun p e s m args below meth c H ls locs C hP hS hl => lv_if_gt C.1 C.2.1 d ht (fun q => kt (nI_0.symm ▸ q) p e s m args below meth c H ls locs C hP hS hl) (fun q => kf (nI_0.symm ▸ q) p e s m args below meth c H ls locs C hP hS hl)
theorem aw_if_le {x : Int32} {off : Int} (tgt : Nat) (d : decode (mC M) pc = .ok (.ifCond .le off, 3)) (ht : (pc : Int) + off = (tgt : Int)) (kt : x ≤ nI 0 → AW E M K tw h tgt loc st) (kf : ¬ x ≤ nI 0 → AW E M K tw h (pc + 3) loc st) : AW E M K tw h pc loc (.int x :: st) :=
  fun p e s m args below meth c H ls locs C hP hS hl => lv_if_le C.1 C.2.1 d ht (fun q => kt (nI_0.symm ▸ q) p e s m args below meth c H ls locs C hP hS hl) (fun q => kf (nI_0.symm ▸ q) p e s m args below meth c H ls locs C hP hS hl)
theorem aw_icmp_eq {x y : Int32} {off : Int} (tgt : Nat) (d : decode (mC M) pc = .ok (.if_icmp .eq off, 3)) (ht : (pc : Int) + off = (tgt : Int)) (kt : x = y → AW E M K tw h tgt loc st) (kf : ¬ x = y → AW E M K tw h (pc + 3) loc st) : AW E M K tw h pc loc (.int y :: .int x :: st) :=
  fun p e s m args below meth c H ls locs C hP hS hl => lv_icmp_eq C.1 C.2.1 d ht (fun q => kt q p e s m args below meth c H ls locs C hP hS hl) (fun q => kf q p e s m args below meth c H ls locs C hP hS hl)
theorem aw_icmp_ne {x y : Int32} {off : Int} (tgt : Nat) (d : decode (mC M) pc = .ok (.if_icmp .ne off, 3)) (ht : (pc : Int) + off = (tgt : Int)) (kt : ¬ x = y → AW E M K tw h tgt loc st) (kf : x = y → AW E M K tw h (pc + 3) loc st) : AW E M K tw h pc loc (.int y :: .int x :: st) :=
  fun p e s m args below meth c H ls locs C hP hS hl => lv_icmp_ne C.1 C.2.1 d ht (fun q => kt q p e s m args below meth c H ls locs C hP hS hl) (fun q => kf q p e s m args below meth c H ls locs C hP hS hl)
theorem aw_icmp_lt {x y : Int32} {off : Int} (tgt : Nat) (d : decode (mC M) pc = .ok (.if_icmp .lt off, 3)) (ht : (pc : Int) + off = (tgt : Int)) (kt : x < y → AW E M K tw h tgt loc st) (kf : ¬ x < y → AW E M K tw h (pc + 3) loc st) : AW E M K tw h pc loc (.int y :: .int x :: st) :=
  fun p e s m args below meth c H ls locs C hP hS hl => lv_icmp_lt C.1 C.2.1 d ht (fun q => kt q p e s m args below meth c H ls locs C hP hS hl) (fun q => kf q p e s m args below meth c H ls locs C hP hS hl)
theorem aw_icmp_ge {x y : Int32} {off : Int} (tgt : Nat) (d : decode (mC M) pc = .ok (.if_icmp .ge off, 3)) (ht : (pc : Int) + off = (tgt : Int)) (kt : y ≤ x → AW E M K tw h tgt loc st) (kf : ¬ y ≤ x → AW E M K tw h (pc + 3) loc st) : AW E M K tw h pc loc (.int y :: .int x :: st) :=
  fun p e s m args below meth c H ls locs C hP hS hl => lv_icmp_ge C.1 C.2.1 d ht (fun q => kt q p e s m args below meth c H ls locs C hP hS hl) (fun q => kf q p e s m args below meth c H ls locs C hP hS hl)
theorem aw_icmp_gt {x y : Int32} {off : Int} (tgt : Nat) (d : decode (mC M) pc = .ok (.if_icmp .gt off, 3)) (ht : (pc : Int) + off = (tgt : Int)) (kt : y < x → AW E M K tw h tgt loc st) (kf : ¬ y < x → AW E M K tw h (pc + 3) loc st) : AW E M K tw h pc loc (.int y :: .int x :: st) :=
  fun p e s m args below meth c H ls locs C hP hS hl => lv_icmp_gt C.1 C.2.1 d ht (fun q => kt q p e s m args below meth c H ls locs C hP hS hl) (fun q => kf q p e s m args below meth c H ls locs C hP hS hl)
theorem aw_icmp_le {x y : Int32} {off : Int} (tgt : Nat) (d : decode (mC M) pc = .ok (.if_icmp .le off, 3)) (ht : (pc : Int) + off = (tgt : Int)) (kt : x ≤ y → AW E M K tw h tgt loc st) (kf : ¬ x ≤ y → AW E M K tw h (pc + 3) loc st) : AW E M K tw h pc loc (.int y :: .int x :: st) :=
  fun p e s m args below meth c H ls locs C hP hS hl => lv_icmp_le C.1 C.2.1 d ht (fun q => kt q p e s m args below meth c H ls locs C hP hS hl) (fun q => kf q p e s m args below meth c H ls locs C hP hS hl)
theorem aw_tableOut {dflt lo hi : Int} {offs : Array Int} {len : Nat} {x : Int32} (tgt : Nat) (d : decode (mC M) pc = .ok (.tableswitch dflt lo hi offs, len)) (q : x.toInt < lo ∨ hi < x.toInt) (ht : (pc : Int) + dflt = (tgt : Int)) (k : AW E M K tw h tgt loc st) : AW E M K tw h pc loc (.int x :: st) :=
  fun p e s m args below meth c H ls locs C hP hS hl => lv_tableOut C.1 C.2.1 d q ht (k p e s m args below meth c H ls locs C hP hS hl)
theorem aw_tableIn {dflt lo hi : Int} {offs : Array Int} {len : Nat} {x : Int32} {off : Int} (tgt : Nat) (d : decode (mC M) pc = .ok (.tableswitch dflt lo hi offs, len)) (q1 : ¬ x.toInt < lo) (q2 : ¬ hi < x.toInt) (ho : offs[(x.toInt - lo).toNat]? = some off) (ht : (pc : Int) + off = (tgt : Int)) (k : AW E M K tw h tgt loc st) : AW E M K tw h pc loc (.int x :: st) :=
  fun p e s m args below meth c H ls locs C hP hS hl => lv_tableIn C.1 C.2.1 d q1 q2 ho ht (k p e s m args below meth c H ls locs C hP hS hl)
theorem aw_lookup {dflt : Int} {ps : Array (Int × Int)} {len : Nat} {x : Int32} {off : Int} (tgt : Nat) (d : decode (mC M) pc = .ok (.lookupswitch dflt ps, len)) (hp : (ps.toList.zip (ps.toList.drop 1)).all (fun (a, next) => a.1 < next.1) = true) (ho : Op.lookupswitch.offset ps.toList dflt x.toInt = off) (ht : (pc : Int) + off = (tgt : Int)) (k : AW E M K tw h tgt loc st) : AW E M K tw h pc loc (.int x :: st) :=
  fun p e s m args below meth c H ls locs C hP hS hl => lv_lookup C.1 C.2.1 d hp ho ht (k p e s m args below meth c H ls locs C hP hS hl)
theorem aw_dk {loc' : LC} (k : AW E M K tw h pc loc' st) (q : dl loc' loc) : AW E M K tw h pc loc st :=
  fun p e s m args below meth c H ls locs C hP hS hl => k p e s m args below meth c H ls locs C hP hS (hl.dl q)
theorem aw_dl {loc' : LC} (q : dl loc' loc) (k : AW E M K tw h pc loc' st) : AW E M K tw h pc loc st :=
  fun p e s m args below meth c H ls locs C hP hS hl => k p e s m args below meth c H ls locs C hP hS (hl.dl q)
theorem wE_obj {k c N : Nat} (hk : kd k = (c + 3, N)) : wE E tw h k = .inr (c, (List.range N).map (fun j => cv E (fv tw h k c j))) := by unfold wE; rw [hk]
theorem wE_int {k N : Nat} (hk : kd k = (0, N)) : wE E tw h k = .inl (eI E, N, .inl (h k)) := by unfold wE; rw [hk]
theorem wE_bool {k N : Nat} (hk : kd k = (1, N)) : wE E tw h k = .inl (eZ E, N, .inl (h k)) := by unfold wE; rw [hk]
theorem wE_row {k N : Nat} (hk : kd k = (2, N)) : wE E tw h k = .inl (eO E, N, .inr (.inr (.inr (.inr (fun j => if j < N then some (eA E (k + 1 + j)) else none))))) := by unfold wE; rw [hk]
theorem wW_obj {k c N : Nat} (hn : k < eN E) (hk : kd k = (c + 3, N)) : (wW E tw h)[k]? = some (eA E k, .inr (c, (List.range N).map (fun j => cv E (fv tw h k c j)))) := by rw [wW_get E tw h hn, wE_obj hk]
theorem wW_int {k N : Nat} (hn : k < eN E) (hk : kd k = (0, N)) : (wW E tw h)[k]? = some (eA E k, .inl (eI E, N, .inl (h k))) := by rw [wW_get E tw h hn, wE_int hk]
theorem wW_bool {k N : Nat} (hn : k < eN E) (hk : kd k = (1, N)) : (wW E tw h)[k]? = some (eA E k, .inl (eZ E, N, .inl (h k))) := by rw [wW_get E tw h hn, wE_bool hk]
theorem wW_row {k N : Nat} (hn : k < eN E) (hk : kd k = (2, N)) : (wW E tw h)[k]? = some (eA E k, .inl (eO E, N, .inr (.inr (.inr (.inr (fun j => if j < N then some (eA E (k + 1 + j)) else none)))))) := by rw [wW_get E tw h hn, wE_row hk]
/-- field j of class c (its name, its table, how many fields): 'own' links it at index i -/
def fk (own : String) (i c j : Nat) : Prop := ∃ q : vw_C, vwCl[c]? = some q ∧ j < q.2.2 ∧ (∀ w ∈ u_ws q.1 q.2.1 q.2.2, w ∈ gt) ∧ Cond.fieldLink own i (q.2.1 j).1 (q.2.1 j).2.1 (q.2.1 j).2.2.1 ∈ gt
theorem aw_get {q c N i j : Nat} {v : Value} (hf : fk (mY M).cls i c j) (hn : q < eN E) (hk : kd q = (c + 3, N)) (hj : j < N) (hv : fv tw h q c j = v) (d : decode (mC M) pc = .ok (.getfield i, 3)) (k : AW E M K tw h (pc + 3) loc (v :: st)) : AW E M K tw h pc loc (.ref q :: st) := by
  intro p e s m args below meth c' H ls locs C hP hS hl
  obtain ⟨⟨C1, T, N1⟩, h1, h2, h3, h4⟩ := hf
  subst hv
  exact va_get (D := eD E) (ci := c) (v := cv E (fv tw h q c j)) C.1 C.2.1 C.2.2.2.2.2.1 h3 C.2.2.2.2.1 C.2.2.2.2.2.2.1 hP q (wW_obj hn hk) h1 j h2 (C.2.2.2.2.2.1 _ h4) (fun _ h9 => h9) (by simp [hj]) d (k p e s m args below meth c' H ls locs C hP hS hl)
theorem fv_int {k c j : Nat} (hr : rft tw k c j = none) : fv tw h k c j = .int (h k j) := by unfold fv; rw [hr]
theorem fv_ref {k c j q : Nat} (hr : rft tw k c j = some q) : fv tw h k c j = .ref q := by unfold fv; rw [hr]
theorem aw_geti {q c N i j : Nat} (hf : fk (mY M).cls i c j) (hn : q < eN E) (hk : kd q = (c + 3, N)) (hj : j < N) (hr : rft tw q c j = none) (d : decode (mC M) pc = .ok (.getfield i, 3)) (k : AW E M K tw h (pc + 3) loc (.int (h q j) :: st)) : AW E M K tw h pc loc (.ref q :: st) := aw_get hf hn hk hj (fv_int hr) d k
theorem aw_getr {q c N i j x : Nat} (hf : fk (mY M).cls i c j) (hn : q < eN E) (hk : kd q = (c + 3, N)) (hj : j < N) (hr : rft tw q c j = some x) (d : decode (mC M) pc = .ok (.getfield i, 3)) (k : AW E M K tw h (pc + 3) loc (.ref x :: st)) : AW E M K tw h pc loc (.ref q :: st) := aw_get hf hn hk hj (fv_ref hr) d k
theorem set_map' {N j : Nat} {f g : Nat → Value} (ho : ∀ i, i ≠ j → f i = g i) {v : Value} (hv : v = g j) : ((List.range N).map f).set j v = (List.range N).map g := by
  subst hv
  apply List.ext_getElem?
  intro i
  by_cases hi : i = j
  · subst hi
    by_cases hn : i < N
    · rw [List.getElem?_set_self (by simpa using hn)]; simp [hn]
    · rw [List.getElem?_eq_none (by simpa using Nat.le_of_not_lt hn), List.getElem?_eq_none (by simpa using Nat.le_of_not_lt hn)]
  · rw [List.getElem?_set_ne (fun q => hi q.symm)]
    by_cases hn : i < N
    · simp [hn, ho i hi]
    · rw [List.getElem?_eq_none (by simpa using Nat.le_of_not_lt hn), List.getElem?_eq_none (by simpa using Nat.le_of_not_lt hn)]
theorem fv_up {q c j i : Nat} {x : Int32} (hi : i ≠ j) : fv tw h q c i = fv tw (up h q j x) q c i := by
  unfold fv up
  rw [upc_same]
  cases rft tw q c i with
  | some _ => rfl
  | none => show Value.int _ = Value.int _; unfold upd; rw [if_neg hi]
/-- field j of class c can be written: its types' table -/
def fw (c j : Nat) (ty : FieldType) : Prop := ∃ (q : vw_C) (ty0 : Nat → FieldType), vwCl[c]? = some q ∧ (∀ k, k < q.2.2 → parseFieldDescriptor (q.2.1 k).2.2.1 = some (ty0 k)) ∧ (∀ a, a < q.2.2 → ∀ b, b < q.2.2 → a ≠ b → (q.2.1 a).2.1 ≠ (q.2.1 b).2.1) ∧ (q.2.1 j).2.2.2 = false ∧ parseFieldDescriptor (q.2.1 j).2.2.1 = some ty
theorem aw_put {q c N i j : Nat} {v : Value} {ty : FieldType} (hf : fk (mY M).cls i c j) (hw : fw c j ty) (hn : q < eN E) (hk : kd q = (c + 3, N)) (hj : j < N) (hnr : narrow ty (cv E v) = cv E v) (hft : fits ty (cv E v) = true)
    (hs : (wW E tw h).set q (eA E q, .inr (c, ((List.range N).map (fun j => cv E (fv tw h q c j))).set j (cv E v))) = wW E tw' h') (d : decode (mC M) pc = .ok (.putfield i, 3)) (k : AW E M K tw' h' (pc + 3) loc st) : AW E M K tw h pc loc (v :: .ref q :: st) := by
  intro p e s m args below meth c' H ls locs C hP hS hl
  obtain ⟨⟨C1, T, N1⟩, h1, h2, h3, h4⟩ := hf
  obtain ⟨⟨C2, T2, N2⟩, ty0, g1, g2, g3, g4, g5⟩ := hw
  have e1 : some (C1, T, N1) = some (C2, T2, N2) := h1.symm.trans g1
  cases e1
  refine va_put (D := eD E) (ci := c) (v := cv E v) (ty := ty) C.1 C.2.1 C.2.2.2.2.2.1 h3 ty0 g2 g3 C.2.2.2.2.1 C.2.2.2.2.2.2.1 hP (wD C.2.2.2.2.2.2.2.2.1 tw h s.heap.size) hS q (wW_obj hn hk) h1 j h2 (C.2.2.2.2.2.1 _ h4) (fun _ h9 => h9) g4 g5 hnr hft (by simpa using hj) d (fun H1 locs1 hP1 hD1 hS1 => ?_)
  rw [hs] at hP1
  exact k p e s m args below meth c' H1 ls locs1 C hP1 hS1 hl
theorem aw_puti {q c N i j : Nat} {x : Int32} (hf : fk (mY M).cls i c j) (hw : fw c j .int) (hn : q < eN E) (hk : kd q = (c + 3, N)) (hj : j < N) (hr : rft tw q c j = none) (d : decode (mC M) pc = .ok (.putfield i, 3)) (k : AW E M K tw (up h q j x) (pc + 3) loc st) : AW E M K tw h pc loc (.int x :: .ref q :: st) := by
  refine aw_put hf hw hn hk hj rfl rfl ?_ d k
  refine wW_set E hn ?_ (fun i hi => wE_upc E tw h _ hi)
  rw [wE_obj hk, set_map' (g := fun i => cv E (fv tw (up h q j x) q c i)) (fun i hi => by rw [fv_up hi]) ?_]
  rw [fv_int hr, up, upc_same]
  unfold upd
  rw [if_pos rfl]
theorem up_same (h : HP) (q j : Nat) (x : Int32) : up h q j x q j = x := by unfold up upc upd; rw [if_pos rfl, if_pos rfl]
theorem aw_putz {q c N i j : Nat} {x : Int32} (hf : fk (mY M).cls i c j) (hw : fw c j .boolean) (hn : q < eN E) (hk : kd q = (c + 3, N)) (hj : j < N) (hr : rft tw q c j = none) (hx : x = nI 0 ∨ x = nI 1) (d : decode (mC M) pc = .ok (.putfield i, 3)) (k : AW E M K tw (up h q j x) (pc + 3) loc st) : AW E M K tw h pc loc (.int x :: .ref q :: st) := by
  refine aw_put hf hw hn hk hj (by rcases hx with rfl | rfl <;> rfl) (by rcases hx with rfl | rfl <;> rfl) ?_ d k
  refine wW_set E hn ?_ (fun i hi => wE_upc E tw h _ hi)
  rw [wE_obj hk, set_map' (g := fun i => cv E (fv tw (up h q j x) q c i)) (fun i hi => by rw [fv_up hi]) ?_]
  rw [fv_int hr, up_same]
theorem rft_tw {c : Nat} (hc : c ≠ 6) (tw2 : TW) (k j : Nat) : rft tw2 k c j = rft tw k c j := by
  unfold rft
  split <;> simp_all
theorem wE_tw {j : Nat} (hj : (kd j).1 ≠ 9) (tw2 : TW) : wE E tw2 h j = wE E tw h j := by
  unfold wE
  split <;> try rfl
  next c L hk =>
    have hc : c ≠ 6 := fun q => hj (by rw [hk, q])
    refine congrArg (fun z => Sum.inr (c, z)) (List.map_congr_left fun i _ => ?_)
    unfold fv
    rw [rft_tw (tw := tw) hc tw2]
theorem kd9 : ∀ j, j ≠ 0 → (kd j).1 ≠ 9 := by
  intro j hj
  by_cases h : j < 56
  · revert hj
    revert j
    decide +kernel
  · unfold kd
    rw [List.getD_eq_getElem?_getD, List.getElem?_eq_none (by simpa [kdL] using Nat.le_of_not_lt h)]
    decide
theorem aw_putT {i j x : Nat} {ty : FieldType} (hn : 0 < eN E) (hf : fk (mY M).cls i 6 j) (hw : fw 6 j ty) (hj : j = 1 ∧ tw' = (x, tw.2) ∨ j = 2 ∧ tw' = (tw.1, x)) (hnr : ∀ a, narrow ty (.ref a) = .ref a) (hft : ∀ a, fits ty (.ref a) = true) (d : decode (mC M) pc = .ok (.putfield i, 3)) (k : AW E M K tw' h (pc + 3) loc st) : AW E M K tw h pc loc (.ref x :: .ref 0 :: st) := by
  refine aw_put (tw' := tw') (h' := h) (q := 0) (c := 6) (N := 12) hf hw hn rfl (by omega) (hnr _) (hft _) ?_ d k
  refine wW_set E hn ?_ (fun i hi => wE_tw (kd9 i hi) _)
  have ho : ∀ z, z ≠ j → cv E (fv tw h 0 6 z) = cv E (fv tw' h 0 6 z) := by
    intro z hz
    have : rft tw 0 6 z = rft tw' 0 6 z := by
      rcases hj with ⟨rfl, rfl⟩ | ⟨rfl, rfl⟩ <;> unfold rft <;> split <;> simp_all
    unfold fv
    rw [this]
  have hv : cv E (.ref x) = cv E (fv tw' h 0 6 j) := by rcases hj with ⟨rfl, rfl⟩ | ⟨rfl, rfl⟩ <;> rfl
  rw [wE_obj (c := 6) (N := 12) rfl, set_map' (g := fun i => cv E (fv tw' h 0 6 i)) ho hv]
theorem inb_in {x : Int32} {L : Nat} (q : inb x L = true) : vp_in x L := of_decide_eq_true (p := ¬ (x < 0 ∨ L ≤ x.toNatClampNeg)) q
theorem aw_iald {q N : Nat} {x : Int32} (hn : q < eN E) (hk : kd q = (0, N)) (hin : inb x N = true) (d : decode (mC M) pc = .ok (.iaload, 1)) (k : AW E M K tw h (pc + 1) loc (.int (h q x.toNatClampNeg) :: st)) : AW E M K tw h pc loc (.int x :: .ref q :: st) :=
  fun p e s m args below meth c H ls locs C hP hS hl => va_iald (D := eD E) C.1 C.2.1 C.2.2.2.2.2.2.1 hP q 0 (wW_int hn hk) rfl (inb_in hin) d (k p e s m args below meth c H ls locs C hP hS hl)
theorem aw_zald {q N : Nat} {x : Int32} (hn : q < eN E) (hk : kd q = (1, N)) (hin : inb x N = true) (d : decode (mC M) pc = .ok (.baload, 1)) (k : AW E M K tw h (pc + 1) loc (.int (h q x.toNatClampNeg) :: st)) : AW E M K tw h pc loc (.int x :: .ref q :: st) :=
  fun p e s m args below meth c H ls locs C hP hS hl => va_zald (D := eD E) C.1 C.2.1 C.2.2.2.2.2.2.1 hP q 1 (wW_bool hn hk) rfl (inb_in hin) d (k p e s m args below meth c H ls locs C hP hS hl)
theorem aw_aald {q N : Nat} {x : Int32} (hn : q < eN E) (hk : kd q = (2, N)) (hin : inb x N = true) (d : decode (mC M) pc = .ok (.aaload, 1)) (k : AW E M K tw h (pc + 1) loc (.ref (q + 1 + x.toNatClampNeg) :: st)) : AW E M K tw h pc loc (.int x :: .ref q :: st) := by
  intro p e s m args below meth c H ls locs C hP hS hl
  have hin' := inb_in hin
  have hlt : x.toNatClampNeg < N := Nat.not_le.mp fun z => hin' (Or.inr z)
  refine W.aald (v := .ref (eA E (q + 1 + x.toNatClampNeg))) (ty := .array .int) C.1 C.2.1 (hP q _ (wW_row hn hk)) ((C.2.2.2.2.2.2.1.2 2 _ rfl).1 N _) rfl (fun z => by cases z) (by show ¬ (x < 0 ∨ (arrV _ _ _).slots.size ≤ _); rw [arrV_size]; exact hin') (by show (arrV _ _ _).slots[_]? = _; rw [arrV_read _ _ hlt]; show some (va_rf (if _ then _ else _)) = _; rw [if_pos hlt]; rfl) rfl rfl d (k p e s m args below meth c H ls locs C hP hS hl)
theorem aw_alen {q N : Nat} (v : Int32) (hn : q < eN E) (hk : kd q = (0, N)) (hv : Int32.ofNat N = v) (d : decode (mC M) pc = .ok (.arraylength, 1)) (k : AW E M K tw h (pc + 1) loc (.int v :: st)) : AW E M K tw h pc loc (.ref q :: st) :=
  fun p e s m args below meth c H ls locs C hP hS hl => va_alen (D := eD E) C.1 C.2.1 C.2.2.2.2.2.2.1 hP q 0 (wW_int hn hk) rfl hv d (k p e s m args below meth c H ls locs C hP hS hl)
theorem aw_iast {q N : Nat} {x y : Int32} (hn : q < eN E) (hk : kd q = (0, N)) (hin : inb x N = true) (d : decode (mC M) pc = .ok (.iastore, 1)) (k : AW E M K tw (up h q x.toNatClampNeg y) (pc + 1) loc st) : AW E M K tw h pc loc (.int y :: .int x :: .ref q :: st) := by
  intro p e s m args below meth c H ls locs C hP hS hl
  refine va_iast (D := eD E) C.1 C.2.1 C.2.2.2.2.2.2.1 hP (wD C.2.2.2.2.2.2.2.2.1 tw h s.heap.size) hS q 0 (wW_int hn hk) rfl (inb_in hin) d (fun H1 locs1 hP1 hD1 hS1 => ?_)
  rw [wW_set E (tw' := tw) (h' := up h q x.toNatClampNeg y) hn (by rw [wE_int hk, up, upc_same]) (fun i hi => wE_upc E tw h _ hi)] at hP1
  exact k p e s m args below meth c H1 ls locs1 C hP1 hS1 hl
theorem aw_zast {q N : Nat} {x y : Int32} (hn : q < eN E) (hk : kd q = (1, N)) (hin : inb x N = true) (hy : y = nI 0 ∨ y = nI 1) (d : decode (mC M) pc = .ok (.bastore, 1)) (k : AW E M K tw (up h q x.toNatClampNeg y) (pc + 1) loc st) : AW E M K tw h pc loc (.int y :: .int x :: .ref q :: st) := by
  intro p e s m args below meth c H ls locs C hP hS hl
  refine va_zast (D := eD E) C.1 C.2.1 C.2.2.2.2.2.2.1 hP (wD C.2.2.2.2.2.2.2.2.1 tw h s.heap.size) hS q 1 (wW_bool hn hk) rfl (inb_in hin) d (fun H1 locs1 hP1 hD1 hS1 => ?_)
  rw [show vp_nar .boolean y = y by rcases hy with rfl | rfl <;> rfl] at hP1
  rw [wW_set E (tw' := tw) (h' := up h q x.toNatClampNeg y) hn (by rw [wE_bool hk, up, upc_same]) (fun i hi => wE_upc E tw h _ hi)] at hP1
  exact k p e s m args below meth c H1 ls locs1 C hP1 hS1 hl
theorem aw_copy {i a b L0 L1 : Nat} {x y n : Int32} (ha : a < eN E) (ka : kd a = (0, L0)) (hb : b < eN E) (kb : kd b = (0, L1)) (hc : cpb x y n L0 L1 = true) (gl : Cond.methodLink (mY M).cls i arraycopyName ∈ gt) (gn : Cond.native arraycopyName ∈ gt) (gs : Cond.static arraycopyName ∈ gt) (gi : Cond.initialized "java/lang/System" ∈ gt)
    (hR : 1 ≤ K.1.frames ∧ (st.map Value.category).sum + (nativeFrameWords "java/lang/System" "arraycopy" 5 + 11) ≤ K.1.locals) (d : decode (mC M) pc = .ok (.invokestatic i, 3)) (k : AW E M K tw (cpy h a x b y n) (pc + 3) loc st) : AW E M K tw h pc loc (.int n :: .int y :: .ref b :: .int x :: .ref a :: st) := by
  intro p e s m args below meth c H ls locs C hP hS hl
  obtain ⟨h1, h2, h3, h4, h5⟩ := of_decide_eq_true hc
  have hg := C.2.2.2.2.2.1
  refine va_copyi (D := eD E) C.1 C.2.1 (by rw [C.2.2.2.1, hl.1]) C.2.2.2.2.1 (hg _ gl) (hg _ gn) (hg _ gs) (hg _ gi) C.2.2.2.2.2.2.1 hP (wD C.2.2.2.2.2.2.2.2.1 tw h s.heap.size) hS a b 0 0 (wW_int ha ka) (wW_int hb kb) rfl rfl rfl h1 h2 h3 h4 h5 (fun _ _ => rfl) hR.1 ?_ d (fun H1 locs1 hP1 hD1 hS1 => ?_)
  · rw [List.map_map, show ((fun v : Value => v.category) ∘ cv E) = Value.category from funext fun v => cv_cat E v]
    exact hR.2
  · rw [wW_set E (tw' := tw) (h' := cpy h a x b y n) hb (by rw [wE_int kb, cpy, upc_same]) (fun i hi => wE_upc E tw h _ hi)] at hP1
    exact k p e s m args below meth c H1 ls locs1 C hP1 hS1 hl
end AWR
section AWC
variable {E : EV} {M N : MI} {K : KX} {tw tw' : TW} {h h' : HP} {pc : Nat} {loc : LC} {st : List Value}
theorem QC.blind {av : List Value} {sz : Nat} : FrameBlind (va_Pc (av.map (cv E)) (fun U => U.heap.size = sz ∧ va_P (eD E) vwCl (wW E tw h) U.heap ∧ va_K (eD E) vwCl (tyE E) U)) := by
  intro a U g mk q
  obtain ⟨q0, q1, qP, qK⟩ := q
  exact ⟨q0, q1, qP, va_K.moved (u := U) (U := U.calling g mk a) (Vm.Alike.refl U.vm) qK⟩
/-- behind a call -/
theorem aw_back {p : Program} {e : Env} {s : State} {m : MethodId} {args : Array Value} {below : List Frame} {meth : Method} {c : Code} {H : Heap} {ls : Array Slot} {locs : List Loc} {rv : Option Value} {a : Array Value} {st0 : List Value}
    (C : CX E M K p s m args meth c) (hS : va_S (fA E s.heap.size) s.heap H locs) (hl : LR E M ls loc) (hr : va_Run p (eL E) e K.1 s m args below meth c H locs K.2.1 K.2.2.1 0 0 (F0 m pc ls st0) (st.map (cv E)) (QC E H.size rv tw' h' a) (fA E H.size))
    (k : AW E M K tw' h' (pc + 3) loc (rv.toList ++ st)) : W p (eL E) e K.1 s m args below meth c H locs K.2.1 K.2.2.1 (K.2.2.2.1 below args s) (F0 m pc ls st0) := by
  intro T hT X
  obtain ⟨v, st₀, t, T', L, h0, X', hL, e1, e2, ⟨⟨hv, hp, hb⟩, hz, hk⟩, stp⟩ := hr T hT X
  have hv2 : v = rv.map (cv E) := by cases hv; rfl
  subst hv2
  rw [h0] at hz hk
  have hsub : ∀ q, fA E H.size q → fA E s.heap.size q := fun q hq => by
    rcases hq with hq | hq
    · exact Or.inl hq
    · exact Or.inr (Nat.le_trans hS.1 hq)
  have hS' : va_S (fA E s.heap.size) s.heap T'.heap (locs ++ L) := by
    refine ⟨Nat.le_trans hS.1 (by rw [e1]; exact hz), fun q h1 h2 => ?_, fun q hq => ?_⟩
    · rw [e1, hk q (Nat.lt_of_lt_of_le h1 hS.1) (fun z => h2 (hsub q z))]
      exact hS.2.1 q h1 h2
    · rcases List.mem_append.mp hq with z | z
      · exact hS.2.2 q z
      · exact hsub _ (hL q z)
  obtain ⟨t2, a1, b1⟩ := k p e s m args below meth c T'.heap ls (locs ++ L) C (by rw [e1]; exact hp) hS' hl T' rfl X'
  refine ⟨t2, stp t2 ?_, b1⟩
  have : (rv.map (cv E)).toList ++ st.map (cv E) = (rv.toList ++ st).map (cv E) := by cases rv <;> rfl
  rw [this]
  exact a1
/-- a method that can be called on an object of its class: the words -/
def okV (N : MI) (n : Nat) : Prop := Cond.instanceMethod (mY N) ∈ gt ∧ Cond.selects (mY N).cls (mY N) (mY N) ∈ gt ∧ Cond.initialized (mY N).cls ∈ gt ∧ Cond.code (mY N) (mC N) (mL N) (mR N) ∈ gt ∧ (mY N).cls ≠ "java/lang/invoke/MethodHandle" ∧ (mY N).cls ≠ "java/lang/invoke/VarHandle" ∧ (parseMethodDescriptor (mY N).desc).map (fun d => d.parameters.length) = some n
def okS (N : MI) (n : Nat) : Prop := Cond.static (mY N) ∈ gt ∧ Cond.initialized (mY N).cls ∈ gt ∧ Cond.code (mY N) (mC N) (mL N) (mR N) ∈ gt ∧ (mY N).cls ≠ "java/lang/invoke/MethodHandle" ∧ (mY N).cls ≠ "java/lang/invoke/VarHandle" ∧ (parseMethodDescriptor (mY N).desc).map (fun d => d.parameters.length) = some n
def roomy (N : MI) (R : Room) : Prop := mD N + 1 ≤ R.frames ∧ 8 + (mL N + 11) + 64 * mD N ≤ R.locals
theorem aw_callV {i q c NF n : Nat} {As st0 : List Value} {rv : Option Value} (hn : q < eN E) (hk : kd q = (c + 3, NF)) (hcl : (vwCl[c]?).map (fun z => z.1) = some (mY N).cls) (ok : okV N n) (hlk : Cond.methodLink (mY M).cls i (mY N) ∈ gt) (hlen : As.length = n) (hs : st0 = As.reverse ++ .ref q :: st) (hst : (st.map Value.category).sum ≤ 8) (hR : roomy N K.1) (d : decode (mC M) pc = .ok (.invokevirtual i, 3))
    (hR2 : K.2.1 ≤ K.1.cells ∧ K.2.2.1 ≤ K.1.slots) (hc : CT E N tw h (.ref q :: As) rv tw' h') (k : AW E M K tw' h' (pc + 3) loc (rv.toList ++ st)) : AW E M K tw h pc loc st0 := by
  intro p e s m args below meth c' H ls locs C hP hS hl
  subst hs
  obtain ⟨o1, o2, o3, o4, o5, o6, o7⟩ := ok
  obtain ⟨q3, hq3, hq4⟩ : ∃ z, vwCl[c]? = some z ∧ z.1 = (mY N).cls := by
    cases hz : vwCl[c]? with
    | none => rw [hz] at hcl; cases hcl
    | some z => rw [hz] at hcl; exact ⟨z, rfl, by simpa using hcl⟩
  have hG : GoodIn gt (wsV (mY M).cls i (mY N).cls (mY N) (wds N)) := by
    intro w hw
    have : w ∈ gt := by
      simp only [wsV, wds, List.cons_append, List.nil_append, List.mem_cons] at hw
      rcases hw with rfl | rfl | rfl | rfl | rfl | hw <;> assumption
    exact ⟨this, gt_good this⟩
  refine aw_back C hS hl (va_runV (As := As.map (cv E)) (rest := st.map (cv E)) (mc := 0) (ms := 0) (n := n) ⟨C.1, C.2.1, C.2.2.2.1, C.2.2.2.2.1, C.2.2.2.2.2.1⟩ (hc H.size) (cwV n C.2.2.2.2.2.1 hG rfl rfl rfl ⟨rfl, o5, o6, o7⟩ hR) ⟨QC.blind, ?_, fun U hU hW => ⟨rfl, by rw [hU], by rw [hU]; exact hP, va_K.moved hW.alike C.2.2.2.2.2.2.1⟩⟩ rfl (by simpa using hlen) hl.1 ?_ ?_ d hR2) k
  · have := va_recv C.2.2.2.2.2.2.1 hP hq3 (wW_obj hn hk)
    rw [hq4] at this
    exact this
  · show List.map (cv E) _ = _
    simp [cv]
  · refine lv_room ?_
    rw [List.map_map, show ((fun v : Value => v.category) ∘ cv E) = Value.category from funext fun v => cv_cat E v]
    exact hst
theorem aw_callS {i n : Nat} {As st0 : List Value} {rv : Option Value} (ok : okS N n) (hlk : Cond.methodLink (mY M).cls i (mY N) ∈ gt) (hlen : As.length = n) (hs : st0 = As.reverse ++ st) (hst : (st.map Value.category).sum ≤ 8) (hR : roomy N K.1) (d : decode (mC M) pc = .ok (.invokestatic i, 3))
    (hR2 : K.2.1 ≤ K.1.cells ∧ K.2.2.1 ≤ K.1.slots) (hc : CT E N tw h As rv tw' h') (k : AW E M K tw' h' (pc + 3) loc (rv.toList ++ st)) : AW E M K tw h pc loc st0 := by
  intro p e s m args below meth c' H ls locs C hP hS hl
  subst hs
  obtain ⟨o1, o3, o4, o5, o6, o7⟩ := ok
  have hG : GoodIn gt (va_wsS (mY M).cls i (mY N) (wds N)) := by
    intro w hw
    have : w ∈ gt := by
      simp only [va_wsS, wds, List.cons_append, List.nil_append, List.mem_cons] at hw
      rcases hw with rfl | rfl | rfl | rfl | hw <;> assumption
    exact ⟨this, gt_good this⟩
  refine aw_back C hS hl (va_runS (As := As.map (cv E)) (rest := st.map (cv E)) (mc := 0) (ms := 0) (n := n) ⟨C.1, C.2.1, C.2.2.2.1, C.2.2.2.2.1, C.2.2.2.2.2.1⟩ (hc H.size) (va_cwS n C.2.2.2.2.2.1 hG rfl rfl rfl ⟨o5, o6, o7⟩ hR) ⟨QC.blind, fun U hU hW => ⟨rfl, by rw [hU], by rw [hU]; exact hP, va_K.moved hW.alike C.2.2.2.2.2.2.1⟩⟩ rfl (by simpa using hlen) hl.1 ?_ ?_ d hR2) k
  · show List.map (cv E) _ = _
    simp
  · refine lv_room ?_
    rw [List.map_map, show ((fun v : Value => v.category) ∘ cv E) = Value.category from funext fun v => cv_cat E v]
    exact hst
theorem aw_callVi {i q c NF n : Nat} {As st0 : List Value} {r : Int32} (hlk : Cond.methodLink (mY M).cls i (mY N) ∈ gt) (ok : okV N n) (hn : q < eN E) (hk : kd q = (c + 3, NF)) (hcl : (vwCl[c]?).map (fun z => z.1) = some (mY N).cls) (hlen : As.length = n) (hs : st0 = As.reverse ++ .ref q :: st) (hst : (st.map Value.category).sum ≤ 8) (hR : roomy N K.1) (d : decode (mC M) pc = .ok (.invokevirtual i, 3))
    (hR2 : K.2.1 ≤ K.1.cells ∧ K.2.2.1 ≤ K.1.slots) (hc : CT E N tw h (.ref q :: As) (some (.int r)) tw' h') (k : AW E M K tw' h' (pc + 3) loc (.int r :: st)) : AW E M K tw h pc loc st0 := aw_callV hn hk hcl ok hlk hlen hs hst hR d hR2 hc k
theorem aw_callVv {i q c NF n : Nat} {As st0 : List Value} (hlk : Cond.methodLink (mY M).cls i (mY N) ∈ gt) (ok : okV N n) (hn : q < eN E) (hk : kd q = (c + 3, NF)) (hcl : (vwCl[c]?).map (fun z => z.1) = some (mY N).cls) (hlen : As.length = n) (hs : st0 = As.reverse ++ .ref q :: st) (hst : (st.map Value.category).sum ≤ 8) (hR : roomy N K.1) (d : decode (mC M) pc = .ok (.invokevirtual i, 3))
    (hR2 : K.2.1 ≤ K.1.cells ∧ K.2.2.1 ≤ K.1.slots) (hc : CT E N tw h (.ref q :: As) none tw' h') (k : AW E M K tw' h' (pc + 3) loc st) : AW E M K tw h pc loc st0 := aw_callV hn hk hcl ok hlk hlen hs hst hR d hR2 hc k
theorem aw_callSi {i n : Nat} {As st0 : List Value} {r : Int32} (hlk : Cond.methodLink (mY M).cls i (mY N) ∈ gt) (ok : okS N n) (hlen : As.length = n) (hs : st0 = As.reverse ++ st) (hst : (st.map Value.category).sum ≤ 8) (hR : roomy N K.1) (d : decode (mC M) pc = .ok (.invokestatic i, 3))
    (hR2 : K.2.1 ≤ K.1.cells ∧ K.2.2.1 ≤ K.1.slots) (hc : CT E N tw h As (some (.int r)) tw' h') (k : AW E M K tw' h' (pc + 3) loc (.int r :: st)) : AW E M K tw h pc loc st0 := aw_callS ok hlk hlen hs hst hR d hR2 hc k
theorem aw_callSv {i n : Nat} {As st0 : List Value} (hlk : Cond.methodLink (mY M).cls i (mY N) ∈ gt) (ok : okS N n) (hlen : As.length = n) (hs : st0 = As.reverse ++ st) (hst : (st.map Value.category).sum ≤ 8) (hR : roomy N K.1) (d : decode (mC M) pc = .ok (.invokestatic i, 3))
    (hR2 : K.2.1 ≤ K.1.cells ∧ K.2.2.1 ≤ K.1.slots) (hc : CT E N tw h As none tw' h') (k : AW E M K tw' h' (pc + 3) loc st) : AW E M K tw h pc loc st0 := aw_callS ok hlk hlen hs hst hR d hR2 hc k
theorem aw_iret {x : Int32} (hr : mR M = some .int) (d : decode (mC M) pc = .ok (.ireturn, 1)) : AW E M (KM E M (some (.int x)) tw h) tw h pc loc [.int x] :=
  fun p e s m args below meth c H ls locs C hP hS hl => W.iret (v := x) C.1 C.2.1 (C.2.2.1.trans hr) (fun t ht hW => ⟨⟨rfl, by rw [ht]; exact hP, va_K.moved hW.alike C.2.2.2.2.2.2.1⟩, hS.F ht⟩) hS.2.2 d C.2.2.2.2.2.2.2.1
theorem aw_zret {x : Int32} (hr : mR M = some .boolean) (hx : x = nI 0 ∨ x = nI 1) (d : decode (mC M) pc = .ok (.ireturn, 1)) : AW E M (KM E M (some (.int x)) tw h) tw h pc loc [.int x] :=
  fun p e s m args below meth c H ls locs C hP hS hl => W.zret (v := x) C.1 C.2.1 (C.2.2.1.trans hr) (by rcases hx with rfl | rfl <;> rfl) (fun t ht hW => ⟨⟨rfl, by rw [ht]; exact hP, va_K.moved hW.alike C.2.2.2.2.2.2.1⟩, hS.F ht⟩) hS.2.2 d C.2.2.2.2.2.2.2.1
theorem aw_vret (hr : mR M = none) (d : decode (mC M) pc = .ok (.return_, 1)) : AW E M (KM E M none tw h) tw h pc loc [] :=
  fun p e s m args below meth c H ls locs C hP hS hl => W.vret C.1 C.2.1 (C.2.2.1.trans hr) (fun t ht hW => ⟨⟨rfl, by rw [ht]; exact hP, va_K.moved hW.alike C.2.2.2.2.2.2.1⟩, hS.F ht⟩) hS.2.2 d C.2.2.2.2.2.2.2.1
end AWC
