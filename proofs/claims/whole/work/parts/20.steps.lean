/-! PART 20: rules, one an instruction: a method that makes nothing (cells and slots stay 0) -/
/-- a run of a method that makes nothing, d calls deep at most below it -/
def pz (Lx : Nat) (xs : Nat → Int32) (d : Nat) (t : List (List rI)) (ret : Option FieldType) (Q : rQ) (i : Nat) (L : List (Option Value)) (st : List Value) (w : pW) : Prop := rx_P (rx_R Lx xs d) Lx xs t ret (0, 0) Q i L st w 0 0
section PZ
variable {Lx : Nat} {xs : Nat → Int32} {d : Nat} {t : List (List rI)} {ret : Option FieldType} {Q : rQ} {i j pc ln : Nat} {info : List Nat} {v : Int32} {L : List (Option Value)} {st : List Value} {w : pW}
theorem pz_en {M : Nat} {args : List Value} (hl : ((rx_en args).length ≤ mL M) ∧ mA M = (0, 0)) (ht : rx_tt.getD M [] = t) (hr : mR M = ret) (k : pz Lx xs d t ret Q 0 (rx_l0 args (mL M)) [] w) : rx_R Lx xs (d + 1) M args w Q := by
  refine ⟨hl.1, ?_⟩
  rw [hl.2, ht, hr]
  exact k
theorem pz_st (h : rx_st (rx_R Lx xs d) Lx xs t ret (0, 0) Q (rx_P (rx_R Lx xs d) Lx xs t ret (0, 0) Q) i L st w 0 0) : pz Lx xs d t ret Q i L st w := px_st (mo_R Lx xs d) h
theorem pz_ic {n : Int} (h : rx_e t i = (pc, .iconst n, ln, info, v)) (k : pz Lx xs d t ret Q (i + 1) L (.int v :: st) w) : pz Lx xs d t ret Q i L st w := pz_st (by unfold rx_st; rw [h]; exact k)
theorem pz_bi {n : Int} (h : rx_e t i = (pc, .bipush n, ln, info, v)) (k : pz Lx xs d t ret Q (i + 1) L (.int v :: st) w) : pz Lx xs d t ret Q i L st w := pz_st (by unfold rx_st; rw [h]; exact k)
theorem pz_si {n : Int} (h : rx_e t i = (pc, .sipush n, ln, info, v)) (k : pz Lx xs d t ret Q (i + 1) L (.int v :: st) w) : pz Lx xs d t ret Q i L st w := pz_st (by unfold rx_st; rw [h]; exact k)
theorem pz_l2 {n : Nat} (h : rx_e t i = (pc, .ldc2_w n, ln, info, v)) (k : pz Lx xs d t ret Q (i + 1) L (.long (Int64.ofNat (rx_at info 0)) :: st) w) : pz Lx xs d t ret Q i L st w := pz_st (by unfold rx_st; rw [h]; exact k)
theorem pz_il {n : Nat} {x : Int32} (h : rx_e t i = (pc, .iload n, ln, info, v)) (hl : L[n]? = some (some (.int x))) (k : pz Lx xs d t ret Q (i + 1) L (.int x :: st) w) : pz Lx xs d t ret Q i L st w := pz_st (by unfold rx_st; rw [h]; simp only [rx_ldi, hl]; exact k)
theorem pz_iln {n : Fin 4} {x : Int32} (h : rx_e t i = (pc, .iload_n n, ln, info, v)) (hl : L[n.val]? = some (some (.int x))) (k : pz Lx xs d t ret Q (i + 1) L (.int x :: st) w) : pz Lx xs d t ret Q i L st w := pz_st (by unfold rx_st; rw [h]; simp only [rx_ldi, hl]; exact k)
theorem pz_lln {n : Fin 4} {x : Int64} (h : rx_e t i = (pc, .lload_n n, ln, info, v)) (hl : L[n.val]? = some (some (.long x))) (k : pz Lx xs d t ret Q (i + 1) L (.long x :: st) w) : pz Lx xs d t ret Q i L st w := pz_st (by unfold rx_st; rw [h]; simp only [rx_ldl, hl]; exact k)
theorem pz_al {n : Nat} {x : Nat} (h : rx_e t i = (pc, .aload n, ln, info, v)) (hl : L[n]? = some (some (.ref x))) (k : pz Lx xs d t ret Q (i + 1) L (.ref x :: st) w) : pz Lx xs d t ret Q i L st w := pz_st (by unfold rx_st; rw [h]; simp only [rx_lda, hl]; exact k)
theorem pz_aln {n : Fin 4} {x : Nat} (h : rx_e t i = (pc, .aload_n n, ln, info, v)) (hl : L[n.val]? = some (some (.ref x))) (k : pz Lx xs d t ret Q (i + 1) L (.ref x :: st) w) : pz Lx xs d t ret Q i L st w := pz_st (by unfold rx_st; rw [h]; simp only [rx_lda, hl]; exact k)
theorem pz_is {n : Nat} {x : Int32} {L' : List (Option Value)} (h : rx_e t i = (pc, .istore n, ln, info, v)) (hw : rx_nw L n = true ∧ n < L.length) (hL : L.set n (some (.int x)) = L') (k : pz Lx xs d t ret Q (i + 1) L' st w) : pz Lx xs d t ret Q i L (.int x :: st) w := pz_st (by unfold rx_st; rw [h]; subst hL; exact ⟨hw, k⟩)
theorem pz_isn {n : Fin 4} {x : Int32} {L' : List (Option Value)} (h : rx_e t i = (pc, .istore_n n, ln, info, v)) (hw : rx_nw L n.val = true ∧ n.val < L.length) (hL : L.set n.val (some (.int x)) = L') (k : pz Lx xs d t ret Q (i + 1) L' st w) : pz Lx xs d t ret Q i L (.int x :: st) w := pz_st (by unfold rx_st; rw [h]; subst hL; exact ⟨hw, k⟩)
theorem pz_inc {n : Nat} {m : Int} {x : Int32} {L' : List (Option Value)} (h : rx_e t i = (pc, .iinc n m, ln, info, v)) (hl : L[n]? = some (some (.int x))) (hw : rx_nw L n = true) (hL : L.set n (some (.int (x + v))) = L') (k : pz Lx xs d t ret Q (i + 1) L' st w) : pz Lx xs d t ret Q i L st w := pz_st (by unfold rx_st; rw [h]; subst hL; simp only [rx_inc, hl]; exact ⟨hw, k⟩)
theorem pz_add {x y : Int32} (h : rx_e t i = (pc, .iadd, ln, info, v)) (k : pz Lx xs d t ret Q (i + 1) L (.int (x + y) :: st) w) : pz Lx xs d t ret Q i L (.int y :: .int x :: st) w := pz_st (by unfold rx_st; rw [h]; exact k)
theorem pz_sub {x y : Int32} (h : rx_e t i = (pc, .isub, ln, info, v)) (k : pz Lx xs d t ret Q (i + 1) L (.int (x - y) :: st) w) : pz Lx xs d t ret Q i L (.int y :: .int x :: st) w := pz_st (by unfold rx_st; rw [h]; exact k)
theorem pz_mul {x y : Int32} (h : rx_e t i = (pc, .imul, ln, info, v)) (k : pz Lx xs d t ret Q (i + 1) L (.int (x * y) :: st) w) : pz Lx xs d t ret Q i L (.int y :: .int x :: st) w := pz_st (by unfold rx_st; rw [h]; exact k)
theorem pz_and {x y : Int32} (h : rx_e t i = (pc, .iand, ln, info, v)) (k : pz Lx xs d t ret Q (i + 1) L (.int (x &&& y) :: st) w) : pz Lx xs d t ret Q i L (.int y :: .int x :: st) w := pz_st (by unfold rx_st; rw [h]; exact k)
theorem pz_or {x y : Int32} (h : rx_e t i = (pc, .ior, ln, info, v)) (k : pz Lx xs d t ret Q (i + 1) L (.int (x ||| y) :: st) w) : pz Lx xs d t ret Q i L (.int y :: .int x :: st) w := pz_st (by unfold rx_st; rw [h]; exact k)
theorem pz_div {x y : Int32} (h : rx_e t i = (pc, .idiv, ln, info, v)) (h0 : ¬ y = 0) (k : pz Lx xs d t ret Q (i + 1) L (.int (x / y) :: st) w) : pz Lx xs d t ret Q i L (.int y :: .int x :: st) w := pz_st (by unfold rx_st; rw [h]; exact ⟨h0, k⟩)
theorem pz_rem {x y : Int32} (h : rx_e t i = (pc, .irem, ln, info, v)) (h0 : ¬ y = 0) (k : pz Lx xs d t ret Q (i + 1) L (.int (x - x / y * y) :: st) w) : pz Lx xs d t ret Q i L (.int y :: .int x :: st) w := pz_st (by unfold rx_st; rw [h]; exact ⟨h0, k⟩)
theorem pz_shl {x y : Int32} (h : rx_e t i = (pc, .ishl, ln, info, v)) (k : pz Lx xs d t ret Q (i + 1) L (.int (x <<< (y &&& 31)) :: st) w) : pz Lx xs d t ret Q i L (.int y :: .int x :: st) w := pz_st (by unfold rx_st; rw [h]; exact k)
theorem pz_shr {x y : Int32} (h : rx_e t i = (pc, .ishr, ln, info, v)) (k : pz Lx xs d t ret Q (i + 1) L (.int (x >>> (y &&& 31)) :: st) w) : pz Lx xs d t ret Q i L (.int y :: .int x :: st) w := pz_st (by unfold rx_st; rw [h]; exact k)
theorem pz_ush {x y : Int32} (h : rx_e t i = (pc, .iushr, ln, info, v)) (k : pz Lx xs d t ret Q (i + 1) L (.int (x.toUInt32 >>> (y.toUInt32 &&& Int32.toUInt32 31)).toInt32 :: st) w) : pz Lx xs d t ret Q i L (.int y :: .int x :: st) w := pz_st (by unfold rx_st; rw [h]; exact k)
theorem pz_i2b {x : Int32} (h : rx_e t i = (pc, .i2b, ln, info, v)) (k : pz Lx xs d t ret Q (i + 1) L (.int x.toInt8.toInt32 :: st) w) : pz Lx xs d t ret Q i L (.int x :: st) w := pz_st (by unfold rx_st; rw [h]; exact k)
theorem pz_i2l {x : Int32} (h : rx_e t i = (pc, .i2l, ln, info, v)) (k : pz Lx xs d t ret Q (i + 1) L (.long x.toInt64 :: st) w) : pz Lx xs d t ret Q i L (.int x :: st) w := pz_st (by unfold rx_st; rw [h]; exact k)
theorem pz_l2i {x : Int64} (h : rx_e t i = (pc, .l2i, ln, info, v)) (k : pz Lx xs d t ret Q (i + 1) L (.int x.toInt32 :: st) w) : pz Lx xs d t ret Q i L (.long x :: st) w := pz_st (by unfold rx_st; rw [h]; exact k)
theorem pz_ladd {x y : Int64} (h : rx_e t i = (pc, .ladd, ln, info, v)) (k : pz Lx xs d t ret Q (i + 1) L (.long (x + y) :: st) w) : pz Lx xs d t ret Q i L (.long y :: .long x :: st) w := pz_st (by unfold rx_st; rw [h]; exact k)
theorem pz_lsub {x y : Int64} (h : rx_e t i = (pc, .lsub, ln, info, v)) (k : pz Lx xs d t ret Q (i + 1) L (.long (x - y) :: st) w) : pz Lx xs d t ret Q i L (.long y :: .long x :: st) w := pz_st (by unfold rx_st; rw [h]; exact k)
theorem pz_lshr {x : Int64} {y : Int32} (h : rx_e t i = (pc, .lshr, ln, info, v)) (k : pz Lx xs d t ret Q (i + 1) L (.long (x >>> (y.toInt64 &&& 63)) :: st) w) : pz Lx xs d t ret Q i L (.int y :: .long x :: st) w := pz_st (by unfold rx_st; rw [h]; exact k)
theorem pz_lush {x : Int64} {y : Int32} (h : rx_e t i = (pc, .lushr, ln, info, v)) (k : pz Lx xs d t ret Q (i + 1) L (.long (x.toUInt64 >>> (y.toInt64.toUInt64 &&& Int64.toUInt64 63)).toInt64 :: st) w) : pz Lx xs d t ret Q i L (.int y :: .long x :: st) w := pz_st (by unfold rx_st; rw [h]; exact k)
theorem pz_lcmp {x y : Int64} (h : rx_e t i = (pc, .lcmp, ln, info, v)) (k : pz Lx xs d t ret Q (i + 1) L (.int (lg_cmp x y) :: st) w) : pz Lx xs d t ret Q i L (.long y :: .long x :: st) w := pz_st (by unfold rx_st; rw [h]; exact k)
theorem pz_dup {x : Value} (h : rx_e t i = (pc, .dup, ln, info, v)) (hc : x.category = 1) (k : pz Lx xs d t ret Q (i + 1) L (x :: x :: st) w) : pz Lx xs d t ret Q i L (x :: st) w := pz_st (by unfold rx_st; rw [h]; exact ⟨hc, k⟩)
theorem pz_pop {x : Value} (h : rx_e t i = (pc, .pop, ln, info, v)) (hc : x.category = 1) (k : pz Lx xs d t ret Q (i + 1) L st w) : pz Lx xs d t ret Q i L (x :: st) w := pz_st (by unfold rx_st; rw [h]; exact ⟨hc, k⟩)
theorem pz_go {o : Int} (h : rx_e t i = (pc, .goto o, ln, [j], v)) (k : pz Lx xs d t ret Q j L st w) : pz Lx xs d t ret Q i L st w := pz_st (by unfold rx_st; rw [h]; exact k)
theorem pz_if {c : Jvm.ClassFile.Cond} {o : Int} {x : Int32} (h : rx_e t i = (pc, .ifCond c o, ln, [j], v)) (k : rx_cmp c x 0 (pz Lx xs d t ret Q j L st w) (pz Lx xs d t ret Q (i + 1) L st w)) : pz Lx xs d t ret Q i L (.int x :: st) w := pz_st (by unfold rx_st; rw [h]; exact k)
theorem pz_ifi {c : Jvm.ClassFile.Cond} {o : Int} {x y : Int32} (h : rx_e t i = (pc, .if_icmp c o, ln, [j], v)) (k : rx_cmp c x y (pz Lx xs d t ret Q j L st w) (pz Lx xs d t ret Q (i + 1) L st w)) : pz Lx xs d t ret Q i L (.int y :: .int x :: st) w := pz_st (by unfold rx_st; rw [h]; exact k)
theorem pz_tsw {df lo hi : Int} {offs : Array Int} {x : Int32} (h : rx_e t i = (pc, .tableswitch df lo hi offs, ln, info, v)) (k1 : x.toInt < lo ∨ hi < x.toInt → pz Lx xs d t ret Q (rx_at info 0) L st w) (k2 : ¬ x.toInt < lo → ¬ hi < x.toInt → pz Lx xs d t ret Q (rx_at info ((x.toInt - lo).toNat + 1)) L st w) : pz Lx xs d t ret Q i L (.int x :: st) w := pz_st (by unfold rx_st; rw [h]; exact ⟨k1, k2⟩)
theorem pz_get {n c f q o : Nat} {x : Value} (h : rx_e t i = (pc, .getfield n, ln, [c, f, q], v)) (hg : gt_f w c o f = some x) (k : pz Lx xs d t ret Q (i + 1) L (x :: st) w) : pz Lx xs d t ret Q i L (.ref o :: st) w := pz_st (by
  unfold rx_st
  rw [h]
  show (match gt_f w c o f with
    | some x => rx_P (rx_R Lx xs d) Lx xs t ret (0, 0) Q (i + 1) L (x :: st) w 0 0
    | _ => False)
  rw [hg]
  exact k)
theorem pz_put {n c f q o : Nat} {x : Value} {w' : pW} (h : rx_e t i = (pc, .putfield n, ln, [c, f, q], v)) (hg : pt_f w c o f x = some w') (hn : narrow (rx_ty c f) x = x ∧ fits (rx_ty c f) x = true) (k : pz Lx xs d t ret Q (i + 1) L st w') : pz Lx xs d t ret Q i L (x :: .ref o :: st) w := pz_st (by
  unfold rx_st
  rw [h]
  show (match pt_f w c o f x with
    | some w' => (narrow (rx_ty c f) x = x ∧ fits (rx_ty c f) x = true) ∧ rx_P (rx_R Lx xs d) Lx xs t ret (0, 0) Q (i + 1) L st w' 0 0
    | _ => False)
  rw [hg]
  exact ⟨hn, k⟩)
theorem pz_ial {o n : Nat} {f : Nat → Int32} {x : Int32} (h : rx_e t i = (pc, .iaload, ln, info, v)) (hg : gt_a w (o + 1) = some (0, n, .inl f)) (hi : vp_in x n) (k : pz Lx xs d t ret Q (i + 1) L (.int (f x.toNatClampNeg) :: st) w) : pz Lx xs d t ret Q i L (.int x :: .ref (o + 1) :: st) w := pz_st (by
  unfold rx_st
  rw [h]
  simp only [rx_ald, hg]
  exact ⟨rfl, hi, k⟩)
theorem pz_bal {o n tg : Nat} {f : Nat → Int32} {x : Int32} (h : rx_e t i = (pc, .baload, ln, info, v)) (hg : gt_a w (o + 1) = some (tg, n, .inl f)) (ht : (tg == 1 || tg == 2) = true) (hi : vp_in x n) (k : pz Lx xs d t ret Q (i + 1) L (.int (f x.toNatClampNeg) :: st) w) : pz Lx xs d t ret Q i L (.int x :: .ref (o + 1) :: st) w := pz_st (by
  unfold rx_st
  rw [h]
  simp only [rx_ald, hg]
  exact ⟨ht, hi, k⟩)
theorem pz_aal {o n y : Nat} {f : Nat → Option Nat} {x : Int32} (h : rx_e t i = (pc, .aaload, ln, info, v)) (hg : gt_a w o = some (3, n, .inr (.inr (.inr (.inr f))))) (hi : vp_in x n) (hy : f x.toNatClampNeg = some y) (k : pz Lx xs d t ret Q (i + 1) L (.ref y :: st) w) : pz Lx xs d t ret Q i L (.int x :: .ref o :: st) w := pz_st (by
  unfold rx_st
  rw [h]
  simp only [rx_aald, hg]
  exact ⟨hi, y, hy, k⟩)
theorem pz_ias {o n : Nat} {f : Nat → Int32} {x y : Int32} {w' : pW} (h : rx_e t i = (pc, .iastore, ln, info, v)) (hg : gt_a w o = some (0, n, .inl f)) (hi : vp_in y n) (hp : pt_a w o (0, n, .inl (upd f y.toNatClampNeg x)) = w') (k : pz Lx xs d t ret Q (i + 1) L st w') : pz Lx xs d t ret Q i L (.int x :: .int y :: .ref o :: st) w := pz_st (by
  unfold rx_st
  rw [h]
  simp only [rx_ast, hg]
  subst hp
  exact ⟨rfl, hi, k⟩)
theorem pz_bas {o n tg : Nat} {f : Nat → Int32} {x y : Int32} {w' : pW} (h : rx_e t i = (pc, .bastore, ln, info, v)) (hg : gt_a w o = some (tg, n, .inl f)) (ht : (tg == 1 || tg == 2) = true) (hi : vp_in y n) (hp : pt_a w o (tg, n, .inl (upd f y.toNatClampNeg (vp_nar (rx_tg tg) x))) = w') (k : pz Lx xs d t ret Q (i + 1) L st w') : pz Lx xs d t ret Q i L (.int x :: .int y :: .ref o :: st) w := pz_st (by
  unfold rx_st
  rw [h]
  simp only [rx_ast, hg]
  subst hp
  exact ⟨ht, hi, k⟩)
theorem pz_len {o n tg : Nat} {a} (h : rx_e t i = (pc, .arraylength, ln, info, v)) (hg : gt_a w (o + 1) = some (tg, n, a)) (ht : tg < 4) (k : pz Lx xs d t ret Q (i + 1) L (.int (nI n) :: st) w) : pz Lx xs d t ret Q i L (.ref (o + 1) :: st) w := pz_st (by
  unfold rx_st
  rw [h]
  simp only [rx_len, hg]
  exact ⟨ht, k⟩)
theorem pz_ir {x : Int32} {ty : FieldType} (h : rx_e t i = (pc, .ireturn, ln, info, v)) (hr : ret = some ty) (hn : narrow ty (.int x) = .int x) (k : Q (some (.int x)) w) : pz Lx xs d t ret Q i L [.int x] w := pz_st (by unfold rx_st; rw [h]; exact ⟨⟨ty, hr, hn⟩, k⟩)
theorem pz_vr (h : rx_e t i = (pc, .return_, ln, info, v)) (hr : ret = none) (k : Q none w) : pz Lx xs d t ret Q i L [] w := pz_st (by unfold rx_st; rw [h]; exact ⟨hr, k⟩)
/-- calls: a method of an object, with n arguments (on the stack, the last on top) -/
theorem pz_cv {z M n q o ci : Nat} {as : List Value} (h : rx_e t i = (pc, .invokevirtual z, ln, [M, n, 0, q], v)) (hn : as.length = n) (hg : gt_c w o = some ci) (hcn : (rx_cd ci).1 = (mN M).cls) (hsz : rx_sz st ≤ 8) (hA : mA M = (0, 0)) (k : rx_R Lx xs d M (.ref o :: as) w (fun r w' => pz Lx xs d t ret Q (i + 1) L (r.toList ++ st) w')) : pz Lx xs d t ret Q i L (as.reverse ++ .ref o :: st) w := pz_st (by
  unfold rx_st
  rw [h]
  refine ⟨rfl, ?_⟩
  unfold rx_call
  have hl : as.reverse.length = n := by rw [List.length_reverse]; exact hn
  show (match (as.reverse ++ .ref o :: st).drop n with
    | .ref o' :: r => _
    | _ => False)
  rw [List.drop_left' hl]
  refine ⟨⟨by show n ≤ (as.reverse ++ .ref o :: st).length; rw [List.length_append, hl]; exact Nat.le_add_right _ _, ?_, hsz, by show 0 + (mA M).1 ≤ 0; rw [hA]; exact Nat.le_refl _, by show 0 + (mA M).2 ≤ 0; rw [hA]; exact Nat.le_refl _⟩, ?_⟩
  · rw [hg]
    exact congrArg some hcn
  · have e1 : ((as.reverse ++ .ref o :: st).take n).reverse = as := by rw [List.take_left' hl, List.reverse_reverse]
    show rx_R Lx xs d M (.ref o :: ((as.reverse ++ .ref o :: st).take n).reverse) w (fun r w' => rx_P (rx_R Lx xs d) Lx xs t ret (0, 0) Q (i + 1) L (r.toList ++ st) w' (0 + (mA M).1) (0 + (mA M).2))
    rw [e1, hA]
    exact k)
theorem pz_cs {z M n q kd : Nat} {as : List Value} (h : rx_e t i = (pc, .invokestatic z, ln, [M, n, kd, q], v)) (hk : kd = 1 ∨ kd = 2) (hn : as.length = n) (hsz : rx_sz st ≤ 8) (hA : mA M = (0, 0)) (k : rx_R Lx xs d M as w (fun r w' => pz Lx xs d t ret Q (i + 1) L (r.toList ++ st) w')) : pz Lx xs d t ret Q i L (as.reverse ++ st) w := pz_st (by
  unfold rx_st
  rw [h]
  have hl : as.reverse.length = n := by rw [List.length_reverse]; exact hn
  have e1 : ((as.reverse ++ st).take n).reverse = as := by rw [List.take_left' hl, List.reverse_reverse]
  have e2 : (as.reverse ++ st).drop n = st := List.drop_left' hl
  have key : (n ≤ (as.reverse ++ st).length ∧ rx_sz ((as.reverse ++ st).drop n) ≤ 8 ∧ 0 + (mA M).1 ≤ 0 ∧ 0 + (mA M).2 ≤ 0) ∧ rx_R Lx xs d M ((as.reverse ++ st).take n).reverse w (fun r w' => rx_P (rx_R Lx xs d) Lx xs t ret (0, 0) Q (i + 1) L (r.toList ++ (as.reverse ++ st).drop n) w' (0 + (mA M).1) (0 + (mA M).2)) := by
    rw [e1, e2, hA]
    exact ⟨⟨by simp; omega, hsz, Nat.le_refl _, Nat.le_refl _⟩, k⟩
  rcases hk with rfl | rfl
  · exact ⟨Or.inl rfl, key⟩
  · exact ⟨Or.inr (Or.inl rfl), key⟩)
theorem pz_mx {z q : Nat} {x y : Int32} (h : rx_e t i = (pc, .invokestatic z, ln, [0, 2, 10, q], v)) (hsz : rx_sz st ≤ 8) (k : pz Lx xs d t ret Q (i + 1) L (.int (if x < y then y else x) :: st) w) : pz Lx xs d t ret Q i L (.int y :: .int x :: st) w := pz_st (by unfold rx_st; rw [h]; exact ⟨Or.inr (Or.inr (Or.inl rfl)), hsz, k⟩)
theorem pz_mn {z q : Nat} {x y : Int32} (h : rx_e t i = (pc, .invokestatic z, ln, [0, 2, 11, q], v)) (hsz : rx_sz st ≤ 8) (k : pz Lx xs d t ret Q (i + 1) L (.int (if y < x then y else x) :: st) w) : pz Lx xs d t ret Q i L (.int y :: .int x :: st) w := pz_st (by unfold rx_st; rw [h]; exact ⟨Or.inr (Or.inr (Or.inr (Or.inl rfl))), hsz, k⟩)
theorem pz_cp {z q a0 a1 n0 n1 : Nat} {f g : Nat → Int32} {sp dp n : Int32} {w' : pW} (h : rx_e t i = (pc, .invokestatic z, ln, [0, 5, 13, q], v)) (hg0 : gt_a w a0 = some (0, n0, .inl f)) (hg1 : gt_a w a1 = some (0, n1, .inl g)) (hc : rx_sz st ≤ 8 ∧ ¬ sp < 0 ∧ ¬ dp < 0 ∧ ¬ n < 0 ∧ sp.toNatClampNeg + n.toNatClampNeg ≤ n0 ∧ dp.toNatClampNeg + n.toNatClampNeg ≤ n1) (hp : pt_a w a1 (0, n1, .inl (va_cpy f g sp.toNatClampNeg dp.toNatClampNeg n.toNatClampNeg)) = w') (k : pz Lx xs d t ret Q (i + 1) L st w') : pz Lx xs d t ret Q i L (.int n :: .int dp :: .ref a1 :: .int sp :: .ref a0 :: st) w := pz_st (by
  unfold rx_st
  rw [h]
  subst hp
  refine ⟨Or.inr (Or.inr (Or.inr (Or.inr rfl))), ?_⟩
  show (match gt_a w a0, gt_a w a1 with
    | some (0, n0, .inl f), some (0, n1, .inl g) => (rx_sz st ≤ 8 ∧ ¬ sp < 0 ∧ ¬ dp < 0 ∧ ¬ n < 0 ∧ sp.toNatClampNeg + n.toNatClampNeg ≤ n0 ∧ dp.toNatClampNeg + n.toNatClampNeg ≤ n1) ∧ rx_P (rx_R Lx xs d) Lx xs t ret (0, 0) Q (i + 1) L st (pt_a w a1 (0, n1, .inl (va_cpy f g sp.toNatClampNeg dp.toNatClampNeg n.toNatClampNeg))) 0 0
    | _, _ => False)
  rw [hg0, hg1]
  exact ⟨hc, k⟩)
end PZ
