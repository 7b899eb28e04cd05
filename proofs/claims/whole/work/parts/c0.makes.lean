/-! PART C0: a run within a run; rules of a run that makes something -/
theorem sh_call {call : rC} (hc : rx_mo call) {info : List Nat} {lim lim' : Nat × Nat} {st : List Value} {w : pW} {c s c1 s1 : Nat} (hl1 : c1 + lim.1 ≤ lim'.1) (hl2 : s1 + lim.2 ≤ lim'.2) {k k' : List Value → pW → Nat → Nat → Prop} (hk : ∀ r w c s, k r w c s → k' r w (c1 + c) (s1 + s)) (h : rx_call call info lim st w c s k) : rx_call call info lim' st w (c1 + c) (s1 + s) k' := by
  have hk2 : ∀ {r w a b}, k r w (c + a) (s + b) → k' r w (c1 + c + a) (s1 + s + b) := fun {r w a b} z => by
    have := hk _ _ _ _ z
    rw [← Nat.add_assoc, ← Nat.add_assoc] at this
    exact this
  unfold rx_call at h ⊢
  dsimp only at h ⊢
  split at h
  · split at h
    · exact ⟨⟨h.1.1, h.1.2.1, h.1.2.2.1, by have := h.1.2.2.2.1; omega, by have := h.1.2.2.2.2; omega⟩, hc _ _ _ _ _ (fun v w' z => hk2 z) h.2⟩
    · exact h.elim
  · exact ⟨⟨h.1.1, h.1.2.1, by have := h.1.2.2.1; omega, by have := h.1.2.2.2; omega⟩, hc _ _ _ _ _ (fun v w' z => hk2 z) h.2⟩
  · exact ⟨⟨h.1.1, h.1.2.1, by have := h.1.2.2.1; omega, by have := h.1.2.2.2; omega⟩, hc _ _ _ _ _ (fun v w' z => hk2 z) h.2⟩
  · split at h
    · exact ⟨⟨h.1.1, h.1.2.1, by have := h.1.2.2.1; omega, by have := h.1.2.2.2; omega⟩, hc _ _ _ _ _ (fun v w' z => hk2 z) h.2⟩
    · exact h.elim
  · split at h
    · exact ⟨h.1, hk _ _ _ _ h.2⟩
    · exact h.elim
  · split at h
    · exact ⟨h.1, hk _ _ _ _ h.2⟩
    · exact h.elim
  · split at h
    · exact ⟨h.1, hk _ _ _ _ h.2⟩
    · exact h.elim
  · split at h
    · split at h
      · exact ⟨h.1, hk _ _ _ _ h.2⟩
      · exact h.elim
    · exact h.elim
  · exact h.elim
set_option maxHeartbeats 4000000 in
theorem sh_st {call : rC} (hc : rx_mo call) {Lx : Nat} {xs : Nat → Int32} {t : List (List rI)} {ret : Option FieldType} {lim lim' : Nat × Nat} {Q : rQ} {K K' : rK} {i : Nat} {L : List (Option Value)} {st : List Value} {w : pW} {c s c1 s1 : Nat} (hl1 : c1 + lim.1 ≤ lim'.1) (hl2 : s1 + lim.2 ≤ lim'.2) (hK : ∀ i L st w c s, K i L st w c s → K' i L st w (c1 + c) (s1 + s))
    (h : rx_st call Lx xs t ret lim Q K i L st w c s) : rx_st call Lx xs t ret lim' Q K' i L st w (c1 + c) (s1 + s) := by
  have hK2 : ∀ {i L st w a b}, K i L st w (c + a) (s + b) → K' i L st w (c1 + c + a) (s1 + s + b) := fun {i L st w a b} z => by
    have := hK _ _ _ _ _ _ z
    rw [← Nat.add_assoc, ← Nat.add_assoc] at this
    exact this
  unfold rx_st at h ⊢
  generalize rx_e t i = e at h ⊢
  obtain ⟨pc, ins, ln, info, v⟩ := e
  cases ins with
  | iconst n => exact hK _ _ _ _ _ _ h
  | bipush n => exact hK _ _ _ _ _ _ h
  | sipush n => exact hK _ _ _ _ _ _ h
  | ldc n => exact hK _ _ _ _ _ _ h
  | ldc2_w n => exact hK _ _ _ _ _ _ h
  | goto n => exact hK _ _ _ _ _ _ h
  | iload n => exact mo_ldi (k := fun x => K (i + 1) L (x :: st) w c s) (fun r z => hK _ _ _ _ _ _ z) h
  | iload_n n => exact mo_ldi (k := fun x => K (i + 1) L (x :: st) w c s) (fun r z => hK _ _ _ _ _ _ z) h
  | lload_n n => exact mo_ldl (k := fun x => K (i + 1) L (x :: st) w c s) (fun r z => hK _ _ _ _ _ _ z) h
  | aload n => exact mo_lda (k := fun x => K (i + 1) L (x :: st) w c s) (fun r z => hK _ _ _ _ _ _ z) h
  | aload_n n => exact mo_lda (k := fun x => K (i + 1) L (x :: st) w c s) (fun r z => hK _ _ _ _ _ _ z) h
  | istore n => exact mo_sti (k := fun L' r => K (i + 1) L' r w c s) (fun l r z => hK _ _ _ _ _ _ z) h
  | istore_n n => exact mo_sti (k := fun L' r => K (i + 1) L' r w c s) (fun l r z => hK _ _ _ _ _ _ z) h
  | astore_n n => exact mo_sta (k := fun L' r => K (i + 1) L' r w c s) (fun l r z => hK _ _ _ _ _ _ z) h
  | iinc n m => exact mo_inc (k := fun L' => K (i + 1) L' st w c s) (fun l z => hK _ _ _ _ _ _ z) h
  | iadd => exact mo_ii (k := fun r => K (i + 1) L r w c s) (fun r z => hK _ _ _ _ _ _ z) h
  | isub => exact mo_ii (k := fun r => K (i + 1) L r w c s) (fun r z => hK _ _ _ _ _ _ z) h
  | imul => exact mo_ii (k := fun r => K (i + 1) L r w c s) (fun r z => hK _ _ _ _ _ _ z) h
  | iand => exact mo_ii (k := fun r => K (i + 1) L r w c s) (fun r z => hK _ _ _ _ _ _ z) h
  | ior => exact mo_ii (k := fun r => K (i + 1) L r w c s) (fun r z => hK _ _ _ _ _ _ z) h
  | ishl => exact mo_ii (k := fun r => K (i + 1) L r w c s) (fun r z => hK _ _ _ _ _ _ z) h
  | ishr => exact mo_ii (k := fun r => K (i + 1) L r w c s) (fun r z => hK _ _ _ _ _ _ z) h
  | iushr => exact mo_ii (k := fun r => K (i + 1) L r w c s) (fun r z => hK _ _ _ _ _ _ z) h
  | idiv => exact mo_di (k := fun r => K (i + 1) L r w c s) (fun r z => hK _ _ _ _ _ _ z) h
  | irem => exact mo_di (k := fun r => K (i + 1) L r w c s) (fun r z => hK _ _ _ _ _ _ z) h
  | i2b => exact mo_i (k := fun r => K (i + 1) L r w c s) (fun r z => hK _ _ _ _ _ _ z) h
  | ladd => exact mo_ll (k := fun r => K (i + 1) L r w c s) (fun r z => hK _ _ _ _ _ _ z) h
  | lsub => exact mo_ll (k := fun r => K (i + 1) L r w c s) (fun r z => hK _ _ _ _ _ _ z) h
  | land => exact mo_ll (k := fun r => K (i + 1) L r w c s) (fun r z => hK _ _ _ _ _ _ z) h
  | lor => exact mo_ll (k := fun r => K (i + 1) L r w c s) (fun r z => hK _ _ _ _ _ _ z) h
  | lshl => exact mo_li (k := fun r => K (i + 1) L r w c s) (fun r z => hK _ _ _ _ _ _ z) h
  | lshr => exact mo_li (k := fun r => K (i + 1) L r w c s) (fun r z => hK _ _ _ _ _ _ z) h
  | lushr => exact mo_li (k := fun r => K (i + 1) L r w c s) (fun r z => hK _ _ _ _ _ _ z) h
  | i2l =>
    dsimp only at h ⊢
    split at h
    · exact hK _ _ _ _ _ _ h
    · exact h.elim
  | l2i =>
    dsimp only at h ⊢
    split at h
    · exact hK _ _ _ _ _ _ h
    · exact h.elim
  | lcmp =>
    dsimp only at h ⊢
    split at h
    · exact hK _ _ _ _ _ _ h
    · exact h.elim
  | dup =>
    dsimp only at h ⊢
    split at h
    · exact ⟨h.1, hK _ _ _ _ _ _ h.2⟩
    · exact h.elim
  | pop =>
    dsimp only at h ⊢
    split at h
    · exact ⟨h.1, hK _ _ _ _ _ _ h.2⟩
    · exact h.elim
  | newarray n =>
    dsimp only at h ⊢
    split at h
    · exact ⟨⟨h.1.1, h.1.2.1, by have := h.1.2.2.1; omega, by have := h.1.2.2.2; omega⟩, hK2 h.2⟩
    · exact h.elim
  | multianewarray n m =>
    dsimp only at h ⊢
    split at h
    · exact ⟨⟨by have := h.1.1; omega, by have := h.1.2; omega⟩, hK2 h.2⟩
    · exact h.elim
  | ifCond o n =>
    dsimp only at h ⊢
    split at h
    · exact mo_cmp (hK _ _ _ _ _ _) (hK _ _ _ _ _ _) h
    · exact h.elim
  | if_icmp o n =>
    dsimp only at h ⊢
    split at h
    · exact mo_cmp (hK _ _ _ _ _ _) (hK _ _ _ _ _ _) h
    · exact h.elim
  | tableswitch d lo hi n => exact mo_tsw (k := fun j r => K j L r w c s) (fun j r z => hK _ _ _ _ _ _ z) h
  | getfield n =>
    dsimp only at h ⊢
    split at h
    · split at h
      · exact hK _ _ _ _ _ _ h
      · exact h.elim
    · exact h.elim
  | putfield n =>
    dsimp only at h ⊢
    split at h
    · split at h
      · exact ⟨h.1, hK _ _ _ _ _ _ h.2⟩
      · exact h.elim
    · exact h.elim
  | iaload => exact mo_ald (k := fun r => K (i + 1) L r w c s) (fun r z => hK _ _ _ _ _ _ z) h
  | baload => exact mo_ald (k := fun r => K (i + 1) L r w c s) (fun r z => hK _ _ _ _ _ _ z) h
  | aaload => exact mo_aald (k := fun r => K (i + 1) L r w c s) (fun r z => hK _ _ _ _ _ _ z) h
  | iastore => exact mo_ast (k := fun r w' => K (i + 1) L r w' c s) (fun r w z => hK _ _ _ _ _ _ z) h
  | bastore => exact mo_ast (k := fun r w' => K (i + 1) L r w' c s) (fun r w z => hK _ _ _ _ _ _ z) h
  | arraylength => exact mo_len (k := fun r => K (i + 1) L r w c s) (fun r z => hK _ _ _ _ _ _ z) h
  | new n => exact ⟨⟨by have := h.1.1; omega, by have := h.1.2; omega⟩, hK2 h.2⟩
  | invokevirtual n => exact ⟨h.1, sh_call hc hl1 hl2 (k := fun r w' c' s' => K (i + 1) L r w' c' s') (fun r w c s z => hK _ _ _ _ _ _ z) h.2⟩
  | invokestatic n => exact ⟨h.1, sh_call hc hl1 hl2 (k := fun r w' c' s' => K (i + 1) L r w' c' s') (fun r w c s z => hK _ _ _ _ _ _ z) h.2⟩
  | invokespecial n => exact ⟨h.1, sh_call hc hl1 hl2 (k := fun r w' c' s' => K (i + 1) L r w' c' s') (fun r w c s z => hK _ _ _ _ _ _ z) h.2⟩
  | ireturn =>
    dsimp only at h ⊢
    split at h
    · exact ⟨h.1, h.2⟩
    · exact h.elim
  | return_ =>
    dsimp only at h ⊢
    split at h
    · exact ⟨h.1, h.2⟩
    · exact h.elim
  | _ => exact h.elim
/-- a run that makes nothing, within one that has made something -/
theorem py_pz {Lx : Nat} {xs : Nat → Int32} {d : Nat} {t : List (List rI)} {ret : Option FieldType} {lm : Nat × Nat} {Q : rQ} {i : Nat} {L : List (Option Value)} {st : List Value} {w : pW} {c s : Nat} (h1 : c ≤ lm.1) (h2 : s ≤ lm.2) (h : pz Lx xs d t ret Q i L st w) : rx_P (rx_R Lx xs d) Lx xs t ret lm Q i L st w c s := by
  have key := h (fun i L st w c0 s0 => rx_P (rx_R Lx xs d) Lx xs t ret lm Q i L st w (c + c0) (s + s0)) (fun i L st w c0 s0 z => px_st (mo_R Lx xs d) (sh_st (mo_R Lx xs d) (lim := (0, 0)) h1 h2 (fun _ _ _ _ _ _ y => y) z))
  exact key
/-- a run that may make something -/
def py (lm : Nat × Nat) (Lx : Nat) (xs : Nat → Int32) (d : Nat) (t : List (List rI)) (ret : Option FieldType) (Q : rQ) (i : Nat) (L : List (Option Value)) (st : List Value) (w : pW) (c s : Nat) : Prop := rx_P (rx_R Lx xs d) Lx xs t ret lm Q i L st w c s
section PY
variable {lm : Nat × Nat} {Lx : Nat} {xs : Nat → Int32} {d : Nat} {t : List (List rI)} {ret : Option FieldType} {Q : rQ} {i j pc ln : Nat} {info : List Nat} {v : Int32} {L : List (Option Value)} {st : List Value} {w : pW} {c s : Nat}
theorem y_st (h : rx_st (rx_R Lx xs d) Lx xs t ret lm Q (rx_P (rx_R Lx xs d) Lx xs t ret lm Q) i L st w c s) : py lm Lx xs d t ret Q i L st w c s := px_st (mo_R Lx xs d) h
theorem y_en {M : Nat} {args : List Value} (hl : (rx_en args).length ≤ mL M) (hA : mA M = lm) (ht : rx_tt.getD M [] = t) (hr : mR M = ret) (k : py lm Lx xs d t ret Q 0 (rx_l0 args (mL M)) [] w 0 0) : rx_R Lx xs (d + 1) M args w Q := by
  refine ⟨hl, ?_⟩
  rw [hA, ht, hr]
  exact k
theorem y_aln {n : Fin 4} {x : Nat} (h : rx_e t i = (pc, .aload_n n, ln, info, v)) (hl : L[n.val]? = some (some (.ref x))) (k : py lm Lx xs d t ret Q (i + 1) L (.ref x :: st) w c s) : py lm Lx xs d t ret Q i L st w c s := y_st (by unfold rx_st; rw [h]; simp only [rx_lda, hl]; exact k)
theorem y_iln {n : Fin 4} {x : Int32} (h : rx_e t i = (pc, .iload_n n, ln, info, v)) (hl : L[n.val]? = some (some (.int x))) (k : py lm Lx xs d t ret Q (i + 1) L (.int x :: st) w c s) : py lm Lx xs d t ret Q i L st w c s := y_st (by unfold rx_st; rw [h]; simp only [rx_ldi, hl]; exact k)
theorem y_ic {n : Int} (h : rx_e t i = (pc, .iconst n, ln, info, v)) (k : py lm Lx xs d t ret Q (i + 1) L (.int v :: st) w c s) : py lm Lx xs d t ret Q i L st w c s := y_st (by unfold rx_st; rw [h]; exact k)
theorem y_bi {n : Int} (h : rx_e t i = (pc, .bipush n, ln, info, v)) (k : py lm Lx xs d t ret Q (i + 1) L (.int v :: st) w c s) : py lm Lx xs d t ret Q i L st w c s := y_st (by unfold rx_st; rw [h]; exact k)
theorem y_si {n : Int} (h : rx_e t i = (pc, .sipush n, ln, info, v)) (k : py lm Lx xs d t ret Q (i + 1) L (.int v :: st) w c s) : py lm Lx xs d t ret Q i L st w c s := y_st (by unfold rx_st; rw [h]; exact k)
theorem y_ldc {n : Nat} (h : rx_e t i = (pc, .ldc n, ln, info, v)) (k : py lm Lx xs d t ret Q (i + 1) L (.int v :: st) w c s) : py lm Lx xs d t ret Q i L st w c s := y_st (by unfold rx_st; rw [h]; exact k)
theorem y_add {x y : Int32} (h : rx_e t i = (pc, .iadd, ln, info, v)) (k : py lm Lx xs d t ret Q (i + 1) L (.int (x + y) :: st) w c s) : py lm Lx xs d t ret Q i L (.int y :: .int x :: st) w c s := y_st (by unfold rx_st; rw [h]; exact k)
theorem y_dup {x : Value} (h : rx_e t i = (pc, .dup, ln, info, v)) (hx : x.category = 1) (k : py lm Lx xs d t ret Q (i + 1) L (x :: x :: st) w c s) : py lm Lx xs d t ret Q i L (x :: st) w c s := y_st (by unfold rx_st; rw [h]; exact ⟨hx, k⟩)
theorem y_pop {x : Value} (h : rx_e t i = (pc, .pop, ln, info, v)) (hx : x.category = 1) (k : py lm Lx xs d t ret Q (i + 1) L st w c s) : py lm Lx xs d t ret Q i L (x :: st) w c s := y_st (by unfold rx_st; rw [h]; exact ⟨hx, k⟩)
theorem y_go {o : Int} (h : rx_e t i = (pc, .goto o, ln, [j], v)) (k : py lm Lx xs d t ret Q j L st w c s) : py lm Lx xs d t ret Q i L st w c s := y_st (by unfold rx_st; rw [h]; exact k)
theorem y_get {n a f q o : Nat} {x : Value} (h : rx_e t i = (pc, .getfield n, ln, [a, f, q], v)) (hg : gt_f w a o f = some x) (k : py lm Lx xs d t ret Q (i + 1) L (x :: st) w c s) : py lm Lx xs d t ret Q i L (.ref o :: st) w c s := y_st (by
  unfold rx_st
  rw [h]
  show (match gt_f w a o f with
    | some x => rx_P (rx_R Lx xs d) Lx xs t ret lm Q (i + 1) L (x :: st) w c s
    | _ => False)
  rw [hg]
  exact k)
theorem y_put {n a f q o : Nat} {x : Value} {w' : pW} (h : rx_e t i = (pc, .putfield n, ln, [a, f, q], v)) (hg : pt_f w a o f x = some w') (hn : narrow (rx_ty a f) x = x ∧ fits (rx_ty a f) x = true) (k : py lm Lx xs d t ret Q (i + 1) L st w' c s) : py lm Lx xs d t ret Q i L (x :: .ref o :: st) w c s := y_st (by
  unfold rx_st
  rw [h]
  show (match pt_f w a o f x with
    | some w' => (narrow (rx_ty a f) x = x ∧ fits (rx_ty a f) x = true) ∧ rx_P (rx_R Lx xs d) Lx xs t ret lm Q (i + 1) L st w' c s
    | _ => False)
  rw [hg]
  exact ⟨hn, k⟩)
theorem y_na {ty : _} {tg m o : Nat} {n : Int32} {w' : pW} (h : rx_e t i = (pc, .newarray ty, ln, [tg], v)) (hn : ¬ n < 0 ∧ n.toNatClampNeg = m ∧ m ≤ 100000 ∧ c + 1 ≤ lm.1 ∧ s + m ≤ lm.2) (ho : w.length + 1 = o) (hw : w ++ [.inl (tg, m, .inl (fun _ => 0))] = w') (k : py lm Lx xs d t ret Q (i + 1) L (.ref o :: st) w' (c + 1) (s + m)) : py lm Lx xs d t ret Q i L (.int n :: st) w c s := y_st (by
  unfold rx_st
  rw [h]
  obtain ⟨h1, h2, h3, h4, h5⟩ := hn
  subst h2 ho hw
  exact ⟨⟨h1, h3, h4, h5⟩, k⟩)
theorem y_nw {n ci o : Nat} {il : List Nat} {fs : List Value} {w' : pW} (h : rx_e t i = (pc, .new n, ln, ci :: il, v)) (hf : (List.range (rx_cl.getD ci ("", fun _ => ("", "", "", false), 0)).2.2).map (fun k => defaultValue (rx_ty ci k)) = fs) (hl : c + 1 ≤ lm.1 ∧ s + (rx_cl.getD ci ("", fun _ => ("", "", "", false), 0)).2.2 ≤ lm.2) (ho : w.length + 1 = o) (hw : w ++ [.inr (ci, fs)] = w') (k : py lm Lx xs d t ret Q (i + 1) L (.ref o :: st) w' (c + 1) (s + (rx_cl.getD ci ("", fun _ => ("", "", "", false), 0)).2.2)) : py lm Lx xs d t ret Q i L st w c s := y_st (by
  unfold rx_st
  rw [h]
  subst hf ho hw
  exact ⟨hl, k⟩)
theorem y_sp0 {z q o : Nat} (h : rx_e t i = (pc, .invokespecial z, ln, [0, 0, 12, q], v)) (hsz : rx_sz st ≤ 8) (k : py lm Lx xs d t ret Q (i + 1) L st w c s) : py lm Lx xs d t ret Q i L (.ref o :: st) w c s := y_st (by unfold rx_st; rw [h]; exact ⟨Or.inr rfl, hsz, k⟩)
theorem y_sp {z M n q o : Nat} {as : List Value} (h : rx_e t i = (pc, .invokespecial z, ln, [M, n, 3, q], v)) (hn : as.length = n) (hsz : rx_sz st ≤ 8) (hl : c + (mA M).1 ≤ lm.1 ∧ s + (mA M).2 ≤ lm.2) (k : rx_R Lx xs d M (.ref o :: as) w (fun r w' => r = none ∧ py lm Lx xs d t ret Q (i + 1) L st w' (c + (mA M).1) (s + (mA M).2))) : py lm Lx xs d t ret Q i L (as.reverse ++ .ref o :: st) w c s := y_st (by
  unfold rx_st
  rw [h]
  refine ⟨Or.inl rfl, ?_⟩
  unfold rx_call
  have hll : as.reverse.length = n := by rw [List.length_reverse]; exact hn
  show (match (as.reverse ++ .ref o :: st).drop n with
    | .ref o' :: r => _
    | _ => False)
  rw [List.drop_left' hll]
  refine ⟨⟨by show n ≤ (as.reverse ++ .ref o :: st).length; rw [List.length_append, hll]; exact Nat.le_add_right _ _, hsz, hl.1, hl.2⟩, ?_⟩
  have e1 : ((as.reverse ++ .ref o :: st).take n).reverse = as := by rw [List.take_left' hll, List.reverse_reverse]
  show rx_R Lx xs d M (.ref o :: ((as.reverse ++ .ref o :: st).take n).reverse) w (fun r w' => rx_P (rx_R Lx xs d) Lx xs t ret lm Q (i + 1) L (r.toList ++ st) w' (c + (mA M).1) (s + (mA M).2))
  rw [e1]
  exact mo_R Lx xs d _ _ _ _ _ (fun r w' h => by obtain ⟨rfl, h⟩ := h; exact h) k)
theorem y_cs {z M n q kd : Nat} {as : List Value} (h : rx_e t i = (pc, .invokestatic z, ln, [M, n, kd, q], v)) (hk : kd = 1) (hn : as.length = n) (hsz : rx_sz st ≤ 8) (hA : mA M = (0, 0)) (hl : c ≤ lm.1 ∧ s ≤ lm.2) (k : rx_R Lx xs d M as w (fun r w' => ∃ x, r = some (.int x) ∧ py lm Lx xs d t ret Q (i + 1) L (.int x :: st) w' c s)) : py lm Lx xs d t ret Q i L (as.reverse ++ st) w c s := y_st (by
  unfold rx_st
  rw [h]
  have hll : as.reverse.length = n := by rw [List.length_reverse]; exact hn
  have e1 : ((as.reverse ++ st).take n).reverse = as := by rw [List.take_left' hll, List.reverse_reverse]
  have e2 : (as.reverse ++ st).drop n = st := List.drop_left' hll
  subst hk
  refine ⟨Or.inl rfl, ?_⟩
  show (n ≤ (as.reverse ++ st).length ∧ rx_sz ((as.reverse ++ st).drop n) ≤ 8 ∧ c + (mA M).1 ≤ lm.1 ∧ s + (mA M).2 ≤ lm.2) ∧ rx_R Lx xs d M ((as.reverse ++ st).take n).reverse w (fun r w' => rx_P (rx_R Lx xs d) Lx xs t ret lm Q (i + 1) L (r.toList ++ (as.reverse ++ st).drop n) w' (c + (mA M).1) (s + (mA M).2))
  rw [e1, e2, hA]
  exact ⟨⟨by simp; omega, hsz, hl.1, hl.2⟩, mo_R Lx xs d _ _ _ _ _ (fun r w' h => by obtain ⟨x, rfl, h⟩ := h; exact h) k⟩)
theorem y_mx {z q : Nat} {x y : Int32} (h : rx_e t i = (pc, .invokestatic z, ln, [0, 2, 10, q], v)) (hsz : rx_sz st ≤ 8) (k : py lm Lx xs d t ret Q (i + 1) L (.int (if x < y then y else x) :: st) w c s) : py lm Lx xs d t ret Q i L (.int y :: .int x :: st) w c s := y_st (by unfold rx_st; rw [h]; exact ⟨Or.inr (Or.inr (Or.inl rfl)), hsz, k⟩)
theorem y_mn {z q : Nat} {x y : Int32} (h : rx_e t i = (pc, .invokestatic z, ln, [0, 2, 11, q], v)) (hsz : rx_sz st ≤ 8) (k : py lm Lx xs d t ret Q (i + 1) L (.int (if y < x then y else x) :: st) w c s) : py lm Lx xs d t ret Q i L (.int y :: .int x :: st) w c s := y_st (by unfold rx_st; rw [h]; exact ⟨Or.inr (Or.inr (Or.inr (Or.inl rfl))), hsz, k⟩)
theorem y_mna {n m o : Nat} {w' : pW} (h : rx_e t i = (pc, .multianewarray n m, ln, info, v)) (hl : c + 9 ≤ lm.1 ∧ s + 520 ≤ lm.2) (ho : w.length + 1 = o) (hw : (w ++ .inl (3, 8, .inr (.inr (.inr (.inr (fun j => if j < 8 then some (w.length + 2 + j) else none))))) :: List.replicate 8 (.inl (1, 64, .inl (fun _ => 0)))) = w') (k : py lm Lx xs d t ret Q (i + 1) L (.ref o :: st) w' (c + 9) (s + 520)) : py lm Lx xs d t ret Q i L (.int 64 :: .int 8 :: st) w c s := y_st (by
  unfold rx_st
  rw [h]
  subst ho hw
  exact ⟨hl, k⟩)
theorem y_vr (h : rx_e t i = (pc, .return_, ln, info, v)) (hr : ret = none) (k : Q none w) : py lm Lx xs d t ret Q i L [] w c s := y_st (by unfold rx_st; rw [h]; exact ⟨hr, k⟩)
theorem y_asn {n : Fin 4} {x : Nat} {L' : List (Option Value)} (h : rx_e t i = (pc, .astore_n n, ln, info, v)) (hw : rx_nw L n.val = true ∧ n.val < L.length) (hL : L.set n.val (some (.ref x)) = L') (k : py lm Lx xs d t ret Q (i + 1) L' st w c s) : py lm Lx xs d t ret Q i L (.ref x :: st) w c s := y_st (by unfold rx_st; rw [h]; subst hL; exact ⟨hw, k⟩)
end PY
