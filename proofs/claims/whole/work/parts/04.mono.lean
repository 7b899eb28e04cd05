/-! PART 04: more holds behind an instruction if more holds behind what comes behind it; runs and calls -/
theorem mo_ii {f : Int32 → Int32 → Int32} {st : List Value} {k k' : List Value → Prop} (hk : ∀ r, k r → k' r) (h : rx_ii f st k) : rx_ii f st k' := by
  unfold rx_ii at h ⊢
  split at h
  · exact hk _ h
  · exact h.elim
theorem mo_ll {f : Int64 → Int64 → Int64} {st : List Value} {k k' : List Value → Prop} (hk : ∀ r, k r → k' r) (h : rx_ll f st k) : rx_ll f st k' := by
  unfold rx_ll at h ⊢
  split at h
  · exact hk _ h
  · exact h.elim
theorem mo_li {f : Int64 → Int32 → Int64} {st : List Value} {k k' : List Value → Prop} (hk : ∀ r, k r → k' r) (h : rx_li f st k) : rx_li f st k' := by
  unfold rx_li at h ⊢
  split at h
  · exact hk _ h
  · exact h.elim
theorem mo_di {f : Int32 → Int32 → Int32} {st : List Value} {k k' : List Value → Prop} (hk : ∀ r, k r → k' r) (h : rx_di f st k) : rx_di f st k' := by
  unfold rx_di at h ⊢
  split at h
  · exact ⟨h.1, hk _ h.2⟩
  · exact h.elim
theorem mo_i {f : Int32 → Int32} {st : List Value} {k k' : List Value → Prop} (hk : ∀ r, k r → k' r) (h : rx_i f st k) : rx_i f st k' := by
  unfold rx_i at h ⊢
  split at h
  · exact hk _ h
  · exact h.elim
theorem mo_ldi {L : List (Option Value)} {j : Nat} {k k' : Value → Prop} (hk : ∀ r, k r → k' r) (h : rx_ldi L j k) : rx_ldi L j k' := by
  unfold rx_ldi at h ⊢
  split at h
  · exact hk _ h
  · exact h.elim
theorem mo_ldl {L : List (Option Value)} {j : Nat} {k k' : Value → Prop} (hk : ∀ r, k r → k' r) (h : rx_ldl L j k) : rx_ldl L j k' := by
  unfold rx_ldl at h ⊢
  split at h
  · exact hk _ h
  · exact h.elim
theorem mo_lda {L : List (Option Value)} {j : Nat} {k k' : Value → Prop} (hk : ∀ r, k r → k' r) (h : rx_lda L j k) : rx_lda L j k' := by
  unfold rx_lda at h ⊢
  split at h
  · exact hk _ h
  · exact h.elim
theorem mo_sti {L : List (Option Value)} {j : Nat} {st : List Value} {k k' : List (Option Value) → List Value → Prop} (hk : ∀ l r, k l r → k' l r) (h : rx_sti L j st k) : rx_sti L j st k' := by
  unfold rx_sti at h ⊢
  split at h
  · exact ⟨h.1, hk _ _ h.2⟩
  · exact h.elim
theorem mo_sta {L : List (Option Value)} {j : Nat} {st : List Value} {k k' : List (Option Value) → List Value → Prop} (hk : ∀ l r, k l r → k' l r) (h : rx_sta L j st k) : rx_sta L j st k' := by
  unfold rx_sta at h ⊢
  split at h
  · exact ⟨h.1, hk _ _ h.2⟩
  · exact h.elim
theorem mo_inc {L : List (Option Value)} {j : Nat} {v : Int32} {k k' : List (Option Value) → Prop} (hk : ∀ l, k l → k' l) (h : rx_inc L j v k) : rx_inc L j v k' := by
  unfold rx_inc at h ⊢
  split at h
  · exact ⟨h.1, hk _ h.2⟩
  · exact h.elim
theorem mo_cmp {o : Jvm.ClassFile.Cond} {x y : Int32} {a b a' b' : Prop} (ha : a → a') (hb : b → b') (h : rx_cmp o x y a b) : rx_cmp o x y a' b' := by
  cases o <;> exact ⟨fun z => ha (h.1 z), fun z => hb (h.2 z)⟩
theorem mo_ald {Lx : Nat} {xs : Nat → Int32} {t : Nat → Bool} {st : List Value} {w : pW} {k k' : List Value → Prop} (hk : ∀ r, k r → k' r) (h : rx_ald Lx xs t st w k) : rx_ald Lx xs t st w k' := by
  unfold rx_ald at h ⊢
  split at h
  · exact ⟨h.1, h.2.1, hk _ h.2.2⟩
  · split at h
    · exact ⟨h.1, h.2.1, hk _ h.2.2⟩
    · exact h.elim
  · exact h.elim
theorem mo_aald {st : List Value} {w : pW} {k k' : List Value → Prop} (hk : ∀ r, k r → k' r) (h : rx_aald st w k) : rx_aald st w k' := by
  unfold rx_aald at h ⊢
  split at h
  · split at h
    · obtain ⟨h1, y, h2, h3⟩ := h
      exact ⟨h1, y, h2, hk _ h3⟩
    · exact h.elim
  · exact h.elim
theorem mo_ast {t : Nat → Bool} {st : List Value} {w : pW} {k k' : List Value → pW → Prop} (hk : ∀ r w, k r w → k' r w) (h : rx_ast t st w k) : rx_ast t st w k' := by
  unfold rx_ast at h ⊢
  split at h
  · split at h
    · exact ⟨h.1, h.2.1, hk _ _ h.2.2⟩
    · exact h.elim
  · exact h.elim
theorem mo_len {Lx : Nat} {st : List Value} {w : pW} {k k' : List Value → Prop} (hk : ∀ r, k r → k' r) (h : rx_len Lx st w k) : rx_len Lx st w k' := by
  unfold rx_len at h ⊢
  split at h
  · exact hk _ h
  · split at h
    · exact ⟨h.1, hk _ h.2⟩
    · exact h.elim
  · exact h.elim
theorem mo_tsw {lo hi : Int} {info : List Nat} {st : List Value} {k k' : Nat → List Value → Prop} (hk : ∀ j r, k j r → k' j r) (h : rx_tsw lo hi info st k) : rx_tsw lo hi info st k' := by
  unfold rx_tsw at h ⊢
  split at h
  · exact ⟨fun z => hk _ _ (h.1 z), fun z y => hk _ _ (h.2 z y)⟩
  · exact h.elim
def rx_mo (call : rC) : Prop := ∀ (M : Nat) (a : List Value) (w : pW) (Q Q' : rQ), (∀ v w', Q v w' → Q' v w') → call M a w Q → call M a w Q'
theorem mo_call {call : rC} (hc : rx_mo call) {info : List Nat} {lim : Nat × Nat} {st : List Value} {w : pW} {c s : Nat} {k k' : List Value → pW → Nat → Nat → Prop} (hk : ∀ r w c s, k r w c s → k' r w c s) (h : rx_call call info lim st w c s k) : rx_call call info lim st w c s k' := by
  unfold rx_call at h ⊢
  dsimp only at h ⊢
  split at h
  · split at h
    · exact ⟨h.1, hc _ _ _ _ _ (fun v w' z => hk _ _ _ _ z) h.2⟩
    · exact h.elim
  · exact ⟨h.1, hc _ _ _ _ _ (fun v w' z => hk _ _ _ _ z) h.2⟩
  · exact ⟨h.1, hc _ _ _ _ _ (fun v w' z => hk _ _ _ _ z) h.2⟩
  · split at h
    · exact ⟨h.1, hc _ _ _ _ _ (fun v w' z => hk _ _ _ _ z) h.2⟩
    · exact h.elim
  · split at h
    · exact ⟨h.1, hk _ _ _ _ h.2⟩
    · exact h.elim
  · split at h
    · exact ⟨h.1, hk _ _ _ _ h.2⟩
    · exact h.elim
  · split at h
    · exact ⟨h.1, hk _ _ _ _ h.2⟩
    · exact h.elim
  · split at h
    · split at h
      · exact ⟨h.1, hk _ _ _ _ h.2⟩
      · exact h.elim
    · exact h.elim
  · exact h.elim
set_option maxHeartbeats 4000000 in
theorem mo_st {call : rC} (hc : rx_mo call) {Lx : Nat} {xs : Nat → Int32} {t : List (List rI)} {ret : Option FieldType} {lim : Nat × Nat} {Q Q' : rQ} {K K' : rK} (hQ : ∀ v w, Q v w → Q' v w) (hK : ∀ i L st w c s, K i L st w c s → K' i L st w c s) {i : Nat} {L : List (Option Value)} {st : List Value} {w : pW} {c s : Nat}
    (h : rx_st call Lx xs t ret lim Q K i L st w c s) : rx_st call Lx xs t ret lim Q' K' i L st w c s := by
  unfold rx_st at h ⊢
  generalize rx_e t i = e at h ⊢
  obtain ⟨pc, ins, ln, info, v⟩ := e
  cases ins with
  | iconst n => exact hK _ _ _ _ _ _ h
  | bipush n => exact hK _ _ _ _ _ _ h
  | sipush n => exact hK _ _ _ _ _ _ h
  | ldc n => exact hK _ _ _ _ _ _ h
  | ldc2_w n => exact hK _ _ _ _ _ _ h
  | goto n => exact hK _ _ _ _ _ _ h
  | iload n => exact mo_ldi (k := fun x => K (i + 1) L (x :: st) w c s) (fun r z => hK _ _ _ _ _ _ z) h
  | iload_n n => exact mo_ldi (k := fun x => K (i + 1) L (x :: st) w c s) (fun r z => hK _ _ _ _ _ _ z) h
  | lload_n n => exact mo_ldl (k := fun x => K (i + 1) L (x :: st) w c s) (fun r z => hK _ _ _ _ _ _ z) h
  | aload n => exact mo_lda (k := fun x => K (i + 1) L (x :: st) w c s) (fun r z => hK _ _ _ _ _ _ z) h
  | aload_n n => exact mo_lda (k := fun x => K (i + 1) L (x :: st) w c s) (fun r z => hK _ _ _ _ _ _ z) h
  | istore n => exact mo_sti (k := fun L' r => K (i + 1) L' r w c s) (fun l r z => hK _ _ _ _ _ _ z) h
  | istore_n n => exact mo_sti (k := fun L' r => K (i + 1) L' r w c s) (fun l r z => hK _ _ _ _ _ _ z) h
  | astore_n n => exact mo_sta (k := fun L' r => K (i + 1) L' r w c s) (fun l r z => hK _ _ _ _ _ _ z) h
  | iinc n m => exact mo_inc (k := fun L' => K (i + 1) L' st w c s) (fun l z => hK _ _ _ _ _ _ z) h
  | iadd => exact mo_ii (k := fun r => K (i + 1) L r w c s) (fun r z => hK _ _ _ _ _ _ z) h
  | isub => exact mo_ii (k := fun r => K (i + 1) L r w c s) (fun r z => hK _ _ _ _ _ _ z) h
  | imul => exact mo_ii (k := fun r => K (i + 1) L r w c s) (fun r z => hK _ _ _ _ _ _ z) h
  | iand => exact mo_ii (k := fun r => K (i + 1) L r w c s) (fun r z => hK _ _ _ _ _ _ z) h
  | ior => exact mo_ii (k := fun r => K (i + 1) L r w c s) (fun r z => hK _ _ _ _ _ _ z) h
  | ishl => exact mo_ii (k := fun r => K (i + 1) L r w c s) (fun r z => hK _ _ _ _ _ _ z) h
  | ishr => exact mo_ii (k := fun r => K (i + 1) L r w c s) (fun r z => hK _ _ _ _ _ _ z) h
  | iushr => exact mo_ii (k := fun r => K (i + 1) L r w c s) (fun r z => hK _ _ _ _ _ _ z) h
  | idiv => exact mo_di (k := fun r => K (i + 1) L r w c s) (fun r z => hK _ _ _ _ _ _ z) h
  | irem => exact mo_di (k := fun r => K (i + 1) L r w c s) (fun r z => hK _ _ _ _ _ _ z) h
  | i2b => exact mo_i (k := fun r => K (i + 1) L r w c s) (fun r z => hK _ _ _ _ _ _ z) h
  | ladd => exact mo_ll (k := fun r => K (i + 1) L r w c s) (fun r z => hK _ _ _ _ _ _ z) h
  | lsub => exact mo_ll (k := fun r => K (i + 1) L r w c s) (fun r z => hK _ _ _ _ _ _ z) h
  | land => exact mo_ll (k := fun r => K (i + 1) L r w c s) (fun r z => hK _ _ _ _ _ _ z) h
  | lor => exact mo_ll (k := fun r => K (i + 1) L r w c s) (fun r z => hK _ _ _ _ _ _ z) h
  | lshl => exact mo_li (k := fun r => K (i + 1) L r w c s) (fun r z => hK _ _ _ _ _ _ z) h
  | lshr => exact mo_li (k := fun r => K (i + 1) L r w c s) (fun r z => hK _ _ _ _ _ _ z) h
  | lushr => exact mo_li (k := fun r => K (i + 1) L r w c s) (fun r z => hK _ _ _ _ _ _ z) h
  | i2l =>
    dsimp only at h ⊢
    split at h
    · exact hK _ _ _ _ _ _ h
    · exact h.elim
  | l2i =>
    dsimp only at h ⊢
    split at h
    · exact hK _ _ _ _ _ _ h
    · exact h.elim
  | lcmp =>
    dsimp only at h ⊢
    split at h
    · exact hK _ _ _ _ _ _ h
    · exact h.elim
  | dup =>
    dsimp only at h ⊢
    split at h
    · exact ⟨h.1, hK _ _ _ _ _ _ h.2⟩
    · exact h.elim
  | pop =>
    dsimp only at h ⊢
    split at h
    · exact ⟨h.1, hK _ _ _ _ _ _ h.2⟩
    · exact h.elim
  | newarray n =>
    dsimp only at h ⊢
    split at h
    · exact ⟨h.1, hK _ _ _ _ _ _ h.2⟩
    · exact h.elim
  | multianewarray n m =>
    dsimp only at h ⊢
    split at h
    · exact ⟨h.1, hK _ _ _ _ _ _ h.2⟩
    · exact h.elim
  | ifCond o n =>
    dsimp only at h ⊢
    split at h
    · exact mo_cmp (hK _ _ _ _ _ _) (hK _ _ _ _ _ _) h
    · exact h.elim
  | if_icmp o n =>
    dsimp only at h ⊢
    split at h
    · exact mo_cmp (hK _ _ _ _ _ _) (hK _ _ _ _ _ _) h
    · exact h.elim
  | tableswitch d lo hi n => exact mo_tsw (k := fun j r => K j L r w c s) (fun j r z => hK _ _ _ _ _ _ z) h
  | getfield n =>
    dsimp only at h ⊢
    split at h
    · split at h
      · exact hK _ _ _ _ _ _ h
      · exact h.elim
    · exact h.elim
  | putfield n =>
    dsimp only at h ⊢
    split at h
    · split at h
      · exact ⟨h.1, hK _ _ _ _ _ _ h.2⟩
      · exact h.elim
    · exact h.elim
  | iaload => exact mo_ald (k := fun r => K (i + 1) L r w c s) (fun r z => hK _ _ _ _ _ _ z) h
  | baload => exact mo_ald (k := fun r => K (i + 1) L r w c s) (fun r z => hK _ _ _ _ _ _ z) h
  | aaload => exact mo_aald (k := fun r => K (i + 1) L r w c s) (fun r z => hK _ _ _ _ _ _ z) h
  | iastore => exact mo_ast (k := fun r w' => K (i + 1) L r w' c s) (fun r w z => hK _ _ _ _ _ _ z) h
  | bastore => exact mo_ast (k := fun r w' => K (i + 1) L r w' c s) (fun r w z => hK _ _ _ _ _ _ z) h
  | arraylength => exact mo_len (k := fun r => K (i + 1) L r w c s) (fun r z => hK _ _ _ _ _ _ z) h
  | new n => exact ⟨h.1, hK _ _ _ _ _ _ h.2⟩
  | invokevirtual n => exact ⟨h.1, mo_call hc (k := fun r w' c' s' => K (i + 1) L r w' c' s') (fun r w c s z => hK _ _ _ _ _ _ z) h.2⟩
  | invokestatic n => exact ⟨h.1, mo_call hc (k := fun r w' c' s' => K (i + 1) L r w' c' s') (fun r w c s z => hK _ _ _ _ _ _ z) h.2⟩
  | invokespecial n => exact ⟨h.1, mo_call hc (k := fun r w' c' s' => K (i + 1) L r w' c' s') (fun r w c s z => hK _ _ _ _ _ _ z) h.2⟩
  | ireturn =>
    dsimp only at h ⊢
    split at h
    · exact ⟨h.1, hQ _ _ h.2⟩
    · exact h.elim
  | return_ =>
    dsimp only at h ⊢
    split at h
    · exact ⟨h.1, hQ _ _ h.2⟩
    · exact h.elim
  | _ => exact h.elim
/-- a run: the least that holds wherever it holds behind the next instruction -/
def rx_P (call : rC) (Lx : Nat) (xs : Nat → Int32) (t : List (List rI)) (ret : Option FieldType) (lim : Nat × Nat) (Q : rQ) (i : Nat) (L : List (Option Value)) (st : List Value) (w : pW) (c s : Nat) : Prop :=
  ∀ K : rK, (∀ i L st w c s, rx_st call Lx xs t ret lim Q K i L st w c s → K i L st w c s) → K i L st w c s
theorem px_st {call : rC} (hc : rx_mo call) {Lx : Nat} {xs : Nat → Int32} {t : List (List rI)} {ret : Option FieldType} {lim : Nat × Nat} {Q : rQ} {i : Nat} {L : List (Option Value)} {st : List Value} {w : pW} {c s : Nat}
    (h : rx_st call Lx xs t ret lim Q (rx_P call Lx xs t ret lim Q) i L st w c s) : rx_P call Lx xs t ret lim Q i L st w c s := by
  intro K hK
  exact hK _ _ _ _ _ _ (mo_st hc (fun _ _ z => z) (fun i L st w c s z => z K hK) h)
theorem px_mo {call : rC} (hc : rx_mo call) {Lx : Nat} {xs : Nat → Int32} {t : List (List rI)} {ret : Option FieldType} {lim : Nat × Nat} {Q Q' : rQ} (hQ : ∀ v w, Q v w → Q' v w) {i : Nat} {L : List (Option Value)} {st : List Value} {w : pW} {c s : Nat}
    (h : rx_P call Lx xs t ret lim Q i L st w c s) : rx_P call Lx xs t ret lim Q' i L st w c s :=
  h (rx_P call Lx xs t ret lim Q') (fun _ _ _ _ _ _ z => px_st hc (mo_st hc hQ (fun _ _ _ _ _ _ z => z) z))
/-- the locals with which a method begins: a wide argument takes two places -/
def rx_en : List Value → List (Option Value)
  | [] => []
  | v :: l => if v.category = 2 then some v :: none :: rx_en l else some v :: rx_en l
def rx_l0 (args : List Value) (n : Nat) : List (Option Value) := rx_en args ++ List.replicate (n - (rx_en args).length) none
/-- a call of method M, at most d calls deep -/
def rx_R (Lx : Nat) (xs : Nat → Int32) : Nat → rC
  | 0 => fun _ _ _ _ => False
  | d + 1 => fun M args w Q => (rx_en args).length ≤ mL M ∧ rx_P (rx_R Lx xs d) Lx xs (rx_tt.getD M []) (mR M) (mA M) Q 0 (rx_l0 args (mL M)) [] w 0 0
theorem mo_R (Lx : Nat) (xs : Nat → Int32) : ∀ d, rx_mo (rx_R Lx xs d)
  | 0 => fun _ _ _ _ _ _ h => h.elim
  | d + 1 => fun _ _ _ _ _ hQ h => ⟨h.1, px_mo (mo_R Lx xs d) hQ h.2⟩
