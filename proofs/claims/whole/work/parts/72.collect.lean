/-! PART 72: collecting, a pass, a batch stored, in pure words -/
theorem clR_stop {rm n : Nat} {todo : List lR} {s : dS} {V : vW} {p k : Nat} (h : k = n ∨ s.2.2.2.2.2 = true) : clR rm n todo s V p k = (s, V, p, k) := by
  cases todo with
  | nil => rfl
  | cons r l =>
    unfold clR
    rw [if_pos h]
/-- the records that a look moves -/
def clL (rm n : Nat) : List lR → dS → vW → Nat → Nat → List lR
  | [], _, _, _, _ => []
  | r :: l, s, V, p, k => if k = n ∨ s.2.2.2.2.2 = true then []
    else if liv V r.2.2.1 p = true then
      (if rmB rm V r.2.2.1 (rcZ r) = true then (1, 0, r.2.2.1, r.2.2.2) :: clL rm n l (apS rm s 1 r.2.2.1 r.2.2.2 (V.2.2 5) (V.2.2 6)) (apV V 1 r.2.2.1 r.2.2.2.length) (p + rcZ r) (k + 1)
       else [])
    else clL rm n l s V (p + rcZ r) (k + 1)
def cA (rm : Nat) (s : dS) (V : vW) : dS × vW := if V.2.2 2 = V.2.2 5 then (s, V) else ck rm s V
def clV (b : dS × vW × Nat × Nat) : vW := (b.2.1.1, b.2.1.2.1, vs b.2.1.2.2 4 b.2.2.1)
def clT (rm : Nat) (b : dS × vW × Nat × Nat) : dS × vW × Nat := if b.2.2.2 = 0 then (sy rm b.1, clV b, 0) else (sy rm (rtS rm (sy rm b.1) (rtV (clV b))), rtV (clV b), b.2.2.2)
def clB (rm n : Nat) (lg : List lR) (s : dS) (V : vW) : dS × vW × Nat × Nat := clR rm n lg (cA rm s V).1 (cA rm s V).2 (V.2.2 4) 0
/-- a collection: the disk, the view, how many records were looked at -/
def cl (rm n : Nat) (lg : List lR) (s : dS) (V : vW) : dS × vW × Nat := clT rm (clB rm n lg s V)
/-- the log behind it, from the tail on -/
def clN (rm n : Nat) (lg : List lR) (s : dS) (V : vW) : List lR := lg.drop (cl rm n lg s V).2.2 ++ clL rm n lg (cA rm s V).1 (cA rm s V).2 (V.2.2 4) 0
theorem cA_dead {rm : Nat} {s : dS} {V : vW} (h : s.2.2.2.2.2 = true) : (cA rm s V).1 = s := by
  unfold cA
  split
  · rfl
  · exact ck_dead h
theorem clB_dead {rm n : Nat} {lg : List lR} {s : dS} {V : vW} (h : (cA rm s V).1.2.2.2.2.2 = true) : clB rm n lg s V = ((cA rm s V).1, (cA rm s V).2, V.2.2 4, 0) := clR_stop (Or.inr h)
theorem cl_dead1 {rm n : Nat} {lg : List lR} {s : dS} {V : vW} (h : (cA rm s V).1.2.2.2.2.2 = true) : (cl rm n lg s V).1 = (cA rm s V).1 ∧ (cl rm n lg s V).2.2 = 0 := by
  unfold cl
  rw [clB_dead h]
  unfold clT
  rw [if_pos rfl]
  exact ⟨sy_dead h, rfl⟩
theorem cl_dead {rm n : Nat} {lg : List lR} {s : dS} {V : vW} (h : s.2.2.2.2.2 = true) : (cl rm n lg s V).1 = s ∧ (cl rm n lg s V).2.2 = 0 := by
  have h2 : (cA rm s V).1.2.2.2.2.2 = true := by rw [cA_dead h]; exact h
  have := cl_dead1 (rm := rm) (n := n) (lg := lg) (V := V) h2
  rw [cA_dead h] at this
  exact this
/-- what collecting wants of the disk -/
def clI (rm n : Nat) (lg : List lR) (s : dS) (V : vW) : Prop := ckI rm s V ∧ (∀ i, 1 ≤ i → i ≤ 7 → V.2.2 i < 2 ^ 30 - 1400) ∧ V.2.2 4 + lgZ lg = V.2.2 5 ∧ ((cA rm s V).1.2.2.2.2.2 = false → clG rm n lg (cA rm s V).1 (cA rm s V).2 (V.2.2 4) 0)
/-- the numbers stay small -/
theorem clR_bd {rm n : Nat} : ∀ (todo : List lR) (s : dS) (V : vW) (p k : Nat), clG rm n todo s V p k → (∀ i, 1 ≤ i → i ≤ 7 → V.2.2 i < 2 ^ 30 - 1300) → (∀ i, 1 ≤ i → i ≤ 7 → (clR rm n todo s V p k).2.1.2.2 i < 2 ^ 30 - 1300) ∧ p ≤ (clR rm n todo s V p k).2.2.1 ∧ (clR rm n todo s V p k).2.2.1 ≤ p + lgZ todo ∧ (clR rm n todo s V p k).2.2.2 ≤ k + todo.length ∧ k ≤ (clR rm n todo s V p k).2.2.2
  | [], s, V, p, k, _, hb => ⟨hb, Nat.le_refl _, Nat.le_refl _, Nat.le_refl _, Nat.le_refl _⟩
  | r :: l, s, V, p, k, hG, hb => by
    have hz : p + lgZ (r :: l) = p + rcZ r + lgZ l := by show p + (rcZ r + lgZ l) = _; omega
    unfold clR
    by_cases hst : k = n ∨ s.2.2.2.2.2 = true
    · rw [if_pos hst]
      exact ⟨hb, Nat.le_refl _, Nat.le_add_right _ _, Nat.le_add_right _ _, Nat.le_refl _⟩
    · rw [if_neg hst]
      obtain ⟨⟨_, _, ⟨_, _, _, _, o5, _, _⟩, _, b2, b3, _⟩, hG1, hG2⟩ := (hG.resolve_left (fun z => hst (Or.inl z))).resolve_left (fun z => hst (Or.inr z))
      cases hlv : liv V r.2.2.1 p with
      | false =>
        rw [if_neg (by decide)]
        have := clR_bd l s V (p + rcZ r) (k + 1) (hG2 hlv) hb
        rw [hz, List.length_cons]
        exact ⟨this.1, by omega, this.2.2.1, by omega, by omega⟩
      | true =>
        rw [if_pos rfl]
        cases hrb : rmB rm V r.2.2.1 (rcZ r) with
        | false =>
          rw [if_neg (by decide)]
          exact ⟨hb, Nat.le_refl _, Nat.le_add_right _ _, Nat.le_add_right _ _, Nat.le_refl _⟩
        | true =>
          rw [if_pos rfl]
          have := clR_bd l _ _ (p + rcZ r) (k + 1) (hG1 hlv hrb).2 (fun i h1 h2 => by
            show vs (vs V.2.2 5 (V.2.2 5 + 12 + r.2.2.2.length)) 6 (V.2.2 6 + 1) i < _
            by_cases h6 : i = 6
            · subst h6
              rw [vs_s]
              omega
            · rw [vs_n h6]
              by_cases h5 : i = 5
              · subst h5
                rw [vs_s]
                omega
              · rw [vs_n h5]
                exact hb i h1 h2)
          rw [hz, List.length_cons]
          exact ⟨this.1, by omega, this.2.2.1, by omega, by omega⟩
/-- passes: rounds of collecting till the tail has come to the goal -/
def pas (rm : Nat) : Nat → Nat → Nat → dS → vW → List lR → dS × vW × List lR
  | 0, _, _, s, V, lg => (s, V, lg)
  | f + 1, g, k, s, V, lg => if k = 0 ∨ g ≤ V.2.2 4 then (s, V, lg) else pas rm f g (cl rm 1000 lg s V).2.2 (cl rm 1000 lg s V).1 (cl rm 1000 lg s V).2.1 (clN rm 1000 lg s V)
theorem pas_dead {rm : Nat} : ∀ (f g k : Nat) (s : dS) (V : vW) (lg : List lR), s.2.2.2.2.2 = true → (pas rm f g k s V lg).1 = s
  | 0, _, _, _, _, _, _ => rfl
  | f + 1, g, k, s, V, lg, h => by
    unfold pas
    split
    · rfl
    · have h1 := (cl_dead (rm := rm) (n := 1000) (lg := lg) (V := V) h).1
      rw [pas_dead f g _ _ _ _ (by rw [h1]; exact h)]
      exact h1
/-- what a pass wants of the disk -/
def paI (rm : Nat) : Nat → Nat → Nat → dS → vW → List lR → Prop
  | 0, _, _, _, _, _ => True
  | f + 1, g, k, s, V, lg => k = 0 ∨ g ≤ V.2.2 4 ∨ s.2.2.2.2.2 = true ∨ (clI rm 1000 lg s V ∧ paI rm f g (cl rm 1000 lg s V).2.2 (cl rm 1000 lg s V).1 (cl rm 1000 lg s V).2.1 (clN rm 1000 lg s V))
/-- how many keys a batch would add to memory: those at 0 .. n - 1 -/
def cWN (mem : mP) (ks : Nat → Nat) : Nat → Nat
  | 0 => 0
  | i + 1 => cWN mem ks i + (if (mem (ks i)).isSome then 0 else if (List.range i).all (fun j => decide (¬ ks j = ks i)) then 1 else 0)
def bK (b : List bR) (i : Nat) : Nat := (b.getD i (0, 0, [])).2.1
def wh (V : vW) (b : List bR) : Nat := (kS V.2.1).length + cWN V.2.1 (bK b) b.length
/-- the bytes of a batch in the log -/
def bZ (b : List bR) : Nat := (b.map (fun x => 12 + x.2.2.length)).sum
/-- room for z bytes -/
def hR (rm : Nat) (V : vW) (z : Nat) : Prop := V.2.2 5 + z + 12 ≤ V.2.2 4 + rm
def ckM (rm : Nat) (s : dS) (V : vW) (b : List bR) : dS × vW := if wh V b ≤ 24 then (s, V) else ck rm s V
theorem ckM_dead {rm : Nat} {s : dS} {V : vW} {b : List bR} (h : s.2.2.2.2.2 = true) : (ckM rm s V b).1 = s := by
  unfold ckM
  split
  · rfl
  · exact ck_dead h
/-- the records of a batch behind a checkpoint, if memory wants one -/
def stA (rm : Nat) (b : List bR) (q : dS × vW) : dS × vW × Bool := (aaS rm b q.1 q.2, aaV b q.2, true)
def stP (rm : Nat) (q : dS × vW) (lg : List lR) : dS × vW × List lR := pas rm 1000 (q.2.2.2 5) 1 q.1 q.2 lg
def stQ (rm : Nat) (b : List bR) (q : dS × vW × List lR) : dS × vW × Bool := if q.2.1.2.2 5 + (bZ b + 176) + 12 ≤ q.2.1.2.2 4 + rm then stA rm b (ckM rm q.1 q.2.1 b) else (q.1, q.2.1, false)
def stO (rm : Nat) (b : List bR) (q : dS × vW) (lg : List lR) : dS × vW × Bool := if q.2.2.2 5 + (bZ b + 176) + 12 ≤ q.2.2.2 4 + rm then stA rm b q else stQ rm b (stP rm q lg)
/-- a batch is stored: disk, view, whether it was -/
def sto (rm : Nat) (b : List bR) (s : dS) (V : vW) (lg : List lR) : dS × vW × Bool := stO rm b (ckM rm s V b) lg
theorem apS_dead {rm : Nat} {s : dS} {k key h n : Nat} {val : List Nat} (hs : s.2.2.2.2.2 = true) : apS rm s k key val h n = s := by
  unfold apS
  rw [wr_dead hs, wr_dead hs]
  split <;> exact wr_dead hs
theorem aaS_dead {rm : Nat} : ∀ (b : List bR) (s : dS) (V : vW), s.2.2.2.2.2 = true → aaS rm b s V = s
  | [], _, _, _ => rfl
  | x :: l, s, V, h => by
    show aaS rm l (apS rm s _ _ _ _ _) _ = s
    rw [apS_dead h]
    exact aaS_dead l s _ h
theorem stA_dead {rm : Nat} {b : List bR} {q : dS × vW} (h : q.1.2.2.2.2.2 = true) : (stA rm b q).1 = q.1 := aaS_dead b _ _ h
theorem stQ_dead {rm : Nat} {b : List bR} {q : dS × vW × List lR} (h : q.1.2.2.2.2.2 = true) : (stQ rm b q).1 = q.1 := by
  unfold stQ
  split
  · rw [stA_dead (by rw [ckM_dead h]; exact h), ckM_dead h]
  · rfl
theorem stO_dead {rm : Nat} {b : List bR} {q : dS × vW} {lg : List lR} (h : q.1.2.2.2.2.2 = true) : (stO rm b q lg).1 = q.1 := by
  unfold stO
  split
  · exact stA_dead h
  · have h2 : (stP rm q lg).1 = q.1 := pas_dead _ _ _ _ _ _ h
    rw [stQ_dead (by rw [h2]; exact h), h2]
/-- a checkpoint's numbers -/
theorem st2_num {rm : Nat} {s : dS} {V : vW} {tk : List Nat} : (∀ i, i ≠ 7 → (st2 rm s V tk).2.2.2 i = V.2.2 i) ∧ (st2 rm s V tk).2.2.2 7 ≤ V.2.2 7 + 1 := by
  unfold st2
  split
  · exact ⟨fun _ _ => rfl, Nat.le_succ _⟩
  · exact ⟨fun i hi => tbV_num _ _ _ hi, Nat.le_of_eq (tbV_7 _ _ _)⟩
theorem st1_num {rm : Nat} {s : dS} {V : vW} {tk : List Nat} : (∀ i, i ≠ 7 → (st1 rm s V tk).2.2.2 i = V.2.2 i) ∧ (st1 rm s V tk).2.2.2 7 ≤ V.2.2 7 + 2 := by
  unfold st1
  split
  · exact ⟨fun i hi => tbV_num _ _ _ hi, by rw [show (wr s (tabW rm (t1A V tk)), tbV V (t1A V tk) (lvN V.1 1)).2.2.2 7 = V.2.2 7 + 1 from tbV_7 _ _ _]; omega⟩
  · have h := st2_num (rm := rm) (s := wr s (tabW rm (t1A V tk))) (V := tbV V (t1A V tk) (lvN V.1 1)) (tk := lf tk :: tk)
    refine ⟨fun i hi => (h.1 i hi).trans (tbV_num _ _ _ hi), ?_⟩
    have h2 := h.2
    rw [tbV_7] at h2
    exact h2
theorem st0_num {rm : Nat} {s : dS} {V : vW} : (∀ i, i ≠ 7 → (st0 rm s V).2.2.2 i = V.2.2 i) ∧ (st0 rm s V).2.2.2 7 ≤ V.2.2 7 + 3 := by
  unfold st0
  split
  · exact ⟨fun i hi => tbV_num _ _ _ hi, by rw [show (wr s (tabW rm (t0A V)), tbV V (t0A V) 0).2.2.2 7 = V.2.2 7 + 1 from tbV_7 _ _ _]; omega⟩
  · have h := st1_num (rm := rm) (s := wr s (tabW rm (t0A V))) (V := tbV V (t0A V) 0) (tk := lf (pls V.1) :: pls V.1)
    refine ⟨fun i hi => (h.1 i hi).trans (tbV_num _ _ _ hi), ?_⟩
    have h2 := h.2
    rw [tbV_7] at h2
    exact h2
theorem ckP_num {rm : Nat} {s : dS} {V : vW} : (∀ i, i ≠ 7 → (ckP rm s V).2.2.2 i = V.2.2 i) ∧ (ckP rm s V).2.2.2 7 ≤ V.2.2 7 + 3 := by
  unfold ckP
  split
  · exact ⟨fun _ _ => rfl, by show V.2.2 7 ≤ _; omega⟩
  · exact st0_num
theorem ck_num {rm : Nat} {s : dS} {V : vW} : (ck rm s V).2.2.2 1 = V.2.2 1 + 1 ∧ (ck rm s V).2.2.2 2 = V.2.2 5 ∧ (ck rm s V).2.2.2 3 = V.2.2 6 ∧ (∀ i, i = 4 ∨ i = 5 ∨ i = 6 → (ck rm s V).2.2.2 i = V.2.2 i) ∧ (ck rm s V).2.2.2 7 ≤ V.2.2 7 + 3 := by
  have h := ckP_num (rm := rm) (s := s) (V := V)
  have e : ∀ i, (ck rm s V).2.2.2 i = vs (vs (vs (ckP rm s V).2.2.2 2 ((ckP rm s V).2.2.2 5)) 3 ((ckP rm s V).2.2.2 6)) 1 (vs (vs (ckP rm s V).2.2.2 2 ((ckP rm s V).2.2.2 5)) 3 ((ckP rm s V).2.2.2 6) 1 + 1) i := fun _ => rfl
  refine ⟨?_, ?_, ?_, fun i hi => ?_, ?_⟩
  · rw [e, vs_s, vs_n (by decide), vs_n (by decide), h.1 1 (by decide)]
  · rw [e, vs_n (by decide), vs_n (by decide), vs_s, h.1 5 (by decide)]
  · rw [e, vs_n (by decide), vs_s, h.1 6 (by decide)]
  · rw [e, vs_n (by omega), vs_n (by omega), vs_n (by omega), h.1 i (by omega)]
  · rw [e, vs_n (by decide), vs_n (by decide), vs_n (by decide)]
    exact h.2
theorem ck_bd {rm : Nat} {s : dS} {V : vW} (hb : ∀ i, 1 ≤ i → i ≤ 7 → V.2.2 i < 2 ^ 30 - 1400) : ∀ i, 1 ≤ i → i ≤ 7 → (cA rm s V).2.2.2 i < 2 ^ 30 - 1300 := by
  intro i h1 h2
  unfold cA
  split
  · have := hb i h1 h2
    show V.2.2 i < _
    omega
  · obtain ⟨g1, g2, g3, g4, g5⟩ := ck_num (rm := rm) (s := s) (V := V)
    have b1 := hb 1 (by decide) (by decide)
    have b5 := hb 5 (by decide) (by decide)
    have b6 := hb 6 (by decide) (by decide)
    have b7 := hb 7 (by decide) (by decide)
    have bi := hb i h1 h2
    have : i = 1 ∨ i = 2 ∨ i = 3 ∨ (i = 4 ∨ i = 5 ∨ i = 6) ∨ i = 7 := by omega
    rcases this with rfl | rfl | rfl | h | rfl
    · omega
    · omega
    · omega
    · rw [g4 i h]
      omega
    · omega
theorem clT_num {rm : Nat} {b : dS × vW × Nat × Nat} : (clT rm b).2.1.2.2 4 = b.2.2.1 ∧ (∀ i, i ≠ 4 → i ≠ 1 → (clT rm b).2.1.2.2 i = b.2.1.2.2 i) ∧ (clT rm b).2.1.2.2 1 ≤ b.2.1.2.2 1 + 1 := by
  have e4 : ∀ x : Nat, vs b.2.1.2.2 4 x 4 = x := fun x => vs_s _ _ _
  have en : ∀ x i : Nat, i ≠ 4 → vs b.2.1.2.2 4 x i = b.2.1.2.2 i := fun x i h => vs_n h
  unfold clT
  split
  · exact ⟨e4 b.2.2.1, fun i h _ => en b.2.2.1 i h, Nat.le_trans (Nat.le_of_eq (en b.2.2.1 1 (by decide))) (Nat.le_succ _)⟩
  · refine ⟨?_, fun i h h1 => ?_, ?_⟩
    · show vs (vs b.2.1.2.2 4 b.2.2.1) 1 (vs b.2.1.2.2 4 b.2.2.1 1 + 1) 4 = _
      rw [vs_n (by decide), vs_s]
    · show vs (vs b.2.1.2.2 4 b.2.2.1) 1 (vs b.2.1.2.2 4 b.2.2.1 1 + 1) i = _
      rw [vs_n h1, vs_n h]
    · show vs (vs b.2.1.2.2 4 b.2.2.1) 1 (vs b.2.1.2.2 4 b.2.2.1 1 + 1) 1 ≤ _
      rw [vs_s, vs_n (by decide)]
      exact Nat.le_refl _
theorem clR_n {rm n : Nat} : ∀ (todo : List lR) (s : dS) (V : vW) (p k : Nat), k ≤ n → (clR rm n todo s V p k).2.2.2 ≤ n
  | [], _, _, _, _, h => h
  | r :: l, s, V, p, k, h => by
    unfold clR
    by_cases hst : k = n ∨ s.2.2.2.2.2 = true
    · rw [if_pos hst]
      exact h
    · rw [if_neg hst]
      have hk : k + 1 ≤ n := by omega
      split
      · split
        · exact clR_n l _ _ _ _ hk
        · exact h
      · exact clR_n l _ _ _ _ hk
theorem cl_n {rm n : Nat} {lg : List lR} {s : dS} {V : vW} : (cl rm n lg s V).2.2 ≤ n := by
  have h := clR_n (rm := rm) (n := n) lg (cA rm s V).1 (cA rm s V).2 (V.2.2 4) 0 (Nat.zero_le _)
  unfold cl clT
  split
  · exact Nat.zero_le _
  · exact h
theorem all_cg {l : List Nat} {f g : Nat → Bool} (h : ∀ j ∈ l, f j = g j) : l.all f = l.all g := by
  induction l with
  | nil => rfl
  | cons a l ih =>
    rw [List.all_cons, List.all_cons, h a List.mem_cons_self, ih (fun j hj => h j (List.mem_cons_of_mem _ hj))]
