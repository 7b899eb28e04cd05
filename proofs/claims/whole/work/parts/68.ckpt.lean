/-! PART 68: a checkpoint in pure words -/
theorem wr_dead {s : dS} {x : wR} (h : s.2.2.2.2.2 = true) : wr s x = s := by
  unfold wr
  rw [h, if_pos rfl]
theorem sy_dead {rm : Nat} {s : dS} (h : s.2.2.2.2.2 = true) : sy rm s = s := by
  unfold sy
  rw [h, if_pos rfl]
theorem sy_al {rm : Nat} {s : dS} : (sy rm s).2.2.2.2.2 = s.2.2.2.2.2 := by
  unfold sy
  split <;> rfl
theorem cp_sy {rm : Nat} {s : dS} {k b : Nat} (hk : k ≤ 1024) (hb : b ≤ 8192) : cp (sy rm s) k b := fun h => by
  rw [sy_al] at h
  unfold sy
  rw [h, if_neg (by decide)]
  show 0 + k ≤ 1024 ∧ tot [] + b ≤ 8192
  have : tot [] = 0 := rfl
  omega
theorem cu_sy {rm : Nat} {s : dS} : cu rm (sy rm s) = cu rm s := by
  unfold sy
  split <;> rfl
/-- how many of the newest tables are of a level or one below -/
def lvN : List tB → Nat → Nat
  | [], _ => 0
  | t :: us, l => if t.2.1 ≤ l then lvN us l + 1 else 0
theorem lvN_le : ∀ (us : List tB) (l : Nat), lvN us l ≤ us.length
  | [], _ => Nat.le_refl _
  | t :: us, l => by
    have := lvN_le us l
    unfold lvN
    split
    · simp only [List.length_cons]; omega
    · exact Nat.zero_le _
theorem lvN_eq : ∀ (us : List tB) (l c : Nat), c ≤ us.length → (∀ i t, i < c → us[i]? = some t → t.2.1 ≤ l) → (∀ t, us[c]? = some t → ¬ t.2.1 ≤ l) → lvN us l = c
  | [], l, c, h, _, _ => by
    simp only [List.length_nil] at h
    have : c = 0 := by omega
    rw [this]
    rfl
  | t :: us, l, 0, _, _, h2 => if_neg (h2 t rfl)
  | t :: us, l, c + 1, h, h1, h2 => by
    unfold lvN
    rw [if_pos (h1 0 t (by omega) rfl), lvN_eq us l c (by simpa using h) (fun i u hi hu => h1 (i + 1) u (by omega) hu) (fun u hu => h2 u hu)]
theorem lvN_app {l : Nat} {b : List tB} : ∀ (a : List tB), (∀ t ∈ a, t.2.1 ≤ l) → lvN (a ++ b) l = a.length + lvN b l
  | [], _ => by simp
  | t :: a, h => by
    show (if t.2.1 ≤ l then lvN (a ++ b) l + 1 else 0) = _
    rw [if_pos (h t List.mem_cons_self), lvN_app a (fun u hu => h u (List.mem_cons_of_mem _ hu)), List.length_cons]
    omega
theorem lvN_0 {l : Nat} : ∀ (b : List tB), (∀ t ∈ b, ¬ t.2.1 ≤ l) → lvN b l = 0
  | [], _ => rfl
  | t :: _, h => if_neg (h t List.mem_cons_self)
/-- levels: at most three tables of level 0, then at most one of level 1, then at most one of level 2 -/
def lvOK (us : List tB) : Prop := ∃ a b c : List tB, us = a ++ (b ++ c) ∧ (∀ t ∈ a, t.2.1 = 0) ∧ (∀ t ∈ b, t.2.1 = 1) ∧ (∀ t ∈ c, t.2.1 = 2) ∧ a.length ≤ 3 ∧ b.length ≤ 1 ∧ c.length ≤ 1
theorem lvOK_len {us : List tB} (h : lvOK us) : us.length ≤ 5 := by
  obtain ⟨a, b, c, rfl, _, _, _, h1, h2, h3⟩ := h
  simp only [List.length_append]
  omega
/-- the places of tables -/
def pls (us : List tB) : List Nat := us.map (fun t => t.1)
/-- the second half of a checkpoint of all tables into level 2 -/
def m2A (V : vW) : mP := dr (fun k => fnd (V.1.take (lvN V.1 2)) k)
def st2 (rm : Nat) (s : dS) (V : vW) (tk : List Nat) : dS × vW :=
  if (kS (m2A V)).length = 0 then (s, (V.1.drop (lvN V.1 2), V.2.1, V.2.2))
  else (wr s (tabW rm (lf tk, 2, V.2.2 7, m2A V)), tbV V (lf tk, 2, V.2.2 7, m2A V) (lvN V.1 2))
def m1A (V : vW) : mP := fun k => fnd (V.1.take (lvN V.1 1)) k
def t1A (V : vW) (tk : List Nat) : tB := (lf tk, 1, V.2.2 7, m1A V)
def st1 (rm : Nat) (s : dS) (V : vW) (tk : List Nat) : dS × vW :=
  if (kS (m1A V)).length ≤ 40 then (wr s (tabW rm (t1A V tk)), tbV V (t1A V tk) (lvN V.1 1))
  else st2 rm (wr s (tabW rm (t1A V tk))) (tbV V (t1A V tk) (lvN V.1 1)) (lf tk :: tk)
def t0A (V : vW) : tB := (lf (pls V.1), 0, V.2.2 7, V.2.1)
/-- the tables of a checkpoint -/
def st0 (rm : Nat) (s : dS) (V : vW) : dS × vW :=
  if lvN (tbV V (t0A V) 0).1 0 ≤ 3 then (wr s (tabW rm (t0A V)), tbV V (t0A V) 0)
  else st1 rm (wr s (tabW rm (t0A V))) (tbV V (t0A V) 0) (lf (pls V.1) :: pls V.1)
/-- the view behind a checkpoint's root -/
def ckF (V : vW) : vW := rtV (V.1, m0, vs (vs V.2.2 2 (V.2.2 5)) 3 (V.2.2 6))
def ckE (rm : Nat) (s : dS) (V : vW) : dS := sy rm (rtS rm (sy rm s) (ckF V))
def ckP (rm : Nat) (s : dS) (V : vW) : dS × vW := if (kS V.2.1).length = 0 then (sy rm s, V) else st0 rm (sy rm s) V
def ck (rm : Nat) (s : dS) (V : vW) : dS × vW := (ckE rm (ckP rm s V).1 (ckP rm s V).2, ckF (ckP rm s V).2)
theorem rtS_dead {rm : Nat} {s : dS} {V : vW} (h : s.2.2.2.2.2 = true) : rtS rm s V = s := by
  unfold rtS
  rw [wr_dead h, wr_dead h, wr_dead h]
theorem ckE_dead {rm : Nat} {s : dS} {V : vW} (h : s.2.2.2.2.2 = true) : ckE rm s V = s := by
  unfold ckE
  rw [sy_dead h, rtS_dead h, sy_dead h]
theorem st2_dead {rm : Nat} {s : dS} {V : vW} {tk : List Nat} (h : s.2.2.2.2.2 = true) : (st2 rm s V tk).1 = s := by
  unfold st2
  split
  · rfl
  · exact wr_dead h
theorem st1_dead {rm : Nat} {s : dS} {V : vW} {tk : List Nat} (h : s.2.2.2.2.2 = true) : (st1 rm s V tk).1 = s := by
  unfold st1
  rw [wr_dead h]
  split
  · rfl
  · exact st2_dead h
theorem st0_dead {rm : Nat} {s : dS} {V : vW} (h : s.2.2.2.2.2 = true) : (st0 rm s V).1 = s := by
  unfold st0
  rw [wr_dead h]
  split
  · rfl
  · exact st1_dead h
theorem ckP_dead {rm : Nat} {s : dS} {V : vW} (h : s.2.2.2.2.2 = true) : (ckP rm s V).1 = s := by
  unfold ckP
  rw [sy_dead h]
  split
  · rfl
  · exact st0_dead h
theorem ck_dead {rm : Nat} {s : dS} {V : vW} (h : s.2.2.2.2.2 = true) : (ck rm s V).1 = s := by
  show ckE rm (ckP rm s V).1 _ = s
  rw [ckP_dead h, ckE_dead h]
/-- a table's cells alone tell whether it is there -/
theorem tE_ext {rm : Nat} {c c' : Nat → Int32} {t : tB} (h : tE rm c t) (he : ∀ j, j < 1300 → bN c' (rm + t.1 * 1300 + j) = bN c (rm + t.1 * 1300 + j)) : tE rm c' t := by
  obtain ⟨g1, g2, g3, g4, g5, g6, g7, g8, g9⟩ := h
  have hq : ∀ j, j + 3 < 1300 → qN c' (rm + t.1 * 1300 + j) = qN c (rm + t.1 * 1300 + j) := fun j hj => by
    unfold qN
    rw [Nat.add_assoc _ j 1, Nat.add_assoc _ j 2, Nat.add_assoc _ j 3, he j (by omega), he (j + 1) (by omega), he (j + 2) (by omega), he (j + 3) (by omega)]
  have hl := kS_len t.2.2.2
  refine ⟨g1, g2, g3, g4, (he 1 (by omega)).trans g5, (he 2 (by omega)).trans g6, (hq 4 (by omega)).trans g7, by rw [hq 8 (by omega)]; exact g8, fun i e hi hx => ?_⟩
  obtain ⟨k1, k2, k3, k4⟩ := g9 i e hi hx
  have e1 : rm + t.1 * 1300 + 16 + 10 * i = rm + t.1 * 1300 + (16 + 10 * i) := by omega
  have e2 : rm + t.1 * 1300 + 16 + 10 * i + 1 = rm + t.1 * 1300 + (16 + 10 * i + 1) := by omega
  have e3 : rm + t.1 * 1300 + 16 + 10 * i + 2 = rm + t.1 * 1300 + (16 + 10 * i + 2) := by omega
  have e4 : rm + t.1 * 1300 + 16 + 10 * i + 6 = rm + t.1 * 1300 + (16 + 10 * i + 6) := by omega
  rw [e2] at k2 ⊢
  rw [e3] at k3 ⊢
  rw [e4] at k4 ⊢
  rw [e1] at k1 ⊢
  exact ⟨(he _ (by omega)).trans k1, (he _ (by omega)).trans k2, (hq _ (by omega)).trans k3, (hq _ (by omega)).trans k4⟩
theorem atC_n4 {c : Nat → Int32} {q n : Nat} (h : atC c q (n4 n)) (hn : n < 4294967296) : qN c q = n := by
  unfold qN
  have h0 := h 0 (by show 0 < 4; decide)
  have h1 := h 1 (by show 1 < 4; decide)
  have h2 := h 2 (by show 2 < 4; decide)
  have h3 := h 3 (by show 3 < 4; decide)
  rw [Nat.add_zero] at h0
  rw [h0, h1, h2, h3]
  exact q4_n4 hn
theorem tabB_by {lv : Nat} {m : mP} {nxt : Nat} (hlv : lv < 3) (hm : mOK m) : by8 (tabB lv m nxt) := by
  have hl := kS_len m
  refine by8_app ?_ ?_
  · intro x hx
    simp only [List.mem_cons, List.mem_append] at hx
    rcases hx with rfl | rfl | rfl | rfl | h | h | h
    · decide
    · omega
    · omega
    · decide
    · exact n4_by _ x h
    · exact n4_by _ x h
    · exact n4_by _ x h
  · intro x hx
    obtain ⟨k, hk, hx⟩ := List.mem_flatMap.mp hx
    obtain ⟨hk1, hk2⟩ := kS_mem.mp hk
    obtain ⟨e, he⟩ := Option.isSome_iff_exists.mp hk2
    have ho := hm.2 k e he
    unfold enB at hx
    rw [he] at hx
    simp only [List.mem_cons, List.mem_append, Option.getD_some] at hx
    rcases hx with rfl | rfl | h | h
    · omega
    · omega
    · exact n4_by _ x h
    · exact n4_by _ x h
theorem nx_hi {rm c i : Nat} (h : rm ≤ c) : nx rm c i = c + i := if_neg (by omega)
/-- bytes that lie so make a table -/
theorem tE_of {rm : Nat} {c : Nat → Int32} {t : tB} (h1 : t.1 < 12) (h2 : t.2.1 < 3) (h3 : t.2.2.1 < 2 ^ 30) (hm : mOK t.2.2.2) (h : atC c (rm + t.1 * 1300) (tabB t.2.1 t.2.2.2 t.2.2.1)) : tE rm c t := by
  have hl := kS_len t.2.2.2
  have hlen := tabB_len t.2.1 t.2.2.2 t.2.2.1
  have hd : ∀ j, j < 16 → bN c (rm + t.1 * 1300 + j) = (84 :: t.2.1 :: (kS t.2.2.2).length :: 0 :: (n4 t.2.2.1 ++ (n4 (uN (fI t.2.2.2)) ++ n4 t.2.2.1))).getD j 0 := fun j hj => by
    rw [h j (by omega), tabB_hd hj]
  have hn : ∀ q n, q + 3 < 16 → n < 4294967296 → (∀ j, j < 4 → (84 :: t.2.1 :: (kS t.2.2.2).length :: 0 :: (n4 t.2.2.1 ++ (n4 (uN (fI t.2.2.2)) ++ n4 t.2.2.1))).getD (q + j) 0 = (n4 n).getD j 0) → qN c (rm + t.1 * 1300 + q) = n := fun q n hq hlt hg => atC_n4 (fun j hj => by
    have hj4 : j < 4 := hj
    rw [Nat.add_assoc, hd (q + j) (by omega)]
    exact hg j hj4) hlt
  refine ⟨h1, h2, h3, hm, hd 1 (by decide), hd 2 (by decide), hn 4 t.2.2.1 (by decide) (by omega) ?_, ?_, fun i e hi he => ?_⟩
  · intro j hj
    have : j = 0 ∨ j = 1 ∨ j = 2 ∨ j = 3 := by omega
    rcases this with rfl | rfl | rfl | rfl <;> rfl
  · rw [hn 8 (uN (fI t.2.2.2)) (by decide) (uN_lt _) ?_, nI_uN]
    intro j hj
    have : j = 0 ∨ j = 1 ∨ j = 2 ∨ j = 3 := by omega
    rcases this with rfl | rfl | rfl | rfl <;> rfl
  · have ho := hm.2 _ e he
    have hen : enB t.2.2.2 (ksA t.2.2.2 i) = ksA t.2.2.2 i :: e.1 :: (n4 e.2.2 ++ n4 e.2.1) := by
      unfold enB
      rw [he]
      rfl
    have he2 : ∀ j, j < 10 → bN c (rm + t.1 * 1300 + 16 + 10 * i + j) = (ksA t.2.2.2 i :: e.1 :: (n4 e.2.2 ++ n4 e.2.1)).getD j 0 := fun j hj => by
      rw [← hen, ← tabB_en (lv := t.2.1) (nxt := t.2.2.1) hi hj, ← h _ (by omega)]
      congr 1
      omega
    refine ⟨he2 0 (by decide), he2 1 (by decide), atC_n4 (fun j hj => ?_) (by omega), atC_n4 (fun j hj => ?_) (by omega)⟩
    · have hj4 : j < 4 := hj
      rw [Nat.add_assoc _ 2 j, he2 (2 + j) (by omega)]
      have : j = 0 ∨ j = 1 ∨ j = 2 ∨ j = 3 := by omega
      rcases this with rfl | rfl | rfl | rfl <;> rfl
    · have hj4 : j < 4 := hj
      rw [Nat.add_assoc _ 6 j, he2 (6 + j) (by omega)]
      have : j = 0 ∨ j = 1 ∨ j = 2 ∨ j = 3 := by omega
      rcases this with rfl | rfl | rfl | rfl <;> rfl
theorem tE_new {rm : Nat} {c : Nat → Int32} {t : tB} (h1 : t.1 < 12) (h2 : t.2.1 < 3) (h3 : t.2.2.1 < 2 ^ 30) (hm : mOK t.2.2.2) : tE rm (ap rm c (tabW rm t)) t := by
  refine tE_of h1 h2 h3 hm (fun i hi => ?_)
  have := ap_in (rm := rm) (c := rm + t.1 * 1300) (m := (tabB t.2.1 t.2.2.2 t.2.2.1).length) (f := c) (tabB_by (nxt := t.2.2.1) h2 hm) hi (fun z => absurd z (by omega))
  rw [nx_hi (by omega)] at this
  exact this
theorem tE_old {rm : Nat} {c : Nat → Int32} {t u : tB} (h : tE rm c u) (hne : u.1 ≠ t.1) (m : Nat) (hm : m ≤ 1300) : tE rm (ap rm c (rm + t.1 * 1300, m, lB (tabB t.2.1 t.2.2.2 t.2.2.1))) u := by
  refine tE_ext h (fun j hj => ap_else (fun i hi => ?_))
  rw [nx_hi (by omega)]
  omega
theorem tabW_len (rm : Nat) (t : tB) : (tabW rm t).2.1 ≤ 1216 := by
  show (tabB t.2.1 t.2.2.2 t.2.2.1).length ≤ 1216
  rw [tabB_len]
  have := kS_len t.2.2.2
  omega
theorem tE_old' {rm : Nat} {c : Nat → Int32} {t u : tB} (h : tE rm c u) (hne : u.1 ≠ t.1) : tE rm (ap rm c (tabW rm t)) u := tE_old h hne _ (by have := tabW_len rm t; show (tabB t.2.1 t.2.2.2 t.2.2.1).length ≤ 1300; exact Nat.le_trans this (by decide))
theorem pig : ∀ (n : Nat) (tk : List Nat), (∀ p, p < n → p ∈ tk) → n ≤ tk.length
  | 0, _, _ => Nat.zero_le _
  | n + 1, tk, h => by
    have h1 := pig n (tk.filter (fun x => decide (x ≠ n))) (fun p hp => List.mem_filter.mpr ⟨h p (by omega), decide_eq_true (by omega)⟩)
    have h2 : (tk.filter (fun x => decide (x ≠ n))).length < tk.length := by
      rw [List.length_filter_lt_length_iff_exists]
      exact ⟨n, h n (by omega), by simp⟩
    omega
theorem lf_new {tk : List Nat} (h : tk.length < 11) : lf tk ∉ tk := lf_out (Classical.byContradiction fun z => by
  have := pig 11 tk (fun p hp => Classical.byContradiction fun g => z ⟨p, hp, g⟩)
  omega)
theorem mOK_fnd : ∀ {us : List tB}, (∀ t ∈ us, mOK t.2.2.2) → mOK (fun k => fnd us k)
  | [], _ => ⟨fun _ _ => rfl, fun _ _ h => by cases h⟩
  | t :: us, h => by
    have h1 := h t List.mem_cons_self
    have h2 := mOK_fnd (us := us) (fun u hu => h u (List.mem_cons_of_mem _ hu))
    refine ⟨fun k hk => ?_, fun k e he => ?_⟩
    · show (match t.2.2.2 k with | some e => some e | none => fnd us k) = none
      rw [h1.1 k hk]
      exact h2.1 k hk
    · have he' : (match t.2.2.2 k with | some e => some e | none => fnd us k) = some e := he
      cases hm : t.2.2.2 k with
      | none => rw [hm] at he'; exact h2.2 k e he'
      | some x => rw [hm] at he'; exact h1.2 k e (hm.trans he')
theorem kS_pos {m : mP} {k : Nat} (hk : k < 120) (h : (m k).isSome = true) : 0 < (kS m).length := List.length_pos_of_mem (kS_mem.mpr ⟨hk, h⟩)
theorem kS_ex {m : mP} (h : 0 < (kS m).length) : ∃ k, k < 120 ∧ (m k).isSome = true := ⟨_, ksA_mem h⟩
/-- what a checkpoint wants of the disk that it reads -/
def ckI (rm : Nat) (s : dS) (V : vW) : Prop := (∀ t ∈ V.1, tE rm (cu rm s) t) ∧ lvOK V.1
