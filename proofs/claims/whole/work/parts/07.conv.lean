/-! PART 07: pure worlds and locals as the machine has them -/
theorem cv_cat (b h : Nat) (v : Value) : (rx_cv b h v).category = v.category := by cases v <;> rfl
theorem cv_fit (b h : Nat) (ty : FieldType) (v : Value) : fits ty (rx_cv b h v) = fits ty v := by cases v <;> cases ty <;> rfl
theorem cv_nar (b h : Nat) {ty : FieldType} {v : Value} (hv : narrow ty v = v) : narrow ty (rx_cv b h v) = rx_cv b h v := by
  cases v <;> first | exact hv | (cases ty <;> rfl)
theorem cv_sum (b h : Nat) (l : List Value) : ((l.map (rx_cv b h)).map fun v => v.category).sum = rx_sz l := by
  unfold rx_sz
  rw [List.map_map]
  congr 1
  apply List.map_congr_left
  intro v _
  exact cv_cat b h v
theorem cw_get (b h : Nat) (tc : Nat → ClassId) : ∀ (w : pW) (k j : Nat), (rx_cw b h tc k w)[j]? = (w[j]?).map (fun e => (k + j, rx_ce b h tc e))
  | [], k, j => by simp [rx_cw]
  | e :: l, k, 0 => by simp [rx_cw]
  | e :: l, k, j + 1 => by
    simp only [rx_cw, List.getElem?_cons_succ]
    rw [cw_get b h tc l (k + 1) j]
    congr 1
    funext x
    rw [show k + 1 + j = k + (j + 1) by omega]
theorem cw_set (b h : Nat) (tc : Nat → ClassId) : ∀ (w : pW) (k j : Nat) (e : pE), rx_cw b h tc k (w.set j e) = (rx_cw b h tc k w).set j (k + j, rx_ce b h tc e)
  | [], k, j, e => by simp [rx_cw]
  | a :: l, k, 0, e => by simp [rx_cw]
  | a :: l, k, j + 1, e => by
    simp only [rx_cw, List.set_cons_succ]
    rw [cw_set b h tc l (k + 1) j e, show k + 1 + j = k + (j + 1) by omega]
theorem cw_app (b h : Nat) (tc : Nat → ClassId) : ∀ (w : pW) (k : Nat) (e : pE), rx_cw b h tc k (w ++ [e]) = rx_cw b h tc k w ++ [(k + w.length, rx_ce b h tc e)]
  | [], k, e => by simp [rx_cw]
  | a :: l, k, e => by
    simp only [List.cons_append, rx_cw, List.length_cons]
    rw [cw_app b h tc l (k + 1) e, show k + 1 + l.length = k + (l.length + 1) by omega]
theorem cw_D (b h : Nat) (tc : Nat → ClassId) (w : pW) : va_D (fun q => h ≤ q) (rx_cw b h tc h w) := by
  refine ⟨fun i j p q hi hj hpq => ?_, fun k q hk => ?_⟩
  · rw [cw_get] at hi hj
    obtain ⟨x, -, rfl⟩ := Option.map_eq_some_iff.mp hi
    obtain ⟨y, -, rfl⟩ := Option.map_eq_some_iff.mp hj
    dsimp only at hpq
    omega
  · rw [cw_get] at hk
    obtain ⟨x, -, rfl⟩ := Option.map_eq_some_iff.mp hk
    exact Nat.le_add_right h k
/-- the locals -/
def rx_has (b h : Nat) (ls : Array Slot) (n : Nat) (L : List (Option Value)) : Prop := ls.size = n ∧ lv_wf ls ∧ (∀ (j : Nat) (v : Value), L[j]? = some (some v) → ls[j]? = some (.val (rx_cv b h v))) ∧ L.length = n
def rx_lv (b h : Nat) (L : List (Option Value)) : List (Nat × Value) := (List.range L.length).filterMap (fun j => match L[j]? with
  | some (some v) => some (j, rx_cv b h v)
  | _ => none)
theorem lv_mem {b h : Nat} {L : List (Option Value)} {j : Nat} {v : Value} : (j, v) ∈ rx_lv b h L ↔ ∃ u, L[j]? = some (some u) ∧ v = rx_cv b h u := by
  unfold rx_lv
  rw [List.mem_filterMap]
  constructor
  · rintro ⟨k, -, hk⟩
    split at hk
    · rename_i u hu
      cases hk
      exact ⟨u, hu, rfl⟩
    · cases hk
  · rintro ⟨u, hu, rfl⟩
    refine ⟨j, List.mem_range.mpr (List.getElem?_eq_some_iff.mp hu).1, ?_⟩
    rw [hu]
theorem has_lv {b h : Nat} {ls : Array Slot} {n : Nat} {L : List (Option Value)} (hl : rx_has b h ls n L) : lv_has ls n (rx_lv b h L) := by
  refine ⟨hl.1, hl.2.1, fun q hq => ?_⟩
  obtain ⟨j, v⟩ := q
  obtain ⟨u, hu, rfl⟩ := lv_mem.mp hq
  exact hl.2.2.1 j u hu
theorem nw_of {L : List (Option Value)} {j : Nat} {u : Value} (hw : rx_nw L (j + 1) = true) (hu : L[j]? = some (some u)) : u.category = 1 := by
  simp only [rx_nw, hu] at hw
  cases u <;> simp at hw <;> rfl
/-- a store at place i -/
theorem has_set {b h : Nat} {ls' : Array Slot} {n i : Nat} {L : List (Option Value)} {v : Value} (hw : rx_nw L i = true) (hi : i < L.length) (hLn : L.length = n)
    (hl : lv_has ls' n ((i, rx_cv b h v) :: (rx_lv b h L).filter (fun q => !(q.1 == i) && !(q.1 + 1 == i && q.2.category == 2)))) : rx_has b h ls' n (L.set i (some v)) := by
  refine ⟨hl.1, hl.2.1, fun j u hu => ?_, by simpa using hLn⟩
  by_cases hj : j = i
  · subst hj
    rw [List.getElem?_set_self hi] at hu
    cases hu
    exact hl.2.2 _ List.mem_cons_self
  · rw [List.getElem?_set_ne (fun e => hj e.symm)] at hu
    refine hl.2.2 (j, rx_cv b h u) (List.mem_cons_of_mem _ (List.mem_filter.mpr ⟨lv_mem.mpr ⟨u, hu, rfl⟩, ?_⟩))
    have h1 : (j == i) = false := by simpa using hj
    have h2 : (j + 1 == i && (rx_cv b h u).category == 2) = false := by
      by_cases hji : j + 1 = i
      · subst hji
        rw [cv_cat, nw_of hw hu]
        simp
      · simp [hji]
    show (!(j == i) && !(j + 1 == i && (rx_cv b h u).category == 2)) = true
    rw [h1, h2]
    rfl
theorem en_len (b h : Nat) : ∀ l : List Value, (lg_sl (l.map (rx_cv b h))).length = (rx_en l).length
  | [] => rfl
  | v :: l => by
    have ih := en_len b h l
    unfold lg_sl at ih ⊢
    rw [List.map_cons, List.flatMap_cons, cv_cat]
    unfold rx_en
    split
    · simp only [List.length_append, List.length_cons, List.length_nil]
      omega
    · simp only [List.length_append, List.length_cons, List.length_nil]
      omega
theorem en_args (b h : Nat) : ∀ (l : List Value) (k j : Nat) (v : Value), (rx_en l)[j]? = some (some v) → (k + j, rx_cv b h v) ∈ lv_args k (l.map (rx_cv b h))
  | [], k, j, v, hv => by simp [rx_en] at hv
  | u :: l, k, j, v, hv => by
    rw [List.map_cons]
    unfold lv_args
    unfold rx_en at hv
    rw [cv_cat]
    split at hv
    · rename_i hc
      rw [if_pos hc]
      match j, hv with
      | 0, hv =>
        simp at hv
        subst hv
        exact List.mem_cons_self
      | 1, hv => simp at hv
      | j + 2, hv =>
        simp only [List.getElem?_cons_succ] at hv
        have := en_args b h l (k + 2) j v hv
        rw [show k + 2 + j = k + (j + 2) by omega] at this
        exact List.mem_cons_of_mem _ this
    · rename_i hc
      rw [if_neg hc]
      match j, hv with
      | 0, hv =>
        simp at hv
        subst hv
        exact List.mem_cons_self
      | j + 1, hv =>
        simp only [List.getElem?_cons_succ] at hv
        have := en_args b h l (k + 1) j v hv
        rw [show k + 1 + j = k + (j + 1) by omega] at this
        exact List.mem_cons_of_mem _ this
theorem has_en (b h : Nat) {l : List Value} {n : Nat} (hn : (rx_en l).length ≤ n) : rx_has b h ((lg_sl (l.map (rx_cv b h)) ++ List.replicate (n - (lg_sl (l.map (rx_cv b h))).length) Slot.unset).toArray) n (rx_l0 l n) := by
  have hl := lv_entry (l.map (rx_cv b h)) (n := n) (by rw [en_len]; exact hn)
  refine ⟨hl.1, hl.2.1, fun j v hv => ?_, by unfold rx_l0; rw [List.length_append, List.length_replicate]; omega⟩
  unfold rx_l0 at hv
  by_cases hj : j < (rx_en l).length
  · rw [List.getElem?_append_left hj] at hv
    have := en_args b h l 0 j v hv
    rw [Nat.zero_add] at this
    exact hl.2.2 _ this
  · rw [List.getElem?_append_right (by omega)] at hv
    rw [List.getElem?_replicate] at hv
    split at hv <;> simp at hv
/-- the world's cells, as the machine's rows want them -/
theorem gf_at {b h : Nat} {tc : Nat → ClassId} {w : pW} {c o k : Nat} {v : Value} (hg : gt_f w c o k = some v) : ∃ (j : Nat) (fs : List Value), o = j + 1 ∧ (rx_cw b h tc h w)[j]? = some (h + j, .inr (c, fs.map (rx_cv b h))) ∧ (fs.map (rx_cv b h))[k]? = some (rx_cv b h v) := by
  cases o with
  | zero => cases hg
  | succ j =>
    simp only [gt_f] at hg
    split at hg
    · rename_i c' fs he
      split at hg
      · rename_i hc
        subst hc
        refine ⟨j, fs, rfl, ?_, ?_⟩
        · rw [cw_get, he]
          rfl
        · rw [List.getElem?_map, hg]
          rfl
      · cases hg
    · cases hg
theorem gc_at {b h : Nat} {tc : Nat → ClassId} {w : pW} {c o : Nat} (hg : gt_c w o = some c) : ∃ (j : Nat) (fs : List Value), o = j + 1 ∧ (rx_cw b h tc h w)[j]? = some (h + j, .inr (c, fs)) := by
  cases o with
  | zero => cases hg
  | succ j =>
    simp only [gt_c] at hg
    split at hg
    · rename_i c' fs he
      cases hg
      refine ⟨j, fs.map (rx_cv b h), rfl, ?_⟩
      rw [cw_get, he]
      rfl
    · cases hg
theorem pf_at {b h : Nat} {tc : Nat → ClassId} {w w' : pW} {c o k : Nat} {v : Value} (hg : pt_f w c o k v = some w') : ∃ (j : Nat) (fs : List Value), o = j + 1 ∧ (rx_cw b h tc h w)[j]? = some (h + j, .inr (c, fs)) ∧ k < fs.length ∧ rx_cw b h tc h w' = (rx_cw b h tc h w).set j (h + j, .inr (c, fs.set k (rx_cv b h v))) ∧ w'.length = w.length := by
  cases o with
  | zero => cases hg
  | succ j =>
    simp only [pt_f] at hg
    split at hg
    · rename_i c' fs he
      split at hg
      · rename_i hc
        obtain ⟨rfl, hk⟩ := hc
        cases hg
        refine ⟨j, fs.map (rx_cv b h), rfl, ?_, ?_, ?_, ?_⟩
        · rw [cw_get, he]
          rfl
        · rw [List.length_map]
          exact hk
        · rw [cw_set]
          show _ = (rx_cw b h tc h w).set j (h + j, .inr (c', (fs.map (rx_cv b h)).set k (rx_cv b h v)))
          rw [← List.map_set]
          rfl
        · simp
      · cases hg
    · cases hg
theorem ga_at {b h : Nat} {tc : Nat → ClassId} {w : pW} {o : Nat} {t : Nat} {a : vp_A} (hg : gt_a w o = some (t, a)) : ∃ j : Nat, o = j + 1 ∧ (rx_cw b h tc h w)[j]? = some (h + j, .inl (tc t, rx_ca b h a)) := by
  cases o with
  | zero => cases hg
  | succ j =>
    simp only [gt_a] at hg
    split at hg
    · rename_i a' he
      cases hg
      refine ⟨j, rfl, ?_⟩
      rw [cw_get, he]
      rfl
    · cases hg
theorem pa_at {b h : Nat} {tc : Nat → ClassId} (w : pW) (j : Nat) (t : Nat) (a : vp_A) : rx_cw b h tc h (pt_a w (j + 1) (t, a)) = (rx_cw b h tc h w).set j (h + j, .inl (tc t, rx_ca b h a)) ∧ (pt_a w (j + 1) (t, a)).length = w.length := by
  constructor
  · show rx_cw b h tc h (w.set j _) = _
    rw [cw_set]
    rfl
  · show (w.set j _).length = _
    simp
