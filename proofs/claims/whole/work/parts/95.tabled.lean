/-! PART 95: a checkpoint: whenever the power fails, the store before it or behind it is there -/
theorem fnd_app : ∀ (a b : List tB) (k : Nat), fnd (a ++ b) k = match fnd a k with
    | some e => some e
    | none => fnd b k
  | [], _, _ => rfl
  | t :: a, b, k => by
    show (match t.2.2.2 k with | some e => some e | none => fnd (a ++ b) k) = match (match t.2.2.2 k with | some e => some e | none => fnd a k) with | some e => some e | none => fnd b k
    cases t.2.2.2 k with
    | some e => rfl
    | none => exact fnd_app a b k
theorem mOK_dr' {m : mP} (h : mOK m) : mOK (dr m) := by
  rw [← drK_all h]
  exact mOK_dr h
theorem mOK_rpM {p0 n0 : Nat} : ∀ (l : List lR) (p n : Nat) (m : mP), mOK m → (∀ r ∈ l, rcOK r) → p + lgZ l < 2 ^ 30 → n + l.length < 2 ^ 30 → mOK (rpM p n m l)
  | [], _, _, _, h, _, _, _ => h
  | r :: l, p, n, m, h, hr, hp, hn => by
    have hro := hr r List.mem_cons_self
    have e : lgZ (r :: l) = rcZ r + lgZ l := rfl
    have e2 : (r :: l).length = l.length + 1 := rfl
    exact mOK_rpM (p0 := p0) (n0 := n0) l (p + rcZ r) (n + 1) _ (mOK_up h hro.2.2.2.1 ⟨hro.1, hro.2.1, (by show n < 2 ^ 30; omega), (by show p < 2 ^ 30; omega)⟩) (fun x hx => hr x (List.mem_cons_of_mem _ hx)) (by omega) (by omega)
theorem fD_tab {rm p m : Nat} {c g : Nat → Int32} {V : vW} {l1 l2 : List lR} (hr : 0 < rm) (hp : p < 12) (hn : p ∉ pls V.1) (hm : m ≤ 1300) (hI : fD rm c V l1 l2) : fD rm (ap rm c (rm + p * 1300, m, g)) V l1 l2 := by
  have hge : rm ≤ rm + p * 1300 := by omega
  have hlog : ∀ q, bN (ap rm c (rm + p * 1300, m, g)) (q % rm) = bN c (q % rm) := fun q => hi_out hge (Or.inl (by have := Nat.mod_lt q hr; omega))
  obtain ⟨g1, g2, g3, g4⟩ := hI
  refine ⟨rtI_ext (fun k _ j _ => hi_out hge (Or.inr (by unfold slC; omega))) g1, tD_ext (fun t ht j hj => hi_out hge ?_) g2, lD_ext (fun q _ _ => hlog q) ?_ g3, g4⟩
  · have : t.1 ≠ p := fun z => hn (by rw [← z]; exact List.mem_map.mpr ⟨t, ht, rfl⟩)
    omega
  · rw [qL_ext (c := c) (fun j _ => hlog _)]
    exact g3.2.2.2.2.1
theorem cS_tab {rm K : Nat} {s : dS} {V : vW} {l1 l2 : List lR} {t : tB} (hr : 0 < rm) (hb : K < 2 ^ 30 - 6000) (hcs : cS rm K s) (h12 : t.1 < 12) (hI : s.2.2.2.2.2 = false → fD rm (cu rm s) V l1 l2 ∧ bdK K V l2 ∧ t.1 ∉ pls V.1 ∧ t.2.1 < 3 ∧ t.2.2.1 < 2 ^ 30 ∧ mOK t.2.2.2) :
    cS rm K (wr s (tabW rm t)) ∧ ((wr s (tabW rm t)).2.2.2.2.2 = false → fD rm (cu rm (wr s (tabW rm t))) V l1 l2 ∧ tE rm (cu rm (wr s (tabW rm t))) t ∧ (∀ u : tB, u.1 ≠ t.1 → tE rm (cu rm s) u → tE rm (cu rm (wr s (tabW rm t))) u) ∧ ∀ j, j < rm → bN (cu rm (wr s (tabW rm t))) j = bN (cu rm s) j) := by
  have hl := tabW_len rm t
  refine ⟨cS_wr hcs (fun w m hm => ?_), fun w => ?_⟩
  · obtain ⟨a1, a2, a3, _⟩ := hI w
    exact opn_of (fD_tab hr h12 a3 (by omega) a1) a2 hb
  · have w1 := (wr_al w).1
    obtain ⟨a1, a2, a3, a4, a5, a6⟩ := hI w1
    rw [cu_wr w1]
    exact ⟨fD_tab hr h12 a3 (by have h9 : (tabB t.2.1 t.2.2.2 t.2.2.1).length ≤ 1216 := hl; omega) a1, tE_new h12 a4 a5 a6, fun u hu hE => tE_old' hE hu, fun j hj => hi_out (m := (tabW rm t).2.1) (by omega) (Or.inl (by omega))⟩
/-- the middle of a checkpoint: V is what lasts, q the state -/
def stR (rm K : Nat) (V : vW) (l1 l2 : List lR) (q : dS × vW) : Prop := cS rm K q.1 ∧ (q.1.2.2.2.2.2 = false → (fD rm (cu rm q.1) V l1 l2 ∧ atL rm (cu rm q.1) (V.2.2 5) z12) ∧ tD rm (cu rm q.1) q.2.1 ∧ ∀ k e, fnd q.2.1 k = some e → ent V.2.1 V.1 k = some e)
theorem atL_z {rm p : Nat} {c c' : Nat → Int32} (hr : 0 < rm) (h : ∀ j, j < rm → bN c' j = bN c j) {l : List Nat} (hz : atL rm c p l) : atL rm c' p l := atL_ext (fun q _ _ => h _ (Nat.mod_lt _ hr)) hz
theorem st2_ok {rm K : Nat} {s : dS} {V W : vW} {l1 l2 : List lR} {tk : List Nat} (hr : 0 < rm) (hb : K < 2 ^ 30 - 6000) (hK : bdK K V l2) (htk : tk.length < 11) (hsub : ∀ p ∈ pls V.1, p ∈ tk) (hlv : lvN W.1 2 = W.1.length) (h7 : W.2.2 7 < 2 ^ 30) (hcs : cS rm K s)
    (hI : s.2.2.2.2.2 = false → (fD rm (cu rm s) V l1 l2 ∧ atL rm (cu rm s) (V.2.2 5) z12) ∧ (∀ t ∈ W.1, tE rm (cu rm s) t) ∧ ∀ k e, fnd W.1 k = some e → ent V.2.1 V.1 k = some e) : stR rm K V l1 l2 (st2 rm s W tk) := by
  have hnew := lf_new htk
  unfold st2 stR
  by_cases h0 : (kS (m2A W)).length = 0
  · rw [if_pos h0, hlv, List.drop_length]
    refine ⟨hcs, fun w => ⟨(hI w).1, ⟨fun t ht => (by cases ht), ⟨[], [], [], rfl, fun t ht => (by cases ht), fun t ht => (by cases ht), fun t ht => (by cases ht), by decide, by decide, by decide⟩, List.nodup_nil, fun t ht => (by cases ht)⟩, fun k e he => ?_⟩⟩
    cases he
  · rw [if_neg h0]
    have em : m2A W = dr (fun k => fnd W.1 k) := by
      unfold m2A
      rw [hlv, List.take_length]
    have hok : s.2.2.2.2.2 = false → mOK (m2A W) := fun w => by
      rw [em]
      exact mOK_dr' (mOK_fnd (fun t ht => ((hI w).2.1 t ht).2.2.2.1))
    obtain ⟨k1, k2⟩ := cS_tab (t := (lf tk, 2, W.2.2 7, m2A W)) (V := V) (l1 := l1) (l2 := l2) hr hb hcs (lf_lt tk) (fun w => ⟨(hI w).1.1, hK, fun z => hnew (hsub _ z), (by decide : 2 < 3), h7, hok w⟩)
    refine ⟨k1, fun w => ?_⟩
    obtain ⟨a1, a2, a3, a4⟩ := k2 w
    obtain ⟨⟨b1, b2⟩, b3, b4⟩ := hI (wr_al w).1
    have eW : (tbV W (lf tk, 2, W.2.2 7, m2A W) (lvN W.1 2)).1 = [(lf tk, 2, W.2.2 7, m2A W)] := by
      show _ :: W.1.drop (lvN W.1 2) = _
      rw [hlv, List.drop_length]
    refine ⟨⟨a1, atL_z hr a4 b2⟩, ?_, fun k e he => ?_⟩
    · show tD rm _ (tbV W (lf tk, 2, W.2.2 7, m2A W) (lvN W.1 2)).1
      rw [eW]
      refine ⟨fun t ht => by rw [List.mem_singleton.mp ht]; exact a2, ⟨[], [], [_], rfl, fun t ht => (by cases ht), fun t ht => (by cases ht), fun t ht => by rw [List.mem_singleton.mp ht], by decide, by decide, Nat.le_refl _⟩, List.nodup_cons.mpr ⟨List.not_mem_nil, List.nodup_nil⟩, fun t ht => ?_⟩
      rw [List.mem_singleton.mp ht]
      show 0 < (kS (m2A W)).length
      omega
    · have he' : fnd (tbV W (lf tk, 2, W.2.2 7, m2A W) (lvN W.1 2)).1 k = some e := he
      rw [eW] at he'
      have h1 : (match m2A W k with | some e => some e | none => none) = some e := he'
      rw [em] at h1
      unfold dr at h1
      apply b4
      cases hf : fnd W.1 k with
      | none => simp only [hf] at h1; cases h1
      | some x =>
        simp only [hf] at h1
        split at h1
        · rename_i e2 h2
          split at h2
          · cases h2
          · rw [← h1, ← h2]
        · cases h1
theorem fnd_some : ∀ {us : List tB} {t : tB} {k : Nat}, t ∈ us → (t.2.2.2 k).isSome = true → (fnd us k).isSome = true
  | u :: us, t, k, ht, h => by
    show (match u.2.2.2 k with | some e => some e | none => fnd us k).isSome = true
    cases hu : u.2.2.2 k with
    | some e => rfl
    | none =>
      rcases List.mem_cons.mp ht with z | z
      · rw [z, hu] at h
        cases h
      · exact fnd_some z h
theorem st1_ok {rm K : Nat} {s : dS} {V W : vW} {l1 l2 : List lR} {tk : List Nat} {A C : List tB} (hr : 0 < rm) (hb : K < 2 ^ 30 - 6000) (hK : bdK K V l2) (htk : tk.length < 10) (hsub : ∀ p ∈ pls V.1, p ∈ tk) (eW : W.1 = A ++ C) (hA : ∀ t ∈ A, t.2.1 ≤ 1) (hC : ∀ t ∈ C, t.2.1 = 2) (hC1 : C.length ≤ 1) (hCs : ∀ p ∈ pls C, p ∈ tk) (hne : ∃ t ∈ A, 0 < (kS t.2.2.2).length) (hCn : ∀ t ∈ C, 0 < (kS t.2.2.2).length) (h7 : W.2.2 7 + 1 < 2 ^ 30) (hcs : cS rm K s)
    (hI : s.2.2.2.2.2 = false → (fD rm (cu rm s) V l1 l2 ∧ atL rm (cu rm s) (V.2.2 5) z12) ∧ (∀ t ∈ W.1, tE rm (cu rm s) t) ∧ ∀ k e, fnd W.1 k = some e → ent V.2.1 V.1 k = some e) : stR rm K V l1 l2 (st1 rm s W tk) := by
  have hnew : lf tk ∉ tk := lf_new (by omega)
  have hn1 : lvN W.1 1 = A.length := by
    rw [eW, lvN_app A hA, lvN_0 C (fun t ht => by rw [hC t ht]; decide), Nat.add_zero]
  have em : m1A W = fun k => fnd A k := by
    unfold m1A
    rw [hn1, eW, List.take_left']
    rfl
  have eV : (tbV W (t1A W tk) (lvN W.1 1)).1 = t1A W tk :: C := by
    show _ :: W.1.drop (lvN W.1 1) = _
    rw [hn1, eW, List.drop_left']
    rfl
  have hok : s.2.2.2.2.2 = false → mOK (m1A W) := fun w => by
    rw [em]
    exact mOK_fnd (fun t ht => ((hI w).2.1 t (by rw [eW]; exact List.mem_append_left _ ht)).2.2.2.1)
  have hkn : 0 < (kS (m1A W)).length := by
    obtain ⟨t, ht, h⟩ := hne
    obtain ⟨k, hk, hks⟩ := kS_ex h
    exact kS_pos hk (by rw [em]; exact fnd_some ht hks)
  obtain ⟨k1, k2⟩ := cS_tab (t := t1A W tk) (V := V) (l1 := l1) (l2 := l2) hr hb hcs (lf_lt tk) (fun w => ⟨(hI w).1.1, hK, fun z => hnew (hsub _ z), (by decide : 1 < 3), (by show W.2.2 7 < 2 ^ 30; omega), hok w⟩)
  have hmid : (wr s (tabW rm (t1A W tk))).2.2.2.2.2 = false → (fD rm (cu rm (wr s (tabW rm (t1A W tk)))) V l1 l2 ∧ atL rm (cu rm (wr s (tabW rm (t1A W tk)))) (V.2.2 5) z12) ∧ (∀ t ∈ t1A W tk :: C, tE rm (cu rm (wr s (tabW rm (t1A W tk)))) t) ∧ ∀ k e, fnd (t1A W tk :: C) k = some e → ent V.2.1 V.1 k = some e := fun w => by
    obtain ⟨a1, a2, a3, a4⟩ := k2 w
    obtain ⟨⟨b1, b2⟩, b3, b4⟩ := hI (wr_al w).1
    refine ⟨⟨a1, atL_z hr a4 b2⟩, fun t ht => ?_, fun k e he => b4 k e ?_⟩
    · rcases List.mem_cons.mp ht with z | z
      · rw [z]
        exact a2
      · refine a3 t (fun w => hnew ?_) (b3 t (by rw [eW]; exact List.mem_append_right _ z))
        have : t.1 = lf tk := w
        rw [← this]
        exact hCs _ (List.mem_map.mpr ⟨t, z, rfl⟩)
    · rw [eW, fnd_app]
      have h1 : (match m1A W k with | some e => some e | none => fnd C k) = some e := he
      rw [em] at h1
      exact h1
  unfold st1
  by_cases h40 : (kS (m1A W)).length ≤ 40
  · rw [if_pos h40]
    refine ⟨k1, fun w => ?_⟩
    obtain ⟨m1, m2, m3⟩ := hmid w
    show _ ∧ tD rm _ (tbV W (t1A W tk) (lvN W.1 1)).1 ∧ ∀ k e, fnd (tbV W (t1A W tk) (lvN W.1 1)).1 k = some e → _
    rw [eV]
    refine ⟨m1, ⟨m2, ⟨[], [t1A W tk], C, rfl, fun t ht => (by cases ht), fun t ht => by rw [List.mem_singleton.mp ht]; rfl, hC, by decide, Nat.le_refl _, hC1⟩, ?_, ?_⟩, m3⟩
    · show (lf tk :: pls C).Nodup
      refine List.nodup_cons.mpr ⟨fun z => hnew (hCs _ z), ?_⟩
      cases C with
      | nil => exact List.nodup_nil
      | cons x l =>
        cases l with
        | nil => exact List.nodup_cons.mpr ⟨List.not_mem_nil, List.nodup_nil⟩
        | cons y l => simp only [List.length_cons] at hC1; omega
    · intro t ht
      rcases List.mem_cons.mp ht with z | z
      · rw [z]
        exact hkn
      · exact hCn t z
  · rw [if_neg h40]
    refine st2_ok hr hb hK (by show tk.length + 1 < 11; omega) (fun p hp => List.mem_cons_of_mem _ (hsub p hp)) ?_ ?_ k1 (fun w => ?_)
    · rw [eV]
      have := lvN_app (l := 2) (b := []) (t1A W tk :: C) (fun t ht => by
        rcases List.mem_cons.mp ht with z | z
        · rw [z]
          exact (by decide : 1 ≤ 2)
        · rw [hC t z]
          exact Nat.le_refl _)
      rw [List.append_nil] at this
      exact this
    · show W.2.2 7 + 1 < 2 ^ 30
      exact h7
    · rw [eV]
      exact hmid w
theorem st0_ok {rm K : Nat} {s : dS} {V : vW} {l1 l2 : List lR} (hr : 0 < rm) (hb : K < 2 ^ 30 - 6000) (hK : bdK K V l2) (hne : 0 < (kS V.2.1).length) (hcs : cS rm K s)
    (hI : s.2.2.2.2.2 = false → (fD rm (cu rm s) V l1 l2 ∧ atL rm (cu rm s) (V.2.2 5) z12) ∧ mOK V.2.1) (hlv : lvOK V.1) (hpn : (pls V.1).Nodup) (hkn : ∀ t ∈ V.1, 0 < (kS t.2.2.2).length) : stR rm K V l1 l2 (st0 rm s V) := by
  have hlen := lvOK_len hlv
  have hpl : (pls V.1).length = V.1.length := by unfold pls; rw [List.length_map]
  have hnew : lf (pls V.1) ∉ pls V.1 := lf_new (by omega)
  obtain ⟨a, b, c, eV, ha, hbb, hc, ha3, hb1, hc1⟩ := hlv
  have h7 := hK.2.1
  obtain ⟨k1, k2⟩ := cS_tab (t := t0A V) (V := V) (l1 := l1) (l2 := l2) hr hb hcs (lf_lt _) (fun w => ⟨(hI w).1.1, hK, hnew, (by decide : 0 < 3), (by show V.2.2 7 < 2 ^ 30; omega), (hI w).2⟩)
  have hmid : (wr s (tabW rm (t0A V))).2.2.2.2.2 = false → (fD rm (cu rm (wr s (tabW rm (t0A V)))) V l1 l2 ∧ atL rm (cu rm (wr s (tabW rm (t0A V)))) (V.2.2 5) z12) ∧ (∀ t ∈ t0A V :: V.1, tE rm (cu rm (wr s (tabW rm (t0A V)))) t) ∧ ∀ k e, fnd (t0A V :: V.1) k = some e → ent V.2.1 V.1 k = some e := fun w => by
    obtain ⟨a1, a2, a3, a4⟩ := k2 w
    obtain ⟨⟨b1, b2⟩, b3⟩ := hI (wr_al w).1
    refine ⟨⟨a1, atL_z hr a4 b2⟩, fun t ht => ?_, fun k e he => he⟩
    rcases List.mem_cons.mp ht with z | z
    · rw [z]
      exact a2
    · exact a1.2.1.1 t z
  have eT : (tbV V (t0A V) 0).1 = t0A V :: V.1 := rfl
  have hlvn : lvN (tbV V (t0A V) 0).1 0 = 1 + a.length := by
    rw [eT, eV]
    have := lvN_app (l := 0) (b := b ++ c) (t0A V :: a) (fun t ht => by
      rcases List.mem_cons.mp ht with z | z
      · rw [z]
        exact Nat.le_refl _
      · rw [ha t z]
        exact Nat.le_refl _)
    have h0 : lvN (b ++ c) 0 = 0 := lvN_0 _ (fun t ht => by
      rcases List.mem_append.mp ht with z | z
      · rw [hbb t z]
        decide
      · rw [hc t z]
        decide)
    rw [h0] at this
    rw [show t0A V :: (a ++ (b ++ c)) = (t0A V :: a) ++ (b ++ c) from rfl, this, List.length_cons]
    omega
  have hnd : (pls (t0A V :: V.1)).Nodup := List.nodup_cons.mpr ⟨hnew, hpn⟩
  unfold st0
  by_cases h3 : lvN (tbV V (t0A V) 0).1 0 ≤ 3
  · rw [if_pos h3]
    refine ⟨k1, fun w => ?_⟩
    obtain ⟨m1, m2, m3⟩ := hmid w
    refine ⟨m1, ⟨m2, ⟨t0A V :: a, b, c, by rw [eT, eV]; rfl, fun t ht => ?_, hbb, hc, by rw [List.length_cons]; omega, hb1, hc1⟩, hnd, fun t ht => ?_⟩, m3⟩
    · rcases List.mem_cons.mp ht with z | z
      · rw [z]
        rfl
      · exact ha t z
    · rcases List.mem_cons.mp ht with z | z
      · rw [z]
        exact hne
      · exact hkn t z
  · rw [if_neg h3]
    refine st1_ok (A := t0A V :: (a ++ b)) (C := c) hr hb hK (by show (pls V.1).length + 1 < 10; omega) (fun p hp => List.mem_cons_of_mem _ hp) ?_ (fun t ht => ?_) hc hc1 (fun p hp => ?_) ⟨_, List.mem_cons_self, hne⟩ (fun t ht => hkn t (by rw [eV]; exact List.mem_append_right _ (List.mem_append_right _ ht))) ?_ k1 hmid
    · rw [eT, eV]
      show t0A V :: (a ++ (b ++ c)) = t0A V :: ((a ++ b) ++ c)
      rw [List.append_assoc]
    · rcases List.mem_cons.mp ht with z | z
      · rw [z]
        exact Nat.zero_le _
      · rcases List.mem_append.mp z with y | y
        · rw [ha t y]
          exact Nat.zero_le _
        · rw [hbb t y]
          exact Nat.le_refl _
    · obtain ⟨t, ht, rfl⟩ := List.mem_map.mp hp
      exact List.mem_cons_of_mem _ (List.mem_map.mpr ⟨t, by rw [eV]; exact List.mem_append_right _ (List.mem_append_right _ ht), rfl⟩)
    · show V.2.2 7 + 1 + 1 < 2 ^ 30
      omega
