/-! PART 99: passing the log, storing a batch -/
theorem lvRm {rm K : Nat} {s : dS} {V : vW} {l1 l2 : List lR} (h : lv rm K s V l1 l2) : V.2.2 5 + 12 ≤ V.2.2 4 + rm ∧ V.2.2 4 + lgZ (l1 ++ l2) = V.2.2 5 ∧ V.2.2 5 ≤ K ∧ V.2.2 1 ≤ K ∧ V.2.2 7 ≤ K := by
  obtain ⟨hf, he, hm, h5, h6, hz, hp, hk⟩ := h
  have q3 := hf.2.2.1.2.2.1
  have q6 := hf.2.2.1.2.2.2.2.2.1
  have k3 := hk.2.2
  rw [lgZ_app]
  exact ⟨by omega, by omega, by omega, hk.1, hk.2.1⟩
theorem lv_bnd {rm K : Nat} {s : dS} {V : vW} {l1 l2 : List lR} (h : lv rm K s V l1 l2) (hb : K < 2 ^ 30 - 6000) : bnd V := by
  obtain ⟨hf, he, hm, h5, h6, hz, hp, hk⟩ := id h
  have q3 := hf.2.2.1.2.2.1
  have q7 := hf.2.2.1.2.2.2.2.2.2
  have k1 := hk.1
  have k2 := hk.2.1
  have k3 := hk.2.2
  refine ⟨fun i i1 i2 => ?_, by omega⟩
  have : i = 1 ∨ i = 2 ∨ i = 3 ∨ i = 4 ∨ i = 5 ∨ i = 6 ∨ i = 7 := by omega
  rcases this with z | z | z | z | z | z | z <;> subst z <;> omega
/-- the pass ends within f rounds -/
def paE (rm : Nat) : Nat → Nat → Nat → dS → vW → List lR → Prop
  | 0, g, k, s, V, _ => k = 0 ∨ g ≤ V.2.2 4 ∨ s.2.2.2.2.2 = true
  | f + 1, g, k, s, V, lg => k = 0 ∨ g ≤ V.2.2 4 ∨ s.2.2.2.2.2 = true ∨ paE rm f g (cl rm 1000 lg s V).2.2 (cl rm 1000 lg s V).1 (cl rm 1000 lg s V).2.1 (clN rm 1000 lg s V)
theorem paE_dead {rm f g k : Nat} {s : dS} {V : vW} {lg : List lR} (h : s.2.2.2.2.2 = true) : paE rm f g k s V lg := by
  cases f with
  | zero => exact Or.inr (Or.inr h)
  | succ f => exact Or.inr (Or.inr (Or.inl h))
theorem lv_pas {rm K g : Nat} (hr : 512 ≤ rm ∧ rm ≤ 4096) (hb : K < 2 ^ 30 - 6000) : ∀ (f k : Nat) (s : dS) (V : vW) (l1 l2 : List lR), cS rm K s → (s.2.2.2.2.2 = false → lv rm K s V l1 l2 ∧ tkn [] l2 = l2 ∧ V.2.2 1 + 2 * f ≤ K ∧ V.2.2 7 + 3 * f ≤ K ∧ g + 2 * rm ≤ K ∧ V.2.2 5 ≤ g + 2 * rm) →
    cS rm K (pas rm f g k s V (l1 ++ l2)).1 ∧ (s.2.2.2.2.2 = false → paI rm f g k s V (l1 ++ l2) ∧ (g ≤ V.2.2 4 + 12 * f → paE rm f g k s V (l1 ++ l2))) ∧ ((pas rm f g k s V (l1 ++ l2)).1.2.2.2.2.2 = false → ∃ k1 k2, lv rm K (pas rm f g k s V (l1 ++ l2)).1 (pas rm f g k s V (l1 ++ l2)).2.1 k1 k2 ∧ tkn [] k2 = k2 ∧ (pas rm f g k s V (l1 ++ l2)).2.2 = k1 ++ k2 ∧ (pas rm f g k s V (l1 ++ l2)).2.1.2.2 1 ≤ V.2.2 1 + 2 * f ∧ (pas rm f g k s V (l1 ++ l2)).2.1.2.2 7 ≤ V.2.2 7 + 3 * f ∧ (pas rm f g k s V (l1 ++ l2)).2.1.2.2 5 ≤ g + 2 * rm) := by
  intro f
  induction f with
  | zero =>
    intro k s V l1 l2 hc hI
    refine ⟨hc, fun w => ⟨trivial, fun h => Or.inr (Or.inl (by omega))⟩, fun w => ?_⟩
    have w' : s.2.2.2.2.2 = false := w
    obtain ⟨a1, a2, a3, a4, a5, a6⟩ := hI w'
    exact ⟨l1, l2, a1, a2, rfl, Nat.le_refl _, Nat.le_refl _, a6⟩
  | succ f ih =>
    intro k s V l1 l2 hc hI
    have eP : pas rm (f + 1) g k s V (l1 ++ l2) = if k = 0 ∨ g ≤ V.2.2 4 then (s, V, l1 ++ l2) else pas rm f g (cl rm 1000 (l1 ++ l2) s V).2.2 (cl rm 1000 (l1 ++ l2) s V).1 (cl rm 1000 (l1 ++ l2) s V).2.1 (clN rm 1000 (l1 ++ l2) s V) := rfl
    have eI : paI rm (f + 1) g k s V (l1 ++ l2) = (k = 0 ∨ g ≤ V.2.2 4 ∨ s.2.2.2.2.2 = true ∨ (clI rm 1000 (l1 ++ l2) s V ∧ paI rm f g (cl rm 1000 (l1 ++ l2) s V).2.2 (cl rm 1000 (l1 ++ l2) s V).1 (cl rm 1000 (l1 ++ l2) s V).2.1 (clN rm 1000 (l1 ++ l2) s V))) := rfl
    have eE : paE rm (f + 1) g k s V (l1 ++ l2) = (k = 0 ∨ g ≤ V.2.2 4 ∨ s.2.2.2.2.2 = true ∨ paE rm f g (cl rm 1000 (l1 ++ l2) s V).2.2 (cl rm 1000 (l1 ++ l2) s V).1 (cl rm 1000 (l1 ++ l2) s V).2.1 (clN rm 1000 (l1 ++ l2) s V)) := rfl
    rw [eP, eI, eE]
    by_cases hs : k = 0 ∨ g ≤ V.2.2 4
    · rw [if_pos hs]
      refine ⟨hc, fun w => ⟨hs.elim Or.inl (fun z => Or.inr (Or.inl z)), fun _ => hs.elim Or.inl (fun z => Or.inr (Or.inl z))⟩, fun w => ?_⟩
      obtain ⟨a1, a2, a3, a4, a5, a6⟩ := hI w
      exact ⟨l1, l2, a1, a2, rfl, Nat.le_add_right _ _, Nat.le_add_right _ _, a6⟩
    · rw [if_neg hs]
      have hg : ¬ g ≤ V.2.2 4 := fun z => hs (Or.inr z)
      have hk : ¬ k = 0 := fun z => hs (Or.inl z)
      obtain ⟨c1, c2, c3⟩ := lv_cl (n := 1000) (l1 := l1) (l2 := l2) (V := V) hr hb hc (fun w => by
        obtain ⟨a1, a2, a3, a4, a5, a6⟩ := hI w
        obtain ⟨m1, m2, _⟩ := lvRm a1
        exact ⟨a1, a2, by omega, by omega, by omega⟩)
      cases hal : s.2.2.2.2.2 with
      | true =>
        have hd := (cl_dead (rm := rm) (n := 1000) (lg := l1 ++ l2) (V := V) hal).1
        have hpd : (pas rm f g (cl rm 1000 (l1 ++ l2) s V).2.2 (cl rm 1000 (l1 ++ l2) s V).1 (cl rm 1000 (l1 ++ l2) s V).2.1 (clN rm 1000 (l1 ++ l2) s V)).1 = s := by
          rw [pas_dead _ _ _ _ _ _ (by rw [hd]; exact hal), hd]
        rw [hpd]
        exact ⟨hc, fun w => (by cases w), fun w => by rw [hal] at w; cases w⟩
      | false =>
        obtain ⟨a1, a2, a3, a4, a5, a6⟩ := hI hal
        obtain ⟨m1, m2, m3⟩ := lvRm a1
        cases hal2 : (cl rm 1000 (l1 ++ l2) s V).1.2.2.2.2.2 with
        | true =>
          have hpd := pas_dead (rm := rm) f g (cl rm 1000 (l1 ++ l2) s V).2.2 (cl rm 1000 (l1 ++ l2) s V).1 (cl rm 1000 (l1 ++ l2) s V).2.1 (clN rm 1000 (l1 ++ l2) s V) hal2
          rw [hpd]
          refine ⟨c1, fun _ => ⟨Or.inr (Or.inr (Or.inr ⟨c2 hal, ?_⟩)), fun _ => Or.inr (Or.inr (Or.inr (paE_dead hal2)))⟩, fun w => by rw [hal2] at w; cases w⟩
          cases f with
          | zero => trivial
          | succ f => exact Or.inr (Or.inr (Or.inl hal2))
        | false =>
          obtain ⟨k1, k2, d1, d2, d3, d4, d5, d6, d7, d8⟩ := c3 hal2
          rw [d3]
          obtain ⟨i1, i2, i3⟩ := ih (cl rm 1000 (l1 ++ l2) s V).2.2 (cl rm 1000 (l1 ++ l2) s V).1 (cl rm 1000 (l1 ++ l2) s V).2.1 k1 k2 c1 (fun _ => ⟨d1, d2, by omega, by omega, a5, by omega⟩)
          refine ⟨i1, fun _ => ⟨Or.inr (Or.inr (Or.inr ⟨c2 hal, (i2 hal2).1⟩)), fun hg12 => Or.inr (Or.inr (Or.inr ?_))⟩, fun w => ?_⟩
          · by_cases hk0 : (cl rm 1000 (l1 ++ l2) s V).2.2 = 0
            · rw [hk0]
              cases f with
              | zero => exact Or.inl rfl
              | succ f => exact Or.inl rfl
            · exact (i2 hal2).2 (by omega)
          · obtain ⟨j1, j2, e1, e2, e3, e4, e5, e6⟩ := i3 w
            exact ⟨j1, j2, e1, e2, e3, by omega, by omega, e6⟩
theorem lv_ckM {rm K : Nat} {s : dS} {V : vW} {l1 l2 : List lR} {b : List bR} (hr : 512 ≤ rm) (hb : K < 2 ^ 30 - 6000) (hcs : cS rm K s) (hI : s.2.2.2.2.2 = false → lv rm K s V l1 l2 ∧ tkn [] l2 = l2 ∧ V.2.2 1 + 1 ≤ K ∧ V.2.2 7 + 3 ≤ K) :
    cS rm K (ckM rm s V b).1 ∧ ((ckM rm s V b).1.2.2.2.2.2 = false → ∃ k1 k2, lv rm K (ckM rm s V b).1 (ckM rm s V b).2 k1 k2 ∧ tkn [] k2 = k2 ∧ l1 ++ l2 = k1 ++ k2) ∧ (ckM rm s V b).2.2.2 1 ≤ V.2.2 1 + 1 ∧ (ckM rm s V b).2.2.2 7 ≤ V.2.2 7 + 3 ∧ (ckM rm s V b).2.2.2 4 = V.2.2 4 ∧ (ckM rm s V b).2.2.2 5 = V.2.2 5 := by
  unfold ckM
  by_cases h : wh V b ≤ 24
  · rw [if_pos h]
    exact ⟨hcs, fun w => ⟨l1, l2, (hI w).1, (hI w).2.1, rfl⟩, Nat.le_add_right _ _, Nat.le_add_right _ _, rfl, rfl⟩
  · rw [if_neg h]
    obtain ⟨a1, a2⟩ := lv_ck hr hb hcs (fun w => ⟨(hI w).1, (hI w).2.2⟩)
    obtain ⟨n1, n2, n3, n4, n7⟩ := ck_num (rm := rm) (s := s) (V := V)
    exact ⟨a1, fun w => ⟨l1 ++ l2, [], (a2 w).1, rfl, (List.append_nil _).symm⟩, by omega, n7, n4 4 (by omega), n4 5 (by omega)⟩
theorem szW_bZ (b : List bR) : szW b ≤ 2 * bZ b ∧ 12 * b.length ≤ bZ b := by
  induction b with
  | nil => exact ⟨Nat.le_refl _, Nat.le_refl _⟩
  | cons x l ih =>
    unfold szW bZ at ih ⊢
    rw [List.map_cons, List.sum_cons, List.map_cons, List.sum_cons, List.length_cons]
    omega
theorem lv_stJ {rm K : Nat} {s : dS} {V : vW} {l1 l2 : List lR} {b : List bR} (hr : rm ≤ 4096) (hb : K < 2 ^ 30 - 6000) (h : lv rm K s V l1 l2) (hroom : V.2.2 5 + (bZ b + 176) + 12 ≤ V.2.2 4 + rm) : stJ b (s, V) := fun _ => by
  obtain ⟨h1, h2⟩ := szW_bZ b
  exact ⟨lv_bnd h hb, cp_room hr h.2.2.2.2.2.2.1 (z := bZ b) (by omega) (by omega) (by omega)⟩
/-- a batch is stored -/
theorem lv_sto {rm K : Nat} {s : dS} {V : vW} {l1 l2 : List lR} {b : List bR} (hr : 512 ≤ rm ∧ rm ≤ 4096) (hb : K + 10000 < 2 ^ 30 - 6000) (hcs : cS rm K s) (hal : s.2.2.2.2.2 = false) (hI : lv rm K s V l1 l2) (htk : tkn [] l2 = l2) (hb8 : b.length ≤ 8) (hbo : ∀ x ∈ b, bOK x) :
    ((∀ x ∈ b, x.1 = 2 → x.2.2.length = 0) → cS rm (K + 10000) (sto rm b s V (l1 ++ l2)).1) ∧ stI rm b s V (l1 ++ l2) ∧ (¬ (ckM rm s V b).2.2.2 5 + (bZ b + 176) + 12 ≤ (ckM rm s V b).2.2.2 4 + rm → paE rm 1000 ((ckM rm s V b).2.2.2 5) 1 (ckM rm s V b).1 (ckM rm s V b).2 (l1 ++ l2)) ∧ ((∀ x ∈ b, x.1 = 2 → x.2.2.length = 0) → (sto rm b s V (l1 ++ l2)).1.2.2.2.2.2 = false → ∃ k1 k2, lv rm (K + 10000) (sto rm b s V (l1 ++ l2)).1 (sto rm b s V (l1 ++ l2)).2.1 k1 k2 ∧ tkn [] k2 = k2 ∧ stLg rm b (ckM rm s V b) (l1 ++ l2) = k1 ++ k2) := by
  have hbz : bZ b ≤ 608 := by
    have := bZ_le (b := b) (fun x hx => (hbo x hx).2.2.2.1)
    omega
  obtain ⟨r1, r2, r3, r4, r5⟩ := lvRm hI
  obtain ⟨m1, m2, m3, m4, m5, m6⟩ := lv_ckM (b := b) hr.1 hb (cS_K hcs (Nat.le_add_right _ 10000)) (fun _ => ⟨lv_K hI (Nat.le_add_right _ 10000), htk, by omega, by omega⟩)
  have hckI := lv_ckI hI
  have hbnd := lv_bnd hI (by omega)
  unfold sto stO stI stLg
  generalize hq : ckM rm s V b = q at *
  obtain ⟨s1, V1⟩ := q
  have m1' : cS rm (K + 10000) s1 := m1
  have m2' : s1.2.2.2.2.2 = false → ∃ k1 k2, lv rm (K + 10000) s1 V1 k1 k2 ∧ tkn [] k2 = k2 ∧ l1 ++ l2 = k1 ++ k2 := m2
  have m3' : V1.2.2 1 ≤ V.2.2 1 + 1 := m3
  have m4' : V1.2.2 7 ≤ V.2.2 7 + 3 := m4
  have m5' : V1.2.2 4 = V.2.2 4 := m5
  have m6' : V1.2.2 5 = V.2.2 5 := m6
  simp only
  by_cases hroom : V1.2.2 5 + (bZ b + 176) + 12 ≤ V1.2.2 4 + rm
  · simp only [if_pos hroom]
    have haa : (∀ x ∈ b, x.1 = 2 → x.2.2.length = 0) → ∀ k1 k2, (s1.2.2.2.2.2 = false → lv rm (K + 10000) s1 V1 k1 k2) → cS rm (K + 10000) (aaS rm b s1 V1) ∧ ((aaS rm b s1 V1).2.2.2.2.2 = false → lv rm (K + 10000) (aaS rm b s1 V1) (aaV b V1) k1 (k2 ++ aaL b)) := fun h2 k1 k2 h => lv_aa hr.1 hb b s1 V1 k1 k2 (fun x hx => ⟨hbo x hx, h2 x hx⟩) m1' (fun w => ⟨h w, by omega, by omega⟩)
    cases hs1 : s1.2.2.2.2.2 with
    | true =>
      have hd : (stA rm b (s1, V1)).1 = s1 := stA_dead (q := (s1, V1)) hs1
      refine ⟨fun _ => by rw [hd]; exact m1', ⟨hckI, hbnd, fun w => (by cases w)⟩, fun z => absurd hroom z, fun _ w => ?_⟩
      rw [hd, hs1] at w
      cases w
    | false =>
      obtain ⟨k1, k2, d1, d2, d3⟩ := m2' hs1
      have haa2 := fun h2 => haa h2 k1 k2 (fun _ => d1)
      refine ⟨fun h2 => (haa2 h2).1, ⟨hckI, hbnd, fun _ => ⟨lv_bnd d1 hb, fun _ => lv_stJ hr.2 hb d1 hroom, fun z => absurd hroom z⟩⟩, fun z => absurd hroom z, fun h2 w => ⟨k1, k2 ++ aaL b, (haa2 h2).2 w, tkn_aa d2, ?_⟩⟩
      rw [d3, List.append_assoc]
  · simp only [if_neg hroom]
    unfold stP
    simp only
    cases hs1 : s1.2.2.2.2.2 with
    | true =>
      have hpd := pas_dead (rm := rm) 1000 (V1.2.2 5) 1 s1 V1 (l1 ++ l2) hs1
      have hd : (stQ rm b (pas rm 1000 (V1.2.2 5) 1 s1 V1 (l1 ++ l2))).1 = s1 := by
        rw [stQ_dead (by rw [hpd]; exact hs1), hpd]
      refine ⟨fun _ => by rw [hd]; exact m1', ⟨hckI, hbnd, fun w => (by cases w)⟩, fun _ => paE_dead hs1, fun _ w => ?_⟩
      rw [hd, hs1] at w
      cases w
    | false =>
      obtain ⟨k1, k2, d1, d2, d3⟩ := m2' hs1
      obtain ⟨v1, v2, v3, v4, v5⟩ := lvRm d1
      rw [d3]
      obtain ⟨p1, p2, p3⟩ := lv_pas (g := V1.2.2 5) hr hb 1000 1 s1 V1 k1 k2 m1' (fun _ => ⟨d1, d2, by omega, by omega, by omega, by omega⟩)
      obtain ⟨p4, p5⟩ := p2 hs1
      generalize hqq : pas rm 1000 (V1.2.2 5) 1 s1 V1 (k1 ++ k2) = qq at *
      obtain ⟨s2, V2, lg2⟩ := qq
      have p1' : cS rm (K + 10000) s2 := p1
      have p3' : s2.2.2.2.2.2 = false → ∃ j1 j2, lv rm (K + 10000) s2 V2 j1 j2 ∧ tkn [] j2 = j2 ∧ lg2 = j1 ++ j2 ∧ V2.2.2 1 ≤ V1.2.2 1 + 2 * 1000 ∧ V2.2.2 7 ≤ V1.2.2 7 + 3 * 1000 ∧ V2.2.2 5 ≤ V1.2.2 5 + 2 * rm := p3
      simp only
      have hM := fun (w : s2.2.2.2.2.2 = false) => p3' w
      cases hs2 : s2.2.2.2.2.2 with
      | true =>
        have hd : (stQ rm b (s2, V2, lg2)).1 = s2 := stQ_dead (q := (s2, V2, lg2)) hs2
        refine ⟨fun _ => by rw [hd]; exact p1', ⟨hckI, hbnd, fun _ => ⟨lv_bnd d1 hb, fun z => absurd z hroom, fun _ => ⟨p4, fun w => (by cases w)⟩⟩⟩, fun _ => p5 (by omega), fun _ w => ?_⟩
        rw [hd, hs2] at w
        cases w
      | false =>
        obtain ⟨j1, j2, f1, f2, f3, f4, f5, f6⟩ := p3' hs2
        obtain ⟨n1, n2, n3, n4, n5, n6⟩ := lv_ckM (b := b) hr.1 hb p1' (fun _ => ⟨f1, f2, by omega, by omega⟩)
        unfold stQ
        simp only
        by_cases hr2 : V2.2.2 5 + (bZ b + 176) + 12 ≤ V2.2.2 4 + rm
        · simp only [if_pos hr2]
          generalize hq3 : ckM rm s2 V2 b = q3 at *
          obtain ⟨s3, V3⟩ := q3
          have n1' : cS rm (K + 10000) s3 := n1
          have n2' : s3.2.2.2.2.2 = false → ∃ k1 k2, lv rm (K + 10000) s3 V3 k1 k2 ∧ tkn [] k2 = k2 ∧ j1 ++ j2 = k1 ++ k2 := n2
          have n5' : V3.2.2 4 = V2.2.2 4 := n5
          have n6' : V3.2.2 5 = V2.2.2 5 := n6
          have hst : stJ b (s3, V3) := fun w => by
            obtain ⟨i1, i2, g1, g2, g3⟩ := n2' w
            exact lv_stJ hr.2 hb g1 (by omega) w
          cases hs3 : s3.2.2.2.2.2 with
          | true =>
            have hd : (stA rm b (s3, V3)).1 = s3 := stA_dead (q := (s3, V3)) hs3
            refine ⟨fun _ => by rw [hd]; exact n1', ⟨hckI, hbnd, fun _ => ⟨lv_bnd d1 hb, fun z => absurd z hroom, fun _ => ⟨p4, fun _ => ⟨lv_bnd f1 hb, lv_ckI f1, fun _ => hst⟩⟩⟩⟩, fun _ => p5 (by omega), fun _ w => ?_⟩
            rw [hd, hs3] at w
            cases w
          | false =>
            obtain ⟨i1, i2, g1, g2, g3⟩ := n2' hs3
            have haa2 := fun h2 : (∀ x ∈ b, x.1 = 2 → x.2.2.length = 0) => lv_aa hr.1 hb b s3 V3 i1 i2 (fun x hx => ⟨hbo x hx, h2 x hx⟩) n1' (fun w => ⟨g1, by omega, by omega⟩)
            refine ⟨fun h2 => (haa2 h2).1, ⟨hckI, hbnd, fun _ => ⟨lv_bnd d1 hb, fun z => absurd z hroom, fun _ => ⟨p4, fun _ => ⟨lv_bnd f1 hb, lv_ckI f1, fun _ => hst⟩⟩⟩⟩, fun _ => p5 (by omega), fun h2 w => ⟨i1, i2 ++ aaL b, (haa2 h2).2 w, tkn_aa g2, ?_⟩⟩
            rw [f3, g3, List.append_assoc]
        · simp only [if_neg hr2]
          exact ⟨fun _ => p1', ⟨hckI, hbnd, fun _ => ⟨lv_bnd d1 hb, fun z => absurd z hroom, fun _ => ⟨p4, fun _ => ⟨lv_bnd f1 hb, lv_ckI f1, fun z => absurd z hr2⟩⟩⟩⟩, fun _ => p5 (by omega), fun _ _ => ⟨j1, j2, f1, f2, f3⟩⟩
