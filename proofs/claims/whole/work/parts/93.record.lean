/-! PART 93: a record behind the log, and a batch of them -/
theorem rcB_by {r : lR} (h : rcOK r) (n : Nat) : by8 (hdB (r.1 + r.2.1) r.2.2.1 r.2.2.2.length n) := hdB_by (by have := h.2.1; have := h.2.2.1; omega) (by have := h.2.2.2.1; omega) (by have := h.2.2.2.2.1; omega)
/-- the cells behind the three writes of a record -/
def rc3 (rm : Nat) (c : Nat → Int32) (r : lR) (h n : Nat) : Nat → Int32 :=
  ap rm (if r.2.2.2.length = 0 then ap rm c (wL ((h + 12 + r.2.2.2.length) % rm) z12) else ap rm (ap rm c (wL ((h + 12 + r.2.2.2.length) % rm) z12)) (wL ((h + 12) % rm) r.2.2.2)) (wL (h % rm) (hdB (r.1 + r.2.1) r.2.2.1 r.2.2.2.length n))
theorem fD_rec {rm : Nat} {c : Nat → Int32} {V : vW} {l1 l2 : List lR} {r : lR} (hr : 512 ≤ rm) (hI : fD rm c V l1 l2) (hro : rcOK r) (hrm : V.2.2 2 + lgZ l2 + rcZ r + 12 ≤ V.2.2 4 + rm) (heD : eD V l1 (tkn [] (l2 ++ [r]))) {c2 : Nat → Int32} (h2 : fD rm c2 V l1 l2) (hz : atL rm c2 (V.2.2 2 + lgZ l2 + rcZ r) z12) (hv : atL rm c2 (V.2.2 2 + lgZ l2 + 12) r.2.2.2) :
    fD rm (ap rm c2 (wL ((V.2.2 2 + lgZ l2) % rm) (hdB (r.1 + r.2.1) r.2.2.1 r.2.2.2.length (V.2.2 3 + l2.length)))) V l1 (l2 ++ [r]) ∧ atL rm (ap rm c2 (wL ((V.2.2 2 + lgZ l2) % rm) (hdB (r.1 + r.2.1) r.2.2.1 r.2.2.2.length (V.2.2 3 + l2.length)))) (V.2.2 2 + lgZ l2 + rcZ r) z12 := by
  have hr0 : 0 < rm := by omega
  have hZ : rcZ r = 12 + r.2.2.2.length := rfl
  have hlen : (hdB (r.1 + r.2.1) r.2.2.1 r.2.2.2.length (V.2.2 3 + l2.length)).length = 12 := rfl
  have hb := rcB_by hro (V.2.2 3 + l2.length)
  obtain ⟨g1, g2, ⟨q1, q2, q3, q4, q5, q6, q7⟩, g4⟩ := h2
  have hz12 : z12.length = 12 := rfl
  have zz : atL rm (ap rm c2 (wL ((V.2.2 2 + lgZ l2) % rm) (hdB (r.1 + r.2.1) r.2.2.1 r.2.2.2.length (V.2.2 3 + l2.length)))) (V.2.2 2 + lgZ l2 + rcZ r) z12 := atL_far (m := 12) hr0 hz (a := V.2.2 4) (by omega) (by omega) (by omega) (by omega) (by omega)
  have lZ : lgZ (l2 ++ [r]) = lgZ l2 + rcZ r := by
    rw [lgZ_app]
    rfl
  have lL : (l2 ++ [r]).length = l2.length + 1 := by rw [List.length_append]; rfl
  refine ⟨⟨rtI_ext (fun k _ j _ => lg_hi hr0 (by have := slC_ge rm k; omega)) g1, tD_ext (fun t _ j _ => lg_hi hr0 (by omega)) g2, ⟨?_, ?_, q3, q4, ?_, ?_, ?_⟩, heD⟩, zz⟩
  · intro x hx
    rw [← List.append_assoc] at hx
    rcases List.mem_append.mp hx with z | z
    · exact q1 x z
    · rw [List.mem_singleton.mp z]
      exact hro
  · rw [← List.append_assoc, lgB_app, atL_app]
    refine ⟨atL_far (m := 12) hr0 q2 (a := V.2.2 4) (Nat.le_refl _) ?_ (by omega) (by omega) ?_, ?_⟩
    · rw [lgB_len, lgZ_app]
      omega
    · rw [lgB_len, lgZ_app]
      omega
    · rw [lgB_len, lgZ_app, show V.2.2 3 - l1.length + (l1 ++ l2).length = V.2.2 3 + l2.length by rw [List.length_append]; omega, show V.2.2 4 + (lgZ l1 + lgZ l2) = V.2.2 2 + lgZ l2 by omega]
      show atL rm _ _ (rcB r (V.2.2 3 + l2.length) ++ [])
      rw [List.append_nil]
      unfold rcB
      rw [atL_app]
      refine ⟨atL_wr hr0 hb (by omega), ?_⟩
      exact atL_far (m := 12) hr0 hv (a := V.2.2 4) (by omega) (by omega) (by omega) (by omega) (by omega)
  · rw [lZ, lL, show V.2.2 2 + (lgZ l2 + rcZ r) + 8 = V.2.2 2 + lgZ l2 + rcZ r + 8 by omega, qL_z zz]
    omega
  · rw [lZ]
    omega
  · rw [lZ, lL]
    omega
theorem eD_tkn {V : vW} {l1 l2 : List lR} {r : lR} (h1 : eD V l1 (tkn [] l2)) (h2 : eD V l1 (l2 ++ [r])) : eD V l1 (tkn [] (l2 ++ [r])) := by
  rw [tkn_snoc]
  split
  · exact h2
  · exact h1
theorem pD_3 {rm : Nat} {s : dS} {V : vW} {kd key k : Nat} {val : List Nat} (h : pD s V) (hal : (apS rm s k key val (V.2.2 5) (V.2.2 6)).2.2.2.2.2 = false) : pD (apS rm s k key val (V.2.2 5) (V.2.2 6)) (apV V kd key val.length) := by
  obtain ⟨h0, g1, g2, g3, g4⟩ := h
  have e4 : (apV V kd key val.length).2.2 4 = V.2.2 4 := rfl
  have e5 : (apV V kd key val.length).2.2 5 = V.2.2 5 + 12 + val.length := rfl
  unfold apS at hal ⊢
  obtain ⟨a1, b1⟩ := wr_al hal
  unfold pD
  rw [b1]
  have hz12 : (wL ((V.2.2 5 + 12 + val.length) % rm) z12).2.1 = 12 := rfl
  have hhd : ∀ n, (wL (V.2.2 5 % rm) (hdB k key val.length n)).2.1 = 12 := fun _ => rfl
  have hvl : (wL ((V.2.2 5 + 12) % rm) val).2.1 = val.length := rfl
  by_cases hv : val.length = 0
  · rw [if_pos hv] at a1 ⊢
    obtain ⟨a2, b2⟩ := wr_al a1
    rw [b2]
    refine ⟨h0, by omega, by omega, ?_, ?_⟩
    · simp only [List.length_append, List.length_cons, List.length_nil]
      omega
    · rw [tot_app, tot_app, hz12, hhd]
      omega
  · rw [if_neg hv] at a1 ⊢
    obtain ⟨a2, b2⟩ := wr_al a1
    obtain ⟨a3, b3⟩ := wr_al a2
    rw [b2, b3]
    refine ⟨h0, by omega, by omega, ?_, ?_⟩
    · simp only [List.length_append, List.length_cons, List.length_nil]
      omega
    · rw [tot_app, tot_app, tot_app, hz12, hhd, hvl]
      omega
/-- a record is appended to a live store -/
theorem lv_app {rm K : Nat} {s : dS} {V : vW} {l1 l2 : List lR} {r : lR} (hr : 512 ≤ rm) (hal : s.2.2.2.2.2 = false) (hcs : cS rm K s) (hI : lv rm K s V l1 l2) (hro : rcOK r) (hrm : V.2.2 5 + rcZ r + 12 ≤ V.2.2 4 + rm) (hK : V.2.2 5 + rcZ r ≤ K) (hb : K < 2 ^ 30 - 6000) :
    cS rm K (apS rm s (r.1 + r.2.1) r.2.2.1 r.2.2.2 (V.2.2 5) (V.2.2 6)) ∧ ((apS rm s (r.1 + r.2.1) r.2.2.1 r.2.2.2 (V.2.2 5) (V.2.2 6)).2.2.2.2.2 = false → lv rm K (apS rm s (r.1 + r.2.1) r.2.2.1 r.2.2.2 (V.2.2 5) (V.2.2 6)) (apV V r.1 r.2.2.1 r.2.2.2.length) l1 (l2 ++ [r])) := by
  have hr0 : 0 < rm := by omega
  obtain ⟨hf, he, hm, h5, h6, hz, hp, hk⟩ := id hI
  have hZ : rcZ r = 12 + r.2.2.2.length := rfl
  have hlz : lgZ l1 + V.2.2 4 = V.2.2 2 := by have := hf.2.2.1.2.2.1; omega
  have hn1 : l1.length < V.2.2 3 := hf.2.2.1.2.2.2.1
  have hz12 : z12.length = 12 := rfl
  have lZ : lgZ (l2 ++ [r]) = lgZ l2 + rcZ r := by
    rw [lgZ_app]
    rfl
  have lL : (l2 ++ [r]).length = l2.length + 1 := by rw [List.length_append]; rfl
  have hk' : bdK K V (l2 ++ [r]) := ⟨hk.1, hk.2.1, by rw [lZ]; omega⟩
  have heS : eD V l1 (l2 ++ [r]) := eD_snoc (by omega) hn1 he
  have heT : eD V l1 (tkn [] (l2 ++ [r])) := eD_tkn hf.2.2.2 heS
  rw [h5] at hz
  have hp' := pD_3 (rm := rm) (kd := r.1) (key := r.2.2.1) (k := r.1 + r.2.1) (val := r.2.2.2) hp
  rw [h5, h6] at hp' ⊢
  rw [h5] at hrm
  have hlenh : (hdB (r.1 + r.2.1) r.2.2.1 r.2.2.2.length (V.2.2 3 + l2.length)).length = 12 := rfl
  -- the first write
  have f1 : ∀ m, m ≤ 12 → fD rm (ap rm (cu rm s) ((V.2.2 2 + lgZ l2 + 12 + r.2.2.2.length) % rm, m, lB z12)) V l1 l2 := fun m hm => fD_far hr0 hf (by omega) (by omega)
  have c1 : cS rm K (wr s (wL ((V.2.2 2 + lgZ l2 + 12 + r.2.2.2.length) % rm) z12)) := cS_wr hcs (fun _ m hm => opn_of (f1 m hm) hk hb)
  have z1 : ∀ m, m ≤ 12 → atL rm (ap rm (cu rm s) ((V.2.2 2 + lgZ l2 + 12 + r.2.2.2.length) % rm, m, lB z12)) (V.2.2 2 + lgZ l2) z12 := fun m hm => atL_far hr0 hz (a := V.2.2 4) (by omega) (by omega) (by omega) (by omega) (by omega)
  have z1' : atL rm (ap rm (cu rm s) (wL ((V.2.2 2 + lgZ l2 + 12 + r.2.2.2.length) % rm) z12)) (V.2.2 2 + lgZ l2 + rcZ r) z12 := by
    rw [hZ, ← Nat.add_assoc]
    exact atL_wr hr0 z12_by (by omega)
  have hcu1 : cu rm (wr s (wL ((V.2.2 2 + lgZ l2 + 12 + r.2.2.2.length) % rm) z12)) = ap rm (cu rm s) (wL ((V.2.2 2 + lgZ l2 + 12 + r.2.2.2.length) % rm) z12) := cu_wr hal
  -- the header, given the state before it
  have key : ∀ s2 : dS, cS rm K s2 → (s2.2.2.2.2.2 = false → fD rm (cu rm s2) V l1 l2 ∧ atL rm (cu rm s2) (V.2.2 2 + lgZ l2) z12 ∧ atL rm (cu rm s2) (V.2.2 2 + lgZ l2 + rcZ r) z12 ∧ atL rm (cu rm s2) (V.2.2 2 + lgZ l2 + 12) r.2.2.2) →
      cS rm K (wr s2 (wL ((V.2.2 2 + lgZ l2) % rm) (hdB (r.1 + r.2.1) r.2.2.1 r.2.2.2.length (V.2.2 3 + l2.length)))) ∧ ((wr s2 (wL ((V.2.2 2 + lgZ l2) % rm) (hdB (r.1 + r.2.1) r.2.2.1 r.2.2.2.length (V.2.2 3 + l2.length)))).2.2.2.2.2 = false → fD rm (cu rm (wr s2 (wL ((V.2.2 2 + lgZ l2) % rm) (hdB (r.1 + r.2.1) r.2.2.1 r.2.2.2.length (V.2.2 3 + l2.length))))) V l1 (l2 ++ [r]) ∧ atL rm (cu rm (wr s2 (wL ((V.2.2 2 + lgZ l2) % rm) (hdB (r.1 + r.2.1) r.2.2.1 r.2.2.2.length (V.2.2 3 + l2.length))))) (V.2.2 2 + lgZ l2 + rcZ r) z12) := by
    intro s2 hc2 hs2
    have hfull : s2.2.2.2.2.2 = false → fD rm (ap rm (cu rm s2) (wL ((V.2.2 2 + lgZ l2) % rm) (hdB (r.1 + r.2.1) r.2.2.1 r.2.2.2.length (V.2.2 3 + l2.length)))) V l1 (l2 ++ [r]) ∧ atL rm (ap rm (cu rm s2) (wL ((V.2.2 2 + lgZ l2) % rm) (hdB (r.1 + r.2.1) r.2.2.1 r.2.2.2.length (V.2.2 3 + l2.length)))) (V.2.2 2 + lgZ l2 + rcZ r) z12 := fun w => by
      obtain ⟨a1, a2, a3, a4⟩ := hs2 w
      exact fD_rec hr a1 hro (by omega) heT a1 a3 a4
    refine ⟨cS_wr hc2 (fun w m hm => ?_), fun w => ?_⟩
    · obtain ⟨a1, a2, a3, a4⟩ := hs2 w
      have hm12 : m ≤ 12 := hm
      by_cases hq : qL rm (ap rm (cu rm s2) ((V.2.2 2 + lgZ l2) % rm, m, lB (hdB (r.1 + r.2.1) r.2.2.1 r.2.2.2.length (V.2.2 3 + l2.length)))) (V.2.2 2 + lgZ l2 + 8) = V.2.2 3 + l2.length
      · exact opn_same (hd_cut hr (rcB_by hro _) a2 (by omega) hm12 hq) (opn_of (hfull w).1 hk' hb)
      · have q6 := a1.2.2.1.2.2.2.2.2.1
        exact opn_of (fD_log (fun j hj => lg_hi hr0 hj) (fun p p1 p2 => lg_out hr0 (a := V.2.2 4) p1 (by omega) (by omega) (by omega) (by omega)) hq a1) hk hb
    · have w2 := (wr_al w).1
      rw [cu_wr w2]
      exact hfull w2
  have fin : ∀ s2 : dS, cS rm K s2 → (s2.2.2.2.2.2 = false → fD rm (cu rm s2) V l1 l2 ∧ atL rm (cu rm s2) (V.2.2 2 + lgZ l2) z12 ∧ atL rm (cu rm s2) (V.2.2 2 + lgZ l2 + rcZ r) z12 ∧ atL rm (cu rm s2) (V.2.2 2 + lgZ l2 + 12) r.2.2.2) →
      apS rm s (r.1 + r.2.1) r.2.2.1 r.2.2.2 (V.2.2 2 + lgZ l2) (V.2.2 3 + l2.length) = wr s2 (wL ((V.2.2 2 + lgZ l2) % rm) (hdB (r.1 + r.2.1) r.2.2.1 r.2.2.2.length (V.2.2 3 + l2.length))) →
      cS rm K (apS rm s (r.1 + r.2.1) r.2.2.1 r.2.2.2 (V.2.2 2 + lgZ l2) (V.2.2 3 + l2.length)) ∧ ((apS rm s (r.1 + r.2.1) r.2.2.1 r.2.2.2 (V.2.2 2 + lgZ l2) (V.2.2 3 + l2.length)).2.2.2.2.2 = false → lv rm K (apS rm s (r.1 + r.2.1) r.2.2.1 r.2.2.2 (V.2.2 2 + lgZ l2) (V.2.2 3 + l2.length)) (apV V r.1 r.2.2.1 r.2.2.2.length) l1 (l2 ++ [r])) := by
    intro s2 hc2 hs2 e
    obtain ⟨k1, k2⟩ := key s2 hc2 hs2
    refine ⟨by rw [e]; exact k1, fun w => ?_⟩
    have w' := w
    rw [e] at w'
    obtain ⟨k3, k4⟩ := k2 w'
    have hpw := hp' w
    refine ⟨?_, ?_, ?_, ?_, ?_, ?_, hpw, ?_⟩
    · rw [e]
      refine fD_num (V := V) rfl (fun i hi => ?_) ⟨?_, ?_⟩ k3
      · show vs (vs V.2.2 5 _) 6 _ i = _
        rw [vs_n (by omega), vs_n (by omega)]
      · show V.2.2 5 + 12 + r.2.2.2.length < _
        omega
      · show V.2.2 6 + 1 < _
        have := hf.2.2.1.2.2.2.2.2.2
        have := hk.2.2
        omega
    · exact heS
    · show upM V.2.1 r.2.2.1 (r.1, V.2.2 6, V.2.2 5) = rpM (V.2.2 2) (V.2.2 3) m0 (l2 ++ [r])
      rw [rpM_app, hm, h5, h6]
      rfl
    · show V.2.2 5 + 12 + r.2.2.2.length = V.2.2 2 + lgZ (l2 ++ [r])
      rw [lZ]
      omega
    · show V.2.2 6 + 1 = V.2.2 3 + (l2 ++ [r]).length
      rw [lL]
      omega
    · show atL rm _ (V.2.2 5 + 12 + r.2.2.2.length) z12
      rw [e, h5, Nat.add_assoc (V.2.2 2 + lgZ l2)]
      exact k4
    · exact hk'
  by_cases hv : r.2.2.2.length = 0
  · refine fin (wr s (wL ((V.2.2 2 + lgZ l2 + 12 + r.2.2.2.length) % rm) z12)) c1 (fun w => ?_) (by unfold apS; rw [if_pos hv])
    rw [hcu1]
    exact ⟨f1 12 (Nat.le_refl _), z1 12 (Nat.le_refl _), z1', fun i hi => absurd hi (by omega)⟩
  · have f2 : ∀ m, m ≤ r.2.2.2.length → fD rm (ap rm (ap rm (cu rm s) (wL ((V.2.2 2 + lgZ l2 + 12 + r.2.2.2.length) % rm) z12)) ((V.2.2 2 + lgZ l2 + 12) % rm, m, lB r.2.2.2)) V l1 l2 := fun m hm => fD_far hr0 (f1 12 (Nat.le_refl _)) (by omega) (by omega)
    have c2 : cS rm K (wr (wr s (wL ((V.2.2 2 + lgZ l2 + 12 + r.2.2.2.length) % rm) z12)) (wL ((V.2.2 2 + lgZ l2 + 12) % rm) r.2.2.2)) := cS_wr c1 (fun w m hm => by rw [hcu1]; exact opn_of (f2 m hm) hk hb)
    refine fin (wr (wr s (wL ((V.2.2 2 + lgZ l2 + 12 + r.2.2.2.length) % rm) z12)) (wL ((V.2.2 2 + lgZ l2 + 12) % rm) r.2.2.2)) c2 (fun w => ?_) (by unfold apS; rw [if_neg hv])
    rw [cu_wr (wr_al w).1, hcu1]
    exact ⟨f2 _ (Nat.le_refl _), atL_far hr0 (z1 12 (Nat.le_refl _)) (a := V.2.2 4) (by omega) (by omega) (by omega) (by omega) (by omega), atL_far hr0 z1' (a := V.2.2 4) (by omega) (by omega) (by omega) (by omega) (by omega), atL_wr hr0 hro.2.2.2.2.2.1 (by have := hro.2.2.2.2.1; omega)⟩
/-- a batch as the log holds it -/
theorem aaL_ok : ∀ (b : List bR), (∀ x ∈ b, bOK x ∧ (x.1 = 2 → x.2.2.length = 0)) → ∀ r ∈ aaL b, rcOK r
  | [], _, r, hr => by cases hr
  | x :: l, h, r, hr => by
    rcases List.mem_cons.mp hr with z | z
    · subst z
      obtain ⟨⟨h1, h2, h3, h4, h5⟩, h6⟩ := h x List.mem_cons_self
      refine ⟨h1, h2, ?_, h3, h4, h5, h6⟩
      show gO l = 0 ∨ gO l = 128
      unfold gO
      split
      · exact Or.inl rfl
      · exact Or.inr rfl
    · exact aaL_ok l (fun y hy => h y (List.mem_cons_of_mem _ hy)) r z
theorem aaL_Z : ∀ (b : List bR), lgZ (aaL b) = bZ b
  | [] => rfl
  | x :: l => by
    show rcZ (x.1, gO l, x.2.1, x.2.2) + lgZ (aaL l) = bZ (x :: l)
    rw [aaL_Z l]
    unfold bZ
    rw [List.map_cons, List.sum_cons]
    rfl
theorem lv_aa {rm K : Nat} (hr : 512 ≤ rm) (hb : K < 2 ^ 30 - 6000) : ∀ (b : List bR) (s : dS) (V : vW) (l1 l2 : List lR), (∀ x ∈ b, bOK x ∧ (x.1 = 2 → x.2.2.length = 0)) → cS rm K s → (s.2.2.2.2.2 = false → lv rm K s V l1 l2 ∧ V.2.2 5 + bZ b + 12 ≤ V.2.2 4 + rm ∧ V.2.2 5 + bZ b ≤ K) → cS rm K (aaS rm b s V) ∧ ((aaS rm b s V).2.2.2.2.2 = false → lv rm K (aaS rm b s V) (aaV b V) l1 (l2 ++ aaL b)) := by
  intro b
  induction b with
  | nil =>
    intro s V l1 l2 _ hc h
    have e1 : aaS rm [] s V = s := rfl
    have e2 : aaV [] V = V := rfl
    have e3 : l2 ++ aaL [] = l2 := List.append_nil l2
    rw [e1, e2, e3]
    exact ⟨hc, fun w => (h w).1⟩
  | cons x l ih =>
    intro s V l1 l2 hx hc h
    have hx1 := hx x List.mem_cons_self
    have hro : rcOK (x.1, gO l, x.2.1, x.2.2) := aaL_ok (x :: l) hx _ List.mem_cons_self
    have hbz : bZ (x :: l) = 12 + x.2.2.length + bZ l := by
      unfold bZ
      rw [List.map_cons, List.sum_cons]
    cases hal : s.2.2.2.2.2 with
    | true =>
      have e : aaS rm (x :: l) s V = s := aaS_dead _ _ _ hal
      rw [e]
      exact ⟨hc, fun w => by rw [hal] at w; cases w⟩
    | false =>
      obtain ⟨g1, g2, g3⟩ := h hal
      have hz : rcZ (x.1, gO l, x.2.1, x.2.2) = 12 + x.2.2.length := rfl
      obtain ⟨k1, k2⟩ := lv_app (r := (x.1, gO l, x.2.1, x.2.2)) hr hal hc g1 hro (by omega) (by omega) hb
      have := ih (apS rm s (x.1 + gO l) x.2.1 x.2.2 (V.2.2 5) (V.2.2 6)) (apV V x.1 x.2.1 x.2.2.length) l1 (l2 ++ [(x.1, gO l, x.2.1, x.2.2)]) (fun y hy => hx y (List.mem_cons_of_mem _ hy)) k1 (fun w => ⟨k2 w, ?_, ?_⟩)
      · rw [List.append_assoc] at this
        exact this
      · show V.2.2 5 + 12 + x.2.2.length + bZ l + 12 ≤ V.2.2 4 + rm
        omega
      · show V.2.2 5 + 12 + x.2.2.length + bZ l ≤ K
        omega
theorem aaL_end : ∀ (b : List bR) (w : List lR), b ≠ [] → tkn w (aaL b) = w ++ aaL b
  | [], _, h => absurd rfl h
  | [x], w, _ => by
    show (if gO ([] : List bR) = 0 then _ else _) = _
    rw [if_pos (show gO ([] : List bR) = 0 from rfl)]
    rfl
  | x :: y :: l, w, _ => by
    show (if gO (y :: l) = 0 then _ else tkn (w ++ [_]) (aaL (y :: l))) = _
    rw [if_neg (by unfold gO; rw [if_neg (by simp)]; decide), aaL_end (y :: l) _ (by simp), List.append_assoc]
    rfl
/-- the last record of l ends a batch -/
theorem tkn_app : ∀ (l w m : List lR), tkn w l = w ++ l → l ≠ [] → tkn w (l ++ m) = w ++ l ++ tkn [] m
  | [], _, _, _, h => absurd rfl h
  | x :: l, w, m, h, _ => by
    have h' : (if x.2.1 = 0 then w ++ x :: tkn [] l else tkn (w ++ [x]) l) = w ++ x :: l := h
    show (if x.2.1 = 0 then w ++ x :: tkn [] (l ++ m) else tkn (w ++ [x]) (l ++ m)) = _
    by_cases hx : x.2.1 = 0
    · rw [if_pos hx] at h' ⊢
      have h2 : tkn [] l = l := by
        have := List.append_cancel_left h'
        exact (List.cons.inj this).2
      cases l with
      | nil => simp
      | cons y l =>
        rw [tkn_app (y :: l) [] m h2 (by simp)]
        simp
    · rw [if_neg hx] at h' ⊢
      cases l with
      | nil =>
        have : ([] : List lR) = w ++ [x] := h'
        simp at this
      | cons y l =>
        rw [tkn_app (y :: l) (w ++ [x]) m (by rw [h']; simp) (by simp)]
        simp
theorem tkn_aa {l2 : List lR} {b : List bR} (h : tkn [] l2 = l2) : tkn [] (l2 ++ aaL b) = l2 ++ aaL b := by
  cases b with
  | nil =>
    show tkn [] (l2 ++ []) = l2 ++ []
    rw [List.append_nil]
    exact h
  | cons x b =>
    cases l2 with
    | nil =>
      rw [List.nil_append]
      exact aaL_end (x :: b) [] (by simp)
    | cons y l =>
      rw [tkn_app (y :: l) [] _ h (by simp), aaL_end (x :: b) [] (by simp)]
      rfl
