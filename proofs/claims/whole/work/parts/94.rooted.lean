/-! PART 94: a root is written: whenever the power fails, the old one or the new one is there -/
theorem hi_out {rm q m j : Nat} {g c : Nat → Int32} (hq : rm ≤ q) (h : j < q ∨ q + m ≤ j) : bN (ap rm c (q, m, g)) j = bN c j := ap_else (fun i hi z => by
  rw [nx_hi hq] at z
  omega)
theorem hi_in {rm q m i : Nat} {l : List Nat} {c : Nat → Int32} (hq : rm ≤ q) (hl : by8 l) (hi : i < m) : bN (ap rm c (q, m, lB l)) (q + i) = l.getD i 0 := by
  have := ap_in (rm := rm) (c := q) (f := c) hl hi (fun z => absurd hq (by omega))
  rw [nx_hi hq] at this
  exact this
theorem atC_wr {rm q : Nat} {l : List Nat} {c : Nat → Int32} (hq : rm ≤ q) (hl : by8 l) : atC (ap rm c (wL q l)) q l := fun _ hi => hi_in hq hl hi
theorem atC_hi {rm q m p : Nat} {l : List Nat} {g c : Nat → Int32} (hq : rm ≤ q) (h : atC c p l) (hd : p + l.length ≤ q ∨ q + m ≤ p) : atC (ap rm c (q, m, g)) p l := fun i hi => by
  rw [hi_out hq (by omega)]
  exact h i hi
theorem rtC_sl (rm v : Nat) : rtC rm v = slC rm (v % 2) := rfl
theorem rt_old {rm : Nat} {c : Nat → Int32} {V : vW} (h : rtI rm c V) : sOld rm c ((V.2.2 1 + 1) % 2) (V.2.2 1) := by
  obtain ⟨_, _, _, h4⟩ := h
  rcases h4 with g | g
  · rw [g.1]
    exact g.2.2.1
  · exact g.2.2.2
/-- a change in the root's other place -/
theorem fD_slot {rm : Nat} {c c' : Nat → Int32} {V : vW} {l1 l2 : List lR} (hr : 0 < rm) (h : ∀ j, j < slC rm ((V.2.2 1 + 1) % 2) ∨ slC rm ((V.2.2 1 + 1) % 2) + 64 ≤ j → bN c' j = bN c j) (hs : sOld rm c' ((V.2.2 1 + 1) % 2) (V.2.2 1)) (hI : fD rm c V l1 l2) : fD rm c' V l1 l2 := by
  have hlog : ∀ p, bN c' (p % rm) = bN c (p % rm) := fun p => h _ (Or.inl (by have := Nat.mod_lt p hr; unfold slC; omega))
  obtain ⟨⟨g1, g2, g3, g4⟩, g5, g6, g7⟩ := hI
  refine ⟨⟨g1, g2, g3, ?_⟩, tD_ext (fun t ht j hj => h _ (Or.inl (by have := (g5.1 t ht).1; unfold slC; omega))) g5, lD_ext (fun p _ _ => hlog p) ?_ g6, g7⟩
  · rcases g4 with g | g
    · rw [g.1] at hs h
      exact Or.inl ⟨g.1, sOld_ext (fun j hj => h _ (Or.inl (by unfold slC; omega))) g.2.1, hs, g.2.2.2⟩
    · have hne : ∀ j, j < 64 → bN c' (slC rm (V.2.2 1 % 2) + j) = bN c (slC rm (V.2.2 1 % 2) + j) := fun j hj => h _ (by
        unfold slC
        omega)
      refine Or.inr ⟨g.1, fun i hi => ?_, ?_, hs⟩
      · have hl := rtB_len (V := V) (by omega)
        rw [hne i (by omega)]
        exact g.2.1 i hi
      · rw [qN_ext (c := c) (c' := c') (fun j hj => by rw [Nat.add_assoc]; exact hne (60 + j) (by omega))]
        exact g.2.2.1
  · rw [qL_ext (c := c) (c' := c') (fun j _ => hlog _)]
    exact g6.2.2.2.2.1
theorem rtB_by {V : vW} (h1 : V.1.length ≤ 5) (h2 : ∀ t ∈ V.1, t.1 < 12) : by8 (rtB V) := by
  unfold rtB
  refine by8_app (by8_app (by8_app (by8_app (by8_app (by8_app (n4_by _) (n4_by _)) (n4_by _)) (n4_by _)) (n4_by _)) ?_) (by8_app ?_ ?_)
  · intro x hx
    rw [List.mem_singleton.mp hx]
    omega
  · intro x hx
    obtain ⟨t, ht, rfl⟩ := List.mem_map.mp hx
    have := h2 t ht
    omega
  · intro x hx
    rw [(List.mem_replicate.mp hx).2]
    decide
/-- the numbers of a view, as a root holds them -/
def nR (V : vW) : Prop := V.1.length ≤ 5 ∧ (∀ t ∈ V.1, t.1 < 12) ∧ ∀ i, 1 ≤ i → i ≤ 7 → V.2.2 i < 2 ^ 30
theorem z4_get (i : Nat) : (List.replicate 4 0 : List Nat).getD i 0 = 0 := by
  rw [List.getD_eq_getElem?_getD, List.getElem?_replicate]
  split <;> rfl
theorem z4_by : by8 (List.replicate 4 0) := fun x hx => by
  rw [(List.mem_replicate.mp hx).2]
  decide
theorem n4_get0 (n : Nat) : (n4 n).getD 0 0 = n / 16777216 % 256 := rfl
theorem n4_get1 (n : Nat) : (n4 n).getD 1 0 = n / 65536 % 256 := rfl
theorem n4_get2 (n : Nat) : (n4 n).getD 2 0 = n / 256 % 256 := rfl
theorem n4_get3 (n : Nat) : (n4 n).getD 3 0 = n % 256 := rfl
/-- the new root as a whole -/
theorem rt_new {rm : Nat} {c c' : Nat → Int32} {V W : vW} (hI : rtI rm c V) (hv : W.2.2 1 = V.2.2 1 + 1) (hn : nR W) (hB : atC c' (slC rm (W.2.2 1 % 2)) (rtB W)) (hE : qN c' (slC rm (W.2.2 1 % 2) + 60) = W.2.2 1) (ho : ∀ j, j < 64 → bN c' (slC rm (V.2.2 1 % 2) + j) = bN c (slC rm (V.2.2 1 % 2) + j)) : rtI rm c' W := by
  refine ⟨hn.1, hn.2.1, hn.2.2, Or.inr ⟨by omega, hB, hE, ?_⟩⟩
  rw [show (W.2.2 1 + 1) % 2 = V.2.2 1 % 2 by omega]
  obtain ⟨g1, g2, g3, g4⟩ := hI
  rcases g4 with g | g
  · refine sOld_mono (v := 0) (by omega) (sOld_ext ho ?_)
    rw [g.1]
    exact g.2.1
  · refine sOld_ext ho (Or.inr ?_)
    rw [g.2.2.1, (rt_num (by omega) g3 g.2.1).1]
    exact ⟨Nat.le_refl _, fun _ => by omega⟩
theorem cS_rt {rm K : Nat} {s : dS} {V W : vW} {l1 l2 k1 k2 : List lR} (hr : 512 ≤ rm) (hcs : cS rm K s) (hb : K < 2 ^ 30 - 6000) (hI : s.2.2.2.2.2 = false → fD rm (cu rm s) V l1 l2 ∧ bdK K V l2 ∧ W.2.2 1 = V.2.2 1 + 1 ∧ nR W ∧ tD rm (cu rm s) W.1 ∧ lD rm (cu rm s) W k1 k2 ∧ eD W k1 (tkn [] k2) ∧ bdK K W k2) :
    cS rm K (rtS rm s W) ∧ ((rtS rm s W).2.2.2.2.2 = false → fD rm (cu rm (rtS rm s W)) W k1 k2 ∧ ∀ j, j < rm + 15600 → bN (cu rm (rtS rm s W)) j = bN (cu rm s) j) := by
  have hr0 : 0 < rm := by omega
  cases hal : s.2.2.2.2.2 with
  | true =>
    rw [rtS_dead hal]
    exact ⟨hcs, fun w => by rw [hal] at w; cases w⟩
  | false =>
    obtain ⟨hf, hK, hv, hn, ht, hl, he, hK'⟩ := hI hal
    have hs0 := rt_old hf.1
    have hk2 : W.2.2 1 % 2 = (V.2.2 1 + 1) % 2 := by rw [hv]
    have hge : rm ≤ slC rm ((V.2.2 1 + 1) % 2) := slC_ge _ _
    have hbB := rtB_by hn.1 hn.2.1
    have hlB := rtB_len (V := W) (by have := hn.1; omega)
    unfold rtS
    rw [rtC_sl, hk2]
    have hhi : slC rm ((V.2.2 1 + 1) % 2) ≥ rm + 15600 := by unfold slC; omega
    have hoth : ∀ j, j < 64 → slC rm (V.2.2 1 % 2) + j < slC rm ((V.2.2 1 + 1) % 2) ∨ slC rm ((V.2.2 1 + 1) % 2) + 64 ≤ slC rm (V.2.2 1 % 2) + j := fun j hj => by
      unfold slC
      omega
    generalize hS : slC rm ((V.2.2 1 + 1) % 2) = S at *
    have hq60 : rm ≤ S + 60 := by omega
    -- the end is taken away
    have w1 : ∀ m, m ≤ 4 → fD rm (ap rm (cu rm s) (S + 60, m, lB (List.replicate 4 0))) V l1 l2 := fun m hm => by
      refine fD_slot (c := cu rm s) hr0 (fun j hj => hi_out hq60 (by rw [hS] at hj; omega)) ?_ hf
      have o : ∀ i, m ≤ i → bN (ap rm (cu rm s) (S + 60, m, lB (List.replicate 4 0))) (S + 60 + i) = bN (cu rm s) (S + 60 + i) := fun i hi => hi_out hq60 (by omega)
      have n : ∀ i, i < m → bN (ap rm (cu rm s) (S + 60, m, lB (List.replicate 4 0))) (S + 60 + i) = 0 := fun i hi => by
        rw [hi_in hq60 z4_by hi]
        exact z4_get i
      have le : ∀ i, bN (ap rm (cu rm s) (S + 60, m, lB (List.replicate 4 0))) (S + 60 + i) ≤ bN (cu rm s) (S + 60 + i) := fun i => by
        rcases Nat.lt_or_ge i m with z | z
        · rw [n i z]
          exact Nat.zero_le _
        · rw [o i z]
          exact Nat.le_refl _
      have hle : qN (ap rm (cu rm s) (S + 60, m, lB (List.replicate 4 0))) (S + 60) ≤ qN (cu rm s) (S + 60) := by
        unfold qN q4
        have a0 := le 0
        have a1 := le 1
        have a2 := le 2
        have a3 := le 3
        rw [Nat.add_zero] at a0
        omega
      have hsame : qN (ap rm (cu rm s) (S + 60, m, lB (List.replicate 4 0))) S = qN (cu rm s) S := qN_ext (fun j hj => hi_out hq60 (by omega))
      unfold sOld at hs0 ⊢
      rw [hS] at hs0 ⊢
      rw [hsame]
      rcases hs0 with z | z
      · exact Or.inl (by omega)
      · exact Or.inr ⟨by omega, fun w => z.2 (by omega)⟩
    have c1 := cS_wr (x := wL (S + 60) (List.replicate 4 0)) hcs (fun _ m hm => opn_of (w1 m hm) hK hb)
    have e1 : cu rm (wr s (wL (S + 60) (List.replicate 4 0))) = ap rm (cu rm s) (wL (S + 60) (List.replicate 4 0)) := cu_wr hal
    have n : ∀ i, i < 4 → bN (ap rm (cu rm s) (wL (S + 60) (List.replicate 4 0))) (S + 60 + i) = 0 := fun i hi => by
        have := hi_in (rm := rm) (c := cu rm s) hq60 z4_by hi
        rw [show (S + 60, 4, lB (List.replicate 4 0)) = wL (S + 60) (List.replicate 4 0) from rfl] at this
        rw [this]
        exact z4_get i
    have z1 : qN (ap rm (cu rm s) (wL (S + 60) (List.replicate 4 0))) (S + 60) = 0 := by
      have n : ∀ i, i < 4 → bN (ap rm (cu rm s) (wL (S + 60) (List.replicate 4 0))) (S + 60 + i) = 0 := fun i hi => by
        have := hi_in (rm := rm) (c := cu rm s) hq60 z4_by hi
        rw [show (S + 60, 4, lB (List.replicate 4 0)) = wL (S + 60) (List.replicate 4 0) from rfl] at this
        rw [this]
        exact z4_get i
      unfold qN
      rw [show S + 60 = S + 60 + 0 from rfl, n 0 (by decide)]
      show q4 0 (bN _ (S + 60 + 1)) (bN _ (S + 60 + 2)) (bN _ (S + 60 + 3)) = 0
      rw [n 1 (by decide), n 2 (by decide), n 3 (by decide)]
      rfl
    -- the body
    have w2 : ∀ m, m ≤ 60 → fD rm (ap rm (ap rm (cu rm s) (wL (S + 60) (List.replicate 4 0))) (S, m, lB (rtB W))) V l1 l2 := fun m hm => by
      refine fD_slot (c := ap rm (cu rm s) (wL (S + 60) (List.replicate 4 0))) hr0 (fun j hj => hi_out hge (by rw [hS] at hj; omega)) (Or.inl ?_) (w1 4 (Nat.le_refl _))
      rw [hS, qN_ext (c := ap rm (cu rm s) (wL (S + 60) (List.replicate 4 0))) (fun j hj => hi_out hge (by omega))]
      exact z1
    have c2 := cS_wr (x := wL S (rtB W)) c1 (fun w m hm => by
      rw [e1]
      exact opn_of (w2 m (by have : (wL S (rtB W)).2.1 = 60 := hlB; omega)) hK hb)
    -- the end
    have hx2 : (wL S (rtB W)).2.1 = 60 := hlB
    have eB : ∀ w : (wr (wr s (wL (S + 60) (List.replicate 4 0))) (wL S (rtB W))).2.2.2.2.2 = false, cu rm (wr (wr s (wL (S + 60) (List.replicate 4 0))) (wL S (rtB W))) = ap rm (ap rm (cu rm s) (wL (S + 60) (List.replicate 4 0))) (wL S (rtB W)) := fun w => by
      rw [cu_wr (wr_al w).1, e1]
    have f2 : fD rm (ap rm (ap rm (cu rm s) (wL (S + 60) (List.replicate 4 0))) (wL S (rtB W))) V l1 l2 := w2 (rtB W).length (by omega)
    have zB : ∀ i, i < 4 → bN (ap rm (ap rm (cu rm s) (wL (S + 60) (List.replicate 4 0))) (wL S (rtB W))) (S + 60 + i) = 0 := fun i hi => by
      rw [show bN (ap rm (ap rm (cu rm s) (wL (S + 60) (List.replicate 4 0))) (wL S (rtB W))) (S + 60 + i) = bN (ap rm (cu rm s) (wL (S + 60) (List.replicate 4 0))) (S + 60 + i) from hi_out hge (by rw [hlB]; omega)]
      exact n i hi
    have aB : atC (ap rm (ap rm (cu rm s) (wL (S + 60) (List.replicate 4 0))) (wL S (rtB W))) S (rtB W) := atC_wr hge hbB
    have oB : ∀ j, j < S ∨ S + 64 ≤ j → bN (ap rm (ap rm (cu rm s) (wL (S + 60) (List.replicate 4 0))) (wL S (rtB W))) j = bN (cu rm s) j := fun j hj => by
      rw [show bN (ap rm (ap rm (cu rm s) (wL (S + 60) (List.replicate 4 0))) (wL S (rtB W))) j = bN (ap rm (cu rm s) (wL (S + 60) (List.replicate 4 0))) j from hi_out hge (by rw [hlB]; omega)]
      exact hi_out (m := 4) hq60 (by omega)
    generalize ap rm (ap rm (cu rm s) (wL (S + 60) (List.replicate 4 0))) (wL S (rtB W)) = cB at *
    have hv30 := hn.2.2 1 (by decide) (by decide)
    have hn4 := n4_by (W.2.2 1)
    -- the new root is there
    have f3 : fD rm (ap rm cB (wL (S + 60) (n4 (W.2.2 1)))) W k1 k2 ∧ ∀ j, j < S ∨ S + 64 ≤ j → bN (ap rm cB (wL (S + 60) (n4 (W.2.2 1)))) j = bN (cu rm s) j := by
      have o3 : ∀ j, j < S ∨ S + 64 ≤ j → bN (ap rm cB (wL (S + 60) (n4 (W.2.2 1)))) j = bN (cu rm s) j := fun j hj => by
        rw [show bN (ap rm cB (wL (S + 60) (n4 (W.2.2 1)))) j = bN cB j from hi_out (m := 4) hq60 (by omega)]
        exact oB j hj
      have hlog : ∀ p, bN (ap rm cB (wL (S + 60) (n4 (W.2.2 1)))) (p % rm) = bN (cu rm s) (p % rm) := fun p => o3 _ (Or.inl (by have := Nat.mod_lt p hr0; omega))
      refine ⟨⟨rt_new hf.1 hv hn ?_ ?_ (fun j hj => o3 _ (hoth j hj)), tD_ext (fun t ht' j hj => o3 _ (Or.inl (by have := (ht.1 t ht').1; omega))) ht, lD_ext (fun p _ _ => hlog p) ?_ hl, he⟩, o3⟩
      · rw [hk2, hS]
        exact atC_hi (m := 4) hq60 aB (by omega)
      · rw [hk2, hS]
        exact atC_n4 (atC_wr hq60 hn4) (by omega)
      · rw [qL_ext (c := cu rm s) (fun j _ => hlog _)]
        exact hl.2.2.2.2.1
    refine ⟨cS_wr c2 (fun w m hm => ?_), fun w => ?_⟩
    · have hm4 : m ≤ 4 := hm
      rw [eB w]
      show opn rm K (ap rm cB (S + 60, m, lB (n4 (W.2.2 1))))
      have inn : ∀ i, i < m → bN (ap rm cB (S + 60, m, lB (n4 (W.2.2 1)))) (S + 60 + i) = (n4 (W.2.2 1)).getD i 0 := fun i hi => hi_in hq60 hn4 hi
      have out : ∀ i, m ≤ i → i < 4 → bN (ap rm cB (S + 60, m, lB (n4 (W.2.2 1)))) (S + 60 + i) = 0 := fun i h1 h2 => by
        rw [hi_out hq60 (by omega)]
        exact zB i h2
      have le : ∀ i, i < 4 → bN (ap rm cB (S + 60, m, lB (n4 (W.2.2 1)))) (S + 60 + i) ≤ (n4 (W.2.2 1)).getD i 0 := fun i hi => by
        rcases Nat.lt_or_ge i m with z | z
        · rw [inn i z]
          exact Nat.le_refl _
        · rw [out i z hi]
          exact Nat.zero_le _
      have a0 := le 0 (by decide)
      have a1 := le 1 (by decide)
      have a2 := le 2 (by decide)
      have a3 := le 3 (by decide)
      rw [n4_get0, Nat.add_zero] at a0
      rw [n4_get1] at a1
      rw [n4_get2] at a2
      rw [n4_get3] at a3
      have hq4 := q4_n4 (n := W.2.2 1) (by omega)
      have hA : qN (ap rm cB (S + 60, m, lB (n4 (W.2.2 1)))) S = W.2.2 1 := (rt_num (V := W) (by have := hn.1; omega) hn.2.2 (atC_hi hq60 aB (by omega))).1
      have hle : qN (ap rm cB (S + 60, m, lB (n4 (W.2.2 1)))) (S + 60) ≤ W.2.2 1 := by
        unfold q4 at hq4
        unfold qN q4
        omega
      by_cases hq : qN (ap rm cB (S + 60, m, lB (n4 (W.2.2 1)))) (S + 60) = W.2.2 1
      · have hall : ∀ i, i < 4 → bN (ap rm cB (S + 60, m, lB (n4 (W.2.2 1)))) (S + 60 + i) = (n4 (W.2.2 1)).getD i 0 := by
          obtain ⟨q3, q2, q1, q0⟩ := q4_eq (bN_lt _ _) (bN_lt _ _) (bN_lt _ _) (bN_lt _ _) hq
          intro i hi
          have : i = 0 ∨ i = 1 ∨ i = 2 ∨ i = 3 := by omega
          rcases this with z | z | z | z
          · subst z; exact q3
          · subst z; exact q2
          · subst z; exact q1
          · subst z; exact q0
        refine opn_same (c := ap rm cB (wL (S + 60) (n4 (W.2.2 1)))) (fun j => ?_) (opn_of f3.1 hK' hb)
        by_cases hj : S + 60 ≤ j ∧ j < S + 64
        · obtain ⟨i, rfl⟩ : ∃ i, j = S + 60 + i := ⟨j - (S + 60), by omega⟩
          rw [hall i (by omega)]
          exact (atC_wr hq60 hn4 i (by show i < 4; omega)).symm
        · rw [hi_out hq60 (by omega)]
          exact (hi_out (m := 4) hq60 (by omega)).symm
      · refine opn_of (fD_slot (c := cB) hr0 (fun j hj => hi_out hq60 (by rw [hS] at hj; omega)) (Or.inr ?_) f2) hK hb
        rw [hS, hA]
        exact ⟨hle, fun z => absurd z hq⟩
    · have wB := (wr_al w).1
      rw [cu_wr wB, eB wB]
      exact ⟨f3.1, fun j hj => f3.2 j (Or.inl (by omega))⟩
