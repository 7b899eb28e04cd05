/-! PART 98: collecting, passing the log, storing -/
theorem vs_same (n : Nat → Nat) (i : Nat) : vs n i (n i) = n := by
  funext j
  unfold vs
  split
  · rename_i h
    rw [h]
  · rfl
theorem lv_sy {rm K : Nat} {s : dS} {V : vW} {l1 l2 : List lR} (hal : s.2.2.2.2.2 = false) (h : lv rm K s V l1 l2) : lv rm K (sy rm s) V l1 l2 := by
  obtain ⟨hf, he, hm, h5, h6, hz, hp, hk⟩ := h
  unfold lv
  rw [cu_sy]
  refine ⟨hf, he, hm, h5, h6, hz, ⟨V.2.2 5, ?_, Nat.le_refl _, ?_, ?_⟩, hk⟩
  · have := hf.2.2.1.2.2.1
    omega
  · rw [sy_al' hal]
    show 4 * 0 + _ ≤ _
    omega
  · rw [sy_al' hal]
    show 0 + _ ≤ _
    omega
theorem lv_cA {rm K : Nat} {s : dS} {V : vW} {l1 l2 : List lR} (hr : 512 ≤ rm) (hb : K < 2 ^ 30 - 6000) (hcs : cS rm K s) (hI : s.2.2.2.2.2 = false → lv rm K s V l1 l2 ∧ V.2.2 1 + 1 ≤ K ∧ V.2.2 7 + 3 ≤ K) :
    cS rm K (cA rm s V).1 ∧ ((cA rm s V).1.2.2.2.2.2 = false → lv rm K (cA rm s V).1 (cA rm s V).2 (l1 ++ l2) []) ∧ (cA rm s V).2.2.2 1 ≤ V.2.2 1 + 1 ∧ (cA rm s V).2.2.2 7 ≤ V.2.2 7 + 3 ∧ (cA rm s V).2.2.2 4 = V.2.2 4 ∧ (cA rm s V).2.2.2 5 = V.2.2 5 := by
  unfold cA
  by_cases h : V.2.2 2 = V.2.2 5
  · rw [if_pos h]
    refine ⟨hcs, fun w => ?_, Nat.le_succ _, Nat.le_add_right _ _, rfl, rfl⟩
    have hL := (hI w).1
    have e2 : l2 = [] := lgZ_0 (by have := hL.2.2.2.1; omega)
    rw [e2, List.append_nil]
    rw [e2] at hL
    exact hL
  · rw [if_neg h]
    obtain ⟨a1, a2⟩ := lv_ck hr hb hcs hI
    obtain ⟨n1, n2, n3, n4, n7⟩ := ck_num (rm := rm) (s := s) (V := V)
    exact ⟨a1, fun w => (a2 w).1, by omega, n7, n4 4 (by omega), n4 5 (by omega)⟩
theorem lv_tail {rm K p : Nat} {s : dS} {V : vW} {L LL dn td : List lR} (hr : 512 ≤ rm) (hb : K < 2 ^ 30 - 6000) (hcs : cS rm K s) (hI : s.2.2.2.2.2 = false → lv rm K s V L LL ∧ tkn [] LL = LL ∧ L = dn ++ td ∧ p = V.2.2 4 + lgZ dn ∧ (∀ x e, ent V.2.1 V.1 x = some e → e.1 = 1 → p ≤ e.2.2) ∧ V.2.2 1 + 1 ≤ K) :
    cS rm K (sy rm (rtS rm (sy rm s) (rtV (V.1, V.2.1, vs V.2.2 4 p)))) ∧ ((sy rm (rtS rm (sy rm s) (rtV (V.1, V.2.1, vs V.2.2 4 p)))).2.2.2.2.2 = false → lv rm K (sy rm (rtS rm (sy rm s) (rtV (V.1, V.2.1, vs V.2.2 4 p)))) (rtV (V.1, V.2.1, vs V.2.2 4 p)) td LL) := by
  have hr0 : 0 < rm := by omega
  have hc2 : cS rm K (sy rm s) := cS_sy hcs (fun w => lv_opn (hI w).1 hb)
  have e1 : (rtV (V.1, V.2.1, vs V.2.2 4 p)).2.2 1 = V.2.2 1 + 1 := rfl
  have e2 : (rtV (V.1, V.2.1, vs V.2.2 4 p)).2.2 2 = V.2.2 2 := rfl
  have e3 : (rtV (V.1, V.2.1, vs V.2.2 4 p)).2.2 3 = V.2.2 3 := rfl
  have e4 : (rtV (V.1, V.2.1, vs V.2.2 4 p)).2.2 4 = p := rfl
  have e5 : (rtV (V.1, V.2.1, vs V.2.2 4 p)).2.2 5 = V.2.2 5 := rfl
  have e6 : (rtV (V.1, V.2.1, vs V.2.2 4 p)).2.2 6 = V.2.2 6 := rfl
  have e7 : (rtV (V.1, V.2.1, vs V.2.2 4 p)).2.2 7 = V.2.2 7 := rfl
  have hnew : s.2.2.2.2.2 = false → nR (rtV (V.1, V.2.1, vs V.2.2 4 p)) ∧ lD rm (cu rm s) (rtV (V.1, V.2.1, vs V.2.2 4 p)) td LL ∧ eD (rtV (V.1, V.2.1, vs V.2.2 4 p)) td LL ∧ bdK K (rtV (V.1, V.2.1, vs V.2.2 4 p)) LL := fun w => by
    obtain ⟨hL, htk, eL, hp, hfar, hv⟩ := hI w
    obtain ⟨hf, he, hm, h5, h6, hz, hpd, hk⟩ := id hL
    obtain ⟨q1, q2, q3, q4, q5, q6, q7⟩ := hf.2.2.1
    have hk1 := hk.1
    have hk2 := hk.2.1
    have hk3 := hk.2.2
    have lL : L.length = dn.length + td.length := by rw [eL, List.length_append]
    have lZ : lgZ L = lgZ dn + lgZ td := by rw [eL, lgZ_app]
    have eA : L ++ LL = dn ++ (td ++ LL) := by rw [eL, List.append_assoc]
    refine ⟨⟨lvOK_len hf.2.1.2.1, fun t ht => (hf.2.1.1 t ht).1, fun i i1 i2 => ?_⟩, ⟨?_, ?_, ?_, ?_, ?_, ?_, ?_⟩, ?_, ⟨?_, ?_, ?_⟩⟩
    · have : i = 1 ∨ i = 2 ∨ i = 3 ∨ i = 4 ∨ i = 5 ∨ i = 6 ∨ i = 7 := by omega
      rcases this with z | z | z | z | z | z | z <;> subst z <;> omega
    · intro r hr'
      exact q1 r (by rw [eA]; exact List.mem_append_right _ hr')
    · rw [e4, e3]
      rw [eA, lgB_app, atL_app, lgB_len, ← hp] at q2
      have := q2.2
      rw [show V.2.2 3 - L.length + dn.length = V.2.2 3 - td.length by omega] at this
      exact this
    · rw [e4, e2]
      omega
    · rw [e3]
      omega
    · rw [e2, e3]
      exact q5
    · rw [e2, e4]
      omega
    · rw [e2, e3]
      exact q7
    · intro x e hx hx1
      have hx' : ent V.2.1 V.1 x = some e := by
        rw [hm]
        exact hx
      have hpe := hfar x e hx' hx1
      obtain ⟨i, r, g1, g2, g3, g4, g5⟩ := he x e hx hx1
      have hi : dn.length ≤ i := by
        rcases Nat.lt_or_ge i dn.length with z | z
        · exfalso
          have h1 : (L ++ LL).take (i + 1) = (L ++ LL).take i ++ [r] := by
            rw [List.take_add_one, g1]
            rfl
          have h2 : lgZ ((L ++ LL).take (i + 1)) = lgZ ((L ++ LL).take i) + rcZ r := by
            rw [h1, lgZ_app]
            rfl
          have h3 : lgZ ((L ++ LL).take (i + 1)) ≤ lgZ ((L ++ LL).take dn.length) := lgZ_take (by omega)
          have h4 : (L ++ LL).take dn.length = dn := by rw [eA, List.take_left' rfl]
          rw [h4] at h3
          have := rcZ_pos r
          omega
        · exact z
      refine ⟨i - dn.length, r, ?_, g2, g3, ?_, ?_⟩
      · rw [eA, List.getElem?_append_right hi] at g1
        exact g1
      · rw [e3]
        omega
      · rw [e4, g5, hp]
        rw [eA, List.take_append, List.take_of_length_le hi, lgZ_app]
        omega
    · rw [e1]
      exact hv
    · rw [e7]
      exact hk2
    · rw [e2]
      exact hk3
  obtain ⟨r1, r2⟩ := cS_rt (rm := rm) (K := K) (s := sy rm s) (V := V) (W := rtV (V.1, V.2.1, vs V.2.2 4 p)) (l1 := L) (l2 := LL) (k1 := td) (k2 := LL) hr hc2 hb (fun w => by
    rw [sy_al] at w
    obtain ⟨hL, htk, eL, hp, hfar, hv⟩ := hI w
    obtain ⟨b1, b2, b3, b4⟩ := hnew w
    rw [cu_sy, htk]
    exact ⟨hL.1, hL.2.2.2.2.2.2.2, e1, b1, hL.1.2.1, b2, b3, b4⟩)
  have ws : (rtS rm (sy rm s) (rtV (V.1, V.2.1, vs V.2.2 4 p))).2.2.2.2.2 = false → s.2.2.2.2.2 = false := fun w => by
    cases hs : s.2.2.2.2.2 with
    | false => rfl
    | true =>
      rw [rtS_dead (by rw [sy_al]; exact hs), sy_al, hs] at w
      cases w
  refine ⟨cS_sy r1 (fun w => opn_of (r2 w).1 (hnew (ws w)).2.2.2 hb), fun w => ?_⟩
  rw [sy_al] at w
  obtain ⟨f1, f2⟩ := r2 w
  obtain ⟨hL, htk, eL, hp, hfar, hv⟩ := hI (ws w)
  obtain ⟨b1, b2, b3, b4⟩ := hnew (ws w)
  refine ⟨?_, b3, hL.2.2.1, ?_, ?_, ?_, ⟨V.2.2 5, ?_, ?_, ?_, ?_⟩, b4⟩
  · rw [cu_sy]
    exact f1
  · rw [e5, e2]
    exact hL.2.2.2.1
  · rw [e6, e3]
    exact hL.2.2.2.2.1
  · rw [cu_sy, e5]
    refine atL_z hr0 (fun j hj => ?_) hL.2.2.2.2.2.1
    rw [f2 j (by omega), cu_sy]
  · rw [e4]
    have := b2.2.2.1
    rw [e4, e2] at this
    have := hL.2.2.2.1
    omega
  · rw [e5]
    exact Nat.le_refl _
  · rw [sy_al' w, e5]
    show 4 * 0 + _ ≤ _
    omega
  · rw [sy_al' w, e5]
    show 0 + _ ≤ _
    omega
theorem lv_cl {rm K n : Nat} {s : dS} {V : vW} {l1 l2 : List lR} (hr : 512 ≤ rm ∧ rm ≤ 4096) (hb : K < 2 ^ 30 - 6000) (hcs : cS rm K s) (hI : s.2.2.2.2.2 = false → lv rm K s V l1 l2 ∧ tkn [] l2 = l2 ∧ V.2.2 1 + 2 ≤ K ∧ V.2.2 7 + 3 ≤ K ∧ V.2.2 5 + lgZ (l1 ++ l2) ≤ K) :
    cS rm K (cl rm n (l1 ++ l2) s V).1 ∧ (s.2.2.2.2.2 = false → clI rm n (l1 ++ l2) s V) ∧ ((cl rm n (l1 ++ l2) s V).1.2.2.2.2.2 = false → ∃ k1 k2, lv rm K (cl rm n (l1 ++ l2) s V).1 (cl rm n (l1 ++ l2) s V).2.1 k1 k2 ∧ tkn [] k2 = k2 ∧ clN rm n (l1 ++ l2) s V = k1 ++ k2 ∧ (cl rm n (l1 ++ l2) s V).2.1.2.2 1 ≤ V.2.2 1 + 2 ∧ (cl rm n (l1 ++ l2) s V).2.1.2.2 7 ≤ V.2.2 7 + 3 ∧ (cl rm n (l1 ++ l2) s V).2.1.2.2 5 + V.2.2 4 ≤ V.2.2 5 + (cl rm n (l1 ++ l2) s V).2.1.2.2 4 ∧ (cl rm n (l1 ++ l2) s V).2.1.2.2 4 ≤ V.2.2 5 ∧ V.2.2 4 + 12 * (cl rm n (l1 ++ l2) s V).2.2 ≤ (cl rm n (l1 ++ l2) s V).2.1.2.2 4) := by
  obtain ⟨a1, a2, a3, a4, a5, a6⟩ := lv_cA (rm := rm) (K := K) (s := s) (V := V) (l1 := l1) (l2 := l2) hr.1 hb hcs (fun w => ⟨(hI w).1, by have := (hI w).2.2.1; omega, (hI w).2.2.2.1⟩)
  have hsal : (cA rm s V).1.2.2.2.2.2 = false → s.2.2.2.2.2 = false := fun w => by
    cases hs : s.2.2.2.2.2 with
    | false => rfl
    | true => rw [cA_dead hs, hs] at w; cases w
  obtain ⟨b1, b2, b3⟩ := lv_clR (n := n) (l1 := l1 ++ l2) hr hb (l1 ++ l2) (cA rm s V).1 (cA rm s V).2 (V.2.2 4) 0 [] [] rfl (by rw [a5]; rfl) a1 (fun w => ⟨a2 w, rfl, by rw [a6]; exact (hI (hsal w)).2.2.2.2, fun x e hx hx1 => by
    obtain ⟨_, he, hm, _⟩ := a2 w
    rw [hm] at hx
    obtain ⟨i, r, _, _, _, _, g5⟩ := he x e hx hx1
    omega⟩)
  have hclI : s.2.2.2.2.2 = false → clI rm n (l1 ++ l2) s V := fun w => by
    obtain ⟨hL, ht, g1, g7, g5⟩ := hI w
    obtain ⟨hf, he, hm, h5, h6, hz, hpd, hk⟩ := id hL
    have q3 := hf.2.2.1.2.2.1
    have q7 := hf.2.2.1.2.2.2.2.2.2
    have k3 := hk.2.2
    refine ⟨lv_ckI hL, fun i i1 i2 => ?_, by rw [lgZ_app]; omega, b2⟩
    have : i = 1 ∨ i = 2 ∨ i = 3 ∨ i = 4 ∨ i = 5 ∨ i = 6 ∨ i = 7 := by omega
    rcases this with z | z | z | z | z | z | z <;> subst z <;> omega
  unfold cl
  have hB : clB rm n (l1 ++ l2) s V = clR rm n (l1 ++ l2) (cA rm s V).1 (cA rm s V).2 (V.2.2 4) 0 := rfl
  have hN : clN rm n (l1 ++ l2) s V = (l1 ++ l2).drop (clT rm (clB rm n (l1 ++ l2) s V)).2.2 ++ clL rm n (l1 ++ l2) (cA rm s V).1 (cA rm s V).2 (V.2.2 4) 0 := rfl
  rw [hN]
  rw [← hB] at b1 b3
  generalize hLL : clL rm n (l1 ++ l2) (cA rm s V).1 (cA rm s V).2 (V.2.2 4) 0 = LL at *
  generalize hq : clB rm n (l1 ++ l2) s V = q at *
  obtain ⟨s1, V1, p, k⟩ := q
  have b1' : cS rm K s1 := b1
  have hs1 : s1.2.2.2.2.2 = false → s.2.2.2.2.2 = false := fun w => by
    cases hs : s.2.2.2.2.2 with
    | false => rfl
    | true =>
      have hdd : (cA rm s V).1.2.2.2.2.2 = true := by rw [cA_dead hs]; exact hs
      have := clB_dead (n := n) (lg := l1 ++ l2) hdd
      rw [hq] at this
      have e : s1 = (cA rm s V).1 := (Prod.mk.inj this).1
      rw [e, hdd] at w
      cases w
  have b3' : s1.2.2.2.2.2 = false → ∃ dn td, l1 ++ l2 = dn ++ td ∧ p = (cA rm s V).2.2.2 4 + lgZ dn ∧ k + 0 = 0 + dn.length ∧ lv rm K s1 V1 (l1 ++ l2) ([] ++ LL) ∧ tkn [] ([] ++ LL) = [] ++ LL ∧ (∀ x e, ent V1.2.1 V1.1 x = some e → e.1 = 1 → p ≤ e.2.2) ∧ (∀ i, i ≠ 5 → i ≠ 6 → V1.2.2 i = (cA rm s V).2.2.2 i) ∧ V1.2.2 5 + V.2.2 4 ≤ (cA rm s V).2.2.2 5 + p := b3
  have hK1 : s1.2.2.2.2.2 = false → V1.2.2 1 + 1 ≤ K := fun w => by
    obtain ⟨dn, td, _, _, _, _, _, _, g7, _⟩ := b3' w
    have h1 := g7 1 (by decide) (by decide)
    have h2 := (hI (hs1 w)).2.2.1
    omega
  have hcl : cS rm K (clT rm (s1, V1, p, k)).1 ∧ ((clT rm (s1, V1, p, k)).1.2.2.2.2.2 = false → ∃ k1 k2, lv rm K (clT rm (s1, V1, p, k)).1 (clT rm (s1, V1, p, k)).2.1 k1 k2 ∧ tkn [] k2 = k2 ∧ (l1 ++ l2).drop (clT rm (s1, V1, p, k)).2.2 ++ LL = k1 ++ k2 ∧ (clT rm (s1, V1, p, k)).2.1.2.2 4 = p ∧ (clT rm (s1, V1, p, k)).2.2 = k ∧ s1.2.2.2.2.2 = false) := by
    unfold clT
    show cS rm K (if k = 0 then (sy rm s1, clV (s1, V1, p, k), 0) else (sy rm (rtS rm (sy rm s1) (rtV (clV (s1, V1, p, k)))), rtV (clV (s1, V1, p, k)), k)).1 ∧ ((if k = 0 then (sy rm s1, clV (s1, V1, p, k), 0) else (sy rm (rtS rm (sy rm s1) (rtV (clV (s1, V1, p, k)))), rtV (clV (s1, V1, p, k)), k)).1.2.2.2.2.2 = false → ∃ k1 k2, lv rm K (if k = 0 then (sy rm s1, clV (s1, V1, p, k), 0) else (sy rm (rtS rm (sy rm s1) (rtV (clV (s1, V1, p, k)))), rtV (clV (s1, V1, p, k)), k)).1 (if k = 0 then (sy rm s1, clV (s1, V1, p, k), 0) else (sy rm (rtS rm (sy rm s1) (rtV (clV (s1, V1, p, k)))), rtV (clV (s1, V1, p, k)), k)).2.1 k1 k2 ∧ tkn [] k2 = k2 ∧ (l1 ++ l2).drop (if k = 0 then (sy rm s1, clV (s1, V1, p, k), 0) else (sy rm (rtS rm (sy rm s1) (rtV (clV (s1, V1, p, k)))), rtV (clV (s1, V1, p, k)), k)).2.2 ++ LL = k1 ++ k2 ∧ (if k = 0 then (sy rm s1, clV (s1, V1, p, k), 0) else (sy rm (rtS rm (sy rm s1) (rtV (clV (s1, V1, p, k)))), rtV (clV (s1, V1, p, k)), k)).2.1.2.2 4 = p ∧ (if k = 0 then (sy rm s1, clV (s1, V1, p, k), 0) else (sy rm (rtS rm (sy rm s1) (rtV (clV (s1, V1, p, k)))), rtV (clV (s1, V1, p, k)), k)).2.2 = k ∧ s1.2.2.2.2.2 = false)
    by_cases hk0 : k = 0
    · simp only [if_pos hk0]
      refine ⟨cS_sy b1' (fun w => ?_), fun w => ?_⟩
      · obtain ⟨dn, td, _, _, _, g4, _⟩ := b3' w
        exact lv_opn g4 hb
      · rw [sy_al] at w
        obtain ⟨dn, td, g1, g2, g3, g4, g5, g6, g7, g8⟩ := b3' w
        have hd0 : dn = [] := List.length_eq_zero_iff.mp (by omega)
        have hp4 : p = V1.2.2 4 := by
          rw [g2, hd0, g7 4 (by decide) (by decide)]
          rfl
        have ev : clV (s1, V1, p, k) = V1 := by
          show (V1.1, V1.2.1, vs V1.2.2 4 p) = V1
          rw [hp4, vs_same]
        rw [ev]
        exact ⟨l1 ++ l2, LL, lv_sy w g4, g5, by rw [List.drop_zero], hp4.symm, hk0.symm, w⟩
    · simp only [if_neg hk0]
      have hs1' : (sy rm (rtS rm (sy rm s1) (rtV (clV (s1, V1, p, k))))).2.2.2.2.2 = false → s1.2.2.2.2.2 = false := fun w => by
        cases hs : s1.2.2.2.2.2 with
        | false => rfl
        | true =>
          rw [sy_al, rtS_dead (by rw [sy_al]; exact hs), sy_al, hs] at w
          cases w
      cases hsd : s1.2.2.2.2.2 with
      | true =>
        have e : sy rm (rtS rm (sy rm s1) (rtV (clV (s1, V1, p, k)))) = s1 := by
          rw [sy_dead hsd, rtS_dead hsd, sy_dead hsd]
        refine ⟨by rw [e]; exact b1', fun w => ?_⟩
        have := hs1' w
        rw [hsd] at this
        cases this
      | false =>
        obtain ⟨dn, td, g1, g2, g3, g4, g5, g6, g7, g8⟩ := b3' hsd
        obtain ⟨t1, t2⟩ := lv_tail (rm := rm) (K := K) (p := p) (s := s1) (V := V1) (L := l1 ++ l2) (LL := LL) (dn := dn) (td := td) hr.1 hb b1' (fun w => ⟨g4, g5, g1, by rw [g2, g7 4 (by decide) (by decide)], g6, hK1 w⟩)
        refine ⟨t1, fun w => ⟨td, LL, t2 w, g5, by rw [g1, List.drop_left' (by omega)], rfl, by first | trivial | rfl, by first | trivial | rfl⟩⟩
  obtain ⟨c1, c2⟩ := hcl
  refine ⟨c1, hclI, fun w => ?_⟩
  obtain ⟨k1, k2, d1, d2, d3, d4, d5, d6⟩ := c2 w
  obtain ⟨dn, td, g1, g2, g3, g4, g5, g6, g7, g8⟩ := b3' d6
  obtain ⟨m1, m2, m3⟩ := clT_num (rm := rm) (b := (s1, V1, p, k))
  have m2' : ∀ i, i ≠ 4 → i ≠ 1 → (clT rm (s1, V1, p, k)).2.1.2.2 i = V1.2.2 i := m2
  have m3' : (clT rm (s1, V1, p, k)).2.1.2.2 1 ≤ V1.2.2 1 + 1 := m3
  have v1 := g7 1 (by decide) (by decide)
  have v7 := g7 7 (by decide) (by decide)
  have hL := (hI (hs1 d6)).1
  have q3 := hL.1.2.2.1.2.2.1
  have h5 := hL.2.2.2.1
  have lZ : lgZ (l1 ++ l2) = lgZ l1 + lgZ l2 := lgZ_app l1 l2
  have lZ2 : lgZ (l1 ++ l2) = lgZ dn + lgZ td := by rw [g1, lgZ_app]
  have hln := lgZ_len dn
  refine ⟨k1, k2, d1, d2, d3, by omega, ?_, ?_, ?_, ?_⟩
  · rw [m2' 7 (by decide) (by decide)]
    omega
  · rw [m2' 5 (by decide) (by decide), d4]
    omega
  · rw [d4]
    omega
  · rw [d4, d5]
    omega
