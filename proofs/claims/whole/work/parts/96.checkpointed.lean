/-! PART 96: a checkpoint as a whole -/
theorem lv_mOK {rm K : Nat} {s : dS} {V : vW} {l1 l2 : List lR} (h : lv rm K s V l1 l2) (hb : K < 2 ^ 30 - 6000) : mOK V.2.1 := by
  obtain ⟨hf, _, hm, _, _, _, _, hk⟩ := h
  rw [hm]
  have h7 := hf.2.2.1.2.2.2.2.2.2
  have := hk.2.2
  exact mOK_rpM (p0 := 0) (n0 := 0) l2 _ _ _ mOK_0 (fun r hr => hf.2.2.1.1 r (List.mem_append_right _ hr)) (by omega) (by omega)
theorem sy_al' {rm : Nat} {s : dS} (h : s.2.2.2.2.2 = false) : (sy rm s).2.1 = [] := by
  unfold sy
  rw [h]
  rfl
theorem ckP_ok {rm K : Nat} {s : dS} {V : vW} {l1 l2 : List lR} (hr : 0 < rm) (hb : K < 2 ^ 30 - 6000) (hcs : cS rm K s) (hal : s.2.2.2.2.2 = false) (hI : lv rm K s V l1 l2) : stR rm K V l1 l2 (ckP rm s V) := by
  have hc1 : cS rm K (sy rm s) := cS_sy hcs (fun _ => lv_opn hI hb)
  unfold ckP
  by_cases h0 : (kS V.2.1).length = 0
  · rw [if_pos h0]
    refine ⟨hc1, fun w => ?_⟩
    show (fD rm (cu rm (sy rm s)) V l1 l2 ∧ _) ∧ tD rm (cu rm (sy rm s)) V.1 ∧ _
    rw [cu_sy]
    refine ⟨⟨hI.1, hI.2.2.2.2.2.1⟩, hI.1.2.1, fun k e he => ?_⟩
    unfold ent
    cases hm : V.2.1 k with
    | none => exact he
    | some x =>
      have hk : k < 120 := by
        rcases Nat.lt_or_ge k 120 with z | z
        · exact z
        · rw [(lv_mOK hI hb).1 k z] at hm
          cases hm
      have := kS_pos (m := V.2.1) hk (by rw [hm]; rfl)
      omega
  · rw [if_neg h0]
    refine st0_ok hr hb hI.2.2.2.2.2.2.2 (by omega) hc1 (fun w => ?_) hI.1.2.1.2.1 hI.1.2.1.2.2.1 hI.1.2.1.2.2.2
    rw [cu_sy]
    exact ⟨⟨hI.1, hI.2.2.2.2.2.1⟩, lv_mOK hI hb⟩
theorem ckP_mem {rm : Nat} {s : dS} {V : vW} : (ckP rm s V).2.2.1 = V.2.1 := by
  have h2 : ∀ (s : dS) (V : vW) (tk : List Nat), (st2 rm s V tk).2.2.1 = V.2.1 := fun s V tk => by
    unfold st2
    split <;> rfl
  have h1 : ∀ (s : dS) (V : vW) (tk : List Nat), (st1 rm s V tk).2.2.1 = V.2.1 := fun s V tk => by
    unfold st1
    split
    · rfl
    · rw [h2]
      rfl
  unfold ckP
  split
  · rfl
  · unfold st0
    split
    · rfl
    · rw [h1]
      rfl
theorem lv_ck {rm K : Nat} {s : dS} {V : vW} {l1 l2 : List lR} (hr : 512 ≤ rm) (hb : K < 2 ^ 30 - 6000) (hcs : cS rm K s) (hI : s.2.2.2.2.2 = false → lv rm K s V l1 l2 ∧ V.2.2 1 + 1 ≤ K ∧ V.2.2 7 + 3 ≤ K) :
    cS rm (K) (ck rm s V).1 ∧ ((ck rm s V).1.2.2.2.2.2 = false → lv rm (K) (ck rm s V).1 (ck rm s V).2 (l1 ++ l2) [] ∧ (ck rm s V).1.2.1 = []) := by
  have hr0 : 0 < rm := by omega
  cases hal : s.2.2.2.2.2 with
  | true =>
    rw [ck_dead hal]
    exact ⟨hcs, fun w => by rw [hal] at w; cases w⟩
  | false =>
    obtain ⟨hL, hv1, hv7⟩ := hI hal
    obtain ⟨hf, he, hm, h5, h6, hz, hp, hk⟩ := id hL
    obtain ⟨p1, p2⟩ := ckP_ok (rm := rm) (K := K) hr0 (by omega) hcs hal hL
    obtain ⟨n1, n2⟩ := ckP_num (rm := rm) (s := s) (V := V)
    have hlD := hf.2.2.1
    unfold ck
    show cS rm (K) (ckE rm (ckP rm s V).1 (ckP rm s V).2) ∧ ((ckE rm (ckP rm s V).1 (ckP rm s V).2).2.2.2.2.2 = false → lv rm (K) (ckE rm (ckP rm s V).1 (ckP rm s V).2) (ckF (ckP rm s V).2) (l1 ++ l2) [] ∧ (ckE rm (ckP rm s V).1 (ckP rm s V).2).2.1 = [])
    generalize hq : ckP rm s V = q at *
    obtain ⟨s1, V1⟩ := q
    have n1' : ∀ i, i ≠ 7 → V1.2.2 i = V.2.2 i := n1
    have n2' : V1.2.2 7 ≤ V.2.2 7 + 3 := n2
    have e1 : (ckF V1).2.2 1 = V1.2.2 1 + 1 := rfl
    have e2 : (ckF V1).2.2 2 = V1.2.2 5 := rfl
    have e3 : (ckF V1).2.2 3 = V1.2.2 6 := rfl
    have e4 : (ckF V1).2.2 4 = V1.2.2 4 := rfl
    have e5 : (ckF V1).2.2 5 = V1.2.2 5 := rfl
    have e6 : (ckF V1).2.2 6 = V1.2.2 6 := rfl
    have e7 : (ckF V1).2.2 7 = V1.2.2 7 := rfl
    rw [n1' 1 (by decide)] at e1
    rw [n1' 5 (by decide)] at e2 e5
    rw [n1' 6 (by decide)] at e3 e6
    rw [n1' 4 (by decide)] at e4
    have eM : (ckF V1).2.1 = m0 := rfl
    have eU : (ckF V1).1 = V1.1 := rfl
    have lL : (l1 ++ l2).length = l1.length + l2.length := List.length_append
    have lZ : lgZ (l1 ++ l2) = lgZ l1 + lgZ l2 := lgZ_app l1 l2
    have hl3 := hlD.2.2.1
    have hl4 := hlD.2.2.2.1
    have hl6 := hlD.2.2.2.2.2.1
    have hl7 := hlD.2.2.2.2.2.2
    have z0 : lgZ ([] : List lR) = 0 := rfl
    have y0 : ([] : List lR).length = 0 := rfl
    have hk3 := hk.2.2
    have hkd : bdK (K) (ckF V1) [] := ⟨by omega, by omega, by omega⟩
    have hc2 : cS rm K (sy rm s1) := cS_sy p1 (fun w => opn_of (p2 w).1.1 hk (by omega))
    have hnew : s1.2.2.2.2.2 = false → nR (ckF V1) ∧ lD rm (cu rm s1) (ckF V1) (l1 ++ l2) [] ∧ eD (ckF V1) (l1 ++ l2) (tkn [] []) := fun w => by
      obtain ⟨⟨a1, a2⟩, a3, a4⟩ := p2 w
      refine ⟨⟨lvOK_len a3.2.1, fun t ht => (a3.1 t ht).1, fun i i1 i2 => ?_⟩, ⟨?_, ?_, ?_, ?_, ?_, ?_, ?_⟩, ?_⟩
      · have hb3 := hk.1
        have hb4 := hk.2.1
        have : i = 1 ∨ i = 2 ∨ i = 3 ∨ i = 4 ∨ i = 5 ∨ i = 6 ∨ i = 7 := by omega
        rcases this with z | z | z | z | z | z | z <;> subst z <;> omega
      · intro r hr'
        rw [List.append_nil] at hr'
        exact hlD.1 r hr'
      · rw [List.append_nil, e4, e3, h6, lL, show V.2.2 3 + l2.length - (l1.length + l2.length) = V.2.2 3 - l1.length by omega]
        exact a1.2.2.1.2.1
      · rw [e4, e2, lZ]
        omega
      · rw [e3, lL]
        omega
      · rw [e2, e3, z0, Nat.add_zero, qL_z a2]
        omega
      · rw [e2, e4, z0]
        omega
      · rw [e2, e3, z0, y0]
        omega
      · intro k e hke h1
        have hfn : fnd V1.1 k = some e := hke
        have hen := a4 k e hfn
        rw [hm] at hen
        obtain ⟨i, r, g1, g2, g3, g4, g5⟩ := he k e hen h1
        refine ⟨i, r, ?_, g2, g3, ?_, ?_⟩
        · show ((l1 ++ l2) ++ [])[i]? = some r
          rw [List.append_nil]
          exact g1
        · rw [e3, lL]
          omega
        · show e.2.2 = (ckF V1).2.2 4 + lgZ (((l1 ++ l2) ++ []).take i)
          rw [List.append_nil, e4]
          exact g5
    obtain ⟨r1, r2⟩ := cS_rt (rm := rm) (K := K) (s := sy rm s1) (V := V) (W := ckF V1) (l1 := l1) (l2 := l2) (k1 := l1 ++ l2) (k2 := []) hr hc2 (by omega) (fun w => by
      rw [sy_al] at w
      obtain ⟨⟨a1, a2⟩, a3, a4⟩ := p2 w
      obtain ⟨b1, b2, b3⟩ := hnew w
      rw [cu_sy]
      exact ⟨a1, hk, e1, b1, a3, b2, b3, hkd⟩)
    unfold ckE
    refine ⟨cS_sy r1 (fun w => opn_of (r2 w).1 hkd (by omega)), fun w => ?_⟩
    rw [sy_al] at w
    obtain ⟨f1, f2⟩ := r2 w
    have ws : s1.2.2.2.2.2 = false := by
      cases hs : s1.2.2.2.2.2 with
      | false => rfl
      | true =>
        rw [rtS_dead (by rw [sy_al]; exact hs), sy_al, hs] at w
        cases w
    obtain ⟨⟨a1, a2⟩, a3, a4⟩ := p2 ws
    refine ⟨⟨?_, ?_, ?_, ?_, ?_, ?_, ?_, hkd⟩, sy_al' w⟩
    · rw [cu_sy]
      exact f1
    · exact f1.2.2.2
    · rw [eM]
      rfl
    · rw [e5, e2, z0]
      rfl
    · rw [e6, e3, y0]
      rfl
    · rw [cu_sy, e5]
      refine atL_z hr0 (fun j hj => ?_) a2
      rw [f2 j (by omega), cu_sy]
    · refine ⟨V.2.2 5, by rw [e4]; omega, by rw [e5]; exact Nat.le_refl _, ?_, ?_⟩
      · rw [sy_al' w, e5]
        show 4 * 0 + _ ≤ _
        omega
      · rw [sy_al' w, e5]
        show 0 + _ ≤ _
        omega
theorem lv_ckI {rm K : Nat} {s : dS} {V : vW} {l1 l2 : List lR} (h : lv rm K s V l1 l2) : ckI rm s V := ⟨h.1.2.1.1, h.1.2.1.2.1⟩
