/-! PART 97: the tail is collected: whenever the power fails, the store before it or behind it is there -/
theorem lgZ_take {l : List lR} {i j : Nat} (h : i ≤ j) : lgZ (l.take i) ≤ lgZ (l.take j) := by
  have e : l.take i = (l.take j).take i := by rw [List.take_take, Nat.min_eq_left h]
  have := List.take_append_drop i (l.take j)
  rw [← e] at this
  have h2 : lgZ (l.take j) = lgZ (l.take i) + lgZ ((l.take j).drop i) := by
    rw [← lgZ_app, this]
  omega
theorem rcZ_pos (r : lR) : 12 ≤ rcZ r := by unfold rcZ; omega
theorem lgZ_0 {l : List lR} (h : lgZ l = 0) : l = [] := by
  cases l with
  | nil => rfl
  | cons r l =>
    have h1 : lgZ (r :: l) = rcZ r + lgZ l := rfl
    have := rcZ_pos r
    omega
/-- where an entry's record stands, seen from a record of the log -/
theorem at_place {l dn td : List lR} {r r' : lR} {i p : Nat} (e : l = dn ++ r :: td) (hi : l[i]? = some r') (hp : lgZ dn ≤ lgZ (l.take i)) : (i = dn.length ∧ r' = r) ∨ lgZ dn + rcZ r ≤ lgZ (l.take i) := by
  rcases Nat.lt_trichotomy i dn.length with z | z | z
  · exfalso
    have h1 : l.take (i + 1) = l.take i ++ [r'] := by
      rw [List.take_add_one, hi]
      rfl
    have h2 : lgZ (l.take (i + 1)) = lgZ (l.take i) + rcZ r' := by
      rw [h1, lgZ_app]
      rfl
    have h3 : lgZ (l.take (i + 1)) ≤ lgZ (l.take dn.length) := lgZ_take (by omega)
    rw [e, List.take_left' rfl, ← e] at h3
    have := rcZ_pos r'
    omega
  · left
    refine ⟨z, ?_⟩
    rw [e, z, List.getElem?_append_right (Nat.le_refl _), Nat.sub_self] at hi
    exact (Option.some.inj hi).symm
  · right
    have h1 : lgZ (l.take (dn.length + 1)) ≤ lgZ (l.take i) := lgZ_take (by omega)
    have h2 : l.take (dn.length + 1) = dn ++ [r] := by
      rw [e, List.take_append, Nat.add_sub_cancel_left, List.take_of_length_le (by omega)]
      rfl
    rw [h2, lgZ_app] at h1
    exact h1
theorem cp_room {rm : Nat} {s : dS} {V : vW} {k z b : Nat} (hr : rm ≤ 4096) (h : pD s V) (h1 : V.2.2 5 + z + 12 ≤ V.2.2 4 + rm) (hk : 4 * k ≤ z + 12) (hb : b ≤ 2 * z + 24) : cp s k b := fun _ => by
  obtain ⟨h0, g1, g2, g3, g4⟩ := h
  constructor <;> omega
theorem tkn_one {l2 : List lR} {r : lR} (h0 : r.2.1 = 0) : tkn [] (l2 ++ [r]) = l2 ++ [r] := by
  rw [tkn_snoc, if_pos h0]
  rfl
theorem lv_clR {rm K n : Nat} {l1 : List lR} (hr : 512 ≤ rm ∧ rm ≤ 4096) (hb : K < 2 ^ 30 - 6000) : ∀ (todo : List lR) (s : dS) (V : vW) (p k : Nat) (dn l2 : List lR), l1 = dn ++ todo → p = V.2.2 4 + lgZ dn → cS rm K s → (s.2.2.2.2.2 = false → lv rm K s V l1 l2 ∧ tkn [] l2 = l2 ∧ V.2.2 5 + lgZ todo ≤ K ∧ ∀ x e, ent V.2.1 V.1 x = some e → e.1 = 1 → p ≤ e.2.2) →
    cS rm K (clR rm n todo s V p k).1 ∧ (s.2.2.2.2.2 = false → clG rm n todo s V p k) ∧ ((clR rm n todo s V p k).1.2.2.2.2.2 = false → ∃ dn' td', l1 = dn' ++ td' ∧ (clR rm n todo s V p k).2.2.1 = V.2.2 4 + lgZ dn' ∧ (clR rm n todo s V p k).2.2.2 + dn.length = k + dn'.length ∧ lv rm K (clR rm n todo s V p k).1 (clR rm n todo s V p k).2.1 l1 (l2 ++ clL rm n todo s V p k) ∧ tkn [] (l2 ++ clL rm n todo s V p k) = l2 ++ clL rm n todo s V p k ∧ (∀ x e, ent (clR rm n todo s V p k).2.1.2.1 (clR rm n todo s V p k).2.1.1 x = some e → e.1 = 1 → (clR rm n todo s V p k).2.2.1 ≤ e.2.2) ∧ (∀ i, i ≠ 5 → i ≠ 6 → (clR rm n todo s V p k).2.1.2.2 i = V.2.2 i) ∧ (clR rm n todo s V p k).2.1.2.2 5 + p ≤ V.2.2 5 + (clR rm n todo s V p k).2.2.1) := by
  intro todo
  induction todo with
  | nil =>
    intro s V p k dn l2 e hp hc hI
    refine ⟨hc, fun _ => trivial, fun w => ?_⟩
    have w' : s.2.2.2.2.2 = false := w
    obtain ⟨a1, a2, a3, a4⟩ := hI w'
    have e0 : l2 ++ clL rm n [] s V p k = l2 := List.append_nil l2
    rw [e0]
    exact ⟨dn, [], e, hp, Nat.add_comm _ _ |>.trans (Nat.add_comm _ _) |>.trans rfl, a1, a2, a4, fun _ _ _ => rfl, Nat.le_refl _⟩
  | cons r td ih =>
    intro s V p k dn l2 e hp hc hI
    have eG : clG rm n (r :: td) s V p k = (k = n ∨ s.2.2.2.2.2 = true ∨ (clF rm s V p r ∧
      (liv V r.2.2.1 p = true → rmB rm V r.2.2.1 (rcZ r) = true → cp s 3 (24 + r.2.2.2.length) ∧ clG rm n td (apS rm s 1 r.2.2.1 r.2.2.2 (V.2.2 5) (V.2.2 6)) (apV V 1 r.2.2.1 r.2.2.2.length) (p + rcZ r) (k + 1)) ∧
      (liv V r.2.2.1 p = false → clG rm n td s V (p + rcZ r) (k + 1)))) := rfl
    have eR : clR rm n (r :: td) s V p k = if k = n ∨ s.2.2.2.2.2 = true then (s, V, p, k) else if liv V r.2.2.1 p = true then (if rmB rm V r.2.2.1 (rcZ r) = true then clR rm n td (apS rm s 1 r.2.2.1 r.2.2.2 (V.2.2 5) (V.2.2 6)) (apV V 1 r.2.2.1 r.2.2.2.length) (p + rcZ r) (k + 1) else (s, V, p, k)) else clR rm n td s V (p + rcZ r) (k + 1) := rfl
    have eL : clL rm n (r :: td) s V p k = if k = n ∨ s.2.2.2.2.2 = true then [] else if liv V r.2.2.1 p = true then (if rmB rm V r.2.2.1 (rcZ r) = true then (1, 0, r.2.2.1, r.2.2.2) :: clL rm n td (apS rm s 1 r.2.2.1 r.2.2.2 (V.2.2 5) (V.2.2 6)) (apV V 1 r.2.2.1 r.2.2.2.length) (p + rcZ r) (k + 1) else []) else clL rm n td s V (p + rcZ r) (k + 1) := rfl
    have eZ : lgZ (r :: td) = rcZ r + lgZ td := rfl
    have stop : ∀ w : s.2.2.2.2.2 = false, ∃ dn' td', l1 = dn' ++ td' ∧ p = V.2.2 4 + lgZ dn' ∧ k + dn.length = k + dn'.length ∧ lv rm K s V l1 (l2 ++ []) ∧ tkn [] (l2 ++ []) = l2 ++ [] ∧ (∀ x e, ent V.2.1 V.1 x = some e → e.1 = 1 → p ≤ e.2.2) ∧ (∀ i, i ≠ 5 → i ≠ 6 → V.2.2 i = V.2.2 i) ∧ V.2.2 5 + p ≤ V.2.2 5 + p := fun w => by
      obtain ⟨a1, a2, a3, a4⟩ := hI w
      rw [List.append_nil]
      exact ⟨dn, r :: td, e, hp, rfl, a1, a2, a4, fun _ _ _ => rfl, Nat.le_refl _⟩
    by_cases hs : k = n ∨ s.2.2.2.2.2 = true
    · rw [eG, eR, eL, if_pos hs, if_pos hs]
      exact ⟨hc, fun _ => hs.elim Or.inl (fun z => Or.inr (Or.inl z)), stop⟩
    · rw [eG, eR, eL, if_neg hs, if_neg hs]
      have hal : s.2.2.2.2.2 = false := by
        cases h : s.2.2.2.2.2 with
        | false => rfl
        | true => exact absurd (Or.inr h) hs
      obtain ⟨a1, a2, a3, a4⟩ := hI hal
      obtain ⟨hf, he, hm, h5, h6, hz, hpd, hk⟩ := id a1
      obtain ⟨q1, q2, q3, q4, q5, q6, q7⟩ := hf.2.2.1
      have hro : rcOK r := q1 r (List.mem_append_left _ (by rw [e]; exact List.mem_append_right _ List.mem_cons_self))
      have hlz1 : lgZ l1 = lgZ dn + (rcZ r + lgZ td) := by
        rw [e, lgZ_app, eZ]
      have hk3 := hk.2.2
      have hrcA : rcA rm (cu rm s) p r (V.2.2 3 - l1.length + dn.length) := by
        have h := q2
        rw [show l1 ++ l2 = dn ++ (r :: (td ++ l2)) by rw [e, List.append_assoc]; rfl, lgB_app, atL_app, lgB_len, ← hp] at h
        exact (atL_app.mp h.2).1
      have hF : clF rm s V p r := ⟨hf.2.1.1, ⟨_, hrcA⟩, hro, by omega, by omega, by omega, by omega⟩
      have hpos := rcZ_pos r
      -- the entries that stay
      have far : ∀ x e, ent V.2.1 V.1 x = some e → e.1 = 1 → (x = r.2.2.1 ∧ e.2.2 = p) ∨ p + rcZ r ≤ e.2.2 := fun x en hx hx1 => by
        have hpe := a4 x en hx hx1
        rw [hm] at hx
        obtain ⟨i, r', g1, g2, g3, g4, g5⟩ := he x en hx hx1
        have e2 : l1 ++ l2 = dn ++ r :: (td ++ l2) := by rw [e, List.append_assoc]; rfl
        rcases at_place (p := p) e2 g1 (by omega) with ⟨z1, z2⟩ | z
        · left
          refine ⟨by rw [← g3, z2], ?_⟩
          rw [g5, z1, e2, List.take_left' rfl]
          exact hp.symm
        · right
          omega
      have e3 : l1 = (dn ++ [r]) ++ td := by rw [e, List.append_assoc]; rfl
      have hp3 : p + rcZ r = V.2.2 4 + lgZ (dn ++ [r]) := by
        rw [lgZ_app]
        show p + rcZ r = V.2.2 4 + (lgZ dn + (rcZ r + 0))
        omega
      have lL3 : (dn ++ [r]).length = dn.length + 1 := by rw [List.length_append]; rfl
      by_cases hl : liv V r.2.2.1 p = true
      · rw [if_pos hl, if_pos hl]
        by_cases hrm : rmB rm V r.2.2.1 (rcZ r) = true
        · rw [if_pos hrm, if_pos hrm]
          have hroom : V.2.2 5 + rcZ r + 12 ≤ V.2.2 4 + rm := by
            unfold rmB at hrm
            exact of_decide_eq_true (Bool.and_eq_true_iff.mp hrm).2
          have hro1 : rcOK (1, 0, r.2.2.1, r.2.2.2) := ⟨Nat.zero_lt_one, (by decide : 1 < 3), Or.inl rfl, hro.2.2.2.1, hro.2.2.2.2.1, hro.2.2.2.2.2.1, fun z => absurd (show (1 : Nat) = 2 from z) (by decide)⟩
          obtain ⟨k1, k2⟩ := lv_app (r := (1, 0, r.2.2.1, r.2.2.2)) hr.1 hal hc a1 hro1 hroom (by show V.2.2 5 + rcZ r ≤ K; omega) hb
          have hcond : (apS rm s 1 r.2.2.1 r.2.2.2 (V.2.2 5) (V.2.2 6)).2.2.2.2.2 = false → lv rm K (apS rm s 1 r.2.2.1 r.2.2.2 (V.2.2 5) (V.2.2 6)) (apV V 1 r.2.2.1 r.2.2.2.length) l1 (l2 ++ [(1, 0, r.2.2.1, r.2.2.2)]) ∧ tkn [] (l2 ++ [(1, 0, r.2.2.1, r.2.2.2)]) = l2 ++ [(1, 0, r.2.2.1, r.2.2.2)] ∧ (apV V 1 r.2.2.1 r.2.2.2.length).2.2 5 + lgZ td ≤ K ∧ ∀ x e, ent (apV V 1 r.2.2.1 r.2.2.2.length).2.1 (apV V 1 r.2.2.1 r.2.2.2.length).1 x = some e → e.1 = 1 → p + rcZ r ≤ e.2.2 := fun w => by
            refine ⟨k2 w, tkn_one rfl, ?_, fun x en hx hx1 => ?_⟩
            · show V.2.2 5 + 12 + r.2.2.2.length + lgZ td ≤ K
              have eZr : rcZ r = 12 + r.2.2.2.length := rfl
              omega
            · by_cases hxk : x = r.2.2.1
              · have : ent (apV V 1 r.2.2.1 r.2.2.2.length).2.1 (apV V 1 r.2.2.1 r.2.2.2.length).1 x = some (1, V.2.2 6, V.2.2 5) := by
                  show (match upM V.2.1 r.2.2.1 (1, V.2.2 6, V.2.2 5) x with | some e => some e | none => fnd V.1 x) = _
                  unfold upM
                  rw [if_pos hxk]
                rw [this] at hx
                rw [← Option.some.inj hx]
                show p + rcZ r ≤ V.2.2 5
                omega
              · have : ent (apV V 1 r.2.2.1 r.2.2.2.length).2.1 (apV V 1 r.2.2.1 r.2.2.2.length).1 x = ent V.2.1 V.1 x := by
                  show (match upM V.2.1 r.2.2.1 (1, V.2.2 6, V.2.2 5) x with | some e => some e | none => fnd V.1 x) = _
                  unfold upM
                  rw [if_neg hxk]
                  rfl
                rw [this] at hx
                rcases far x en hx hx1 with z | z
                · exact absurd z.1 hxk
                · exact z
          obtain ⟨i1, i2, i3⟩ := ih (apS rm s 1 r.2.2.1 r.2.2.2 (V.2.2 5) (V.2.2 6)) (apV V 1 r.2.2.1 r.2.2.2.length) (p + rcZ r) (k + 1) (dn ++ [r]) (l2 ++ [(1, 0, r.2.2.1, r.2.2.2)]) e3 hp3 k1 hcond
          refine ⟨i1, fun _ => Or.inr (Or.inr ⟨hF, fun _ _ => ⟨cp_room hr.2 hpd hroom (by omega) (by unfold rcZ at *; omega), ?_⟩, fun z => by rw [z] at hl; cases hl⟩), fun w => ?_⟩
          · cases hs2 : (apS rm s 1 r.2.2.1 r.2.2.2 (V.2.2 5) (V.2.2 6)).2.2.2.2.2 with
            | false => exact i2 hs2
            | true =>
              cases td with
              | nil => trivial
              | cons y td => exact Or.inr (Or.inl hs2)
          · obtain ⟨dn', td', j1, j2, j3, j4, j5, j6, j7, j8⟩ := i3 w
            rw [List.append_assoc] at j4 j5
            refine ⟨dn', td', j1, j2, by omega, j4, j5, j6, fun i i5 i6 => (j7 i i5 i6).trans ?_, ?_⟩
            · show vs (vs V.2.2 5 _) 6 _ i = _
              rw [vs_n i6, vs_n i5]
            · have e5 : (apV V 1 r.2.2.1 r.2.2.2.length).2.2 5 = V.2.2 5 + 12 + r.2.2.2.length := rfl
              have eZr : rcZ r = 12 + r.2.2.2.length := rfl
              omega
        · rw [if_neg hrm, if_neg hrm]
          exact ⟨hc, fun _ => Or.inr (Or.inr ⟨hF, fun _ z => absurd z hrm, fun z => by rw [z] at hl; cases hl⟩), stop⟩
      · rw [if_neg hl, if_neg hl]
        have hcond : ∀ x e, ent V.2.1 V.1 x = some e → e.1 = 1 → p + rcZ r ≤ e.2.2 := fun x en hx hx1 => by
          rcases far x en hx hx1 with z | z
          · exfalso
            apply hl
            unfold liv
            rw [← z.1, hx]
            exact decide_eq_true ⟨hx1, z.2⟩
          · exact z
        obtain ⟨i1, i2, i3⟩ := ih s V (p + rcZ r) (k + 1) (dn ++ [r]) l2 e3 hp3 hc (fun w => ⟨a1, a2, by omega, hcond⟩)
        refine ⟨i1, fun w => Or.inr (Or.inr ⟨hF, fun z => absurd z hl, fun _ => i2 w⟩), fun w => ?_⟩
        obtain ⟨dn', td', j1, j2, j3, j4, j5, j6, j7, j8⟩ := i3 w
        exact ⟨dn', td', j1, j2, by omega, j4, j5, j6, j7, by omega⟩
