/-! PART 92: whenever the power fails the disk can be opened: writes, syncs, a record behind the log -/
theorem fD_num {rm : Nat} {c : Nat → Int32} {V W : vW} {l1 l2 : List lR} (h1 : W.1 = V.1) (hn : ∀ i, i = 1 ∨ i = 2 ∨ i = 3 ∨ i = 4 ∨ i = 7 → W.2.2 i = V.2.2 i) (hb : W.2.2 5 < 2 ^ 30 ∧ W.2.2 6 < 2 ^ 30) (hI : fD rm c V l1 l2) : fD rm c W l1 l2 := by
  obtain ⟨g1, g2, g3, g4⟩ := hI
  have e2 := hn 2 (by decide)
  have e3 := hn 3 (by decide)
  have e4 := hn 4 (by decide)
  refine ⟨rtI_num h1 hn hb g1, by rw [h1]; exact g2, ?_, ?_⟩
  · unfold lD at g3 ⊢
    rw [e2, e3, e4]
    exact g3
  · unfold eD at g4 ⊢
    rw [e2, e3, e4, h1]
    exact g4
theorem opn_of {rm K : Nat} {c : Nat → Int32} {V : vW} {l1 l2 : List lR} (hI : fD rm c V l1 l2) (hK : bdK K V l2) (hb : K < 2 ^ 30 - 6000) : opn rm K c := by
  refine ⟨(V.1, rpM (V.2.2 2) (V.2.2 3) m0 (tkn [] l2), vs (vs V.2.2 5 (V.2.2 2 + lgZ (tkn [] l2))) 6 (V.2.2 3 + (tkn [] l2).length)), l1, l2, fD_num (V := V) rfl (fun i hi => ?_) ⟨?_, ?_⟩ hI, ⟨rfl, rfl, rfl⟩, hK⟩
  · show vs (vs V.2.2 5 _) 6 _ i = _
    rw [vs_n (by omega), vs_n (by omega)]
  · show V.2.2 2 + lgZ (tkn [] l2) < _
    have := tkn_lgZ l2 []
    have h2 : lgZ ([] : List lR) = 0 := rfl
    have := hK.2.2
    omega
  · show V.2.2 3 + (tkn [] l2).length < _
    have h1 := tkn_len l2 []
    have h2 : ([] : List lR).length = 0 := rfl
    have h3 := hI.2.2.1.2.2.2.2.2.2
    have := hK.2.2
    omega
/-- whenever the power fails, the disk can be opened -/
def cS (rm K : Nat) (s : dS) : Prop := ∀ keep cut, opn rm K (cr rm s.1 s.2.1 keep cut)
theorem cS_K {rm K K' : Nat} {s : dS} (h : cS rm K s) (hK : K ≤ K') : cS rm K' s := fun k c => opn_K (h k c) hK
theorem cS_wr {rm K : Nat} {s : dS} {x : wR} (h : cS rm K s) (hx : s.2.2.2.2.2 = false → ∀ m, m ≤ x.2.1 → opn rm K (ap rm (cu rm s) (x.1, m, x.2.2))) : cS rm K (wr s x) := by
  unfold wr
  cases hs : s.2.2.2.2.2 with
  | true => exact h
  | false =>
    intro keep cut
    show opn rm K (cr rm s.1 (s.2.1 ++ [x]) keep cut)
    rcases Nat.lt_trichotomy keep s.2.1.length with z | z | z
    · have := h keep cut
      unfold cr at this ⊢
      rw [List.getElem?_append_left z, List.take_append_of_le_length (by omega)]
      rw [List.getElem?_eq_getElem z] at this ⊢
      exact this
    · subst z
      unfold cr
      rw [List.getElem?_append_right (Nat.le_refl _), Nat.sub_self, List.take_left']
      · exact hx hs _ (Nat.min_le_right _ _)
      · rfl
    · unfold cr
      rw [List.getElem?_eq_none (by rw [List.length_append]; exact z), List.foldl_append]
      exact hx hs x.2.1 (Nat.le_refl _)
theorem cS_sy {rm K : Nat} {s : dS} (h : cS rm K s) (hx : s.2.2.2.2.2 = false → opn rm K (cu rm s)) : cS rm K (sy rm s) := by
  unfold sy
  cases hs : s.2.2.2.2.2 with
  | true => exact h
  | false => exact fun keep cut => hx hs
theorem tkn_snoc : ∀ (l w : List lR) (r : lR), tkn w (l ++ [r]) = if r.2.1 = 0 then w ++ l ++ [r] else tkn w l
  | [], w, r => by
    show (if r.2.1 = 0 then w ++ r :: tkn [] [] else tkn (w ++ [r]) []) = _
    split
    · rw [List.append_nil]; rfl
    · rfl
  | x :: l, w, r => by
    show (if x.2.1 = 0 then w ++ x :: tkn [] (l ++ [r]) else tkn (w ++ [x]) (l ++ [r])) = if r.2.1 = 0 then w ++ (x :: l) ++ [r] else (if x.2.1 = 0 then w ++ x :: tkn [] l else tkn (w ++ [x]) l)
    rw [tkn_snoc l [] r, tkn_snoc l (w ++ [x]) r]
    split <;> split <;> simp
theorem eD_snoc {V : vW} {l1 l : List lR} {r : lR} (hm : V.2.2 4 + lgZ l1 = V.2.2 2) (hn : l1.length < V.2.2 3) (h : eD V l1 l) : eD V l1 (l ++ [r]) := by
  intro k e he h1
  rw [rpM_app] at he
  by_cases hk : k = r.2.2.1
  · have e0 : e = (r.1, V.2.2 3 + l.length, V.2.2 2 + lgZ l) := by
      unfold ent at he
      have : rpM (V.2.2 2 + lgZ l) (V.2.2 3 + l.length) (rpM (V.2.2 2) (V.2.2 3) m0 l) [r] k = some (r.1, V.2.2 3 + l.length, V.2.2 2 + lgZ l) := by
        show upM _ r.2.2.1 _ k = _
        unfold upM
        rw [if_pos hk]
      rw [this] at he
      exact (Option.some.inj he).symm
    subst e0
    refine ⟨(l1 ++ l).length, r, ?_, h1, hk.symm, ?_, ?_⟩
    · rw [← List.append_assoc, List.getElem?_append_right (Nat.le_refl _), Nat.sub_self]
      rfl
    · show V.2.2 3 + l.length = _
      rw [List.length_append]
      omega
    · show V.2.2 2 + lgZ l = _
      rw [← List.append_assoc, List.take_left', lgZ_app]
      · omega
      · rfl
  · have : ent (rpM (V.2.2 2) (V.2.2 3) m0 l) V.1 k = some e := by
      rw [← he]
      unfold ent
      have : rpM (V.2.2 2 + lgZ l) (V.2.2 3 + l.length) (rpM (V.2.2 2) (V.2.2 3) m0 l) [r] k = rpM (V.2.2 2) (V.2.2 3) m0 l k := by
        show upM _ r.2.2.1 _ k = _
        unfold upM
        rw [if_neg hk]
      rw [this]
    obtain ⟨i, r', g1, g2, g3, g4, g5⟩ := h k e this h1
    have hi : i < (l1 ++ l).length := (List.getElem?_eq_some_iff.mp g1).1
    refine ⟨i, r', ?_, g2, g3, g4, ?_⟩
    · rw [← List.append_assoc, List.getElem?_append_left hi]
      exact g1
    · rw [← List.append_assoc, List.take_append_of_le_length (by omega)]
      exact g5
/-- a write to the log behind its next header -/
theorem fD_far {rm q m : Nat} {c g : Nat → Int32} {V : vW} {l1 l2 : List lR} (hr : 0 < rm) (hI : fD rm c V l1 l2) (hq : V.2.2 2 + lgZ l2 + 12 ≤ q) (hm : q + m ≤ V.2.2 4 + rm) : fD rm (ap rm c (q % rm, m, g)) V l1 l2 := by
  have h3 := hI.2.2.1.2.2.1
  have h6 := hI.2.2.1.2.2.2.2.2.1
  refine fD_log (fun j hj => lg_hi hr hj) (fun p h1 h2 => lg_out hr h1 (by omega) (by omega) hm (by omega)) ?_ hI
  rw [qL_ext (c := c) (fun j hj => lg_out hr (a := V.2.2 4) (by omega) (by omega) (by omega) hm (by omega))]
  exact hI.2.2.1.2.2.2.2.1
theorem atL_far {rm q m a p : Nat} {c g : Nat → Int32} {l : List Nat} (hr : 0 < rm) (h : atL rm c p l) (hp : a ≤ p) (hl : p + l.length ≤ a + rm) (hq : a ≤ q) (hm : q + m ≤ a + rm) (hd : p + l.length ≤ q ∨ q + m ≤ p) : atL rm (ap rm c (q % rm, m, g)) p l :=
  atL_ext (fun x h1 h2 => lg_out hr (a := a) (by omega) (by omega) hq hm (by omega)) h
theorem atL_wr {rm q : Nat} {c : Nat → Int32} {l : List Nat} (hr : 0 < rm) (hl : by8 l) (hm : l.length ≤ rm) : atL rm (ap rm c (wL (q % rm) l)) q l := fun i hi => lg_in hr hl hi hm
theorem z12_by : by8 z12 := fun x hx => by
  rw [(List.mem_replicate.mp hx).2]
  decide
theorem hdB_by {k key len n : Nat} (h1 : k < 256) (h2 : key < 256) (h3 : len < 256) : by8 (hdB k key len n) := fun x hx => by
  unfold hdB at hx
  rcases List.mem_cons.mp hx with rfl | hx
  · exact h1
  rcases List.mem_cons.mp hx with rfl | hx
  · exact h2
  rcases List.mem_cons.mp hx with rfl | hx
  · exact h3
  rcases List.mem_cons.mp hx with rfl | hx
  · decide
  exact (List.mem_append.mp hx).elim (n4_by n x) (n4_by n x)
theorem atL_0 {rm p : Nat} {c : Nat → Int32} (h : atL rm c p z12) {j : Nat} (hj : j < 12) : bN c ((p + j) % rm) = 0 := by
  rw [h j hj]
  unfold z12
  rw [List.getD_eq_getElem?_getD, List.getElem?_replicate, if_pos hj]
  rfl
theorem q4_eq {a3 a2 a1 a0 n : Nat} (h3 : a3 < 256) (h2 : a2 < 256) (h1 : a1 < 256) (h0 : a0 < 256) (h : q4 a3 a2 a1 a0 = n) : a3 = n / 16777216 % 256 ∧ a2 = n / 65536 % 256 ∧ a1 = n / 256 % 256 ∧ a0 = n % 256 := by
  unfold q4 at h
  omega
theorem qL_z {rm p : Nat} {c : Nat → Int32} (h : atL rm c p z12) : qL rm c (p + 8) = 0 := by
  unfold qL
  rw [atL_0 h (j := 8) (by decide), show p + 8 + 1 = p + 9 from rfl, show p + 8 + 2 = p + 10 from rfl, show p + 8 + 3 = p + 11 from rfl, atL_0 h (j := 9) (by decide), atL_0 h (j := 10) (by decide), atL_0 h (j := 11) (by decide)]
  rfl
/-- a header cut: it is not there yet, or its last bytes were there before -/
theorem hd_cut {rm h m n : Nat} {c : Nat → Int32} {k key len : Nat} (hr : 512 ≤ rm) (hb : by8 (hdB k key len n)) (hz : atL rm c h z12) (hn : 0 < n) (hm : m ≤ 12) (hq : qL rm (ap rm c (h % rm, m, lB (hdB k key len n))) (h + 8) = n) : sB8 (ap rm c (wL (h % rm) (hdB k key len n))) (ap rm c (h % rm, m, lB (hdB k key len n))) := by
  have hr0 : 0 < rm := by omega
  have hlen : (hdB k key len n).length = 12 := rfl
  have inn : ∀ i, i < m → bN (ap rm c (h % rm, m, lB (hdB k key len n))) ((h + i) % rm) = (hdB k key len n).getD i 0 := fun i hi => lg_in hr0 hb hi (by omega)
  have out : ∀ i, m ≤ i → i < 12 → bN (ap rm c (h % rm, m, lB (hdB k key len n))) ((h + i) % rm) = 0 := fun i h1 h2 => by
    rw [lg_out hr0 (a := h) (by omega) (by omega) (by omega) (by omega) (by omega)]
    exact atL_0 hz h2
  have q := q4_eq (bN_lt _ _) (bN_lt _ _) (bN_lt _ _) (bN_lt _ _) hq
  obtain ⟨q3, q2, q1, q0⟩ := q
  have tl : ∀ i, m ≤ i → i < 12 → (hdB k key len n).getD i 0 = 0 := fun i h1 h2 => by
    have o3 : m ≤ 8 → n / 16777216 % 256 = 0 := fun w => by rw [← q3]; exact out 8 w (by decide)
    have o2 : m ≤ 9 → n / 65536 % 256 = 0 := fun w => by rw [← q2]; exact out 9 w (by decide)
    have o1 : m ≤ 10 → n / 256 % 256 = 0 := fun w => by rw [← q1]; exact out 10 w (by decide)
    have o0 : m ≤ 11 → n % 256 = 0 := fun w => by rw [← q0]; exact out 11 w (by decide)
    have hm8 : 8 < m := by
      rcases Nat.lt_or_ge 8 m with w | w
      · exact w
      · have hn4 : n < 4294967296 := by rw [← hq]; exact q4_lt (bN_lt _ _) (bN_lt _ _) (bN_lt _ _) (bN_lt _ _)
        have := q4_n4 hn4
        rw [o3 w, o2 (by omega), o1 (by omega), o0 (by omega)] at this
        have e : q4 0 0 0 0 = 0 := rfl
        omega
    have : i = 9 ∨ i = 10 ∨ i = 11 := by omega
    rcases this with z | z | z
    · subst z; exact o2 (by omega)
    · subst z; exact o1 (by omega)
    · subst z; exact o0 (by omega)
  intro j
  by_cases hj : ∃ i, i < 12 ∧ j = (h + i) % rm
  · obtain ⟨i, hi, rfl⟩ := hj
    have full : bN (ap rm c (wL (h % rm) (hdB k key len n))) ((h + i) % rm) = (hdB k key len n).getD i 0 := lg_in (m := 12) hr0 hb hi (by omega)
    rw [full]
    rcases Nat.lt_or_ge i m with w | w
    · exact inn i w
    · rw [out i w hi, tl i w hi]
  · have f1 : bN (ap rm c (wL (h % rm) (hdB k key len n))) j = bN c j := ap_else (fun i hi z => hj ⟨i, hi, by rw [← z, nx_md hr0]⟩)
    have f2 : bN (ap rm c (h % rm, m, lB (hdB k key len n))) j = bN c j := ap_else (fun i hi z => hj ⟨i, by omega, by rw [← z, nx_md hr0]⟩)
    rw [f1, f2]
/-- the writes that are not lasting: since the head was at h0 -/
def pD (s : dS) (V : vW) : Prop := ∃ h0, V.2.2 4 ≤ h0 ∧ h0 ≤ V.2.2 5 ∧ 4 * s.2.1.length + h0 ≤ V.2.2 5 ∧ tot s.2.1 + 2 * h0 ≤ 2 * V.2.2 5
/-- a live store: l2 with what of a batch is there -/
def lv (rm K : Nat) (s : dS) (V : vW) (l1 l2 : List lR) : Prop := fD rm (cu rm s) V l1 l2 ∧ eD V l1 l2 ∧ V.2.1 = rpM (V.2.2 2) (V.2.2 3) m0 l2 ∧ V.2.2 5 = V.2.2 2 + lgZ l2 ∧ V.2.2 6 = V.2.2 3 + l2.length ∧ atL rm (cu rm s) (V.2.2 5) z12 ∧ pD s V ∧ bdK K V l2
theorem bdK_K {K K' : Nat} {V : vW} {l2 : List lR} (h : bdK K V l2) (hK : K ≤ K') : bdK K' V l2 := ⟨Nat.le_trans h.1 hK, Nat.le_trans h.2.1 hK, Nat.le_trans h.2.2 hK⟩
theorem lv_K {rm K K' : Nat} {s : dS} {V : vW} {l1 l2 : List lR} (h : lv rm K s V l1 l2) (hK : K ≤ K') : lv rm K' s V l1 l2 := ⟨h.1, h.2.1, h.2.2.1, h.2.2.2.1, h.2.2.2.2.1, h.2.2.2.2.2.1, h.2.2.2.2.2.2.1, bdK_K h.2.2.2.2.2.2.2 hK⟩
theorem lv_opn {rm K : Nat} {s : dS} {V : vW} {l1 l2 : List lR} (h : lv rm K s V l1 l2) (hb : K < 2 ^ 30 - 6000) : opn rm K (cu rm s) := opn_of h.1 h.2.2.2.2.2.2.2 hb
