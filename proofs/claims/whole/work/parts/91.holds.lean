/-! PART 91: what the disk holds: places of the log, the root, the tables -/
theorem md_inj {rm a x y : Nat} (h1 : a ≤ x) (h2 : x < a + rm) (h3 : a ≤ y) (h4 : y < a + rm) (h : x % rm = y % rm) : x = y := by
  have key : ∀ u v : Nat, u ≤ v → v < u + rm → u % rm = v % rm → u = v := fun u v g1 g2 g3 => by
    have h5 := Nat.div_add_mod u rm
    have h6 := Nat.div_add_mod v rm
    rw [g3] at h5
    rcases Nat.lt_or_ge (u / rm) (v / rm) with z | z
    · have : rm * (u / rm + 1) ≤ rm * (v / rm) := Nat.mul_le_mul_left _ z
      rw [Nat.mul_add] at this
      omega
    · have : rm * (v / rm) ≤ rm * (u / rm) := Nat.mul_le_mul_left _ z
      omega
  rcases Nat.le_total x y with z | z
  · exact key x y z (by omega) h
  · exact (key y x z (by omega) h.symm).symm
theorem nx_md {rm q i : Nat} (hr : 0 < rm) : nx rm (q % rm) i = (q + i) % rm := by
  unfold nx
  rw [if_pos (Nat.mod_lt _ hr), Nat.mod_add_mod]
theorem lg_out {rm q m p a : Nat} {g c : Nat → Int32} (hr : 0 < rm) (h1 : a ≤ p) (h2 : p < a + rm) (h3 : a ≤ q) (h4 : q + m ≤ a + rm) (h5 : p < q ∨ q + m ≤ p) : bN (ap rm c (q % rm, m, g)) (p % rm) = bN c (p % rm) := by
  refine ap_else (fun i hi z => ?_)
  rw [nx_md hr] at z
  have := md_inj (a := a) (by omega) (by omega) h1 h2 z
  omega
theorem lg_hi {rm q m j : Nat} {g c : Nat → Int32} (hr : 0 < rm) (hj : rm ≤ j) : bN (ap rm c (q % rm, m, g)) j = bN c j := by
  refine ap_else (fun i hi z => ?_)
  rw [nx_md hr] at z
  have := Nat.mod_lt (q + i) hr
  omega
theorem lg_in {rm q m i : Nat} {l : List Nat} {c : Nat → Int32} (hr : 0 < rm) (hl : by8 l) (hi : i < m) (hm : m ≤ rm) : bN (ap rm c (q % rm, m, lB l)) ((q + i) % rm) = l.getD i 0 := by
  have := ap_in (rm := rm) (c := q % rm) (f := c) hl hi (fun _ => hm)
  rw [nx_md hr] at this
  exact this
/-- the same bytes -/
def sB8 (c c' : Nat → Int32) : Prop := ∀ j, bN c' j = bN c j
theorem qN_ext {c c' : Nat → Int32} {q : Nat} (h : ∀ j, j < 4 → bN c' (q + j) = bN c (q + j)) : qN c' q = qN c q := by
  unfold qN
  rw [show bN c' q = bN c q from h 0 (by decide), h 1 (by decide), h 2 (by decide), h 3 (by decide)]
theorem qL_ext {rm : Nat} {c c' : Nat → Int32} {q : Nat} (h : ∀ j, j < 4 → bN c' ((q + j) % rm) = bN c ((q + j) % rm)) : qL rm c' q = qL rm c q := by
  unfold qL
  rw [show bN c' (q % rm) = bN c (q % rm) from h 0 (by decide), h 1 (by decide), h 2 (by decide), h 3 (by decide)]
theorem sOld_ext {rm k ver : Nat} {c c' : Nat → Int32} (h : ∀ j, j < 64 → bN c' (slC rm k + j) = bN c (slC rm k + j)) (hs : sOld rm c k ver) : sOld rm c' k ver := by
  unfold sOld at hs ⊢
  rw [qN_ext (c := c) (c' := c') (q := slC rm k + 60) (fun j hj => by rw [Nat.add_assoc]; exact h (60 + j) (by omega)), qN_ext (c := c) (c' := c') (q := slC rm k) (fun j hj => h j (by omega))]
  exact hs
theorem sOld_mono {rm k v v' : Nat} {c : Nat → Int32} (hv : v ≤ v') (hs : sOld rm c k v) : sOld rm c k v' := hs.elim Or.inl (fun h => Or.inr ⟨h.1, fun z => Nat.lt_of_lt_of_le (h.2 z) hv⟩)
theorem slC_ge (rm k : Nat) : rm ≤ slC rm k := by unfold slC; omega
theorem rtI_ext {rm : Nat} {c c' : Nat → Int32} {V : vW} (h : ∀ k, k < 2 → ∀ j, j < 64 → bN c' (slC rm k + j) = bN c (slC rm k + j)) (hI : rtI rm c V) : rtI rm c' V := by
  obtain ⟨h1, h2, h3, h4⟩ := hI
  refine ⟨h1, h2, h3, h4.elim (fun g => Or.inl ⟨g.1, sOld_ext (h 0 (by decide)) g.2.1, sOld_ext (h 1 (by decide)) g.2.2.1, g.2.2.2⟩) (fun g => Or.inr ⟨g.1, fun i hi => ?_, ?_, sOld_ext (h _ (Nat.mod_lt _ (by decide))) g.2.2.2⟩)⟩
  · have hl := rtB_len (V := V) (by omega)
    rw [h _ (Nat.mod_lt _ (by decide)) i (by omega)]
    exact g.2.1 i hi
  · rw [qN_ext (c := c) (c' := c') (fun j hj => by rw [Nat.add_assoc]; exact h _ (Nat.mod_lt _ (by decide)) (60 + j) (by omega))]
    exact g.2.2.1
/-- the numbers 5, 6 are not the root's -/
theorem rtI_num {rm : Nat} {c : Nat → Int32} {V W : vW} (h1 : W.1 = V.1) (hn : ∀ i, i = 1 ∨ i = 2 ∨ i = 3 ∨ i = 4 ∨ i = 7 → W.2.2 i = V.2.2 i) (hb : W.2.2 5 < 2 ^ 30 ∧ W.2.2 6 < 2 ^ 30) (hI : rtI rm c V) : rtI rm c W := by
  have e1 := hn 1 (by decide)
  have e2 := hn 2 (by decide)
  have e3 := hn 3 (by decide)
  have e4 := hn 4 (by decide)
  have e7 := hn 7 (by decide)
  obtain ⟨g1, g2, g3, g4⟩ := hI
  have eB : rtB W = rtB V := by
    unfold rtB
    rw [e1, e2, e3, e4, e7, h1]
  refine ⟨by rw [h1]; exact g1, by rw [h1]; exact g2, fun i i1 i2 => ?_, ?_⟩
  · have : i = 1 ∨ i = 2 ∨ i = 3 ∨ i = 4 ∨ i = 7 ∨ i = 5 ∨ i = 6 := by omega
    rcases this with z | z | z | z | z | z | z
    · subst z; rw [e1]; exact g3 1 i1 i2
    · subst z; rw [e2]; exact g3 2 i1 i2
    · subst z; rw [e3]; exact g3 3 i1 i2
    · subst z; rw [e4]; exact g3 4 i1 i2
    · subst z; rw [e7]; exact g3 7 i1 i2
    · subst z; exact hb.1
    · subst z; exact hb.2
  · rw [e1, e2, e3, e4, e7, h1, eB]
    exact g4
theorem atL_ext {rm p : Nat} {c c' : Nat → Int32} {l : List Nat} (h : ∀ q, p ≤ q → q < p + l.length → bN c' (q % rm) = bN c (q % rm)) (hl : atL rm c p l) : atL rm c' p l := fun i hi => by
  rw [h (p + i) (by omega) (by omega)]
  exact hl i hi
/-- the entries of the keys with a value have their records in the log -/
def eD (V : vW) (l1 l : List lR) : Prop := ∀ k e, ent (rpM (V.2.2 2) (V.2.2 3) m0 l) V.1 k = some e → e.1 = 1 → ∃ i r, (l1 ++ l)[i]? = some r ∧ r.1 = 1 ∧ r.2.2.1 = k ∧ e.2.1 = V.2.2 3 - l1.length + i ∧ e.2.2 = V.2.2 4 + lgZ ((l1 ++ l).take i)
/-- the log on the disk: l1 from the tail to the checkpoint, l2 behind it -/
def lD (rm : Nat) (c : Nat → Int32) (V : vW) (l1 l2 : List lR) : Prop := (∀ r ∈ l1 ++ l2, rcOK r) ∧ atL rm c (V.2.2 4) (lgB (V.2.2 3 - l1.length) (l1 ++ l2)) ∧ V.2.2 4 + lgZ l1 = V.2.2 2 ∧ l1.length < V.2.2 3 ∧
  qL rm c (V.2.2 2 + lgZ l2 + 8) ≠ V.2.2 3 + l2.length ∧ V.2.2 2 + lgZ l2 + 12 ≤ V.2.2 4 + rm ∧ 12 * (V.2.2 3 + l2.length) ≤ V.2.2 2 + lgZ l2 + 12 ∧ 12 * V.2.2 3 ≤ V.2.2 2 + 12
/-- the tables -/
def tD (rm : Nat) (c : Nat → Int32) (us : List tB) : Prop := (∀ t ∈ us, tE rm c t) ∧ lvOK us ∧ (pls us).Nodup ∧ ∀ t ∈ us, 0 < (kS t.2.2.2).length
def fD (rm : Nat) (c : Nat → Int32) (V : vW) (l1 l2 : List lR) : Prop := rtI rm c V ∧ tD rm c V.1 ∧ lD rm c V l1 l2 ∧ eD V l1 (tkn [] l2)
/-- the view that an opening finds -/
def oW (V : vW) (l2 : List lR) : Prop := V.2.1 = rpM (V.2.2 2) (V.2.2 3) m0 (tkn [] l2) ∧ V.2.2 5 = V.2.2 2 + lgZ (tkn [] l2) ∧ V.2.2 6 = V.2.2 3 + (tkn [] l2).length
def bdK (K : Nat) (V : vW) (l2 : List lR) : Prop := V.2.2 1 ≤ K ∧ V.2.2 7 ≤ K ∧ V.2.2 2 + lgZ l2 ≤ K
/-- a disk that can be opened -/
def opn (rm K : Nat) (c : Nat → Int32) : Prop := ∃ V l1 l2, fD rm c V l1 l2 ∧ oW V l2 ∧ bdK K V l2
theorem opn_K {rm K K' : Nat} {c : Nat → Int32} (h : opn rm K c) (hK : K ≤ K') : opn rm K' c := by
  obtain ⟨V, l1, l2, h1, h2, h3⟩ := h
  exact ⟨V, l1, l2, h1, h2, Nat.le_trans h3.1 hK, Nat.le_trans h3.2.1 hK, Nat.le_trans h3.2.2 hK⟩
theorem tD_ext {rm : Nat} {c c' : Nat → Int32} {us : List tB} (h : ∀ t ∈ us, ∀ j, j < 1300 → bN c' (rm + t.1 * 1300 + j) = bN c (rm + t.1 * 1300 + j)) (hI : tD rm c us) : tD rm c' us := ⟨fun t ht => tE_ext (hI.1 t ht) (h t ht), hI.2⟩
theorem lD_ext {rm : Nat} {c c' : Nat → Int32} {V : vW} {l1 l2 : List lR} (h : ∀ p, V.2.2 4 ≤ p → p < V.2.2 2 + lgZ l2 → bN c' (p % rm) = bN c (p % rm)) (hq : qL rm c' (V.2.2 2 + lgZ l2 + 8) ≠ V.2.2 3 + l2.length) (hI : lD rm c V l1 l2) : lD rm c' V l1 l2 := by
  obtain ⟨h1, h2, h3, h4, _, h6⟩ := hI
  refine ⟨h1, atL_ext (fun q q1 q2 => h q q1 ?_) h2, h3, h4, hq, h6⟩
  rw [lgB_len, lgZ_app] at q2
  omega
/-- a write to the log behind its end -/
theorem fD_log {rm : Nat} {c c' : Nat → Int32} {V : vW} {l1 l2 : List lR} (hh : ∀ j, rm ≤ j → bN c' j = bN c j) (h : ∀ p, V.2.2 4 ≤ p → p < V.2.2 2 + lgZ l2 → bN c' (p % rm) = bN c (p % rm)) (hq : qL rm c' (V.2.2 2 + lgZ l2 + 8) ≠ V.2.2 3 + l2.length) (hI : fD rm c V l1 l2) : fD rm c' V l1 l2 :=
  ⟨rtI_ext (fun k _ j _ => hh _ (by have := slC_ge rm k; omega)) hI.1, tD_ext (fun t _ j _ => hh _ (by omega)) hI.2.1, lD_ext h hq hI.2.2.1, hI.2.2.2⟩
/-- the same bytes -/
theorem fD_same {rm : Nat} {c c' : Nat → Int32} {V : vW} {l1 l2 : List lR} (h : sB8 c c') (hI : fD rm c V l1 l2) : fD rm c' V l1 l2 :=
  fD_log (fun j _ => h j) (fun p _ _ => h _) (by rw [qL_ext (fun j _ => h _)]; exact hI.2.2.1.2.2.2.2.1) hI
theorem opn_same {rm K : Nat} {c c' : Nat → Int32} (h : sB8 c c') (hI : opn rm K c) : opn rm K c' := by
  obtain ⟨V, l1, l2, h1, h2⟩ := hI
  exact ⟨V, l1, l2, fD_same h h1, h2⟩
/-- what is on the disk opens as V -/
theorem fD_lgI {rm : Nat} {c : Nat → Int32} {V : vW} {l1 l2 : List lR} (hI : fD rm c V l1 l2) (ho : oW V l2) {K : Nat} (hK : bdK K V l2) (hb : K < 2 ^ 30 - 6000) : lgI rm c V l2 := by
  obtain ⟨⟨_, _, hb3, _⟩, _, ⟨h1, h2, h3, h4, h5, h6, h7⟩, _⟩ := hI
  rw [lgB_app, atL_app, lgB_len, h3, show V.2.2 3 - l1.length + l1.length = V.2.2 3 by omega] at h2
  refine ⟨fun r hr => h1 r (List.mem_append_right _ hr), h2.2, h5, h6, by omega, ?_, ?_, ho.2.1, ho.2.2, ho.1⟩
  · have := hK.2.2
    omega
  · have := hK.2.2
    omega
