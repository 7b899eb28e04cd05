/-! PART 62: Keeper.appendAll -/
/-- a record to be written: kind, key, value -/
abbrev bR : Type := Nat × Nat × List Nat
def bOK (x : bR) : Prop := 0 < x.1 ∧ x.1 < 3 ∧ x.2.1 < 120 ∧ x.2.2.length ≤ 64 ∧ by8 x.2.2
/-- the batch of the class -/
def bX (iv : Nat → Int32) (av : Nat → Nat → Int32) (b : List bR) : Prop := iv 7 = nI b.length ∧ b.length ≤ 8 ∧ ∀ i x, b[i]? = some x → bOK x ∧ av 29 i = nI x.1 ∧ av 30 i = nI x.2.1 ∧ av 31 i = nI x.2.2.length ∧ ∀ k, k < x.2.2.length → av (32 + i) k = lB x.2.2 k
theorem bX_ext {iv iv' : Nat → Int32} {av av' : Nat → Nat → Int32} {b : List bR} (h : bX iv av b) (hi : iv' 7 = iv 7) (ha : ∀ j, 29 ≤ j → j ≤ 39 → av' j = av j) : bX iv' av' b := by
  refine ⟨hi.trans h.1, h.2.1, fun i x hx => ?_⟩
  obtain ⟨g1, g2, g3, g4, g5⟩ := h.2.2 i x hx
  have hl := (List.getElem?_eq_some_iff.mp hx).1
  have h8 := h.2.1
  rw [ha 29 (by omega) (by omega), ha 30 (by omega) (by omega), ha 31 (by omega) (by omega), ha (32 + i) (by omega) (by omega)]
  exact ⟨g1, g2, g3, g4, g5⟩
/-- the mark of a record that is not its batch's last -/
def gO (l : List bR) : Nat := if l.length = 0 then 0 else 128
/-- all records of a batch -/
def aaS (rm : Nat) : List bR → dS → vW → dS
  | [], s, _ => s
  | x :: l, s, V => aaS rm l (apS rm s (x.1 + gO l) x.2.1 x.2.2 (V.2.2 5) (V.2.2 6)) (apV V x.1 x.2.1 x.2.2.length)
def aaV : List bR → vW → vW
  | [], V => V
  | x :: l, V => aaV l (apV V x.1 x.2.1 x.2.2.length)
def szW (l : List bR) : Nat := (l.map (fun x => 24 + x.2.2.length)).sum
theorem cp_apS {rm : Nat} {s : dS} {k key h n c b : Nat} {val : List Nat} (hc : cp s (c + 3) (24 + val.length + b)) : cp (apS rm s k key val h n) c b := by
  unfold apS
  split
  · rename_i h0
    exact cp_wr (cp_wr (cp_le hc (by omega) (by show 12 + (12 + b) ≤ _; omega)))
  · exact cp_wr (cp_wr (cp_wr (cp_le hc (by omega) (by show 12 + (val.length + (12 + b)) ≤ _; omega))))
theorem gBv {rm i : Nat} {r : pW} (hi : i < 8) : ∀ iv av, gt_a (wX rm iv av r) (41 + i + 1) = some (1, 64, .inl (av (32 + i))) := by
  intro iv av
  have : i = 0 ∨ i = 1 ∨ i = 2 ∨ i = 3 ∨ i = 4 ∨ i = 5 ∨ i = 6 ∨ i = 7 := by omega
  rcases this with rfl | rfl | rfl | rfl | rfl | rfl | rfl | rfl <;> rfl
section S62
variable {Lx : Nat} {xs : Nat → Int32} {d rm : Nat} {r : pW} {Q : rQ}
set_option maxRecDepth 20000 in
theorem lp_aa (hr : 512 ≤ rm ∧ rm ≤ 4096) {b : List bR} : ∀ (l : List bR) (i : Nat) (iv : Nat → Int32) (av : Nat → Nat → Int32) (s : dS) (V : vW) (x3 : Option Value), b.drop i = l → i ≤ b.length → bX iv av b → dX rm iv av s → vX 0 iv av V → kz av → cp s (3 * l.length) (szW l) → V.2.2 5 + 76 * l.length < 2 ^ 30 - 200 ∧ V.2.2 6 + l.length < 2 ^ 30 - 200 →
    (∀ iv' av', dX rm iv' av' (aaS rm l s V) → vX 0 iv' av' (aaV l V) → kz av' → frI iv iv' [0, 1, 2, 5, 15, 16, 30] → frA av av' [0, 1, 2, 3, 10, 11, 12, 26] → Q none (wX rm iv' av' r)) → pz Lx xs (d + 3) rt_32 none Q 2 [some (.ref 13), some (.ref 37), some (.int (nI i)), x3] [] (wX rm iv av r) := by
  intro l
  induction l with
  | nil =>
    intro i iv av s V x3 hdr hi hb hd hV hz hc hbd hQ
    have hib : i = b.length := by have := List.drop_eq_nil_iff.mp hdr; omega
    subst hib
    refine pz_iln (i := 2) rfl rfl ?_
    refine pz_aln (i := 3) rfl rfl ?_
    refine pz_get (i := 4) rfl (gf_37_4 ..) ?_
    rw [hb.1]
    refine pz_ii_ge (i := 5) rfl (fun c5 => ?_) (fun c5 => ?_)
    · refine pz_vr (i := 38) rfl rfl ?_
      exact hQ iv av hd hV hz (frI_rfl _ _) (frA_rfl _ _)
    · exact absurd (Int32.le_refl _) c5
  | cons x l ih =>
    intro i iv av s V x3 hdr hi hb hd hV hz hc hbd hQ
    have hxi : b[i]? = some x := by
      have := congrArg List.head? hdr
      rw [List.head?_drop] at this
      exact this
    have hlen : b.length = i + l.length + 1 := by
      have := congrArg List.length hdr
      rw [List.length_drop] at this
      simp only [List.length_cons] at this
      omega
    have hb8 := hb.2.1
    obtain ⟨⟨k1, k2, k3, k4, k5⟩, a29, a30, a31, a32⟩ := hb.2.2 i x hxi
    have hdr2 : b.drop (i + 1) = l := by
      rw [← List.drop_drop, hdr]
      rfl
    simp only [List.length_cons] at hc hbd
    have hsz : szW (x :: l) = 24 + x.2.2.length + szW l := by simp [szW]
    have e7 : iv 7 = nI (i + l.length + 1) := by rw [hb.1, hlen]
    refine pz_iln (i := 2) rfl rfl ?_
    refine pz_aln (i := 3) rfl rfl ?_
    refine pz_get (i := 4) rfl (gf_37_4 ..) ?_
    rw [e7]
    refine pz_ii_ge (i := 5) rfl (fun c5 => ?_) (fun c5 => ?_)
    · exact absurd (le_ofI c5) (by omega)
    · refine pz_iln (i := 6) rfl rfl ?_
      refine pz_aln (i := 7) rfl rfl ?_
      refine pz_get (i := 8) rfl (gf_37_4 ..) ?_
      rw [e7]
      refine pz_ic (i := 9) rfl ?_
      refine pz_sub (i := 10) rfl ?_
      rw [nI_pred]
      refine pz_ii_ge (i := 11) rfl (fun c11 => ?_) (fun c11 => ?_)
      · have hor : nI x.1 ||| 0 = nI (x.1 + gO l) := by
          have hg : gO l = 0 := by
            unfold gO
            rw [if_pos (by have := le_ofI c11; omega)]
          rw [hg]
          have : x.1 = 1 ∨ x.1 = 2 := by omega
          rcases this with h | h <;> rw [h] <;> decide
        refine pz_ic (i := 14) rfl ?_
        refine pz_isn (i := 15) rfl ⟨rfl, Nat.le_of_ble_eq_true rfl⟩ rfl ?_
        refine pz_aln (i := 16) rfl rfl ?_
        refine pz_aln (i := 17) rfl rfl ?_
        refine pz_get (i := 18) rfl (gf_37_0 ..) ?_
        refine pz_iln (i := 19) rfl rfl ?_
        refine pz_ial (i := 20) rfl (ga_38 ..) (in_ofI (by omega)) ?_
        rw [cl_ofI (a := i), a29]
        refine pz_iln (i := 21) rfl rfl ?_
        refine pz_or (i := 22) rfl ?_
        rw [hor]
        refine pz_aln (i := 23) rfl rfl ?_
        refine pz_get (i := 24) rfl (gf_37_1 ..) ?_
        refine pz_iln (i := 25) rfl rfl ?_
        refine pz_ial (i := 26) rfl (ga_39 ..) (in_ofI (by omega)) ?_
        rw [cl_ofI (a := i), a30]
        refine pz_aln (i := 27) rfl rfl ?_
        refine pz_get (i := 28) rfl (gf_37_3 ..) ?_
        refine pz_iln (i := 29) rfl rfl ?_
        refine pz_aal (i := 30) rfl (ga_41 ..) (in_ofI (by omega)) (show _ = some (41 + i + 1) by rw [cl_ofI (a := i), if_pos (by omega)]; congr 1; omega) ?_
        refine pz_aln (i := 31) rfl rfl ?_
        refine pz_get (i := 32) rfl (gf_37_2 ..) ?_
        refine pz_iln (i := 33) rfl rfl ?_
        refine pz_ial (i := 34) rfl (ga_40 ..) (in_ofI (by omega)) ?_
        rw [cl_ofI (a := i), a31]
        refine pz_cV4 (i := 35) rfl (gc_13 ..) rfl (Nat.le_of_ble_eq_true rfl) rfl ?_
        refine sx_append hr (kd := x.1) (gg := gO l) (key := x.2.1) (ρ := 41 + i) (a := 32 + i) (val := x.2.2) ⟨k1, k2⟩ (by unfold gO; split <;> simp) k3 k4 (gBv (by omega)) (by omega) a32 hd hV hz (cp_le hc (by omega) (by omega)) (by omega) (fun iv1 av1 hd1 hV1 hz1 fi1 fa1 => ?_)
        refine ⟨rfl, ?_⟩
        refine pz_inc (i := 36) rfl rfl rfl rfl ?_
        refine pz_go (i := 37) rfl ?_
        rw [nI_1]
        refine ih (i + 1) iv1 av1 _ _ _ hdr2 (by omega) (bX_ext hb (fi1 7 (by decide)) (fun j h1 h2 => fa1 j (by simp only [List.mem_cons, List.not_mem_nil, or_false, not_or]; omega))) hd1 hV1 hz1 (cp_apS (cp_le hc (by omega) (by omega))) ?_ (fun iv2 av2 g1 g2 g3 g4 g5 => hQ iv2 av2 g1 g2 g3 (frI_tr fi1 g4 (by decide) (by decide)) (frA_tr fa1 g5 (by decide) (by decide)))
        show vs (vs V.2.2 5 (V.2.2 5 + 12 + x.2.2.length)) 6 (V.2.2 6 + 1) 5 + _ < _ ∧ vs (vs V.2.2 5 (V.2.2 5 + 12 + x.2.2.length)) 6 (V.2.2 6 + 1) 6 + _ < _
        rw [vs_s, vs_n (by decide), vs_s]
        omega
      · have hor : nI x.1 ||| 128 = nI (x.1 + gO l) := by
          have hg : gO l = 128 := by
            unfold gO
            rw [if_neg (by have := nle_ofI c11; omega)]
          rw [hg]
          have : x.1 = 1 ∨ x.1 = 2 := by omega
          rcases this with h | h <;> rw [h] <;> decide
        refine pz_si (i := 12) rfl ?_
        refine pz_go (i := 13) rfl ?_
        refine pz_isn (i := 15) rfl ⟨rfl, Nat.le_of_ble_eq_true rfl⟩ rfl ?_
        refine pz_aln (i := 16) rfl rfl ?_
        refine pz_aln (i := 17) rfl rfl ?_
        refine pz_get (i := 18) rfl (gf_37_0 ..) ?_
        refine pz_iln (i := 19) rfl rfl ?_
        refine pz_ial (i := 20) rfl (ga_38 ..) (in_ofI (by omega)) ?_
        rw [cl_ofI (a := i), a29]
        refine pz_iln (i := 21) rfl rfl ?_
        refine pz_or (i := 22) rfl ?_
        rw [hor]
        refine pz_aln (i := 23) rfl rfl ?_
        refine pz_get (i := 24) rfl (gf_37_1 ..) ?_
        refine pz_iln (i := 25) rfl rfl ?_
        refine pz_ial (i := 26) rfl (ga_39 ..) (in_ofI (by omega)) ?_
        rw [cl_ofI (a := i), a30]
        refine pz_aln (i := 27) rfl rfl ?_
        refine pz_get (i := 28) rfl (gf_37_3 ..) ?_
        refine pz_iln (i := 29) rfl rfl ?_
        refine pz_aal (i := 30) rfl (ga_41 ..) (in_ofI (by omega)) (show _ = some (41 + i + 1) by rw [cl_ofI (a := i), if_pos (by omega)]; congr 1; omega) ?_
        refine pz_aln (i := 31) rfl rfl ?_
        refine pz_get (i := 32) rfl (gf_37_2 ..) ?_
        refine pz_iln (i := 33) rfl rfl ?_
        refine pz_ial (i := 34) rfl (ga_40 ..) (in_ofI (by omega)) ?_
        rw [cl_ofI (a := i), a31]
        refine pz_cV4 (i := 35) rfl (gc_13 ..) rfl (Nat.le_of_ble_eq_true rfl) rfl ?_
        refine sx_append hr (kd := x.1) (gg := gO l) (key := x.2.1) (ρ := 41 + i) (a := 32 + i) (val := x.2.2) ⟨k1, k2⟩ (by unfold gO; split <;> simp) k3 k4 (gBv (by omega)) (by omega) a32 hd hV hz (cp_le hc (by omega) (by omega)) (by omega) (fun iv1 av1 hd1 hV1 hz1 fi1 fa1 => ?_)
        refine ⟨rfl, ?_⟩
        refine pz_inc (i := 36) rfl rfl rfl rfl ?_
        refine pz_go (i := 37) rfl ?_
        rw [nI_1]
        refine ih (i + 1) iv1 av1 _ _ _ hdr2 (by omega) (bX_ext hb (fi1 7 (by decide)) (fun j h1 h2 => fa1 j (by simp only [List.mem_cons, List.not_mem_nil, or_false, not_or]; omega))) hd1 hV1 hz1 (cp_apS (cp_le hc (by omega) (by omega))) ?_ (fun iv2 av2 g1 g2 g3 g4 g5 => hQ iv2 av2 g1 g2 g3 (frI_tr fi1 g4 (by decide) (by decide)) (frA_tr fa1 g5 (by decide) (by decide)))
        show vs (vs V.2.2 5 (V.2.2 5 + 12 + x.2.2.length)) 6 (V.2.2 6 + 1) 5 + _ < _ ∧ vs (vs V.2.2 5 (V.2.2 5 + 12 + x.2.2.length)) 6 (V.2.2 6 + 1) 6 + _ < _
        rw [vs_s, vs_n (by decide), vs_s]
        omega
set_option maxRecDepth 20000 in
theorem sx_appendAll (hr : 512 ≤ rm ∧ rm ≤ 4096) {b : List bR} {iv : Nat → Int32} {av : Nat → Nat → Int32} {s : dS} {V : vW} (hb : bX iv av b) (hd : dX rm iv av s) (hV : vX 0 iv av V) (hz : kz av) (hc : cp s (3 * b.length) (szW b)) (hbd : V.2.2 5 + 76 * b.length < 2 ^ 30 - 200 ∧ V.2.2 6 + b.length < 2 ^ 30 - 200)
    (hQ : ∀ iv' av', dX rm iv' av' (aaS rm b s V) → vX 0 iv' av' (aaV b V) → kz av' → frI iv iv' [0, 1, 2, 5, 15, 16, 30] → frA av av' [0, 1, 2, 3, 10, 11, 12, 26] → Q none (wX rm iv' av' r)) : rx_R Lx xs (d + 4) 32 [.ref 13, .ref 37] (wX rm iv av r) Q := by
  refine pz_en (t := rt_32) ⟨Nat.le_of_ble_eq_true rfl, rfl⟩ rfl rfl ?_
  refine pz_ic (i := 0) rfl ?_
  refine pz_isn (i := 1) rfl ⟨rfl, Nat.le_of_ble_eq_true rfl⟩ rfl ?_
  exact lp_aa hr b 0 iv av s V none rfl (by omega) hb hd hV hz hc hbd hQ
end S62
