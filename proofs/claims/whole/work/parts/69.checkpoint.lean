/-! PART 69: Keeper.makeCheckpoint -/
theorem lvX_of {rm : Nat} {av : Nat → Nat → Int32} {iv : Nat → Int32} {us : List tB} (hr : rm ≤ 4096) (hv : vT 0 iv av us) (ht : ∀ t ∈ us, tE rm (av 0) t) {i : Nat} {t : tB} (hi : us[i]? = some t) : lvX rm av i = nI t.2.1 := by
  have h := ht t (List.mem_of_getElem? hi)
  unfold lvX
  rw [show av 4 i = nI t.1 from hv.2.2 i t hi, show nI t.1 * 1300 = nI (t.1 * 1300) from pk_mul _ 1300, nI_add, show nI (rm + t.1 * 1300) + 1 = nI (rm + t.1 * 1300 + 1) from nI_add _ 1, bx_atN (by have := h.1; omega) hr, h.2.2.2.2.1]
theorem lvN_of {rm : Nat} {av : Nat → Nat → Int32} {iv : Nat → Int32} {us : List tB} (hr : rm ≤ 4096) (hv : vT 0 iv av us) (ht : ∀ t ∈ us, tE rm (av 0) t) {l c : Nat} (hl : l < 3) (hc : c ≤ us.length) (h1 : ∀ i, i < c → lvX rm av i ≤ nI l) (h2 : c < us.length → ¬ lvX rm av c ≤ nI l) : c = lvN us l := by
  refine (lvN_eq us l c hc (fun i t hi hx => ?_) (fun t hx => ?_)).symm
  · have := h1 i hi
    rw [lvX_of hr hv ht hx] at this
    exact le_ofI this (by have := (ht t (List.mem_of_getElem? hx)).2.1; omega) (by omega)
  · have := h2 (List.getElem?_eq_some_iff.mp hx).1
    rw [lvX_of hr hv ht hx] at this
    exact fun z => this (nI_le z (by omega))
section S69
variable {Lx : Nat} {xs : Nat → Int32} {d rm : Nat} {r : pW} {Q : rQ}
set_option maxRecDepth 20000 in
theorem lx_ck2 (hr : 512 ≤ rm ∧ rm ≤ 4096) {iv : Nat → Int32} {av : Nat → Nat → Int32} {s : dS} {V : vW} {x1 x2 x3 : Option Value} (hd : dX rm iv av s) (hV : vX 0 iv av V) (hz : kz av) (hb : ∀ i, 1 ≤ i → i ≤ 7 → V.2.2 i < 2 ^ 30)
    (hQ : ∀ iv' av', dX rm iv' av' (ckE rm s V) → vX 0 iv' av' (ckF V) → kz av' → frI iv iv' [0, 1, 2, 5, 11, 12, 13, 30] → frA av av' [0, 1, 2, 3, 10, 27] → Q none (wX rm iv' av' r)) : pz Lx xs (d + 3) rt_35 none Q 71 [some (.ref 13), x1, x2, x3] [] (wX rm iv av r) := by
  have e15 : iv 15 = nI (V.2.2 5) := hV.2.2 5 (by decide) (by decide)
  have e16 : iv 16 = nI (V.2.2 6) := hV.2.2 6 (by decide) (by decide)
  refine pz_aln (i := 71) rfl rfl ?_
  refine pz_get (i := 72) rfl (gf_13_1 ..) ?_
  refine pz_get (i := 73) rfl (gf_7_1 ..) ?_
  refine pz_cV0 (i := 74) rfl (gc_8 ..) rfl (Nat.le_of_ble_eq_true rfl) rfl ?_
  refine sx_Eclear (e := 0) (by decide) ?_
  refine ⟨rfl, ?_⟩
  refine pz_aln (i := 75) rfl rfl ?_
  refine pz_get (i := 76) rfl (gf_13_0 ..) ?_
  refine pz_cV0 (i := 77) rfl (gc_2 ..) rfl (Nat.le_of_ble_eq_true rfl) rfl ?_
  refine sx_sync (s := s) (dX_ext hd (fun j hj => ui_n (by omega)) (fun j hj => ua_n (by omega))) (fun iv1 hd1 f1 => ?_)
  have h15 : iv1 15 = nI (V.2.2 5) := (f1 15 (by decide)).trans ((ui_n (by decide)).trans e15)
  have h16 : iv1 16 = nI (V.2.2 6) := (f1 16 (by decide)).trans ((ui_n (by decide)).trans e16)
  refine ⟨rfl, ?_⟩
  refine pz_aln (i := 78) rfl rfl ?_
  refine pz_get (i := 79) rfl (gf_13_1 ..) ?_
  refine pz_aln (i := 80) rfl rfl ?_
  refine pz_get (i := 81) rfl (gf_13_1 ..) ?_
  refine pz_get (i := 82) rfl (gf_7_8 ..) ?_
  rw [h15]
  refine pz_put (i := 83) rfl (pf_7_5 ..) ⟨rfl, rfl⟩ ?_
  refine pz_aln (i := 84) rfl rfl ?_
  refine pz_get (i := 85) rfl (gf_13_1 ..) ?_
  refine pz_aln (i := 86) rfl rfl ?_
  refine pz_get (i := 87) rfl (gf_13_1 ..) ?_
  refine pz_get (i := 88) rfl (gf_7_9 ..) ?_
  rw [show upd iv1 12 (nI (V.2.2 5)) 16 = nI (V.2.2 6) from (ui_n (by decide)).trans h16]
  refine pz_put (i := 89) rfl (pf_7_6 ..) ⟨rfl, rfl⟩ ?_
  refine pz_aln (i := 90) rfl rfl ?_
  refine pz_cV0 (i := 91) rfl (gc_13 ..) rfl (Nat.le_of_ble_eq_true rfl) rfl ?_
  refine sx_writeRoot hr (V := (V.1, m0, vs (vs V.2.2 2 (V.2.2 5)) 3 (V.2.2 6))) (s := sy rm s) (dX_ext hd1 (fun j hj => ?_) (fun j hj => rfl)) ⟨⟨?_, hV.1.2.1, fun i t ht => ?_⟩, ?_, fun i h1 h2 => ?_⟩ ⟨fun j hj => ?_, ?_⟩ (cp_sy (by decide) (by decide)) (fun i h1 h2 => ?_) (fun iv2 av2 hd2 hV2 hz2 f2 f3 => ?_)
  · rw [ui_n (by omega), ui_n (by omega)]
  · show upd (upd iv1 12 _) 13 _ 10 = _
    rw [ui_n (by decide), ui_n (by decide), f1 10 (by decide), ui_n (by decide)]
    exact hV.1.1
  · show up_a av _ _ 4 i = _
    rw [ua_n (by decide)]
    exact hV.1.2.2 i t ht
  · exact eX_ext (eX_clear 0 iv av) (by rw [ui_n (by decide), ui_n (by decide), f1 _ (by decide)]) rfl rfl rfl
  · show upd (upd iv1 12 _) 13 _ (10 + 10 * 0 + i) = nI (vs (vs V.2.2 2 (V.2.2 5)) 3 (V.2.2 6) i)
    by_cases h : i = 3
    · subst h
      rw [vs_s]
      exact ui_s _ _ _
    · rw [vs_n h, ui_n (by omega)]
      by_cases h' : i = 2
      · subst h'
        rw [vs_s]
        exact ui_s _ _ _
      · rw [vs_n h', ui_n (by omega), f1 _ (by simp only [List.mem_cons, List.not_mem_nil, or_false, not_or]; omega), ui_n (by omega)]
        exact hV.2.2 i h1 h2
  · rw [ua_n (by decide)]
    exact hz.1 j hj
  · rw [ua_n (by decide)]
    exact hz.2
  · show vs (vs V.2.2 2 (V.2.2 5)) 3 (V.2.2 6) i < _
    by_cases h : i = 3
    · subst h
      rw [vs_s]
      exact hb 6 (by decide) (by decide)
    · rw [vs_n h]
      by_cases h' : i = 2
      · subst h'
        rw [vs_s]
        exact hb 5 (by decide) (by decide)
      · rw [vs_n h']
        exact hb i h1 h2
  refine ⟨rfl, ?_⟩
  refine pz_aln (i := 92) rfl rfl ?_
  refine pz_get (i := 93) rfl (gf_13_0 ..) ?_
  refine pz_cV0 (i := 94) rfl (gc_2 ..) rfl (Nat.le_of_ble_eq_true rfl) rfl ?_
  refine sx_sync hd2 (fun iv3 hd3 f4 => ?_)
  refine ⟨rfl, ?_⟩
  refine pz_vr (i := 95) rfl rfl ?_
  refine hQ iv3 av2 hd3 ⟨⟨(f4 10 (by decide)).trans hV2.1.1, hV2.1.2⟩, eX_ext hV2.2.1 (f4 _ (by decide)) rfl rfl rfl, vX_num hV2.2.2 f4 (by decide)⟩ hz2 ?_ ?_
  · exact frI_tr (frI_up (frI_up (frI_tr (frI_up (frI_rfl iv [30]) (by decide)) f1 (S := [0, 1, 30, 12, 13]) (by decide) (by decide)) (by decide)) (by decide)) (frI_tr f2 f4 (S := [0, 1, 2, 5, 11]) (by decide) (by decide)) (by decide) (by decide)
  · exact frA_tr (frA_up (frA_rfl av [10]) (by decide)) f3 (by decide) (by decide)
theorem ckF_456 (V : vW) : ∀ i, i = 4 ∨ i = 5 ∨ i = 6 → (ckF V).2.2 i = V.2.2 i := by
  intro i hi
  show vs (vs (vs V.2.2 2 (V.2.2 5)) 3 (V.2.2 6)) 1 _ i = _
  rw [vs_n (by omega), vs_n (by omega), vs_n (by omega)]
theorem tbV_num (V : vW) (t : tB) (k : Nat) {i : Nat} (h : i ≠ 7) : (tbV V t k).2.2 i = V.2.2 i := vs_n h
theorem tbV_7 (V : vW) (t : tB) (k : Nat) : (tbV V t k).2.2 7 = V.2.2 7 + 1 := vs_s V.2.2 7 (V.2.2 7 + 1)
/-- the class runs on: the disk stays, the view is one of those that the rules allow -/
theorem wk_fin {iv iv1 : Nat → Int32} {av av1 : Nat → Nat → Int32} {s : dS} {V : vW} {S S' : List Nat} (hd : dX rm iv1 av1 s) (hV : vX 0 iv1 av1 V) (hz : kz av1) (hV5 : V.2.2 4 < 2 ^ 31 ∧ V.2.2 5 < 2 ^ 31 ∧ V.2.2 6 < 2 ^ 31) {iv' : Nat → Int32} {av' : Nat → Nat → Int32} {n' : Nat} (hn : n' ≤ 6) (hT : iv' 10 = nI n') (hm : eX 0 iv' av' m0) (f1 : frI iv1 iv' [6, 10, 11, 12, 13, 17, 30, 31]) (f2 : frA av1 av' [4, 10, 11, 12, 13, 14, 15, 27]) : ∃ V', dX rm iv' av' s ∧ vX 0 iv' av' V' ∧ V'.2.1 = m0 ∧ (∀ i, i = 4 ∨ i = 5 ∨ i = 6 → V'.2.2 i = V.2.2 i) ∧ kz av' := by
  obtain ⟨V', h1, h2, h3⟩ := vX_any hn hT hm
  refine ⟨V', dX_ext hd (fun j hj => f1 j (by simp only [List.mem_cons, List.not_mem_nil, or_false, not_or]; omega)) (fun j hj => f2 j (by simp only [List.mem_cons, List.not_mem_nil, or_false, not_or]; omega)), h1, h2, fun i hi => ?_, ⟨fun j hj => by rw [f2 25 (by decide)]; exact hz.1 j hj, by rw [f2 26 (by decide)]; exact hz.2⟩⟩
  rw [h3 i, f1 (10 + i) (by simp only [List.mem_cons, List.not_mem_nil, or_false, not_or]; omega)]
  have := hV.2.2 i (by omega) (by omega)
  rw [show 10 + i = 10 + 10 * 0 + i by omega, this]
  exact uN_nI (by rcases hi with rfl | rfl | rfl <;> omega)
set_option maxRecDepth 20000 in
theorem lx_l2 (hr : 512 ≤ rm ∧ rm ≤ 4096) {iv : Nat → Int32} {av : Nat → Nat → Int32} {s : dS} {V : vW} {tk : List Nat} {y1 : Int32} {x3 : Option Value} (hal : s.2.2.2.2.2 = false) (hd : dX rm iv av s) (hV : vX 0 iv av V) (hz : kz av) (htk : tkX (iv 6) tk) (hc : cp s 1 1216) (hE : ∀ t ∈ V.1, tE rm (cu rm s) t) (hl : V.1.length ≤ 5) (hb : ∀ i, 1 ≤ i → i ≤ 7 → V.2.2 i < 2 ^ 30 - 4)
    (hQ : ∀ iv' av' V', dX rm iv' av' (ckE rm (st2 rm s V tk).1 (st2 rm s V tk).2) → vX 0 iv' av' V' → V'.2.1 = m0 → (∀ i, i = 4 ∨ i = 5 ∨ i = 6 → V'.2.2 i = V.2.2 i) → ((ckE rm (st2 rm s V tk).1 (st2 rm s V tk).2).2.2.2.2.2 = false → V' = ckF (st2 rm s V tk).2) → kz av' → frI iv iv' [0, 1, 2, 5, 6, 10, 11, 12, 13, 17, 30, 31] → frA av av' [0, 1, 2, 3, 4, 10, 11, 12, 13, 14, 15, 27] → Q none (wX rm iv' av' r)) : pz Lx xs (d + 4) rt_35 none Q 37 [some (.ref 13), some (.int y1), some (.int (nI 2)), x3] [] (wX rm iv av r) := by
  have hr' : 0 < rm ∧ rm ≤ 4096 := ⟨by omega, hr.2⟩
  have hc0 : av 0 = cu rm s := hd.1
  have hE' : ∀ t ∈ V.1, tE rm (av 0) t := by rw [hc0]; exact hE
  have hn2 := lvN_le V.1 2
  refine pz_aln (i := 37) rfl rfl ?_
  refine pz_get (i := 38) rfl (gf_13_1 ..) ?_
  refine pz_iln (i := 39) rfl rfl ?_
  refine pz_cI1 (i := 40) rfl (gc_7 ..) rfl (Nat.le_of_ble_eq_true rfl) rfl ?_
  refine sx_tablesUpTo hr' (n := V.1.length) (lv := 2) hV.1.2.1 hV.1.1 (fun c hc1 hc2 hc3 => ?_)
  have hcl := lvN_of hr.2 hV.1 hE' (by decide) hc1 hc2 hc3
  subst hcl
  refine ⟨_, rfl, ?_⟩
  refine pz_isn (i := 41) rfl ⟨rfl, Nat.le_of_ble_eq_true rfl⟩ rfl ?_
  refine pz_aln (i := 42) rfl rfl ?_
  refine pz_get (i := 43) rfl (gf_13_1 ..) ?_
  refine pz_iln (i := 44) rfl rfl ?_
  refine pz_aln (i := 45) rfl rfl ?_
  refine pz_get (i := 46) rfl (gf_13_3 ..) ?_
  refine pz_cV2 (i := 47) rfl (gc_7 ..) rfl (Nat.le_of_ble_eq_true rfl) rfl ?_
  refine sx_gatherTables (v := 0) (e := 1) (n := lvN V.1 2) hr' (by decide) (by decide) hV.1 hE' hn2 (fun iv1 av1 hx1 f1 f2 => ?_)
  refine ⟨rfl, ?_⟩
  refine pz_iln (i := 48) rfl rfl ?_
  refine pz_ic (i := 49) rfl ?_
  refine pz_ii_ne (i := 50) rfl (fun c50 => ?_) (fun c50 => ?_)
  · exact absurd rfl c50
  · refine pz_aln (i := 51) rfl rfl ?_
    refine pz_get (i := 52) rfl (gf_13_3 ..) ?_
    refine pz_cV0 (i := 53) rfl (gc_15 ..) rfl (Nat.le_of_ble_eq_true rfl) rfl ?_
    refine sx_drop (e := 1) (by decide) hx1 (fun iv2 av2 hx2 f3 f4 => ?_)
    have fI2 : frI iv iv2 [31] := frI_tr f1 f3 (by decide) (by decide)
    have fA2 : frA av av2 [13, 14, 15] := frA_tr f2 f4 (by decide) (by decide)
    have hd2 : dX rm iv2 av2 s := dX_ext hd (fun j hj => fI2 j (by simp only [List.mem_cons, List.not_mem_nil, or_false]; omega)) (fun j hj => fA2 j (by simp only [List.mem_cons, List.not_mem_nil, or_false, not_or]; omega))
    have hV2 : vX 0 iv2 av2 V := ⟨⟨(fI2 10 (by decide)).trans hV.1.1, hV.1.2.1, fun i t ht => by rw [fA2 (4 + 0) (by decide)]; exact hV.1.2.2 i t ht⟩, eX_ext hV.2.1 (fI2 30 (by decide)) (fA2 10 (by decide)) (fA2 11 (by decide)) (fA2 12 (by decide)), vX_num hV.2.2 fI2 (by decide)⟩
    have hz2 : kz av2 := ⟨fun j hj => by rw [fA2 25 (by decide)]; exact hz.1 j hj, by rw [fA2 26 (by decide)]; exact hz.2⟩
    have htk2 : tkX (iv2 6) tk := by rw [fI2 6 (by decide)]; exact htk
    refine ⟨rfl, ?_⟩
    refine pz_aln (i := 54) rfl rfl ?_
    refine pz_iln (i := 55) rfl rfl ?_
    refine pz_aln (i := 56) rfl rfl ?_
    refine pz_get (i := 57) rfl (gf_13_3 ..) ?_
    refine pz_iln (i := 58) rfl rfl ?_
    refine pz_cV3 (i := 59) rfl (gc_13 ..) rfl (Nat.le_of_ble_eq_true rfl) rfl ?_
    unfold st2 at hQ
    by_cases h0 : (kS (m2A V)).length = 0
    · rw [if_pos h0] at hQ
      refine sx_writeTable0 (e := 1) (m := m2A V) (k := lvN V.1 2) (by decide) hx2 h0 hn2 hV2 (fun iv3 av3 hV9 f5 f6 => ⟨rfl, ?_⟩)
      have hd9 : dX rm iv3 av3 s := dX_ext hd2 (fun j hj => f5 j (by simp only [List.mem_cons, List.not_mem_nil, or_false]; omega)) (fun j hj => f6 j (by simp only [List.mem_cons, List.not_mem_nil, or_false]; omega))
      have hz9 : kz av3 := ⟨fun j hj => by rw [f6 25 (by decide)]; exact hz2.1 j hj, by rw [f6 26 (by decide)]; exact hz2.2⟩
      have fi9 : frI iv iv3 [10, 31] := frI_tr fI2 f5 (by decide) (by decide)
      have fa9 : frA av av3 [4, 13, 14, 15] := frA_tr fA2 f6 (by decide) (by decide)
      have hb9 : ∀ i, 1 ≤ i → i ≤ 7 → V.2.2 i < 2 ^ 30 := fun i h1 h2 => by have := hb i h1 h2; omega
      have h456 : ∀ i, i = 4 ∨ i = 5 ∨ i = 6 → V.2.2 i = V.2.2 i := fun _ _ => rfl
      refine pz_aln (i := 60) rfl rfl ?_
      refine pz_get (i := 61) rfl (gf_13_3 ..) ?_
      refine pz_get (i := 62) rfl (gf_15_3 ..) ?_
      refine pz_bi (i := 63) rfl ?_
      refine pz_ii_le (i := 64) rfl (fun c64 => ?_) (fun c64 => ?_)
      · refine pz_ic (i := 67) rfl ?_
        refine pz_isn (i := 68) rfl ⟨rfl, Nat.le_of_ble_eq_true rfl⟩ rfl ?_
        refine pz_inc (i := 69) rfl rfl rfl rfl ?_
        refine pz_go (i := 70) rfl ?_
        refine pz_iln (i := 32) rfl rfl ?_
        refine pz_ic (i := 33) rfl ?_
        refine pz_ii_gt (i := 34) rfl (fun c34 => ?_) (fun c34 => ?_)
        · refine lx_ck2 hr hd9 hV9 hz9 hb9 (fun iv9 av9 k1 k2 k3 k4 k5 => ?_)
          exact hQ iv9 av9 _ k1 k2 rfl (fun i hi => (ckF_456 _ i hi).trans (h456 i hi)) (fun _ => rfl) k3 (frI_tr fi9 k4 (by decide) (by decide)) (frA_tr fa9 k5 (by decide) (by decide))
        · exact absurd (nI_lt (a := 2) (b := 3) (by decide) (by decide)) c34
      · refine pz_ic (i := 65) rfl ?_
        refine pz_go (i := 66) rfl ?_
        refine pz_isn (i := 68) rfl ⟨rfl, Nat.le_of_ble_eq_true rfl⟩ rfl ?_
        refine pz_inc (i := 69) rfl rfl rfl rfl ?_
        refine pz_go (i := 70) rfl ?_
        refine pz_iln (i := 32) rfl rfl ?_
        refine pz_ic (i := 33) rfl ?_
        refine pz_ii_gt (i := 34) rfl (fun c34 => ?_) (fun c34 => ?_)
        · refine lx_ck2 hr hd9 hV9 hz9 hb9 (fun iv9 av9 k1 k2 k3 k4 k5 => ?_)
          exact hQ iv9 av9 _ k1 k2 rfl (fun i hi => (ckF_456 _ i hi).trans (h456 i hi)) (fun _ => rfl) k3 (frI_tr fi9 k4 (by decide) (by decide)) (frA_tr fa9 k5 (by decide) (by decide))
        · exact absurd (nI_lt (a := 2) (b := 3) (by decide) (by decide)) c34
    · rw [if_neg h0] at hQ
      refine sx_writeTable (e := 1) (lv := 2) (k := lvN V.1 2) (m := m2A V) hr (by decide) (by decide) hx2 (by omega) htk2 hn2 (by omega) hd2 hV2 hz2 (fun h => by have := hc h; have := kS_len (m2A V); omega) (by have := hb 7 (by decide) (by decide); omega) (fun iv3 av3 hd9 hV9 _ hz9 f5 f6 => ⟨rfl, ?_⟩)
      have fi9 : frI iv iv3 [0, 1, 2, 5, 6, 10, 17, 31] := frI_tr fI2 f5 (by decide) (by decide)
      have fa9 : frA av av3 [0, 1, 2, 3, 4, 13, 14, 15, 27] := frA_tr fA2 f6 (by decide) (by decide)
      have hb9 : ∀ i, 1 ≤ i → i ≤ 7 → (tbV V (lf tk, 2, V.2.2 7, m2A V) (lvN V.1 2)).2.2 i < 2 ^ 30 := fun i h1 h2 => by
        by_cases h : i = 7
        · subst h
          rw [tbV_7]
          have := hb 7 h1 h2
          omega
        · rw [tbV_num _ _ _ h]
          have := hb i h1 h2
          omega
      have h456 : ∀ i, i = 4 ∨ i = 5 ∨ i = 6 → (tbV V (lf tk, 2, V.2.2 7, m2A V) (lvN V.1 2)).2.2 i = V.2.2 i := fun i hi => tbV_num _ _ _ (by omega)
      refine pz_aln (i := 60) rfl rfl ?_
      refine pz_get (i := 61) rfl (gf_13_3 ..) ?_
      refine pz_get (i := 62) rfl (gf_15_3 ..) ?_
      refine pz_bi (i := 63) rfl ?_
      refine pz_ii_le (i := 64) rfl (fun c64 => ?_) (fun c64 => ?_)
      · refine pz_ic (i := 67) rfl ?_
        refine pz_isn (i := 68) rfl ⟨rfl, Nat.le_of_ble_eq_true rfl⟩ rfl ?_
        refine pz_inc (i := 69) rfl rfl rfl rfl ?_
        refine pz_go (i := 70) rfl ?_
        refine pz_iln (i := 32) rfl rfl ?_
        refine pz_ic (i := 33) rfl ?_
        refine pz_ii_gt (i := 34) rfl (fun c34 => ?_) (fun c34 => ?_)
        · refine lx_ck2 hr hd9 hV9 hz9 hb9 (fun iv9 av9 k1 k2 k3 k4 k5 => ?_)
          exact hQ iv9 av9 _ k1 k2 rfl (fun i hi => (ckF_456 _ i hi).trans (h456 i hi)) (fun _ => rfl) k3 (frI_tr fi9 k4 (by decide) (by decide)) (frA_tr fa9 k5 (by decide) (by decide))
        · exact absurd (nI_lt (a := 2) (b := 3) (by decide) (by decide)) c34
      · refine pz_ic (i := 65) rfl ?_
        refine pz_go (i := 66) rfl ?_
        refine pz_isn (i := 68) rfl ⟨rfl, Nat.le_of_ble_eq_true rfl⟩ rfl ?_
        refine pz_inc (i := 69) rfl rfl rfl rfl ?_
        refine pz_go (i := 70) rfl ?_
        refine pz_iln (i := 32) rfl rfl ?_
        refine pz_ic (i := 33) rfl ?_
        refine pz_ii_gt (i := 34) rfl (fun c34 => ?_) (fun c34 => ?_)
        · refine lx_ck2 hr hd9 hV9 hz9 hb9 (fun iv9 av9 k1 k2 k3 k4 k5 => ?_)
          exact hQ iv9 av9 _ k1 k2 rfl (fun i hi => (ckF_456 _ i hi).trans (h456 i hi)) (fun _ => rfl) k3 (frI_tr fi9 k4 (by decide) (by decide)) (frA_tr fa9 k5 (by decide) (by decide))
        · exact absurd (nI_lt (a := 2) (b := 3) (by decide) (by decide)) c34
set_option maxRecDepth 20000 in
theorem lx_l1 (hr : 512 ≤ rm ∧ rm ≤ 4096) {iv : Nat → Int32} {av : Nat → Nat → Int32} {s : dS} {V : vW} {tk : List Nat} {y1 : Int32} {x3 : Option Value} (hal : s.2.2.2.2.2 = false) (hd : dX rm iv av s) (hV : vX 0 iv av V) (hz : kz av) (htk : tkX (iv 6) tk) (htl : tk.length < 9) (hpl : ∀ t ∈ V.1, t.1 ∈ tk) (hc : cp s 2 2432) (hE : ∀ t ∈ V.1, tE rm (cu rm s) t) (hl : 1 + (V.1.length - lvN V.1 1) ≤ 5) (hm1 : 0 < (kS (m1A V)).length) (hb : ∀ i, 1 ≤ i → i ≤ 7 → V.2.2 i < 2 ^ 30 - 5)
    (hQ : ∀ iv' av' V', dX rm iv' av' (ckE rm (st1 rm s V tk).1 (st1 rm s V tk).2) → vX 0 iv' av' V' → V'.2.1 = m0 → (∀ i, i = 4 ∨ i = 5 ∨ i = 6 → V'.2.2 i = V.2.2 i) → ((ckE rm (st1 rm s V tk).1 (st1 rm s V tk).2).2.2.2.2.2 = false → V' = ckF (st1 rm s V tk).2) → kz av' → frI iv iv' [0, 1, 2, 5, 6, 10, 11, 12, 13, 17, 30, 31] → frA av av' [0, 1, 2, 3, 4, 10, 11, 12, 13, 14, 15, 27] → Q none (wX rm iv' av' r)) : pz Lx xs (d + 4) rt_35 none Q 37 [some (.ref 13), some (.int y1), some (.int (nI 1)), x3] [] (wX rm iv av r) := by
  have hr' : 0 < rm ∧ rm ≤ 4096 := ⟨by omega, hr.2⟩
  have hc0 : av 0 = cu rm s := hd.1
  have hE' : ∀ t ∈ V.1, tE rm (av 0) t := by rw [hc0]; exact hE
  have hn1 := lvN_le V.1 1
  refine pz_aln (i := 37) rfl rfl ?_
  refine pz_get (i := 38) rfl (gf_13_1 ..) ?_
  refine pz_iln (i := 39) rfl rfl ?_
  refine pz_cI1 (i := 40) rfl (gc_7 ..) rfl (Nat.le_of_ble_eq_true rfl) rfl ?_
  refine sx_tablesUpTo hr' (n := V.1.length) (lv := 1) hV.1.2.1 hV.1.1 (fun c hc1 hc2 hc3 => ?_)
  have hcl := lvN_of hr.2 hV.1 hE' (by decide) hc1 hc2 hc3
  subst hcl
  refine ⟨_, rfl, ?_⟩
  refine pz_isn (i := 41) rfl ⟨rfl, Nat.le_of_ble_eq_true rfl⟩ rfl ?_
  refine pz_aln (i := 42) rfl rfl ?_
  refine pz_get (i := 43) rfl (gf_13_1 ..) ?_
  refine pz_iln (i := 44) rfl rfl ?_
  refine pz_aln (i := 45) rfl rfl ?_
  refine pz_get (i := 46) rfl (gf_13_3 ..) ?_
  refine pz_cV2 (i := 47) rfl (gc_7 ..) rfl (Nat.le_of_ble_eq_true rfl) rfl ?_
  refine sx_gatherTables (v := 0) (e := 1) (n := lvN V.1 1) hr' (by decide) (by decide) hV.1 hE' hn1 (fun iv2 av2 hx2 fI2 fA2 => ?_)
  have hd2 : dX rm iv2 av2 s := dX_ext hd (fun j hj => fI2 j (by simp only [List.mem_cons, List.not_mem_nil, or_false]; omega)) (fun j hj => fA2 j (by simp only [List.mem_cons, List.not_mem_nil, or_false, not_or]; omega))
  have hV2 : vX 0 iv2 av2 V := ⟨⟨(fI2 10 (by decide)).trans hV.1.1, hV.1.2.1, fun i t ht => by rw [fA2 (4 + 0) (by decide)]; exact hV.1.2.2 i t ht⟩, eX_ext hV.2.1 (fI2 30 (by decide)) (fA2 10 (by decide)) (fA2 11 (by decide)) (fA2 12 (by decide)), vX_num hV.2.2 fI2 (by decide)⟩
  have hz2 : kz av2 := ⟨fun j hj => by rw [fA2 25 (by decide)]; exact hz.1 j hj, by rw [fA2 26 (by decide)]; exact hz.2⟩
  have htk2 : tkX (iv2 6) tk := by rw [fI2 6 (by decide)]; exact htk
  refine ⟨rfl, ?_⟩
  refine pz_iln (i := 48) rfl rfl ?_
  refine pz_ic (i := 49) rfl ?_
  refine pz_ii_ne (i := 50) rfl (fun c50 => ?_) (fun c50 => ?_)
  · refine pz_aln (i := 54) rfl rfl ?_
    refine pz_iln (i := 55) rfl rfl ?_
    refine pz_aln (i := 56) rfl rfl ?_
    refine pz_get (i := 57) rfl (gf_13_3 ..) ?_
    refine pz_iln (i := 58) rfl rfl ?_
    refine pz_cV3 (i := 59) rfl (gc_13 ..) rfl (Nat.le_of_ble_eq_true rfl) rfl ?_
    refine sx_writeTable (e := 1) (lv := 1) (k := lvN V.1 1) (m := m1A V) hr (by decide) (by decide) hx2 hm1 htk2 hn1 (by omega) hd2 hV2 hz2 (fun h => by have := hc h; have := kS_len (m1A V); omega) (by have := hb 7 (by decide) (by decide); omega) (fun iv3 av3 hd3 hV3 htk3 hz3 f5 f6 => ⟨rfl, ?_⟩)
    have fi3 : frI iv iv3 [0, 1, 2, 5, 6, 10, 17, 31] := frI_tr fI2 f5 (by decide) (by decide)
    have fa3 : frA av av3 [0, 1, 2, 3, 4, 13, 14, 15, 27] := frA_tr fA2 f6 (by decide) (by decide)
    have hd3 : dX rm iv3 av3 (wr s (tabW rm (t1A V tk))) := hd3
    have hV3 : vX 0 iv3 av3 (tbV V (t1A V tk) (lvN V.1 1)) := hV3
    have hx3 : eX 1 iv3 av3 (m1A V) := eX_ext hx2 (f5 31 (by decide)) (f6 13 (by decide)) (f6 14 (by decide)) (f6 15 (by decide))
    have hb3 : ∀ i, 1 ≤ i → i ≤ 7 → (tbV V (t1A V tk) (lvN V.1 1)).2.2 i < 2 ^ 30 := fun i h1 h2 => by
      by_cases h : i = 7
      · subst h
        rw [tbV_7]
        have := hb 7 h1 h2
        omega
      · rw [tbV_num _ _ _ h]
        have := hb i h1 h2
        omega
    have h456 : ∀ i, i = 4 ∨ i = 5 ∨ i = 6 → (tbV V (t1A V tk) (lvN V.1 1)).2.2 i = V.2.2 i := fun i hi => tbV_num _ _ _ (by omega)
    have hk120 := kS_len (m1A V)
    unfold st1 at hQ
    refine pz_aln (i := 60) rfl rfl ?_
    refine pz_get (i := 61) rfl (gf_13_3 ..) ?_
    refine pz_get (i := 62) rfl (gf_15_3 ..) ?_
    rw [hx3.2.1]
    refine pz_bi (i := 63) rfl ?_
    refine pz_ii_le (i := 64) rfl (fun c64 => ?_) (fun c64 => ?_)
    · refine pz_ic (i := 67) rfl ?_
      refine pz_isn (i := 68) rfl ⟨rfl, Nat.le_of_ble_eq_true rfl⟩ rfl ?_
      refine pz_inc (i := 69) rfl rfl rfl rfl ?_
      refine pz_go (i := 70) rfl ?_
      first
        | (have h40 : (kS (m1A V)).length ≤ 40 := le_ofI (b := 40) c64 (by omega) (by omega)
           rw [if_pos h40] at hQ
           refine pz_iln (i := 32) rfl rfl ?_
           refine pz_ic (i := 33) rfl ?_
           refine pz_ii_gt (i := 34) rfl (fun c34 => ?_) (fun c34 => ?_)
           · exact absurd c34 (by decide)
           · refine pz_iln (i := 35) rfl rfl ?_
             refine pz_if_eq (i := 36) rfl (fun c36 => ?_) (fun c36 => ?_)
             · refine lx_ck2 hr hd3 hV3 hz3 hb3 (fun iv9 av9 k1 k2 k3 k4 k5 => ?_)
               exact hQ iv9 av9 _ k1 k2 rfl (fun i hi => (ckF_456 _ i hi).trans (h456 i hi)) (fun _ => rfl) k3 (frI_tr fi3 k4 (by decide) (by decide)) (frA_tr fa3 k5 (by decide) (by decide))
             · exact absurd rfl c36)
        | (have h40 : ¬ (kS (m1A V)).length ≤ 40 := by
             intro z
             exact absurd (nI_le z (by omega)) c64
           rw [if_neg h40] at hQ
           cases hal3 : (wr s (tabW rm (t1A V tk))).2.2.2.2.2 with
           | true =>
             refine lw_ck1 hr' 1 2 iv3 av3 (t1A V tk :: V.1.drop (lvN V.1 1)).length 1 _ (by decide) (by decide) (by decide) ?_ hV3.1.2.1 hV3.1.1 (fun iv4 av4 n4 k1 k2 k3 k4 k5 => ?_)
             · rw [hd3.2.2.2.2.2.2.2.2.1, hal3]
               rfl
             · obtain ⟨V9, j1, j2, j3, j4, j5⟩ := wk_fin (S := []) (S' := []) (iv := iv) (av := av) hd3 hV3 hz3 ⟨by have := hb3 4 (by decide) (by decide); omega, by have := hb3 5 (by decide) (by decide); omega, by have := hb3 6 (by decide) (by decide); omega⟩ k1 k2 k3 k4 k5
               have e9 : ckE rm (st2 rm (wr s (tabW rm (t1A V tk))) (tbV V (t1A V tk) (lvN V.1 1)) (lf tk :: tk)).1 (st2 rm (wr s (tabW rm (t1A V tk))) (tbV V (t1A V tk) (lvN V.1 1)) (lf tk :: tk)).2 = wr s (tabW rm (t1A V tk)) := by
                 rw [st2_dead hal3, ckE_dead hal3]
               refine hQ iv4 av4 V9 (by rw [e9]; exact j1) j2 j3 (fun i hi => (j4 i hi).trans (h456 i hi)) (fun z => ?_) j5 (frI_tr fi3 k4 (by decide) (by decide)) (frA_tr fa3 k5 (by decide) (by decide))
               rw [e9, hal3] at z
               cases z
           | false =>
             refine pz_iln (i := 32) rfl rfl ?_
             refine pz_ic (i := 33) rfl ?_
             refine pz_ii_gt (i := 34) rfl (fun c34 => ?_) (fun c34 => ?_)
             · exact absurd c34 (by decide)
             · refine pz_iln (i := 35) rfl rfl ?_
               refine pz_if_eq (i := 36) rfl (fun c36 => ?_) (fun c36 => ?_)
               · exact absurd c36 (by decide)
               · refine lx_l2 hr (tk := lf tk :: tk) hal3 hd3 hV3 hz3 htk3 (cp_wr (cp_le hc (by decide) (by have := tabW_len rm (t1A V tk); omega))) (fun t ht => ?_) ?_ ?_ (fun iv4 av4 V9 k1 k2 k3 k4 k5 k6 k7 k8 => hQ iv4 av4 V9 k1 k2 k3 (fun i hi => (k4 i hi).trans (h456 i hi)) k5 k6 (frI_tr fi3 k7 (by decide) (by decide)) (frA_tr fa3 k8 (by decide) (by decide)))
                 · rw [cu_wr hal]
                   rcases List.mem_cons.mp ht with rfl | ht
                   · exact tE_new (lf_lt tk) (by show 1 < 3; decide) (by have := hb 7 (by decide) (by decide); show V.2.2 7 < _; omega) hx3.1
                   · have hu := List.mem_of_mem_drop ht
                     exact tE_old' (hE t hu) (fun z => lf_new (tk := tk) (by omega) (by have := hpl t hu; rw [z] at this; exact this))
                 · show (t1A V tk :: V.1.drop (lvN V.1 1)).length ≤ 5
                   rw [List.length_cons, List.length_drop]
                   omega
                 · intro i h1 h2
                   by_cases h : i = 7
                   · subst h
                     rw [tbV_7]
                     have := hb 7 h1 h2
                     omega
                   · rw [tbV_num _ _ _ h]
                     have := hb i h1 h2
                     omega)
    · refine pz_ic (i := 65) rfl ?_
      refine pz_go (i := 66) rfl ?_
      refine pz_isn (i := 68) rfl ⟨rfl, Nat.le_of_ble_eq_true rfl⟩ rfl ?_
      refine pz_inc (i := 69) rfl rfl rfl rfl ?_
      refine pz_go (i := 70) rfl ?_
      first
        | (have h40 : (kS (m1A V)).length ≤ 40 := le_ofI (b := 40) c64 (by omega) (by omega)
           rw [if_pos h40] at hQ
           refine pz_iln (i := 32) rfl rfl ?_
           refine pz_ic (i := 33) rfl ?_
           refine pz_ii_gt (i := 34) rfl (fun c34 => ?_) (fun c34 => ?_)
           · exact absurd c34 (by decide)
           · refine pz_iln (i := 35) rfl rfl ?_
             refine pz_if_eq (i := 36) rfl (fun c36 => ?_) (fun c36 => ?_)
             · refine lx_ck2 hr hd3 hV3 hz3 hb3 (fun iv9 av9 k1 k2 k3 k4 k5 => ?_)
               exact hQ iv9 av9 _ k1 k2 rfl (fun i hi => (ckF_456 _ i hi).trans (h456 i hi)) (fun _ => rfl) k3 (frI_tr fi3 k4 (by decide) (by decide)) (frA_tr fa3 k5 (by decide) (by decide))
             · exact absurd rfl c36)
        | (have h40 : ¬ (kS (m1A V)).length ≤ 40 := by
             intro z
             exact absurd (nI_le z (by omega)) c64
           rw [if_neg h40] at hQ
           cases hal3 : (wr s (tabW rm (t1A V tk))).2.2.2.2.2 with
           | true =>
             refine lw_ck1 hr' 1 2 iv3 av3 (t1A V tk :: V.1.drop (lvN V.1 1)).length 1 _ (by decide) (by decide) (by decide) ?_ hV3.1.2.1 hV3.1.1 (fun iv4 av4 n4 k1 k2 k3 k4 k5 => ?_)
             · rw [hd3.2.2.2.2.2.2.2.2.1, hal3]
               rfl
             · obtain ⟨V9, j1, j2, j3, j4, j5⟩ := wk_fin (S := []) (S' := []) (iv := iv) (av := av) hd3 hV3 hz3 ⟨by have := hb3 4 (by decide) (by decide); omega, by have := hb3 5 (by decide) (by decide); omega, by have := hb3 6 (by decide) (by decide); omega⟩ k1 k2 k3 k4 k5
               have e9 : ckE rm (st2 rm (wr s (tabW rm (t1A V tk))) (tbV V (t1A V tk) (lvN V.1 1)) (lf tk :: tk)).1 (st2 rm (wr s (tabW rm (t1A V tk))) (tbV V (t1A V tk) (lvN V.1 1)) (lf tk :: tk)).2 = wr s (tabW rm (t1A V tk)) := by
                 rw [st2_dead hal3, ckE_dead hal3]
               refine hQ iv4 av4 V9 (by rw [e9]; exact j1) j2 j3 (fun i hi => (j4 i hi).trans (h456 i hi)) (fun z => ?_) j5 (frI_tr fi3 k4 (by decide) (by decide)) (frA_tr fa3 k5 (by decide) (by decide))
               rw [e9, hal3] at z
               cases z
           | false =>
             refine pz_iln (i := 32) rfl rfl ?_
             refine pz_ic (i := 33) rfl ?_
             refine pz_ii_gt (i := 34) rfl (fun c34 => ?_) (fun c34 => ?_)
             · exact absurd c34 (by decide)
             · refine pz_iln (i := 35) rfl rfl ?_
               refine pz_if_eq (i := 36) rfl (fun c36 => ?_) (fun c36 => ?_)
               · exact absurd c36 (by decide)
               · refine lx_l2 hr (tk := lf tk :: tk) hal3 hd3 hV3 hz3 htk3 (cp_wr (cp_le hc (by decide) (by have := tabW_len rm (t1A V tk); omega))) (fun t ht => ?_) ?_ ?_ (fun iv4 av4 V9 k1 k2 k3 k4 k5 k6 k7 k8 => hQ iv4 av4 V9 k1 k2 k3 (fun i hi => (k4 i hi).trans (h456 i hi)) k5 k6 (frI_tr fi3 k7 (by decide) (by decide)) (frA_tr fa3 k8 (by decide) (by decide)))
                 · rw [cu_wr hal]
                   rcases List.mem_cons.mp ht with rfl | ht
                   · exact tE_new (lf_lt tk) (by show 1 < 3; decide) (by have := hb 7 (by decide) (by decide); show V.2.2 7 < _; omega) hx3.1
                   · have hu := List.mem_of_mem_drop ht
                     exact tE_old' (hE t hu) (fun z => lf_new (tk := tk) (by omega) (by have := hpl t hu; rw [z] at this; exact this))
                 · show (t1A V tk :: V.1.drop (lvN V.1 1)).length ≤ 5
                   rw [List.length_cons, List.length_drop]
                   omega
                 · intro i h1 h2
                   by_cases h : i = 7
                   · subst h
                     rw [tbV_7]
                     have := hb 7 h1 h2
                     omega
                   · rw [tbV_num _ _ _ h]
                     have := hb i h1 h2
                     omega)
  · exact absurd c50 (by decide)
set_option maxRecDepth 20000 in
theorem sx_makeCheckpoint (hr : 512 ≤ rm ∧ rm ≤ 4096) {iv : Nat → Int32} {av : Nat → Nat → Int32} {s : dS} {V : vW} (hd : dX rm iv av s) (hV : vX 0 iv av V) (hz : kz av) (hI : s.2.2.2.2.2 = false → ckI rm s V) (hb : s.2.2.2.2.2 = false → ∀ i, 1 ≤ i → i ≤ 7 → V.2.2 i < 2 ^ 30 - 6) (hb2 : V.2.2 4 < 2 ^ 31 ∧ V.2.2 5 < 2 ^ 31 ∧ V.2.2 6 < 2 ^ 31)
    (hQ : ∀ iv' av' V', dX rm iv' av' (ck rm s V).1 → vX 0 iv' av' V' → V'.2.1 = m0 → (∀ i, i = 4 ∨ i = 5 ∨ i = 6 → V'.2.2 i = V.2.2 i) → ((ck rm s V).1.2.2.2.2.2 = false → V' = (ck rm s V).2) → kz av' → frI iv iv' [0, 1, 2, 5, 6, 10, 11, 12, 13, 17, 30, 31] → frA av av' [0, 1, 2, 3, 4, 10, 11, 12, 13, 14, 15, 27] → Q none (wX rm iv' av' r)) : rx_R Lx xs (d + 5) 35 [.ref 13] (wX rm iv av r) Q := by
  have hr' : 0 < rm ∧ rm ≤ 4096 := ⟨by omega, hr.2⟩
  cases hal : s.2.2.2.2.2 with
  | true =>
    have e5 : iv 5 = 1 := by
      rw [hd.2.2.2.2.2.2.2.2.1, hal]
      rfl
    refine sw_makeCheckpoint hr' e5 hV.1.2.1 hV.1.1 (fun iv4 av4 n4 k1 k2 k3 k4 k5 => ?_)
    obtain ⟨V9, j1, j2, j3, j4, j5⟩ := wk_fin (S := []) (S' := []) (iv := iv) (av := av) hd hV hz hb2 k1 k2 k3 k4 k5
    refine hQ iv4 av4 V9 (by rw [ck_dead hal]; exact j1) j2 j3 j4 (fun z => ?_) j5 (frI_tr k4 (frI_rfl _ []) (by decide) (by decide)) (frA_tr k5 (frA_rfl _ []) (by decide) (by decide))
    rw [ck_dead hal, hal] at z
    cases z
  | false =>
    obtain ⟨hE, hlv⟩ := hI hal
    have hb := hb hal
    have hlen := lvOK_len hlv
    have hal0 : (sy rm s).2.2.2.2.2 = false := sy_al.trans hal
    refine pz_en (t := rt_35) ⟨Nat.le_of_ble_eq_true rfl, rfl⟩ rfl rfl ?_
    refine pz_aln (i := 0) rfl rfl ?_
    refine pz_get (i := 1) rfl (gf_13_0 ..) ?_
    refine pz_cV0 (i := 2) rfl (gc_2 ..) rfl (Nat.le_of_ble_eq_true rfl) rfl ?_
    refine sx_sync hd (fun iv1 hd1 f1 => ?_)
    have hV1 : vX 0 iv1 av V := ⟨⟨(f1 10 (by decide)).trans hV.1.1, hV.1.2⟩, eX_ext hV.2.1 (f1 30 (by decide)) rfl rfl rfl, vX_num hV.2.2 f1 (by decide)⟩
    refine ⟨rfl, ?_⟩
    refine pz_aln (i := 3) rfl rfl ?_
    refine pz_get (i := 4) rfl (gf_13_1 ..) ?_
    refine pz_get (i := 5) rfl (gf_7_1 ..) ?_
    refine pz_get (i := 6) rfl (gf_8_3 ..) ?_
    rw [show iv1 30 = nI (kS V.2.1).length from hV1.2.1.2.1]
    refine pz_if_le (i := 7) rfl (fun c7 => ?_) (fun c7 => ?_)
    · have h0 : (kS V.2.1).length = 0 := by have := le_ofI (b := 0) c7 (by have := kS_len V.2.1; omega) (by decide); omega
      unfold ck ckP at hQ
      rw [if_pos h0] at hQ
      refine lx_ck2 hr hd1 hV1 hz (fun i h1 h2 => by have := hb i h1 h2; omega) (fun iv9 av9 k1 k2 k3 k4 k5 => ?_)
      exact hQ iv9 av9 _ k1 k2 rfl (fun i hi => ckF_456 _ i hi) (fun _ => rfl) k3 (frI_tr f1 k4 (by decide) (by decide)) (frA_tr (frA_rfl _ []) k5 (by decide) (by decide))
    · have h0 : ¬ (kS V.2.1).length = 0 := fun z => c7 (by rw [z]; exact Int32.le_refl _)
      unfold ck ckP at hQ
      rw [if_neg h0] at hQ
      refine pz_aln (i := 8) rfl rfl ?_
      refine pz_aln (i := 9) rfl rfl ?_
      refine pz_get (i := 10) rfl (gf_13_1 ..) ?_
      refine pz_cI0 (i := 11) rfl (gc_7 ..) rfl (Nat.le_of_ble_eq_true rfl) rfl ?_
      refine sx_placesInUse hV1.1.2.1 hV1.1.1 ?_
      refine ⟨_, rfl, ?_⟩
      refine pz_put (i := 12) rfl (pf_13_8 ..) ⟨rfl, rfl⟩ ?_
      refine pz_aln (i := 13) rfl rfl ?_
      refine pz_ic (i := 14) rfl ?_
      refine pz_aln (i := 15) rfl rfl ?_
      refine pz_get (i := 16) rfl (gf_13_1 ..) ?_
      refine pz_get (i := 17) rfl (gf_7_1 ..) ?_
      refine pz_ic (i := 18) rfl ?_
      refine pz_cV3 (i := 19) rfl (gc_13 ..) rfl (Nat.le_of_ble_eq_true rfl) rfl ?_
      have htk : tkX (plB (av 4) V.1.length) (pls V.1) := by
        have := tkX_pl (f := av 4) hV.1.2.2 (fun t ht => (hE t ht).1) V.1.length (Nat.le_refl _)
        rw [List.take_length] at this
        exact this
      refine sx_writeTable (e := 0) (lv := 0) (k := 0) (m := V.2.1) (V := V) (tk := pls V.1) (s := sy rm s) hr (by decide) (by decide) (eX_ext hV1.2.1 (ui_n (by decide)) rfl rfl rfl) (by omega) (by rw [ui_s]; exact htk) (Nat.zero_le _) (by omega) (dX_ext hd1 (fun j hj => ui_n (by omega)) (fun _ _ => rfl)) ⟨⟨(ui_n (by decide)).trans hV1.1.1, hV1.1.2⟩, eX_ext hV1.2.1 (ui_n (by decide)) rfl rfl rfl, fun i h1 h2 => (ui_n (by omega)).trans (hV1.2.2 i h1 h2)⟩ hz (cp_sy (by decide) (by have := kS_len V.2.1; omega)) (by have := hb 7 (by decide) (by decide); omega) (fun iv3 av3 hd3 hV3 htk3 hz3 f5 f6 => ⟨rfl, ?_⟩)
      have hd3 : dX rm iv3 av3 (wr (sy rm s) (tabW rm (t0A V))) := hd3
      have hV3 : vX 0 iv3 av3 (tbV V (t0A V) 0) := hV3
      have fi3 : frI iv iv3 [0, 1, 2, 5, 6, 10, 17] := frI_tr f1 (frI_tr (frI_up (frI_rfl iv1 [6]) (by decide)) f5 (S := [0, 1, 2, 5, 6, 10, 17]) (by decide) (by decide)) (by decide) (by decide)
      have hb3 : ∀ i, 1 ≤ i → i ≤ 7 → (tbV V (t0A V) 0).2.2 i < 2 ^ 30 - 5 := fun i h1 h2 => by
        by_cases h : i = 7
        · subst h
          rw [tbV_7]
          have := hb 7 h1 h2
          omega
        · rw [tbV_num _ _ _ h]
          have := hb i h1 h2
          omega
      have h456 : ∀ i, i = 4 ∨ i = 5 ∨ i = 6 → (tbV V (t0A V) 0).2.2 i = V.2.2 i := fun i hi => tbV_num _ _ _ (by omega)
      cases hal3 : (wr (sy rm s) (tabW rm (t0A V))).2.2.2.2.2 with
      | true =>
        refine lw_ck0 hr' ⟨rfl, rfl⟩ (by rw [show iv3 5 = bB (wr (sy rm s) (tabW rm (t0A V))).2.2.2.2.2 from hd3.2.2.2.2.2.2.2.2.1, hal3]; rfl) hV3.1.2.1 hV3.1.1 (fun iv4 av4 n4 k1 k2 k3 k4 k5 => ?_)
        obtain ⟨V9, j1, j2, j3, j4, j5⟩ := wk_fin (S := []) (S' := []) (iv := iv) (av := av) hd3 hV3 hz3 ⟨by have := hb3 4 (by decide) (by decide); show (tbV V (t0A V) 0).2.2 4 < _; omega, by have := hb3 5 (by decide) (by decide); show (tbV V (t0A V) 0).2.2 5 < _; omega, by have := hb3 6 (by decide) (by decide); show (tbV V (t0A V) 0).2.2 6 < _; omega⟩ k1 k2 k3 k4 k5
        have e9 : ckE rm (st0 rm (sy rm s) V).1 (st0 rm (sy rm s) V).2 = wr (sy rm s) (tabW rm (t0A V)) := by
          unfold st0
          split
          · exact ckE_dead hal3
          · rw [st1_dead hal3]
            exact ckE_dead hal3
        refine hQ iv4 av4 V9 (by rw [e9]; exact j1) j2 j3 (fun i hi => (j4 i hi).trans (h456 i hi)) (fun z => ?_) j5 (frI_tr fi3 k4 (by decide) (by decide)) (frA_tr f6 k5 (by decide) (by decide))
        rw [e9, hal3] at z
        cases z
      | false =>
        have hE3 : ∀ t ∈ (tbV V (t0A V) 0).1, tE rm (cu rm (wr (sy rm s) (tabW rm (t0A V)))) t := by
          intro t ht
          rw [cu_wr hal0, cu_sy]
          rcases List.mem_cons.mp ht with rfl | ht
          · exact tE_new (lf_lt _) (by show 0 < 3; decide) (by have := hb 7 (by decide) (by decide); show V.2.2 7 < _; omega) hV.2.1.1
          · exact tE_old' (hE t ht) (fun z => lf_new (tk := pls V.1) (by show (V.1.map _).length < 11; rw [List.length_map]; omega) (by have : t.1 ∈ pls V.1 := List.mem_map_of_mem ht; rw [z] at this; exact this))
        have hE3' : ∀ t ∈ (tbV V (t0A V) 0).1, tE rm (av3 0) t := by
          rw [show av3 0 = cu rm (wr (sy rm s) (tabW rm (t0A V))) from hd3.1]
          exact hE3
        have hl3 := hV3.1.2.1
        unfold st0 at hQ
        refine pz_aln (i := 20) rfl rfl ?_
        refine pz_get (i := 21) rfl (gf_13_1 ..) ?_
        refine pz_ic (i := 22) rfl ?_
        refine pz_cI1 (i := 23) rfl (gc_7 ..) rfl (Nat.le_of_ble_eq_true rfl) rfl ?_
        refine sx_tablesUpTo hr' (n := (tbV V (t0A V) 0).1.length) (lv := 0) hV3.1.2.1 hV3.1.1 (fun c hc1 hc2 hc3 => ?_)
        have hcl := lvN_of hr.2 hV3.1 hE3' (by decide) hc1 hc2 hc3
        subst hcl
        refine ⟨_, rfl, ?_⟩
        refine pz_ic (i := 24) rfl ?_
        refine pz_ii_le (i := 25) rfl (fun c25 => ?_) (fun c25 => ?_)
        · refine pz_ic (i := 28) rfl ?_
          refine pz_isn (i := 29) rfl ⟨rfl, Nat.le_of_ble_eq_true rfl⟩ rfl ?_
          refine pz_ic (i := 30) rfl ?_
          refine pz_isn (i := 31) rfl ⟨rfl, Nat.le_of_ble_eq_true rfl⟩ rfl ?_
          first
            | (have h3 : lvN (tbV V (t0A V) 0).1 0 ≤ 3 := le_ofI (b := 3) c25 (Nat.lt_of_le_of_lt hc1 (Nat.lt_of_le_of_lt hl3 (by decide))) (by decide)
               rw [if_pos h3] at hQ
               refine pz_iln (i := 32) rfl rfl ?_
               refine pz_ic (i := 33) rfl ?_
               refine pz_ii_gt (i := 34) rfl (fun c34 => ?_) (fun c34 => ?_)
               · exact absurd c34 (by decide)
               · refine pz_iln (i := 35) rfl rfl ?_
                 refine pz_if_eq (i := 36) rfl (fun c36 => ?_) (fun c36 => ?_)
                 · refine lx_ck2 hr hd3 hV3 hz3 (fun i h1 h2 => Nat.lt_of_lt_of_le (hb3 i h1 h2) (by decide)) (fun iv9 av9 k1 k2 k3 k4 k5 => ?_)
                   exact hQ iv9 av9 _ k1 k2 rfl (fun i hi => (ckF_456 _ i hi).trans (h456 i hi)) (fun _ => rfl) k3 (frI_tr fi3 k4 (by decide) (by decide)) (frA_tr f6 k5 (by decide) (by decide))
                 · exact absurd rfl c36)
            | (have h3 : ¬ lvN (tbV V (t0A V) 0).1 0 ≤ 3 := fun z => absurd (nI_le z (by decide)) c25
               rw [if_neg h3] at hQ
               refine pz_iln (i := 32) rfl rfl ?_
               refine pz_ic (i := 33) rfl ?_
               refine pz_ii_gt (i := 34) rfl (fun c34 => ?_) (fun c34 => ?_)
               · exact absurd c34 (by decide)
               · refine pz_iln (i := 35) rfl rfl ?_
                 refine pz_if_eq (i := 36) rfl (fun c36 => ?_) (fun c36 => ?_)
                 · exact absurd c36 (by decide)
                 · refine lx_l1 hr (tk := lf (pls V.1) :: pls V.1) hal3 hd3 hV3 hz3 htk3 (by show (pls V.1).length + 1 < 9; show (V.1.map _).length + 1 < 9; rw [List.length_map]; omega) (fun t ht => ?_) (cp_wr (cp_le (cp_sy (k := 3) (b := 3648) (by decide) (by decide)) (by decide) (by have := tabW_len rm (t0A V); omega))) hE3 ?_ ?_ hb3 (fun iv4 av4 V9 k1 k2 k3 k4 k5 k6 k7 k8 => hQ iv4 av4 V9 k1 k2 k3 (fun i hi => (k4 i hi).trans (h456 i hi)) k5 k6 (frI_tr fi3 k7 (by decide) (by decide)) (frA_tr f6 k8 (by decide) (by decide)))
                   · rcases List.mem_cons.mp ht with rfl | ht
                     · exact List.mem_cons_self
                     · exact List.mem_cons_of_mem _ (List.mem_map_of_mem ht)
                   · obtain ⟨a, b, c, hus, ha, hbb, hcc, q1, q2, q3⟩ := hlv
                     have hle : ∀ t ∈ t0A V :: a, t.2.1 ≤ 1 := by
                       intro t ht
                       rcases List.mem_cons.mp ht with rfl | ht
                       · exact Nat.zero_le _
                       · rw [ha t ht]
                         decide
                     have hn : lvN (tbV V (t0A V) 0).1 1 = a.length + 1 + b.length := by
                       show lvN (t0A V :: V.1) 1 = _
                       rw [hus, ← List.cons_append, lvN_app (l := 1) (t0A V :: a) hle, lvN_app b (fun t ht => by rw [hbb t ht]; decide), lvN_0 c (fun t ht => by rw [hcc t ht]; decide)]
                       rfl
                     have hL : (tbV V (t0A V) 0).1.length = a.length + 1 + (b.length + c.length) := by
                       show (t0A V :: V.1).length = _
                       rw [hus]
                       simp only [List.length_cons, List.length_append]
                       omega
                     rw [hn, hL]
                     omega
                   · obtain ⟨k, hk1, hk2⟩ := kS_ex (m := V.2.1) (by omega)
                     refine kS_pos hk1 ?_
                     show (fnd ((t0A V :: V.1).take (lvN (t0A V :: V.1) 1)) k).isSome = true
                     have : lvN (t0A V :: V.1) 1 = lvN V.1 1 + 1 := if_pos (Nat.zero_le _)
                     rw [this, List.take_succ_cons]
                     show (match V.2.1 k with | some e => some e | none => fnd (V.1.take (lvN V.1 1)) k).isSome = true
                     obtain ⟨x, hx⟩ := Option.isSome_iff_exists.mp hk2
                     rw [hx]
                     rfl)
        · refine pz_ic (i := 26) rfl ?_
          refine pz_go (i := 27) rfl ?_
          refine pz_isn (i := 29) rfl ⟨rfl, Nat.le_of_ble_eq_true rfl⟩ rfl ?_
          refine pz_ic (i := 30) rfl ?_
          refine pz_isn (i := 31) rfl ⟨rfl, Nat.le_of_ble_eq_true rfl⟩ rfl ?_
          first
            | (have h3 : lvN (tbV V (t0A V) 0).1 0 ≤ 3 := le_ofI (b := 3) c25 (Nat.lt_of_le_of_lt hc1 (Nat.lt_of_le_of_lt hl3 (by decide))) (by decide)
               rw [if_pos h3] at hQ
               refine pz_iln (i := 32) rfl rfl ?_
               refine pz_ic (i := 33) rfl ?_
               refine pz_ii_gt (i := 34) rfl (fun c34 => ?_) (fun c34 => ?_)
               · exact absurd c34 (by decide)
               · refine pz_iln (i := 35) rfl rfl ?_
                 refine pz_if_eq (i := 36) rfl (fun c36 => ?_) (fun c36 => ?_)
                 · refine lx_ck2 hr hd3 hV3 hz3 (fun i h1 h2 => Nat.lt_of_lt_of_le (hb3 i h1 h2) (by decide)) (fun iv9 av9 k1 k2 k3 k4 k5 => ?_)
                   exact hQ iv9 av9 _ k1 k2 rfl (fun i hi => (ckF_456 _ i hi).trans (h456 i hi)) (fun _ => rfl) k3 (frI_tr fi3 k4 (by decide) (by decide)) (frA_tr f6 k5 (by decide) (by decide))
                 · exact absurd rfl c36)
            | (have h3 : ¬ lvN (tbV V (t0A V) 0).1 0 ≤ 3 := fun z => absurd (nI_le z (by decide)) c25
               rw [if_neg h3] at hQ
               refine pz_iln (i := 32) rfl rfl ?_
               refine pz_ic (i := 33) rfl ?_
               refine pz_ii_gt (i := 34) rfl (fun c34 => ?_) (fun c34 => ?_)
               · exact absurd c34 (by decide)
               · refine pz_iln (i := 35) rfl rfl ?_
                 refine pz_if_eq (i := 36) rfl (fun c36 => ?_) (fun c36 => ?_)
                 · exact absurd c36 (by decide)
                 · refine lx_l1 hr (tk := lf (pls V.1) :: pls V.1) hal3 hd3 hV3 hz3 htk3 (by show (pls V.1).length + 1 < 9; show (V.1.map _).length + 1 < 9; rw [List.length_map]; omega) (fun t ht => ?_) (cp_wr (cp_le (cp_sy (k := 3) (b := 3648) (by decide) (by decide)) (by decide) (by have := tabW_len rm (t0A V); omega))) hE3 ?_ ?_ hb3 (fun iv4 av4 V9 k1 k2 k3 k4 k5 k6 k7 k8 => hQ iv4 av4 V9 k1 k2 k3 (fun i hi => (k4 i hi).trans (h456 i hi)) k5 k6 (frI_tr fi3 k7 (by decide) (by decide)) (frA_tr f6 k8 (by decide) (by decide)))
                   · rcases List.mem_cons.mp ht with rfl | ht
                     · exact List.mem_cons_self
                     · exact List.mem_cons_of_mem _ (List.mem_map_of_mem ht)
                   · obtain ⟨a, b, c, hus, ha, hbb, hcc, q1, q2, q3⟩ := hlv
                     have hle : ∀ t ∈ t0A V :: a, t.2.1 ≤ 1 := by
                       intro t ht
                       rcases List.mem_cons.mp ht with rfl | ht
                       · exact Nat.zero_le _
                       · rw [ha t ht]
                         decide
                     have hn : lvN (tbV V (t0A V) 0).1 1 = a.length + 1 + b.length := by
                       show lvN (t0A V :: V.1) 1 = _
                       rw [hus, ← List.cons_append, lvN_app (l := 1) (t0A V :: a) hle, lvN_app b (fun t ht => by rw [hbb t ht]; decide), lvN_0 c (fun t ht => by rw [hcc t ht]; decide)]
                       rfl
                     have hL : (tbV V (t0A V) 0).1.length = a.length + 1 + (b.length + c.length) := by
                       show (t0A V :: V.1).length = _
                       rw [hus]
                       simp only [List.length_cons, List.length_append]
                       omega
                     rw [hn, hL]
                     omega
                   · obtain ⟨k, hk1, hk2⟩ := kS_ex (m := V.2.1) (by omega)
                     refine kS_pos hk1 ?_
                     show (fnd ((t0A V :: V.1).take (lvN (t0A V :: V.1) 1)) k).isSome = true
                     have : lvN (t0A V :: V.1) 1 = lvN V.1 1 + 1 := if_pos (Nat.zero_le _)
                     rw [this, List.take_succ_cons]
                     show (match V.2.1 k with | some e => some e | none => fnd (V.1.take (lvN V.1 1)) k).isSome = true
                     obtain ⟨x, hx⟩ := Option.isSome_iff_exists.mp hk2
                     rw [hx]
                     rfl)
end S69
