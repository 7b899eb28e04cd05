/-! PART 73: Keeper.collectTail -/
theorem nI_neg_of {a b : Nat} (h : ¬ nI a = nI b) : a ≠ b := fun z => h (by rw [z])
section S73
variable {Lx : Nat} {xs : Nat → Int32} {d rm : Nat} {r : pW} {Q : rQ}
/-- the end of a collection -/
theorem lx_ce (hr : 512 ≤ rm ∧ rm ≤ 4096) {iv : Nat → Int32} {av : Nat → Nat → Int32} {b : dS × vW × Nat × Nat} {y1 y2 : Int32} {x5 x6 x7 : Option Value} (hd : dX rm iv av b.1) (hV : vX 0 iv av b.2.1) (hz : kz av) (hb : 0 < b.2.2.2 → (∀ i, 1 ≤ i → i ≤ 7 → b.2.1.2.2 i < 2 ^ 30 - 1300) ∧ b.2.2.1 < 2 ^ 30) (hk : b.2.2.2 < 2 ^ 31)
    (hQ : ∀ iv' av', dX rm iv' av' (clT rm b).1 → vX 0 iv' av' (clT rm b).2.1 → kz av' → frI iv iv' [0, 1, 2, 5, 11, 14] → frA av av' [0, 1, 2, 3, 27] → Q (some (.int (nI (clT rm b).2.2))) (wX rm iv' av' r)) : pz Lx xs (d + 3) rt_39 (some .int) Q 98 [some (.ref 13), some (.int y1), some (.int y2), some (.int (nI b.2.2.1)), some (.int (nI b.2.2.2)), x5, x6, x7] [] (wX rm iv av r) := by
  unfold clT at hQ
  refine pz_aln (i := 98) rfl rfl ?_
  refine pz_get (i := 99) rfl (gf_13_0 ..) ?_
  refine pz_cV0 (i := 100) rfl (gc_2 ..) rfl (Nat.le_of_ble_eq_true rfl) rfl ?_
  refine sx_sync hd (fun iv1 hd1 f1 => ?_)
  have hV1 : vX 0 (upd iv1 14 (nI b.2.2.1)) av (clV b) := by
    refine ⟨⟨(ui_n (by decide)).trans ((f1 10 (by decide)).trans hV.1.1), hV.1.2⟩, eX_ext hV.2.1 ((ui_n (by decide)).trans (f1 30 (by decide))) rfl rfl rfl, fun i h1 h2 => ?_⟩
    show upd iv1 14 _ (10 + 10 * 0 + i) = nI (vs b.2.1.2.2 4 b.2.2.1 i)
    by_cases h : i = 4
    · subst h
      rw [vs_s]
      exact ui_s _ _ _
    · rw [vs_n h, ui_n (by omega), f1 _ (by simp only [List.mem_cons, List.not_mem_nil, or_false, not_or]; omega)]
      exact hV.2.2 i h1 h2
  refine ⟨rfl, ?_⟩
  refine pz_aln (i := 101) rfl rfl ?_
  refine pz_get (i := 102) rfl (gf_13_1 ..) ?_
  refine pz_iln (i := 103) rfl rfl ?_
  refine pz_put (i := 104) rfl (pf_7_7 ..) ⟨rfl, rfl⟩ ?_
  refine pz_il (i := 105) rfl rfl ?_
  refine pz_if_le (i := 106) rfl (fun c106 => ?_) (fun c106 => ?_)
  · refine pz_il (i := 112) rfl rfl ?_
    refine pz_ir (i := 113) rfl rfl rfl ?_
    first
      | (have h0 : b.2.2.2 = 0 := by have := le_ofI (b := 0) c106 (by omega) (by decide); omega
         rw [if_pos h0] at hQ
         rw [h0]
         exact hQ _ _ (dX_ext hd1 (fun j hj => ui_n (by omega)) (fun _ _ => rfl)) hV1 hz (frI_up (frI_w f1 (by decide)) (by decide)) (frA_rfl _ _))
      | exact hQ iv3 av2 hd3 ⟨⟨(f4 10 (by decide)).trans hV2.1.1, hV2.1.2⟩, eX_ext hV2.2.1 (f4 _ (by decide)) rfl rfl rfl, vX_num hV2.2.2 f4 (by decide)⟩ hz2 (frI_tr (frI_up (frI_w f1 (S' := [0, 1, 14]) (by decide)) (by decide)) (frI_tr f2 f4 (S := [0, 1, 2, 5, 11]) (by decide) (by decide)) (by decide) (by decide)) (frA_w f3 (by decide))
  · refine pz_aln (i := 107) rfl rfl ?_
    have h0 : ¬ b.2.2.2 = 0 := fun z => c106 (by rw [z]; exact Int32.le_refl _)
    rw [if_neg h0] at hQ
    obtain ⟨hb1, hb2⟩ := hb (by omega)
    refine pz_cV0 (i := 108) rfl (gc_13 ..) rfl (Nat.le_of_ble_eq_true rfl) rfl ?_
    refine sx_writeRoot hr (V := clV b) (s := sy rm b.1) (dX_ext hd1 (fun j hj => ui_n (by omega)) (fun _ _ => rfl)) hV1 hz (cp_sy (by decide) (by decide)) (fun i h1 h2 => ?_) (fun iv2 av2 hd2 hV2 hz2 f2 f3 => ?_)
    · show vs b.2.1.2.2 4 b.2.2.1 i < _
      by_cases h : i = 4
      · subst h
        rw [vs_s]
        exact hb2
      · rw [vs_n h]
        have := hb1 i h1 h2
        omega
    refine ⟨rfl, ?_⟩
    refine pz_aln (i := 109) rfl rfl ?_
    refine pz_get (i := 110) rfl (gf_13_0 ..) ?_
    refine pz_cV0 (i := 111) rfl (gc_2 ..) rfl (Nat.le_of_ble_eq_true rfl) rfl ?_
    refine sx_sync hd2 (fun iv3 hd3 f4 => ?_)
    refine ⟨rfl, ?_⟩
    refine pz_il (i := 112) rfl rfl ?_
    refine pz_ir (i := 113) rfl rfl rfl ?_
    first
      | (have h0 : b.2.2.2 = 0 := by have := le_ofI (b := 0) c106 (by omega) (by decide); omega
         rw [if_pos h0] at hQ
         rw [h0]
         exact hQ _ _ (dX_ext hd1 (fun j hj => ui_n (by omega)) (fun _ _ => rfl)) hV1 hz (frI_up (frI_w f1 (by decide)) (by decide)) (frA_rfl _ _))
      | exact hQ iv3 av2 hd3 ⟨⟨(f4 10 (by decide)).trans hV2.1.1, hV2.1.2⟩, eX_ext hV2.2.1 (f4 _ (by decide)) rfl rfl rfl, vX_num hV2.2.2 f4 (by decide)⟩ hz2 (frI_tr (frI_up (frI_w f1 (S' := [0, 1, 14]) (by decide)) (by decide)) (frI_tr f2 f4 (S := [0, 1, 2, 5, 11]) (by decide) (by decide)) (by decide) (by decide)) (frA_w f3 (by decide))
/-- what the class does behind a checkpoint, dead or alive -/
theorem lx_cm (hr : 512 ≤ rm ∧ rm ≤ 4096) {n : Nat} {lg : List lR} {s : dS} {V V1 : vW} {iv0 iv : Nat → Int32} {av0 av : Nat → Nat → Int32} {x2 x3 x4 x5 x6 x7 : Option Value} (hx : x2 = none ∧ x3 = none ∧ x4 = none) (hn : 0 < n ∧ n ≤ 1000) (hI : s.2.2.2.2.2 = false → clI rm n lg s V) (hb2 : V.2.2 4 < 2 ^ 30 ∧ V.2.2 5 < 2 ^ 30 - 1300 ∧ V.2.2 6 < 2 ^ 30 - 1300) (hd : dX rm iv av (cA rm s V).1) (hV : vX 0 iv av V1) (hz : kz av) (h456 : ∀ i, i = 4 ∨ i = 5 ∨ i = 6 → V1.2.2 i = V.2.2 i) (hex : (cA rm s V).1.2.2.2.2.2 = false → V1 = (cA rm s V).2) (f1 : frI iv0 iv [0, 1, 2, 5, 6, 10, 11, 12, 13, 14, 15, 16, 17, 30, 31, 40, 41, 42, 43, 44, 45]) (f2 : frA av0 av [0, 1, 2, 3, 4, 10, 11, 12, 13, 14, 15, 26, 27, 28])
    (hQ : ∀ iv' av' V', dX rm iv' av' (cl rm n lg s V).1 → vX 0 iv' av' V' → kz av' → ((cl rm n lg s V).1.2.2.2.2.2 = false → V' = (cl rm n lg s V).2.1) → (V'.2.2 4 < 2 ^ 30 ∧ V'.2.2 5 < 2 ^ 30 - 1300 ∧ V'.2.2 6 < 2 ^ 30 - 1300) → frI iv0 iv' [0, 1, 2, 5, 6, 10, 11, 12, 13, 14, 15, 16, 17, 30, 31, 40, 41, 42, 43, 44, 45] → frA av0 av' [0, 1, 2, 3, 4, 10, 11, 12, 13, 14, 15, 26, 27, 28] → Q (some (.int (nI (cl rm n lg s V).2.2))) (wX rm iv' av' r)) : pz Lx xs (d + 5) rt_39 (some .int) Q 9 [some (.ref 13), some (.int (nI n)), x2, x3, x4, x5, x6, x7] [] (wX rm iv av r) := by
  obtain ⟨rfl, rfl, rfl⟩ := hx
  have hr' : 0 < rm ∧ rm ≤ 4096 := ⟨by omega, hr.2⟩
  have e15 : iv 15 = nI (V.2.2 5) := by rw [← h456 5 (by simp)]; exact hV.2.2 5 (by decide) (by decide)
  have e14 : iv 14 = nI (V.2.2 4) := by rw [← h456 4 (by simp)]; exact hV.2.2 4 (by decide) (by decide)
  cases hal : (cA rm s V).1.2.2.2.2.2 with
  | true =>
    obtain ⟨hc1, hc2⟩ := cl_dead1 (n := n) (lg := lg) hal
    rw [hc1, hc2] at hQ
    have e5 : iv 5 = 1 := by
      rw [hd.2.2.2.2.2.2.2.2.1, hal]
      rfl
    have hfin : ∀ x5 x6 x7, pz Lx xs (d + 5) rt_39 (some .int) Q 98 [some (.ref 13), some (.int (nI n)), some (.int (nI (V.2.2 5))), some (.int (nI (V.2.2 4))), some (.int 0), x5, x6, x7] [] (wX rm iv av r) := by
      intro x5 x6 x7
      refine lx_ce (d := d + 2) hr (b := ((cA rm s V).1, V1, V.2.2 4, 0)) hd hV hz (fun z => absurd z (by show ¬ 0 < 0; omega)) (by show 0 < _; decide) (fun iv2 av2 k1 k2 k3 k4 k5 => ?_)
      refine hQ iv2 av2 (clV ((cA rm s V).1, V1, V.2.2 4, 0)) ?_ k2 k3 (fun z => ?_) ?_ (frI_tr f1 k4 (by decide) (by decide)) (frA_tr f2 k5 (by decide) (by decide))
      · have : (clT rm ((cA rm s V).1, V1, V.2.2 4, 0)).1 = (cA rm s V).1 := sy_dead hal
        rw [this] at k1
        exact k1
      · rw [hal] at z
        cases z
      · show vs V1.2.2 4 (V.2.2 4) 4 < _ ∧ vs V1.2.2 4 (V.2.2 4) 5 < _ ∧ vs V1.2.2 4 (V.2.2 4) 6 < _
        rw [vs_s, vs_n (by decide), vs_n (by decide), h456 5 (by simp), h456 6 (by simp)]
        exact hb2
    refine pz_aln (i := 9) rfl rfl ?_
    refine pz_get (i := 10) rfl (gf_13_1 ..) ?_
    refine pz_get (i := 11) rfl (gf_7_8 ..) ?_
    rw [e15]
    refine pz_isn (i := 12) rfl ⟨rfl, Nat.le_of_ble_eq_true rfl⟩ rfl ?_
    refine pz_aln (i := 13) rfl rfl ?_
    refine pz_get (i := 14) rfl (gf_13_1 ..) ?_
    refine pz_get (i := 15) rfl (gf_7_7 ..) ?_
    rw [e14]
    refine pz_isn (i := 16) rfl ⟨rfl, Nat.le_of_ble_eq_true rfl⟩ rfl ?_
    refine pz_ic (i := 17) rfl ?_
    refine pz_is (i := 18) rfl ⟨rfl, Nat.le_of_ble_eq_true rfl⟩ rfl ?_
    refine pz_il (i := 19) rfl rfl ?_
    refine pz_iln (i := 20) rfl rfl ?_
    refine pz_ii_ge (i := 21) rfl (fun c21 => ?_) (fun c21 => ?_)
    · exact hfin _ _ _
    · refine pz_iln (i := 22) rfl rfl ?_
      refine pz_iln (i := 23) rfl rfl ?_
      refine pz_ii_ge (i := 24) rfl (fun c24 => ?_) (fun c24 => ?_)
      · exact hfin _ _ _
      · refine pz_aln (i := 25) rfl rfl ?_
        refine pz_get (i := 26) rfl (gf_13_0 ..) ?_
        refine pz_get (i := 27) rfl (gf_2_10 ..) ?_
        rw [e5]
        refine pz_if_ne (i := 28) rfl (fun c28 => ?_) (fun c28 => ?_)
        · exact hfin _ _ _
        · exact absurd c28 (by decide)
  | false =>
    have hals : s.2.2.2.2.2 = false := by
      cases h : s.2.2.2.2.2 with
      | false => rfl
      | true => rw [cA_dead h, h] at hal; cases hal
    obtain ⟨hck, hbn, hlg, hG⟩ := hI hals
    have hV1 := hex hal
    subst hV1
    have hbd : ∀ i, 1 ≤ i → i ≤ 7 → (cA rm s V).2.2.2 i < 2 ^ 30 - 1300 := ck_bd hbn
    have hbd2 := clR_bd lg (cA rm s V).1 (cA rm s V).2 (V.2.2 4) 0 (hG hal) hbd
    have hkz := lgZ_len lg
    refine pz_aln (i := 9) rfl rfl ?_
    refine pz_get (i := 10) rfl (gf_13_1 ..) ?_
    refine pz_get (i := 11) rfl (gf_7_8 ..) ?_
    rw [e15]
    refine pz_isn (i := 12) rfl ⟨rfl, Nat.le_of_ble_eq_true rfl⟩ rfl ?_
    refine pz_aln (i := 13) rfl rfl ?_
    refine pz_get (i := 14) rfl (gf_13_1 ..) ?_
    refine pz_get (i := 15) rfl (gf_7_7 ..) ?_
    rw [e14]
    refine pz_isn (i := 16) rfl ⟨rfl, Nat.le_of_ble_eq_true rfl⟩ rfl ?_
    refine pz_ic (i := 17) rfl ?_
    refine pz_is (i := 18) rfl ⟨rfl, Nat.le_of_ble_eq_true rfl⟩ rfl ?_
    refine lp_cl (d := d) hr hn.2 (by omega) lg iv av (cA rm s V).1 (cA rm s V).2 (V.2.2 4) 0 _ _ _ hlg (by omega) hd hV hz (hG hal) (fun iv1 av1 y5 y6 y7 k1 k2 k3 k4 k5 => ?_)
    refine lx_ce (d := d + 2) hr (b := clB rm n lg s V) k1 k2 k3 (fun _ => ⟨hbd2.1, ?_⟩) ?_ (fun iv2 av2 j1 j2 j3 j4 j5 => ?_)
    · exact Nat.lt_of_le_of_lt hbd2.2.2.1 (by omega)
    · exact Nat.lt_of_le_of_lt hbd2.2.2.2.1 (by omega)
    · refine hQ iv2 av2 _ j1 j2 j3 (fun _ => rfl) ?_ (frI_tr f1 (frI_tr k4 j4 (S := [0, 1, 2, 5, 6, 10, 11, 12, 13, 14, 15, 16, 17, 30, 31, 40, 41, 42, 43, 44, 45]) (by decide) (by decide)) (by decide) (by decide)) (frA_tr f2 (frA_tr k5 j5 (S := [0, 1, 2, 3, 4, 10, 11, 12, 13, 14, 15, 26, 27, 28]) (by decide) (by decide)) (by decide) (by decide))
      have h4 : (clB rm n lg s V).2.2.1 < 2 ^ 30 := Nat.lt_of_le_of_lt hbd2.2.2.1 (by omega)
      have h5 := hbd2.1 5 (by decide) (by decide)
      have h6 := hbd2.1 6 (by decide) (by decide)
      obtain ⟨t1, t2, _⟩ := clT_num (rm := rm) (b := clB rm n lg s V)
      rw [t1, t2 5 (by decide) (by decide), t2 6 (by decide) (by decide)]
      exact ⟨h4, h5, h6⟩
set_option maxRecDepth 20000 in
theorem sx_collectTail (hr : 512 ≤ rm ∧ rm ≤ 4096) {n : Nat} {lg : List lR} {s : dS} {V : vW} {iv : Nat → Int32} {av : Nat → Nat → Int32} (hn : 0 < n ∧ n ≤ 1000) (hI : s.2.2.2.2.2 = false → clI rm n lg s V) (hb2 : V.2.2 4 < 2 ^ 30 ∧ V.2.2 5 < 2 ^ 30 - 1300 ∧ V.2.2 6 < 2 ^ 30 - 1300) (hd : dX rm iv av s) (hV : vX 0 iv av V) (hz : kz av)
    (hQ : ∀ iv' av' V', dX rm iv' av' (cl rm n lg s V).1 → vX 0 iv' av' V' → kz av' → ((cl rm n lg s V).1.2.2.2.2.2 = false → V' = (cl rm n lg s V).2.1) → (V'.2.2 4 < 2 ^ 30 ∧ V'.2.2 5 < 2 ^ 30 - 1300 ∧ V'.2.2 6 < 2 ^ 30 - 1300) → frI iv iv' [0, 1, 2, 5, 6, 10, 11, 12, 13, 14, 15, 16, 17, 30, 31, 40, 41, 42, 43, 44, 45] → frA av av' [0, 1, 2, 3, 4, 10, 11, 12, 13, 14, 15, 26, 27, 28] → Q (some (.int (nI (cl rm n lg s V).2.2))) (wX rm iv' av' r)) : rx_R Lx xs (d + 6) 39 [.ref 13, .int (nI n)] (wX rm iv av r) Q := by
  refine pz_en (t := rt_39) ⟨Nat.le_of_ble_eq_true rfl, rfl⟩ rfl rfl ?_
  have e12 : iv 12 = nI (V.2.2 2) := hV.2.2 2 (by decide) (by decide)
  have e15 : iv 15 = nI (V.2.2 5) := hV.2.2 5 (by decide) (by decide)
  refine pz_aln (i := 0) rfl rfl ?_
  refine pz_get (i := 1) rfl (gf_13_1 ..) ?_
  refine pz_get (i := 2) rfl (gf_7_5 ..) ?_
  rw [e12]
  refine pz_aln (i := 3) rfl rfl ?_
  refine pz_get (i := 4) rfl (gf_13_1 ..) ?_
  refine pz_get (i := 5) rfl (gf_7_8 ..) ?_
  rw [e15]
  refine pz_ii_eq (i := 6) rfl (fun c6 => ?_) (fun c6 => ?_)
  · cases hal : s.2.2.2.2.2 with
    | true =>
      refine lx_cm hr ⟨rfl, rfl, rfl⟩ hn hI hb2 (by rw [cA_dead hal]; exact hd) hV hz (fun _ _ => rfl) (fun z => ?_) (frI_rfl _ _) (frA_rfl _ _) hQ
      rw [cA_dead hal, hal] at z
      cases z
    | false =>
      have hbn := (hI hal).2.1
      have heq : V.2.2 2 = V.2.2 5 := eq_ofI c6 (by have := hbn 2 (by decide) (by decide); omega) (by omega)
      have hcA : cA rm s V = (s, V) := if_pos heq
      exact lx_cm hr ⟨rfl, rfl, rfl⟩ hn hI hb2 (by rw [hcA]; exact hd) hV hz (fun _ _ => rfl) (fun _ => by rw [hcA]) (frI_rfl _ _) (frA_rfl _ _) hQ
  · refine pz_aln (i := 7) rfl rfl ?_
    have hcA : cA rm s V = ck rm s V := if_neg (nI_neg_of c6)
    refine pz_cV0 (i := 8) rfl (gc_13 ..) rfl (Nat.le_of_ble_eq_true rfl) rfl ?_
    refine sx_makeCheckpoint hr hd hV hz (fun h => (hI h).1) (fun h i h1 h2 => by have := (hI h).2.1 i h1 h2; omega) ⟨by omega, by omega, by omega⟩ (fun iv1 av1 V1 k1 k2 k3 k4 k5 k6 k7 k8 => ⟨rfl, ?_⟩)
    exact lx_cm hr ⟨rfl, rfl, rfl⟩ hn hI hb2 (by rw [hcA]; exact k1) k2 k6 k4 (fun h => by rw [hcA] at h ⊢; exact k5 h) (frI_w k7 (by decide)) (frA_w k8 (by decide)) hQ
end S73
