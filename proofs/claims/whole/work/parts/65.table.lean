/-! PART 65: Keeper.writeTable -/
section S65
variable {Lx : Nat} {xs : Nat → Int32} {d rm : Nat} {iv : Nat → Int32} {r : pW} {Q : rQ}
set_option maxRecDepth 20000 in
theorem lp_wt1 {e : Nat} (he : e < 5) {lv rp : Int32} {av : Nat → Nat → Int32} (hnext : ∀ av', frA av av' [27] → pgE (av' 27) (av (10 + 3 * e + 0)) (av (10 + 3 * e + 1)) (av (10 + 3 * e + 2)) 120 → pz Lx xs (d + 1) rt_36 none Q 69 [some (.ref 13), some (.int lv), some (.ref (oE e)), some (.int rp), some (.int (flX (av (10 + 3 * e + 0)) 120)), some (.int (nI (16 + 10 * (kK (av (10 + 3 * e + 0)) 120).length))), some (.int (nI 120))] [] (wX rm iv av' r)) :
    ∀ (m k : Nat) (av1 : Nat → Nat → Int32), k ≤ 120 → 120 ≤ k + m → frA av av1 [27] → pgE (av1 27) (av (10 + 3 * e + 0)) (av (10 + 3 * e + 1)) (av (10 + 3 * e + 2)) k → pz Lx xs (d + 1) rt_36 none Q 16 [some (.ref 13), some (.int lv), some (.ref (oE e)), some (.int rp), some (.int (flX (av (10 + 3 * e + 0)) k)), some (.int (nI (16 + 10 * (kK (av (10 + 3 * e + 0)) k).length))), some (.int (nI k))] [] (wX rm iv av1 r) := by
  have hdone : ∀ (k : Nat) (av1 : Nat → Nat → Int32), k = 120 → frA av av1 [27] → pgE (av1 27) (av (10 + 3 * e + 0)) (av (10 + 3 * e + 1)) (av (10 + 3 * e + 2)) k → pz Lx xs (d + 1) rt_36 none Q 16 [some (.ref 13), some (.int lv), some (.ref (oE e)), some (.int rp), some (.int (flX (av (10 + 3 * e + 0)) k)), some (.int (nI (16 + 10 * (kK (av (10 + 3 * e + 0)) k).length))), some (.int (nI k))] [] (wX rm iv av1 r) := by
    intro k av1 hk hf h0
    subst hk
    refine pz_il (i := 16) rfl rfl ?_
    refine pz_bi (i := 17) rfl ?_
    refine pz_ii_ge (i := 18) rfl (fun c18 => ?_) (fun c18 => ?_)
    · exact hnext av1 hf h0
    · exact absurd (Int32.le_refl _) c18
  intro m
  induction m with
  | zero =>
    intro k av1 hk hm hf h0
    exact hdone k av1 (by omega) hf h0
  | succ m ih =>
    intro k av1 hk hm hf h0
    by_cases hkn : k = 120
    · exact hdone k av1 hkn hf h0
    have hlen := kK_len (av (10 + 3 * e + 0)) k
    have E0 : av1 (10 + 3 * e + 0) = av (10 + 3 * e + 0) := hf _ (by simp only [List.mem_cons, List.not_mem_nil, or_false]; omega)
    have E1 : av1 (10 + 3 * e + 1) = av (10 + 3 * e + 1) := hf _ (by simp only [List.mem_cons, List.not_mem_nil, or_false]; omega)
    have E2 : av1 (10 + 3 * e + 2) = av (10 + 3 * e + 2) := hf _ (by simp only [List.mem_cons, List.not_mem_nil, or_false]; omega)
    have U : ∀ (av2 : Nat → Nat → Int32) (f : Nat → Int32) (z : Nat), z < 3 → up_a av2 27 f (10 + 3 * e + z) = av2 (10 + 3 * e + z) := fun av2 f z hz => ua_n (by omega)
    generalize hN : (kK (av (10 + 3 * e + 0)) k).length = N at hlen ⊢
    refine pz_il (i := 16) rfl rfl ?_
    refine pz_bi (i := 17) rfl ?_
    refine pz_ii_ge (i := 18) rfl (fun c18 => ?_) (fun c18 => ?_)
    · exact absurd (le_ofI (a := 120) c18) (by omega)
    · refine pz_aln (i := 19) rfl rfl ?_
      refine pz_get (i := 20) rfl (gE_0 he ..) ?_
      refine pz_il (i := 21) rfl rfl ?_
      refine pz_ial (i := 22) rfl (gEa_0 he ..) (in_ofI (by omega)) ?_
      rw [cl_ofI (a := k), E0]
      refine pz_if_eq (i := 23) rfl (fun c23 => ?_) (fun c23 => ?_)
      · refine pz_inc (i := 67) rfl rfl rfl rfl ?_
        refine pz_go (i := 68) rfl ?_
        rw [nI_1]
        first
          | (have hks := kK_n c23
             have z := ih (k + 1) av1 (by omega) (by omega) hf (by unfold pgE; rw [hks]; exact h0)
             unfold flX at z
             rw [hks, hN] at z
             exact z)
          | (have hks := kK_s c23
             have hfl : flX (av (10 + 3 * e + 0)) (k + 1) = flX (av (10 + 3 * e + 0)) k ||| fB (nI k) := by
               unfold flX
               rw [hks, List.foldl_append]
               rfl
             have hl2 : (kK (av (10 + 3 * e + 0)) (k + 1)).length = N + 1 := by
               rw [hks, List.length_append, hN]
               rfl
             rw [← hfl, show nI (16 + 10 * N) + 10 = nI (16 + 10 * (N + 1)) from nI_add (16 + 10 * N) 10, ← hl2]
             refine ih (k + 1) _ (by omega) (by omega) ?_ ?_
             · exact frA_up (frA_up (frA_up (frA_up hf (by decide)) (by decide)) (by decide)) (by decide)
             · intro i hi
               rw [hl2] at hi
               rw [ua_s, ua_s, ua_s, ua_s, cl_ofI (a := 16 + 10 * N), cl_ofI (a := 16 + 10 * N + 1)]
               by_cases hiN : i = N
               · subst hiN
                 have hg : (kK (av (10 + 3 * e + 0)) (k + 1)).getD i 0 = k := by
                   rw [hks, gd_r (by omega), hN, Nat.sub_self]
                   rfl
                 rw [hg]
                 refine ⟨?_, ?_, fun j hj => ⟨?_, ?_⟩⟩
                 · rw [w4_out (by omega), w4_out (by omega), ui_n (by omega), ui_s]
                   exact pk_vb _
                 · rw [w4_out (by omega), w4_out (by omega), ui_s]
                   exact pk_vb _
                 · rw [w4_out (by omega), w4_in hj]
                 · rw [w4_in hj]
               · have hg : (kK (av (10 + 3 * e + 0)) (k + 1)).getD i 0 = (kK (av (10 + 3 * e + 0)) k).getD i 0 := by
                   rw [hks, gd_l (by omega)]
                 rw [hg]
                 obtain ⟨g0, g1, g2⟩ := h0 i (by omega)
                 refine ⟨?_, ?_, fun j hj => ⟨?_, ?_⟩⟩
                 · rw [w4_out (by omega), w4_out (by omega), ui_n (by omega), ui_n (by omega)]
                   exact g0
                 · rw [w4_out (by omega), w4_out (by omega), ui_n (by omega), ui_n (by omega)]
                   exact g1
                 · rw [w4_out (by omega), w4_out (by omega), ui_n (by omega), ui_n (by omega)]
                   exact (g2 j hj).1
                 · rw [w4_out (by omega), w4_out (by omega), ui_n (by omega), ui_n (by omega)]
                   exact (g2 j hj).2)
      · refine pz_aln (i := 24) rfl rfl ?_
        refine pz_get (i := 25) rfl (gf_13_6 ..) ?_
        refine pz_il (i := 26) rfl rfl ?_
        refine pz_il (i := 27) rfl rfl ?_
        refine pz_i2b (i := 28) rfl ?_
        refine pz_bas (i := 29) rfl (ga_21 ..) rfl (in_ofI (by omega)) (pa_21 ..) ?_
        refine pz_aln (i := 30) rfl rfl ?_
        refine pz_get (i := 31) rfl (gf_13_6 ..) ?_
        refine pz_il (i := 32) rfl rfl ?_
        refine pz_ic (i := 33) rfl ?_
        refine pz_add (i := 34) rfl ?_
        rw [show nI (16 + 10 * N) + 1 = nI ((16 + 10 * N) + 1) from nI_add _ 1]
        refine pz_aln (i := 35) rfl rfl ?_
        refine pz_get (i := 36) rfl (gE_0 he ..) ?_
        refine pz_il (i := 37) rfl rfl ?_
        refine pz_ial (i := 38) rfl (gEa_0 he ..) (in_ofI (by omega)) ?_
        rw [cl_ofI (a := k), U _ _ 0 (by decide), E0]
        refine pz_i2b (i := 39) rfl ?_
        refine pz_bas (i := 40) rfl (ga_21 ..) rfl (in_ofI (by omega)) (pa_21 ..) ?_
        refine pz_aln (i := 41) rfl rfl ?_
        refine pz_get (i := 42) rfl (gf_13_6 ..) ?_
        refine pz_il (i := 43) rfl rfl ?_
        refine pz_ic (i := 44) rfl ?_
        refine pz_add (i := 45) rfl ?_
        rw [show nI (16 + 10 * N) + 2 = nI ((16 + 10 * N) + 2) from nI_add _ 2]
        refine pz_aln (i := 46) rfl rfl ?_
        refine pz_get (i := 47) rfl (gE_2 he ..) ?_
        refine pz_il (i := 48) rfl rfl ?_
        refine pz_ial (i := 49) rfl (gEa_2 he ..) (in_ofI (by omega)) ?_
        rw [cl_ofI (a := k), U _ _ 2 (by decide), U _ _ 2 (by decide), E2]
        refine pz_sV3 (i := 50) rfl (by decide) (Nat.le_of_ble_eq_true rfl) rfl ?_
        refine sx_setP (q := 16 + 10 * N + 2) (by omega) ?_
        refine ⟨rfl, ?_⟩
        refine pz_aln (i := 51) rfl rfl ?_
        refine pz_get (i := 52) rfl (gf_13_6 ..) ?_
        refine pz_il (i := 53) rfl rfl ?_
        refine pz_bi (i := 54) rfl ?_
        refine pz_add (i := 55) rfl ?_
        rw [show nI (16 + 10 * N) + 6 = nI ((16 + 10 * N) + 6) from nI_add _ 6]
        refine pz_aln (i := 56) rfl rfl ?_
        refine pz_get (i := 57) rfl (gE_1 he ..) ?_
        refine pz_il (i := 58) rfl rfl ?_
        refine pz_ial (i := 59) rfl (gEa_1 he ..) (in_ofI (by omega)) ?_
        rw [cl_ofI (a := k), U _ _ 1 (by decide), U _ _ 1 (by decide), U _ _ 1 (by decide), E1]
        refine pz_sV3 (i := 60) rfl (by decide) (Nat.le_of_ble_eq_true rfl) rfl ?_
        refine sx_setP (q := 16 + 10 * N + 6) (by omega) ?_
        refine ⟨rfl, ?_⟩
        refine pz_il (i := 61) rfl rfl ?_
        refine pz_il (i := 62) rfl rfl ?_
        refine pz_sI1 (i := 63) rfl (by decide) (Nat.le_of_ble_eq_true rfl) rfl ?_
        refine sx_filterBits ?_
        refine ⟨_, rfl, ?_⟩
        refine pz_or (i := 64) rfl ?_
        refine pz_is (i := 65) rfl ⟨rfl, Nat.le_of_ble_eq_true rfl⟩ rfl ?_
        refine pz_inc (i := 66) rfl rfl rfl rfl ?_
        refine pz_inc (i := 67) rfl rfl rfl rfl ?_
        refine pz_go (i := 68) rfl ?_
        rw [nI_1]
        first
          | (have hks := kK_n c23
             have z := ih (k + 1) av1 (by omega) (by omega) hf (by unfold pgE; rw [hks]; exact h0)
             unfold flX at z
             rw [hks, hN] at z
             exact z)
          | (have hks := kK_s c23
             have hfl : flX (av (10 + 3 * e + 0)) (k + 1) = flX (av (10 + 3 * e + 0)) k ||| fB (nI k) := by
               unfold flX
               rw [hks, List.foldl_append]
               rfl
             have hl2 : (kK (av (10 + 3 * e + 0)) (k + 1)).length = N + 1 := by
               rw [hks, List.length_append, hN]
               rfl
             rw [← hfl, show nI (16 + 10 * N) + 10 = nI (16 + 10 * (N + 1)) from nI_add (16 + 10 * N) 10, ← hl2]
             refine ih (k + 1) _ (by omega) (by omega) ?_ ?_
             · exact frA_up (frA_up (frA_up (frA_up hf (by decide)) (by decide)) (by decide)) (by decide)
             · intro i hi
               rw [hl2] at hi
               rw [ua_s, ua_s, ua_s, ua_s, cl_ofI (a := 16 + 10 * N), cl_ofI (a := 16 + 10 * N + 1)]
               by_cases hiN : i = N
               · subst hiN
                 have hg : (kK (av (10 + 3 * e + 0)) (k + 1)).getD i 0 = k := by
                   rw [hks, gd_r (by omega), hN, Nat.sub_self]
                   rfl
                 rw [hg]
                 refine ⟨?_, ?_, fun j hj => ⟨?_, ?_⟩⟩
                 · rw [w4_out (by omega), w4_out (by omega), ui_n (by omega), ui_s]
                   exact pk_vb _
                 · rw [w4_out (by omega), w4_out (by omega), ui_s]
                   exact pk_vb _
                 · rw [w4_out (by omega), w4_in hj]
                 · rw [w4_in hj]
               · have hg : (kK (av (10 + 3 * e + 0)) (k + 1)).getD i 0 = (kK (av (10 + 3 * e + 0)) k).getD i 0 := by
                   rw [hks, gd_l (by omega)]
                 rw [hg]
                 obtain ⟨g0, g1, g2⟩ := h0 i (by omega)
                 refine ⟨?_, ?_, fun j hj => ⟨?_, ?_⟩⟩
                 · rw [w4_out (by omega), w4_out (by omega), ui_n (by omega), ui_n (by omega)]
                   exact g0
                 · rw [w4_out (by omega), w4_out (by omega), ui_n (by omega), ui_n (by omega)]
                   exact g1
                 · rw [w4_out (by omega), w4_out (by omega), ui_n (by omega), ui_n (by omega)]
                   exact (g2 j hj).1
                 · rw [w4_out (by omega), w4_out (by omega), ui_n (by omega), ui_n (by omega)]
                   exact (g2 j hj).2)
set_option maxRecDepth 20000 in
theorem lp_wt2 {e : Nat} (he : e < 5) {lv rp : Int32} {av : Nat → Nat → Int32} (hne : ¬ iv (30 + e) = 0) (hnext : ∀ av' p0, frA av av' [27] → pgT (av' 27) lv (iv (30 + e)) (iv 17) (av (10 + 3 * e + 0)) (av (10 + 3 * e + 1)) (av (10 + 3 * e + 2)) → p0 ≤ 11 → (∀ j, j < p0 → ¬ bJ (iv 6) j = 0) → (p0 < 11 → bJ (iv 6) p0 = 0) → pz Lx xs (d + 1) rt_36 none Q 114 [some (.ref 13), some (.int lv), some (.ref (oE e)), some (.int rp), some (.int (flX (av (10 + 3 * e + 0)) 120)), some (.int (nI (16 + 10 * (kK (av (10 + 3 * e + 0)) 120).length))), some (.int (nI p0))] [] (wX rm iv av' r)) : rx_R Lx xs (d + 2) 36 [.ref 13, .int lv, .ref (oE e), .int rp] (wX rm iv av r) Q := by
  refine pz_en (t := rt_36) ⟨Nat.le_of_ble_eq_true rfl, rfl⟩ rfl rfl ?_
  refine pz_aln (i := 0) rfl rfl ?_
  refine pz_get (i := 1) rfl (gE_3 he ..) ?_
  refine pz_if_ne (i := 2) rfl (fun c2 => ?_) (fun c2 => ?_)
  · refine pz_ic (i := 10) rfl ?_
    refine pz_is (i := 11) rfl ⟨rfl, Nat.le_of_ble_eq_true rfl⟩ rfl ?_
    refine pz_bi (i := 12) rfl ?_
    refine pz_is (i := 13) rfl ⟨rfl, Nat.le_of_ble_eq_true rfl⟩ rfl ?_
    refine pz_ic (i := 14) rfl ?_
    refine pz_is (i := 15) rfl ⟨rfl, Nat.le_of_ble_eq_true rfl⟩ rfl ?_
    refine lp_wt1 he (av := av) (fun av1 f1 h1 => ?_) 120 0 av (by omega) (by omega) (frA_rfl _ _) (fun i hi => absurd hi (by show ¬ i < 0; omega))
    refine pz_aln (i := 69) rfl rfl ?_
    refine pz_get (i := 70) rfl (gf_13_6 ..) ?_
    refine pz_ic (i := 71) rfl ?_
    refine pz_bi (i := 72) rfl ?_
    refine pz_bas (i := 73) rfl (ga_21 ..) rfl (in_ofI (a := 0) (n := 1300) (by decide)) (pa_21 ..) ?_
    refine pz_aln (i := 74) rfl rfl ?_
    refine pz_get (i := 75) rfl (gf_13_6 ..) ?_
    refine pz_ic (i := 76) rfl ?_
    refine pz_iln (i := 77) rfl rfl ?_
    refine pz_i2b (i := 78) rfl ?_
    refine pz_bas (i := 79) rfl (ga_21 ..) rfl (in_ofI (a := 1) (n := 1300) (by decide)) (pa_21 ..) ?_
    refine pz_aln (i := 80) rfl rfl ?_
    refine pz_get (i := 81) rfl (gf_13_6 ..) ?_
    refine pz_ic (i := 82) rfl ?_
    refine pz_aln (i := 83) rfl rfl ?_
    refine pz_get (i := 84) rfl (gE_3 he ..) ?_
    refine pz_i2b (i := 85) rfl ?_
    refine pz_bas (i := 86) rfl (ga_21 ..) rfl (in_ofI (a := 2) (n := 1300) (by decide)) (pa_21 ..) ?_
    refine pz_aln (i := 87) rfl rfl ?_
    refine pz_get (i := 88) rfl (gf_13_6 ..) ?_
    refine pz_ic (i := 89) rfl ?_
    refine pz_ic (i := 90) rfl ?_
    refine pz_bas (i := 91) rfl (ga_21 ..) rfl (in_ofI (a := 3) (n := 1300) (by decide)) (pa_21 ..) ?_
    refine pz_aln (i := 92) rfl rfl ?_
    refine pz_get (i := 93) rfl (gf_13_6 ..) ?_
    refine pz_ic (i := 94) rfl ?_
    refine pz_aln (i := 95) rfl rfl ?_
    refine pz_get (i := 96) rfl (gf_13_1 ..) ?_
    refine pz_get (i := 97) rfl (gf_7_10 ..) ?_
    refine pz_sV3 (i := 98) rfl (by decide) (Nat.le_of_ble_eq_true rfl) rfl ?_
    refine sx_setP (q := 4) (by decide) ?_
    refine ⟨rfl, ?_⟩
    refine pz_aln (i := 99) rfl rfl ?_
    refine pz_get (i := 100) rfl (gf_13_6 ..) ?_
    refine pz_bi (i := 101) rfl ?_
    refine pz_il (i := 102) rfl rfl ?_
    refine pz_sV3 (i := 103) rfl (by decide) (Nat.le_of_ble_eq_true rfl) rfl ?_
    refine sx_setP (q := 8) (by decide) ?_
    refine ⟨rfl, ?_⟩
    refine pz_aln (i := 104) rfl rfl ?_
    refine pz_get (i := 105) rfl (gf_13_6 ..) ?_
    refine pz_bi (i := 106) rfl ?_
    refine pz_aln (i := 107) rfl rfl ?_
    refine pz_get (i := 108) rfl (gf_13_1 ..) ?_
    refine pz_get (i := 109) rfl (gf_7_10 ..) ?_
    refine pz_sV3 (i := 110) rfl (by decide) (Nat.le_of_ble_eq_true rfl) rfl ?_
    refine sx_setP (q := 12) (by decide) ?_
    refine ⟨rfl, ?_⟩
    refine pz_aln (i := 111) rfl rfl ?_
    refine pz_cI0 (i := 112) rfl (gc_13 ..) rfl (Nat.le_of_ble_eq_true rfl) rfl ?_
    refine sx_leastFree (fun p0 u1 u2 u3 => ?_)
    refine ⟨_, rfl, ?_⟩
    refine pz_is (i := 113) rfl ⟨rfl, Nat.le_of_ble_eq_true rfl⟩ rfl ?_
    refine hnext _ p0 ?_ ⟨?_, ?_, ?_, ?_, fun j hj => ⟨?_, ?_, ?_⟩, fun i hi => ?_⟩ u1 u2 u3
    · exact frA_tr f1 (frA_up (frA_up (frA_up (frA_up (frA_up (frA_up (frA_up (frA_rfl av1 [27]) (by decide)) (by decide)) (by decide)) (by decide)) (by decide)) (by decide)) (by decide)) (by decide) (by decide)
    · rw [ua_s, w4_out (by omega), ua_s, w4_out (by omega), ua_s, w4_out (by omega), ua_s, ui_n (by decide), ua_s, ui_n (by decide), ua_s, ui_n (by decide), ua_s]
      exact (ui_s _ _ _).trans rfl
    · rw [ua_s, w4_out (by omega), ua_s, w4_out (by omega), ua_s, w4_out (by omega), ua_s, ui_n (by decide), ua_s, ui_n (by decide), ua_s]
      exact (ui_s _ _ _).trans (pk_vb _)
    · rw [ua_s, w4_out (by omega), ua_s, w4_out (by omega), ua_s, w4_out (by omega), ua_s, ui_n (by decide), ua_s]
      exact (ui_s _ _ _).trans (pk_vb _)
    · rw [ua_s, w4_out (by omega), ua_s, w4_out (by omega), ua_s, w4_out (by omega), ua_s]
      exact (ui_s _ _ _).trans rfl
    · rw [ua_s, w4_out (by omega), ua_s, w4_out (by omega), ua_s, w4_in hj]
    · rw [ua_s, w4_out (by omega), ua_s, w4_in hj]
    · rw [ua_s, w4_in hj]
    · obtain ⟨g0, g1, g2⟩ := h1 i hi
      refine ⟨?_, ?_, fun j hj => ⟨?_, ?_⟩⟩
      · rw [ua_s, w4_out (by omega), ua_s, w4_out (by omega), ua_s, w4_out (by omega), ua_s, ui_n (by show _ ≠ (3 : Nat); omega), ua_s, ui_n (by show _ ≠ (2 : Nat); omega), ua_s, ui_n (by show _ ≠ (1 : Nat); omega), ua_s, ui_n (by show _ ≠ (0 : Nat); omega)]
        exact g0
      · rw [ua_s, w4_out (by omega), ua_s, w4_out (by omega), ua_s, w4_out (by omega), ua_s, ui_n (by show _ ≠ (3 : Nat); omega), ua_s, ui_n (by show _ ≠ (2 : Nat); omega), ua_s, ui_n (by show _ ≠ (1 : Nat); omega), ua_s, ui_n (by show _ ≠ (0 : Nat); omega)]
        exact g1
      · rw [ua_s, w4_out (by omega), ua_s, w4_out (by omega), ua_s, w4_out (by omega), ua_s, ui_n (by show _ ≠ (3 : Nat); omega), ua_s, ui_n (by show _ ≠ (2 : Nat); omega), ua_s, ui_n (by show _ ≠ (1 : Nat); omega), ua_s, ui_n (by show _ ≠ (0 : Nat); omega)]
        exact (g2 j hj).1
      · rw [ua_s, w4_out (by omega), ua_s, w4_out (by omega), ua_s, w4_out (by omega), ua_s, ui_n (by show _ ≠ (3 : Nat); omega), ua_s, ui_n (by show _ ≠ (2 : Nat); omega), ua_s, ui_n (by show _ ≠ (1 : Nat); omega), ua_s, ui_n (by show _ ≠ (0 : Nat); omega)]
        exact (g2 j hj).2
  · exact absurd c2 hne
/-- a write of a table: its page among the places -/
def tabW (rm : Nat) (t : tB) : wR := wL (rm + t.1 * 1300) (tabB t.2.1 t.2.2.2 t.2.2.1)
theorem tabW_ok {rm : Nat} {t : tB} (h : t.1 < 12) : wok rm (tabW rm t) := by
  refine Or.inr ?_
  show rm ≤ rm + t.1 * 1300 ∧ rm + t.1 * 1300 + (tabB t.2.1 t.2.2.2 t.2.2.1).length ≤ rm + 15728
  rw [tabB_len]
  have := kS_len t.2.2.2
  omega
/-- the view with a table in the place of the newest k -/
def tbV (V : vW) (t : tB) (k : Nat) : vW := (t :: V.1.drop k, V.2.1, vs V.2.2 7 (V.2.2 7 + 1))
theorem rpl_T {f : Nat → Int32} {us : List tB} {k : Nat} {t : tB} (hf : ∀ i u, us[i]? = some u → f i = nI u.1) : ∀ i u, (t :: us.drop k)[i]? = some u → rpl f us.length k true (nI t.1) i = nI u.1 := by
  intro i u hu
  unfold rpl
  rw [if_pos rfl]
  cases i with
  | zero =>
    rw [ui_s]
    simp only [List.getElem?_cons_zero, Option.some.injEq] at hu
    rw [hu]
  | succ i =>
    rw [ui_n (by omega)]
    rw [List.getElem?_cons_succ, List.getElem?_drop] at hu
    have hl := (List.getElem?_eq_some_iff.mp hu).1
    rw [pk_cpy_in (by omega) (by omega), show k + (i + 1 - 1) = k + i by omega]
    exact hf _ u hu
theorem rpl_F {f : Nat → Int32} {us : List tB} {k : Nat} {z : Int32} (hf : ∀ i u, us[i]? = some u → f i = nI u.1) : ∀ i u, (us.drop k)[i]? = some u → rpl f us.length k false z i = nI u.1 := by
  intro i u hu
  unfold rpl
  rw [if_neg (by decide)]
  rw [List.getElem?_drop] at hu
  have hl := (List.getElem?_eq_some_iff.mp hu).1
  rw [pk_cpy_in (by omega) (by omega), show k + (i - 0) = k + i by omega]
  exact hf _ u hu
set_option maxRecDepth 20000 in
theorem sx_writeTable (hr : 512 ≤ rm ∧ rm ≤ 4096) {av : Nat → Nat → Int32} {e lv k : Nat} {m : mP} {V : vW} {s : dS} {tk : List Nat} (he : e < 2) (hlv : lv < 3) (hm : eX e iv av m) (hne : 0 < (kS m).length) (htk : tkX (iv 6) tk) (hk : k ≤ V.1.length) (hfit : 1 + (V.1.length - k) ≤ 6) (hd : dX rm iv av s) (hV : vX 0 iv av V) (hz : kz av) (hc : cp s 1 (16 + 10 * (kS m).length)) (hb : V.2.2 7 < 2 ^ 30)
    (hQ : ∀ iv' av', dX rm iv' av' (wr s (tabW rm (lf tk, lv, V.2.2 7, m))) → vX 0 iv' av' (tbV V (lf tk, lv, V.2.2 7, m) k) → tkX (iv' 6) (lf tk :: tk) → kz av' → frI iv iv' [0, 1, 2, 5, 6, 10, 17] → frA av av' [0, 1, 2, 3, 4, 27] → Q none (wX rm iv' av' r)) : rx_R Lx xs (d + 3) 36 [.ref 13, .int (nI lv), .ref (oE e), .int (nI k)] (wX rm iv av r) Q := by
  have hr' : 0 < rm ∧ rm ≤ 4096 := ⟨by omega, hr.2⟩
  have hkl := kS_len m
  have he5 : e < 5 := by omega
  refine lp_wt2 (d := d + 1) he5 (by rw [hm.2.1]; exact nI_ne0 hne (by omega)) (fun av1 p0 f1 hp u1 u2 u3 => ?_)
  have e17 : iv 17 = nI (V.2.2 7) := hV.2.2 7 (by decide) (by decide)
  have hp0 : lf tk = p0 := lf_eq u1 (fun j hj => Classical.byContradiction fun z => u2 j hj ((bJ_0 htk (by omega)).mpr z)) (fun hj => (bJ_0 htk (by omega)).mp (u3 hj))
  subst hp0
  rw [e17] at hp
  have hget := tabB_get hm (by omega) hp
  have hkk : (kK (av (10 + 3 * e + 0)) 120).length = (kS m).length := by rw [kK_kS hm]
  rw [hkk]
  have hd1 : dX rm iv av1 s := dX_ext hd (fun _ _ => rfl) (fun j hj => f1 j (by simp only [List.mem_cons, List.not_mem_nil, or_false]; omega))
  have hl12 := lf_lt tk
  have hwok := tabW_ok (rm := rm) (t := (lf tk, lv, V.2.2 7, m)) hl12
  have htw : tabW rm (lf tk, lv, V.2.2 7, m) = (rm + lf tk * 1300, 16 + 10 * (kS m).length, lB (tabB lv m (V.2.2 7))) := by
    unfold tabW wL
    rw [tabB_len]
  rw [htw] at hwok hQ
  refine pz_aln (i := 114) rfl rfl ?_
  refine pz_get (i := 115) rfl (gf_13_0 ..) ?_
  refine pz_aln (i := 116) rfl rfl ?_
  refine pz_get (i := 117) rfl (gf_13_0 ..) ?_
  refine pz_il (i := 118) rfl rfl ?_
  refine pz_cI1 (i := 119) rfl (gc_2 ..) rfl (Nat.le_of_ble_eq_true rfl) rfl ?_
  refine sx_tableCell ?_
  rw [show nI (lf tk) * 1300 = nI (lf tk * 1300) from pk_mul _ 1300, nI_add]
  refine ⟨_, rfl, ?_⟩
  refine pz_aln (i := 120) rfl rfl ?_
  refine pz_get (i := 121) rfl (gf_13_6 ..) ?_
  refine pz_ic (i := 122) rfl ?_
  refine pz_il (i := 123) rfl rfl ?_
  refine pz_cV4 (i := 124) rfl (gc_2 ..) rfl (Nat.le_of_ble_eq_true rfl) rfl ?_
  refine sx_write hr' (ρ := 20) (a := 27) (na := 1300) (from0 := 0) (n := 16 + 10 * (kS m).length) (c := rm + lf tk * 1300) (g := lB (tabB lv m (V.2.2 7))) (fun _ _ => ga_21 ..) (by decide) (by omega) (by decide) (fun j hj => ?_) (lB_bt _) hwok hd1 (fun h => by have := hc h; omega) (fun iv2 av2 hd2 fi2 fa2 => ?_)
  · rw [Nat.zero_add]
    exact hget j hj
  have e6 : iv2 6 = iv 6 := fi2 6 (by decide)
  have g17 : iv2 17 = nI (V.2.2 7) := (fi2 17 (by decide)).trans e17
  refine ⟨rfl, ?_⟩
  refine pz_aln (i := 125) rfl rfl ?_
  refine pz_dup (i := 126) rfl rfl ?_
  refine pz_get (i := 127) rfl (gf_13_8 ..) ?_
  rw [e6]
  refine pz_ic (i := 128) rfl ?_
  refine pz_il (i := 129) rfl rfl ?_
  refine pz_shl (i := 130) rfl ?_
  refine pz_or (i := 131) rfl ?_
  refine pz_put (i := 132) rfl (pf_13_8 ..) ⟨rfl, rfl⟩ ?_
  refine pz_aln (i := 133) rfl rfl ?_
  refine pz_get (i := 134) rfl (gf_13_1 ..) ?_
  refine pz_dup (i := 135) rfl rfl ?_
  refine pz_get (i := 136) rfl (gf_7_10 ..) ?_
  rw [show upd iv2 6 (iv 6 ||| 1 <<< (nI (lf tk) &&& 31)) 17 = nI (V.2.2 7) from (ui_n (by decide)).trans g17]
  refine pz_ic (i := 137) rfl ?_
  refine pz_add (i := 138) rfl ?_
  rw [nI_1]
  refine pz_put (i := 139) rfl (pf_7_10 ..) ⟨rfl, rfl⟩ ?_
  refine pz_aln (i := 140) rfl rfl ?_
  refine pz_get (i := 141) rfl (gf_13_1 ..) ?_
  refine pz_iln (i := 142) rfl rfl ?_
  refine pz_ic (i := 143) rfl ?_
  refine pz_il (i := 144) rfl rfl ?_
  refine pz_cV3 (i := 145) rfl (gc_7 ..) rfl (Nat.le_of_ble_eq_true rfl) rfl ?_
  have fA : frA av av2 [0, 1, 2, 3, 27] := frA_tr f1 fa2 (by decide) (by decide)
  refine sx_replaceT (n := V.1.length) (k := k) hV.1.2.1 hk ?_ hfit ?_
  · rw [ui_n (by decide), ui_n (by decide), fi2 10 (by decide)]
    exact hV.1.1
  refine ⟨rfl, ?_⟩
  refine pz_vr (i := 146) rfl rfl ?_
  refine hQ _ _ (dX_ext hd2 (fun j hj => ?_) (fun j hj => ?_)) ⟨⟨?_, ?_, ?_⟩, ?_, ?_⟩ ?_ ⟨fun j hj => ?_, ?_⟩ ?_ ?_
  · rw [ui_n (by omega), ui_n (by omega), ui_n (by omega)]
  · rw [ua_n (by omega)]
  · show upd _ 10 _ 10 = nI (_ :: V.1.drop k).length
    rw [ui_s, List.length_cons, List.length_drop, Nat.add_comm]
  · show (_ :: V.1.drop k).length ≤ 6
    rw [List.length_cons, List.length_drop]
    omega
  · show ∀ i u, (_ :: V.1.drop k)[i]? = some u → up_a av2 4 _ 4 i = nI u.1
    rw [ua_s]
    exact rpl_T (t := (lf tk, lv, V.2.2 7, m)) (fun i u hu => by rw [fA 4 (by decide)]; exact hV.1.2.2 i u hu)
  · exact eX_ext hV.2.1 (by rw [ui_n (by decide), ui_n (by decide), ui_n (by decide)]; exact fi2 30 (by decide)) ((ua_n (by decide)).trans (fA 10 (by decide))) ((ua_n (by decide)).trans (fA 11 (by decide))) ((ua_n (by decide)).trans (fA 12 (by decide)))
  · intro i h1 h2
    show _ = nI (vs V.2.2 7 (V.2.2 7 + 1) i)
    rw [ui_n (by omega)]
    by_cases h7 : i = 7
    · subst h7
      rw [vs_s]
      exact ui_s _ _ _
    · rw [vs_n h7, ui_n (by omega), ui_n (by omega), fi2 _ (by simp only [List.mem_cons, List.not_mem_nil, or_false, not_or]; omega)]
      exact hV.2.2 i h1 h2
  · rw [ui_n (by decide), ui_n (by decide), ui_s]
    exact tkX_add htk hl12
  · rw [ua_n (by decide), fA 25 (by decide)]
    exact hz.1 j hj
  · rw [ua_n (by decide), fA 26 (by decide)]
    exact hz.2
  · exact frI_up (frI_up (frI_up (frI_tr fi2 (frI_rfl _ []) (by decide) (by decide)) (by decide)) (by decide)) (by decide)
  · exact frA_up (frA_tr fA (frA_rfl _ []) (by decide) (by decide)) (by decide)
set_option maxRecDepth 20000 in
theorem sx_writeTable0 {av : Nat → Nat → Int32} {e lv k : Nat} {m : mP} {V : vW} (he : e < 2) (hm : eX e iv av m) (hne : (kS m).length = 0) (hk : k ≤ V.1.length) (hV : vX 0 iv av V)
    (hQ : ∀ iv' av', vX 0 iv' av' (V.1.drop k, V.2.1, V.2.2) → frI iv iv' [10] → frA av av' [4] → Q none (wX rm iv' av' r)) : rx_R Lx xs (d + 3) 36 [.ref 13, .int (nI lv), .ref (oE e), .int (nI k)] (wX rm iv av r) Q := by
  refine pz_en (t := rt_36) ⟨Nat.le_of_ble_eq_true rfl, rfl⟩ rfl rfl ?_
  have he5 : e < 5 := by omega
  refine pz_aln (i := 0) rfl rfl ?_
  refine pz_get (i := 1) rfl (gE_3 he5 ..) ?_
  refine pz_if_ne (i := 2) rfl (fun c2 => ?_) (fun c2 => ?_)
  · rw [hm.2.1, hne] at c2
    exact absurd rfl c2
  · refine pz_aln (i := 3) rfl rfl ?_
    refine pz_get (i := 4) rfl (gf_13_1 ..) ?_
    refine pz_iln (i := 5) rfl rfl ?_
    refine pz_ic (i := 6) rfl ?_
    refine pz_ic (i := 7) rfl ?_
    refine pz_cV3 (i := 8) rfl (gc_7 ..) rfl (Nat.le_of_ble_eq_true rfl) rfl ?_
    refine sx_replaceF (n := V.1.length) (k := k) hV.1.2.1 hk hV.1.1 (by have := hV.1.2.1; omega) ?_
    refine ⟨rfl, ?_⟩
    refine pz_vr (i := 9) rfl rfl ?_
    refine hQ _ _ ⟨⟨?_, ?_, ?_⟩, ?_, ?_⟩ (frI_up (frI_rfl _ _) (by decide)) (frA_up (frA_rfl _ _) (by decide))
    · show upd _ 10 _ 10 = nI (V.1.drop k).length
      rw [ui_s, List.length_drop, Nat.zero_add]
    · show (V.1.drop k).length ≤ 6
      rw [List.length_drop]
      have := hV.1.2.1
      omega
    · show ∀ i u, (V.1.drop k)[i]? = some u → up_a av 4 _ 4 i = nI u.1
      rw [ua_s]
      exact rpl_F hV.1.2.2
    · exact eX_ext hV.2.1 (ui_n (by decide)) (ua_n (by decide)) (ua_n (by decide)) (ua_n (by decide))
    · intro i h1 h2
      rw [ui_n (by omega)]
      exact hV.2.2 i h1 h2
end S65
