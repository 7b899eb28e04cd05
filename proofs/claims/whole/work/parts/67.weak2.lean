/-! PART 67: rules for a disk that is down, 2: tables, root, checkpoint -/
section S67
variable {Lx : Nat} {xs : Nat → Int32} {d rm : Nat} {r : pW} {Q : rQ}
set_option maxRecDepth 20000 in
theorem sw_writeRoot {iv : Nat → Int32} {av : Nat → Nat → Int32} {n : Nat} (h5 : iv 5 = 1) (hn : n ≤ 6) (hT : iv 10 = nI n) (hQ : ∀ iv' av', frI iv iv' [11] → frA av av' [27] → Q none (wX rm iv' av' r)) : rx_R Lx xs (d + 2) 38 [.ref 13] (wX rm iv av r) Q := by
  refine lp_rt3 hn hT (fun av1 f1 _ => ?_)
  have g5 : upd iv 11 (iv 11 + 1) 5 = 1 := (ui_n (by decide)).trans h5
  refine pz_aln (i := 97) rfl rfl ?_
  refine pz_get (i := 98) rfl (gf_13_0 ..) ?_
  refine pz_iln (i := 99) rfl rfl ?_
  refine pz_bi (i := 100) rfl ?_
  refine pz_add (i := 101) rfl ?_
  refine pz_aln (i := 102) rfl rfl ?_
  refine pz_get (i := 103) rfl (gf_13_4 ..) ?_
  refine pz_ic (i := 104) rfl ?_
  refine pz_ic (i := 105) rfl ?_
  refine pz_cV4 (i := 106) rfl (gc_2 ..) rfl (Nat.le_of_ble_eq_true rfl) rfl ?_
  refine sw_write g5 ?_
  refine ⟨rfl, ?_⟩
  refine pz_aln (i := 107) rfl rfl ?_
  refine pz_get (i := 108) rfl (gf_13_0 ..) ?_
  refine pz_iln (i := 109) rfl rfl ?_
  refine pz_aln (i := 110) rfl rfl ?_
  refine pz_get (i := 111) rfl (gf_13_6 ..) ?_
  refine pz_ic (i := 112) rfl ?_
  refine pz_bi (i := 113) rfl ?_
  refine pz_cV4 (i := 114) rfl (gc_2 ..) rfl (Nat.le_of_ble_eq_true rfl) rfl ?_
  refine sw_write g5 ?_
  refine ⟨rfl, ?_⟩
  refine pz_aln (i := 115) rfl rfl ?_
  refine pz_get (i := 116) rfl (gf_13_0 ..) ?_
  refine pz_iln (i := 117) rfl rfl ?_
  refine pz_bi (i := 118) rfl ?_
  refine pz_add (i := 119) rfl ?_
  refine pz_aln (i := 120) rfl rfl ?_
  refine pz_get (i := 121) rfl (gf_13_6 ..) ?_
  refine pz_bi (i := 122) rfl ?_
  refine pz_ic (i := 123) rfl ?_
  refine pz_cV4 (i := 124) rfl (gc_2 ..) rfl (Nat.le_of_ble_eq_true rfl) rfl ?_
  refine sw_write g5 ?_
  refine ⟨rfl, ?_⟩
  refine pz_vr (i := 125) rfl rfl ?_
  exact hQ _ _ (frI_up (frI_rfl _ _) (by decide)) f1
set_option maxRecDepth 20000 in
theorem sw_writeTable {iv : Nat → Int32} {av : Nat → Nat → Int32} {n k e : Nat} {lv : Int32} (he : e < 5) (h5 : iv 5 = 1) (hn : n ≤ 6) (hT : iv 10 = nI n) (hk : k ≤ n) (hQ : ∀ iv' av' n', n' ≤ 6 → iv' 10 = nI n' → frI iv iv' [6, 10, 17] → frA av av' [4, 27] → Q none (wX rm iv' av' r)) : rx_R Lx xs (d + 2) 36 [.ref 13, .int lv, .ref (oE e), .int (nI k)] (wX rm iv av r) Q := by
  by_cases hne : iv (30 + e) = 0
  · refine pz_en (t := rt_36) ⟨Nat.le_of_ble_eq_true rfl, rfl⟩ rfl rfl ?_
    refine pz_aln (i := 0) rfl rfl ?_
    refine pz_get (i := 1) rfl (gE_3 he ..) ?_
    refine pz_if_ne (i := 2) rfl (fun c2 => ?_) (fun c2 => ?_)
    · exact absurd hne c2
    · refine pz_aln (i := 3) rfl rfl ?_
      refine pz_get (i := 4) rfl (gf_13_1 ..) ?_
      refine pz_iln (i := 5) rfl rfl ?_
      refine pz_ic (i := 6) rfl ?_
      refine pz_ic (i := 7) rfl ?_
      refine pz_cV3 (i := 8) rfl (gc_7 ..) rfl (Nat.le_of_ble_eq_true rfl) rfl ?_
      refine sx_replaceF (n := n) (k := k) hn hk hT (by omega) ?_
      refine ⟨rfl, ?_⟩
      refine pz_vr (i := 9) rfl rfl ?_
      exact hQ _ _ (0 + (n - k)) (by omega) (ui_s _ _ _) (frI_up (frI_rfl _ _) (by decide)) (frA_up (frA_rfl _ _) (by decide))
  · refine lp_wt2 he hne (fun av1 p0 f1 _ u1 _ _ => ?_)
    refine pz_aln (i := 114) rfl rfl ?_
    refine pz_get (i := 115) rfl (gf_13_0 ..) ?_
    refine pz_aln (i := 116) rfl rfl ?_
    refine pz_get (i := 117) rfl (gf_13_0 ..) ?_
    refine pz_il (i := 118) rfl rfl ?_
    refine pz_cI1 (i := 119) rfl (gc_2 ..) rfl (Nat.le_of_ble_eq_true rfl) rfl ?_
    refine sx_tableCell ?_
    refine ⟨_, rfl, ?_⟩
    refine pz_aln (i := 120) rfl rfl ?_
    refine pz_get (i := 121) rfl (gf_13_6 ..) ?_
    refine pz_ic (i := 122) rfl ?_
    refine pz_il (i := 123) rfl rfl ?_
    refine pz_cV4 (i := 124) rfl (gc_2 ..) rfl (Nat.le_of_ble_eq_true rfl) rfl ?_
    refine sw_write h5 ?_
    refine ⟨rfl, ?_⟩
    refine pz_aln (i := 125) rfl rfl ?_
    refine pz_dup (i := 126) rfl rfl ?_
    refine pz_get (i := 127) rfl (gf_13_8 ..) ?_
    refine pz_ic (i := 128) rfl ?_
    refine pz_il (i := 129) rfl rfl ?_
    refine pz_shl (i := 130) rfl ?_
    refine pz_or (i := 131) rfl ?_
    refine pz_put (i := 132) rfl (pf_13_8 ..) ⟨rfl, rfl⟩ ?_
    refine pz_aln (i := 133) rfl rfl ?_
    refine pz_get (i := 134) rfl (gf_13_1 ..) ?_
    refine pz_dup (i := 135) rfl rfl ?_
    refine pz_get (i := 136) rfl (gf_7_10 ..) ?_
    refine pz_ic (i := 137) rfl ?_
    refine pz_add (i := 138) rfl ?_
    refine pz_put (i := 139) rfl (pf_7_10 ..) ⟨rfl, rfl⟩ ?_
    refine pz_aln (i := 140) rfl rfl ?_
    refine pz_get (i := 141) rfl (gf_13_1 ..) ?_
    refine pz_iln (i := 142) rfl rfl ?_
    refine pz_ic (i := 143) rfl ?_
    refine pz_il (i := 144) rfl rfl ?_
    refine pz_cV3 (i := 145) rfl (gc_7 ..) rfl (Nat.le_of_ble_eq_true rfl) rfl ?_
    by_cases hf : 1 + (n - k) ≤ 6
    · refine sx_replaceT (n := n) (k := k) hn hk ((ui_n (by decide)).trans ((ui_n (by decide)).trans hT)) hf ?_
      refine ⟨rfl, ?_⟩
      refine pz_vr (i := 146) rfl rfl ?_
      exact hQ _ _ (1 + (n - k)) hf (ui_s _ _ _) (frI_up (frI_up (frI_up (frI_rfl _ _) (by decide)) (by decide)) (by decide)) (frA_up (frA_tr f1 (frA_rfl _ []) (by decide) (by decide)) (by decide))
    · have h6 : n = 6 := by omega
      have h0 : k = 0 := by omega
      subst h6
      subst h0
      refine sx_replace6 ((ui_n (by decide)).trans ((ui_n (by decide)).trans hT)) ?_
      refine ⟨rfl, ?_⟩
      refine pz_vr (i := 146) rfl rfl ?_
      exact hQ _ _ 6 (by omega) ((ui_n (by decide)).trans ((ui_n (by decide)).trans hT)) (frI_up (frI_up (frI_rfl _ _) (by decide)) (by decide)) (frA_tr f1 (frA_rfl _ []) (by decide) (by decide))
theorem sw_sync {iv : Nat → Int32} {av : Nat → Nat → Int32} (h5 : iv 5 = 1) (hQ : Q none (wX rm iv av r)) : rx_R Lx xs (d + 1) 17 [.ref 2] (wX rm iv av r) Q := by
  refine sx_makeLasting ?_
  rw [h5, if_neg (by decide)]
  exact hQ
set_option maxRecDepth 20000 in
theorem lw_ck2 {iv : Nat → Int32} {av : Nat → Nat → Int32} {n : Nat} {x1 x2 x3 : Option Value} (h5 : iv 5 = 1) (hn : n ≤ 6) (hT : iv 10 = nI n) (hQ : ∀ iv' av' n', n' ≤ 6 → iv' 10 = nI n' → eX 0 iv' av' m0 → frI iv iv' [6, 10, 11, 12, 13, 17, 30, 31] → frA av av' [4, 10, 11, 12, 13, 14, 15, 27] → Q none (wX rm iv' av' r)) : pz Lx xs (d + 4) rt_35 none Q 71 [some (.ref 13), x1, x2, x3] [] (wX rm iv av r) := by
  refine pz_aln (i := 71) rfl rfl ?_
  refine pz_get (i := 72) rfl (gf_13_1 ..) ?_
  refine pz_get (i := 73) rfl (gf_7_1 ..) ?_
  refine pz_cV0 (i := 74) rfl (gc_8 ..) rfl (Nat.le_of_ble_eq_true rfl) rfl ?_
  refine sx_Eclear (e := 0) (by decide) ?_
  have g5 : upd iv (30 + 0) 0 5 = 1 := (ui_n (by decide)).trans h5
  refine ⟨rfl, ?_⟩
  refine pz_aln (i := 75) rfl rfl ?_
  refine pz_get (i := 76) rfl (gf_13_0 ..) ?_
  refine pz_cV0 (i := 77) rfl (gc_2 ..) rfl (Nat.le_of_ble_eq_true rfl) rfl ?_
  refine sw_sync g5 ?_
  refine ⟨rfl, ?_⟩
  refine pz_aln (i := 78) rfl rfl ?_
  refine pz_get (i := 79) rfl (gf_13_1 ..) ?_
  refine pz_aln (i := 80) rfl rfl ?_
  refine pz_get (i := 81) rfl (gf_13_1 ..) ?_
  refine pz_get (i := 82) rfl (gf_7_8 ..) ?_
  refine pz_put (i := 83) rfl (pf_7_5 ..) ⟨rfl, rfl⟩ ?_
  refine pz_aln (i := 84) rfl rfl ?_
  refine pz_get (i := 85) rfl (gf_13_1 ..) ?_
  refine pz_aln (i := 86) rfl rfl ?_
  refine pz_get (i := 87) rfl (gf_13_1 ..) ?_
  refine pz_get (i := 88) rfl (gf_7_9 ..) ?_
  refine pz_put (i := 89) rfl (pf_7_6 ..) ⟨rfl, rfl⟩ ?_
  refine pz_aln (i := 90) rfl rfl ?_
  refine pz_cV0 (i := 91) rfl (gc_13 ..) rfl (Nat.le_of_ble_eq_true rfl) rfl ?_
  refine sw_writeRoot (n := n) ?_ hn ?_ (fun iv1 av1 f1 f2 => ?_)
  · rw [ui_n (by decide), ui_n (by decide)]
    exact g5
  · rw [ui_n (by decide), ui_n (by decide), ui_n (by decide)]
    exact hT
  refine ⟨rfl, ?_⟩
  refine pz_aln (i := 92) rfl rfl ?_
  refine pz_get (i := 93) rfl (gf_13_0 ..) ?_
  refine pz_cV0 (i := 94) rfl (gc_2 ..) rfl (Nat.le_of_ble_eq_true rfl) rfl ?_
  refine sw_sync ?_ ?_
  · rw [f1 5 (by decide), ui_n (by decide), ui_n (by decide)]
    exact g5
  refine ⟨rfl, ?_⟩
  refine pz_vr (i := 95) rfl rfl ?_
  refine hQ iv1 av1 n hn ?_ ?_ ?_ ?_
  · rw [f1 10 (by decide), ui_n (by decide), ui_n (by decide), ui_n (by decide)]
    exact hT
  · refine eX_ext (eX_clear 0 iv av) ?_ (f2 10 (by decide)) (f2 11 (by decide)) (f2 12 (by decide))
    rw [f1 (30 + 0) (by decide), ui_n (by decide), ui_n (by decide)]
  · exact frI_tr (frI_up (frI_up (frI_up (frI_rfl iv [12, 13, 30]) (by decide)) (by decide)) (by decide)) f1 (by decide) (by decide)
  · exact frA_tr (frA_up (frA_rfl av [10]) (by decide)) f2 (by decide) (by decide)
set_option maxRecDepth 20000 in
theorem lw_ck1 (hr : 0 < rm ∧ rm ≤ 4096) : ∀ (m l : Nat) (iv : Nat → Int32) (av : Nat → Nat → Int32) (n : Nat) (y1 : Int32) (x3 : Option Value), 1 ≤ l → l ≤ 3 → 3 ≤ l + m → iv 5 = 1 → n ≤ 6 → iv 10 = nI n → (∀ iv' av' n', n' ≤ 6 → iv' 10 = nI n' → eX 0 iv' av' m0 → frI iv iv' [6, 10, 11, 12, 13, 17, 30, 31] → frA av av' [4, 10, 11, 12, 13, 14, 15, 27] → Q none (wX rm iv' av' r)) → pz Lx xs (d + 4) rt_35 none Q 32 [some (.ref 13), some (.int y1), some (.int (nI l)), x3] [] (wX rm iv av r) := by
  intro m
  induction m with
  | zero =>
    intro l iv av n y1 x3 h1 h2 h3 h5 hn hT hQ
    refine pz_iln (i := 32) rfl rfl ?_
    refine pz_ic (i := 33) rfl ?_
    refine pz_ii_gt (i := 34) rfl (fun c34 => ?_) (fun c34 => ?_)
    · exact lw_ck2 h5 hn hT hQ
    · exact absurd (nI_lt (a := 2) (b := l) (by omega) (by omega)) c34
  | succ m ih =>
    intro l iv av n y1 x3 h1 h2 h3 h5 hn hT hQ
    have hgo : ∀ (iv1 : Nat → Int32) (av1 : Nat → Nat → Int32) (n1 : Nat) (y : Int32) (z3 : Option Value), l ≤ 2 → n1 ≤ 6 → iv1 10 = nI n1 → frI iv iv1 [6, 10, 11, 12, 13, 17, 30, 31] → frA av av1 [4, 10, 11, 12, 13, 14, 15, 27] → pz Lx xs (d + 4) rt_35 none Q 68 [some (.ref 13), some (.int y1), some (.int (nI l)), z3] [.int y] (wX rm iv1 av1 r) := by
      intro iv1 av1 n1 y z3 hl hn1 hT1 f1 f2
      refine pz_isn (i := 68) rfl ⟨rfl, Nat.le_of_ble_eq_true rfl⟩ rfl ?_
      refine pz_inc (i := 69) rfl rfl rfl rfl ?_
      refine pz_go (i := 70) rfl ?_
      rw [nI_1]
      exact ih (l + 1) iv1 av1 n1 _ _ (by omega) (by omega) (by omega) ((f1 5 (by decide)).trans h5) hn1 hT1 (fun iv2 av2 n2 k1 k2 k3 k4 k5 => hQ iv2 av2 n2 k1 k2 k3 (frI_tr f1 k4 (fun _ h => h) (fun _ h => h)) (frA_tr f2 k5 (fun _ h => h) (fun _ h => h)))
    refine pz_iln (i := 32) rfl rfl ?_
    refine pz_ic (i := 33) rfl ?_
    refine pz_ii_gt (i := 34) rfl (fun c34 => ?_) (fun c34 => ?_)
    · exact lw_ck2 h5 hn hT hQ
    · have hl2 : l ≤ 2 := by
        rcases Nat.lt_or_ge 2 l with h | h
        · exact absurd (nI_lt h (by omega)) c34
        · exact h
      refine pz_iln (i := 35) rfl rfl ?_
      refine pz_if_eq (i := 36) rfl (fun c36 => ?_) (fun c36 => ?_)
      · exact lw_ck2 h5 hn hT hQ
      · refine pz_aln (i := 37) rfl rfl ?_
        refine pz_get (i := 38) rfl (gf_13_1 ..) ?_
        refine pz_iln (i := 39) rfl rfl ?_
        refine pz_cI1 (i := 40) rfl (gc_7 ..) rfl (Nat.le_of_ble_eq_true rfl) rfl ?_
        refine sx_tablesUpTo hr (n := n) hn hT (fun c hc _ _ => ?_)
        refine ⟨_, rfl, ?_⟩
        refine pz_isn (i := 41) rfl ⟨rfl, Nat.le_of_ble_eq_true rfl⟩ rfl ?_
        refine pz_aln (i := 42) rfl rfl ?_
        refine pz_get (i := 43) rfl (gf_13_1 ..) ?_
        refine pz_iln (i := 44) rfl rfl ?_
        refine pz_aln (i := 45) rfl rfl ?_
        refine pz_get (i := 46) rfl (gf_13_3 ..) ?_
        refine pz_cV2 (i := 47) rfl (gc_7 ..) rfl (Nat.le_of_ble_eq_true rfl) rfl ?_
        refine sw_gatherTables (v := 0) (e := 1) hr (by decide) (by decide) (by omega) (fun iv1 av1 f1 f2 => ?_)
        refine ⟨rfl, ?_⟩
        refine pz_iln (i := 48) rfl rfl ?_
        refine pz_ic (i := 49) rfl ?_
        refine pz_ii_ne (i := 50) rfl (fun c50 => ?_) (fun c50 => ?_)
        · refine pz_aln (i := 54) rfl rfl ?_
          refine pz_iln (i := 55) rfl rfl ?_
          refine pz_aln (i := 56) rfl rfl ?_
          refine pz_get (i := 57) rfl (gf_13_3 ..) ?_
          refine pz_iln (i := 58) rfl rfl ?_
          refine pz_cV3 (i := 59) rfl (gc_13 ..) rfl (Nat.le_of_ble_eq_true rfl) rfl ?_
          refine sw_writeTable (e := 1) (n := n) (k := c) (by decide) ?_ hn ?_ hc (fun iv3 av3 n3 k1 k2 k3 k4 => ?_)
          · first
              | exact (f3 5 (by decide)).trans ((f1 5 (by decide)).trans h5)
              | exact (f1 5 (by decide)).trans h5
          · first
              | exact (f3 10 (by decide)).trans ((f1 10 (by decide)).trans hT)
              | exact (f1 10 (by decide)).trans hT
          refine ⟨rfl, ?_⟩
          refine pz_aln (i := 60) rfl rfl ?_
          refine pz_get (i := 61) rfl (gf_13_3 ..) ?_
          refine pz_get (i := 62) rfl (gf_15_3 ..) ?_
          refine pz_bi (i := 63) rfl ?_
          refine pz_ii_le (i := 64) rfl (fun c64 => ?_) (fun c64 => ?_)
          · refine pz_ic (i := 67) rfl ?_
            first
              | exact hgo iv3 av3 n3 _ _ (by omega) k1 k2 (frI_tr f1 (frI_tr f3 k3 (S := [6, 10, 17, 31]) (by decide) (by decide)) (by decide) (by decide)) (frA_tr f2 (frA_tr f4 k4 (S := [4, 13, 27]) (by decide) (by decide)) (by decide) (by decide))
              | exact hgo iv3 av3 n3 _ _ (by omega) k1 k2 (frI_tr f1 k3 (by decide) (by decide)) (frA_tr f2 k4 (by decide) (by decide))
          · refine pz_ic (i := 65) rfl ?_
            refine pz_go (i := 66) rfl ?_
            first
              | exact hgo iv3 av3 n3 _ _ (by omega) k1 k2 (frI_tr f1 (frI_tr f3 k3 (S := [6, 10, 17, 31]) (by decide) (by decide)) (by decide) (by decide)) (frA_tr f2 (frA_tr f4 k4 (S := [4, 13, 27]) (by decide) (by decide)) (by decide) (by decide))
              | exact hgo iv3 av3 n3 _ _ (by omega) k1 k2 (frI_tr f1 k3 (by decide) (by decide)) (frA_tr f2 k4 (by decide) (by decide))
        · refine pz_aln (i := 51) rfl rfl ?_
          refine pz_get (i := 52) rfl (gf_13_3 ..) ?_
          refine pz_cV0 (i := 53) rfl (gc_15 ..) rfl (Nat.le_of_ble_eq_true rfl) rfl ?_
          refine sw_drop (e := 1) (by decide) (fun iv2 av2 f3 f4 => ?_)
          refine ⟨rfl, ?_⟩
          refine pz_aln (i := 54) rfl rfl ?_
          refine pz_iln (i := 55) rfl rfl ?_
          refine pz_aln (i := 56) rfl rfl ?_
          refine pz_get (i := 57) rfl (gf_13_3 ..) ?_
          refine pz_iln (i := 58) rfl rfl ?_
          refine pz_cV3 (i := 59) rfl (gc_13 ..) rfl (Nat.le_of_ble_eq_true rfl) rfl ?_
          refine sw_writeTable (e := 1) (n := n) (k := c) (by decide) ?_ hn ?_ hc (fun iv3 av3 n3 k1 k2 k3 k4 => ?_)
          · first
              | exact (f3 5 (by decide)).trans ((f1 5 (by decide)).trans h5)
              | exact (f1 5 (by decide)).trans h5
          · first
              | exact (f3 10 (by decide)).trans ((f1 10 (by decide)).trans hT)
              | exact (f1 10 (by decide)).trans hT
          refine ⟨rfl, ?_⟩
          refine pz_aln (i := 60) rfl rfl ?_
          refine pz_get (i := 61) rfl (gf_13_3 ..) ?_
          refine pz_get (i := 62) rfl (gf_15_3 ..) ?_
          refine pz_bi (i := 63) rfl ?_
          refine pz_ii_le (i := 64) rfl (fun c64 => ?_) (fun c64 => ?_)
          · refine pz_ic (i := 67) rfl ?_
            first
              | exact hgo iv3 av3 n3 _ _ (by omega) k1 k2 (frI_tr f1 (frI_tr f3 k3 (S := [6, 10, 17, 31]) (by decide) (by decide)) (by decide) (by decide)) (frA_tr f2 (frA_tr f4 k4 (S := [4, 13, 27]) (by decide) (by decide)) (by decide) (by decide))
              | exact hgo iv3 av3 n3 _ _ (by omega) k1 k2 (frI_tr f1 k3 (by decide) (by decide)) (frA_tr f2 k4 (by decide) (by decide))
          · refine pz_ic (i := 65) rfl ?_
            refine pz_go (i := 66) rfl ?_
            first
              | exact hgo iv3 av3 n3 _ _ (by omega) k1 k2 (frI_tr f1 (frI_tr f3 k3 (S := [6, 10, 17, 31]) (by decide) (by decide)) (by decide) (by decide)) (frA_tr f2 (frA_tr f4 k4 (S := [4, 13, 27]) (by decide) (by decide)) (by decide) (by decide))
              | exact hgo iv3 av3 n3 _ _ (by omega) k1 k2 (frI_tr f1 k3 (by decide) (by decide)) (frA_tr f2 k4 (by decide) (by decide))
set_option maxRecDepth 20000 in
theorem lw_ck0 (hr : 0 < rm ∧ rm ≤ 4096) {iv : Nat → Int32} {av : Nat → Nat → Int32} {n : Nat} {x1 x2 x3 : Option Value} (h1 : x1 = none ∧ x2 = none) (h5 : iv 5 = 1) (hn : n ≤ 6) (hT : iv 10 = nI n) (hQ : ∀ iv' av' n', n' ≤ 6 → iv' 10 = nI n' → eX 0 iv' av' m0 → frI iv iv' [6, 10, 11, 12, 13, 17, 30, 31] → frA av av' [4, 10, 11, 12, 13, 14, 15, 27] → Q none (wX rm iv' av' r)) : pz Lx xs (d + 4) rt_35 none Q 20 [some (.ref 13), x1, x2, x3] [] (wX rm iv av r) := by
  obtain ⟨rfl, rfl⟩ := h1
  refine pz_aln (i := 20) rfl rfl ?_
  refine pz_get (i := 21) rfl (gf_13_1 ..) ?_
  refine pz_ic (i := 22) rfl ?_
  refine pz_cI1 (i := 23) rfl (gc_7 ..) rfl (Nat.le_of_ble_eq_true rfl) rfl ?_
  refine sx_tablesUpTo hr (n := n) (lv := 0) hn hT (fun c hc _ _ => ?_)
  refine ⟨_, rfl, ?_⟩
  refine pz_ic (i := 24) rfl ?_
  refine pz_ii_le (i := 25) rfl (fun c25 => ?_) (fun c25 => ?_)
  · refine pz_ic (i := 28) rfl ?_
    refine pz_isn (i := 29) rfl ⟨rfl, Nat.le_of_ble_eq_true rfl⟩ rfl ?_
    refine pz_ic (i := 30) rfl ?_
    refine pz_isn (i := 31) rfl ⟨rfl, Nat.le_of_ble_eq_true rfl⟩ rfl ?_
    exact lw_ck1 hr 2 1 iv av n _ _ (by omega) (by omega) (by omega) h5 hn hT hQ
  · refine pz_ic (i := 26) rfl ?_
    refine pz_go (i := 27) rfl ?_
    refine pz_isn (i := 29) rfl ⟨rfl, Nat.le_of_ble_eq_true rfl⟩ rfl ?_
    refine pz_ic (i := 30) rfl ?_
    refine pz_isn (i := 31) rfl ⟨rfl, Nat.le_of_ble_eq_true rfl⟩ rfl ?_
    exact lw_ck1 hr 2 1 iv av n _ _ (by omega) (by omega) (by omega) h5 hn hT hQ
set_option maxRecDepth 20000 in
theorem sw_makeCheckpoint (hr : 0 < rm ∧ rm ≤ 4096) {iv : Nat → Int32} {av : Nat → Nat → Int32} {n : Nat} (h5 : iv 5 = 1) (hn : n ≤ 6) (hT : iv 10 = nI n) (hQ : ∀ iv' av' n', n' ≤ 6 → iv' 10 = nI n' → eX 0 iv' av' m0 → frI iv iv' [6, 10, 11, 12, 13, 17, 30, 31] → frA av av' [4, 10, 11, 12, 13, 14, 15, 27] → Q none (wX rm iv' av' r)) : rx_R Lx xs (d + 5) 35 [.ref 13] (wX rm iv av r) Q := by
  refine pz_en (t := rt_35) ⟨Nat.le_of_ble_eq_true rfl, rfl⟩ rfl rfl ?_
  refine pz_aln (i := 0) rfl rfl ?_
  refine pz_get (i := 1) rfl (gf_13_0 ..) ?_
  refine pz_cV0 (i := 2) rfl (gc_2 ..) rfl (Nat.le_of_ble_eq_true rfl) rfl ?_
  refine sw_sync h5 ?_
  refine ⟨rfl, ?_⟩
  refine pz_aln (i := 3) rfl rfl ?_
  refine pz_get (i := 4) rfl (gf_13_1 ..) ?_
  refine pz_get (i := 5) rfl (gf_7_1 ..) ?_
  refine pz_get (i := 6) rfl (gf_8_3 ..) ?_
  refine pz_if_le (i := 7) rfl (fun c7 => ?_) (fun c7 => ?_)
  · exact lw_ck2 h5 hn hT hQ
  · refine pz_aln (i := 8) rfl rfl ?_
    refine pz_aln (i := 9) rfl rfl ?_
    refine pz_get (i := 10) rfl (gf_13_1 ..) ?_
    refine pz_cI0 (i := 11) rfl (gc_7 ..) rfl (Nat.le_of_ble_eq_true rfl) rfl ?_
    refine sx_placesInUse hn hT ?_
    refine ⟨_, rfl, ?_⟩
    refine pz_put (i := 12) rfl (pf_13_8 ..) ⟨rfl, rfl⟩ ?_
    refine pz_aln (i := 13) rfl rfl ?_
    refine pz_ic (i := 14) rfl ?_
    refine pz_aln (i := 15) rfl rfl ?_
    refine pz_get (i := 16) rfl (gf_13_1 ..) ?_
    refine pz_get (i := 17) rfl (gf_7_1 ..) ?_
    refine pz_ic (i := 18) rfl ?_
    refine pz_cV3 (i := 19) rfl (gc_13 ..) rfl (Nat.le_of_ble_eq_true rfl) rfl ?_
    refine sw_writeTable (e := 0) (k := 0) (by decide) ((ui_n (by decide)).trans h5) hn ((ui_n (by decide)).trans hT) (by omega) (fun iv1 av1 n1 k1 k2 k3 k4 => ?_)
    refine ⟨rfl, ?_⟩
    have f1 : frI iv iv1 [6, 10, 17] := frI_tr (frI_up (frI_rfl iv [6]) (by decide)) k3 (by decide) (by decide)
    exact lw_ck0 hr ⟨rfl, rfl⟩ ((f1 5 (by decide)).trans h5) k1 k2 (fun iv2 av2 n2 j1 j2 j3 j4 j5 => hQ iv2 av2 n2 j1 j2 j3 (frI_tr f1 j4 (by decide) (by decide)) (frA_tr k4 j5 (by decide) (by decide)))
end S67
