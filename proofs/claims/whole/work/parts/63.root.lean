/-! PART 63: Keeper.writeRoot -/
theorem w4_in {f : Nat → Int32} {q : Nat} {x : Int32} {j : Nat} (hj : j < 4) : w4 f q x (q + j) = lB (n4 (uN x)) j := by
  unfold w4
  have : j = 0 ∨ j = 1 ∨ j = 2 ∨ j = 3 := by omega
  rcases this with rfl | rfl | rfl | rfl
  · rw [ui_n (by omega), ui_n (by omega), ui_n (by omega), Nat.add_zero, ui_s, n3_b]
    rfl
  · rw [ui_n (by omega), ui_n (by omega), ui_s, n2_b]
    rfl
  · rw [ui_n (by omega), ui_s, n1_b]
    rfl
  · rw [ui_s, n0_b]
    rfl
theorem w4_out {f : Nat → Int32} {q : Nat} {x : Int32} {j : Nat} (hj : j < q ∨ q + 4 ≤ j) : w4 f q x j = f j := by
  unfold w4
  rw [ui_n (by omega), ui_n (by omega), ui_n (by omega), ui_n (by omega)]
/-- the page of a root: iv the numbers of the view, n tables at the places pl -/
def pgR (g iv pl : Nat → Int32) (n : Nat) : Prop := (∀ j, j < 4 → g (0 + j) = lB (n4 (uN (iv 11))) j ∧ g (4 + j) = lB (n4 (uN (iv 12))) j ∧ g (8 + j) = lB (n4 (uN (iv 14))) j ∧ g (12 + j) = lB (n4 (uN (iv 13))) j ∧ g (16 + j) = lB (n4 (uN (iv 17))) j ∧ g (60 + j) = lB (n4 (uN (iv 11))) j) ∧ g 20 = bS n ∧ (∀ i, i < n → g (21 + i) = (pl i).toInt8.toInt32) ∧ ∀ j, 21 + n ≤ j → j < 60 → g j = 0
section S63
variable {Lx : Nat} {xs : Nat → Int32} {d rm : Nat} {iv : Nat → Int32} {r : pW} {Q : rQ}
set_option maxRecDepth 20000 in
theorem lp_rt1 {av : Nat → Nat → Int32} (hnext : ∀ av', frA av av' [27] → (∀ j, j < 64 → av' 27 j = 0) → pz Lx xs d rt_38 none Q 19 [some (.ref 13), some (.int 64)] [] (wX rm iv av' r)) :
    ∀ (m k : Nat) (av1 : Nat → Nat → Int32), k ≤ 64 → 64 ≤ k + m → frA av av1 [27] → (∀ j, j < k → av1 27 j = 0) → pz Lx xs d rt_38 none Q 9 [some (.ref 13), some (.int (nI k))] [] (wX rm iv av1 r) := by
  have hdone : ∀ (k : Nat) (av1 : Nat → Nat → Int32), k = 64 → frA av av1 [27] → (∀ j, j < k → av1 27 j = 0) → pz Lx xs d rt_38 none Q 9 [some (.ref 13), some (.int (nI k))] [] (wX rm iv av1 r) := by
    intro k av1 hk hf h0
    subst hk
    refine pz_iln (i := 9) rfl rfl ?_
    refine pz_bi (i := 10) rfl ?_
    refine pz_ii_ge (i := 11) rfl (fun c11 => ?_) (fun c11 => ?_)
    · exact hnext av1 hf h0
    · exact absurd (Int32.le_refl _) c11
  intro m
  induction m with
  | zero =>
    intro k av1 hk hm hf h0
    exact hdone k av1 (by omega) hf h0
  | succ m ih =>
    intro k av1 hk hm hf h0
    by_cases hkn : k = 64
    · exact hdone k av1 hkn hf h0
    refine pz_iln (i := 9) rfl rfl ?_
    refine pz_bi (i := 10) rfl ?_
    refine pz_ii_ge (i := 11) rfl (fun c11 => ?_) (fun c11 => ?_)
    · exact absurd (le_ofI (a := 64) c11) (by omega)
    · refine pz_aln (i := 12) rfl rfl ?_
      refine pz_get (i := 13) rfl (gf_13_6 ..) ?_
      refine pz_iln (i := 14) rfl rfl ?_
      refine pz_ic (i := 15) rfl ?_
      refine pz_bas (i := 16) rfl (ga_21 ..) rfl (in_ofI (by omega)) (pa_21 ..) ?_
      refine pz_inc (i := 17) rfl rfl rfl rfl ?_
      refine pz_go (i := 18) rfl ?_
      rw [nI_1]
      refine ih (k + 1) _ (by omega) (by omega) (frA_up hf (by decide)) (fun j hj => ?_)
      rw [ua_s, cl_ofI (a := k)]
      by_cases hjk : j = k
      · subst hjk
        rw [ui_s]
        rfl
      · rw [ui_n hjk]
        exact h0 j (by omega)
set_option maxRecDepth 20000 in
theorem lp_rt2 {av : Nat → Nat → Int32} {n : Nat} (hn : n ≤ 6) (hT : iv 10 = nI n) (hnext : ∀ av', frA av av' [27] → (∀ i, i < n → av' 27 (21 + i) = (av 4 i).toInt8.toInt32) → (∀ j, j < 21 ∨ 21 + n ≤ j → av' 27 j = av 27 j) → pz Lx xs d rt_38 none Q 83 [some (.ref 13), some (.int (nI n))] [] (wX rm iv av' r)) :
    ∀ (m k : Nat) (av1 : Nat → Nat → Int32), k ≤ n → n ≤ k + m → frA av av1 [27] → (∀ i, i < k → av1 27 (21 + i) = (av 4 i).toInt8.toInt32) → (∀ j, j < 21 ∨ 21 + n ≤ j → av1 27 j = av 27 j) → pz Lx xs d rt_38 none Q 64 [some (.ref 13), some (.int (nI k))] [] (wX rm iv av1 r) := by
  have hdone : ∀ (k : Nat) (av1 : Nat → Nat → Int32), k = n → frA av av1 [27] → (∀ i, i < k → av1 27 (21 + i) = (av 4 i).toInt8.toInt32) → (∀ j, j < 21 ∨ 21 + n ≤ j → av1 27 j = av 27 j) → pz Lx xs d rt_38 none Q 64 [some (.ref 13), some (.int (nI k))] [] (wX rm iv av1 r) := by
    intro k av1 hk hf h0 h1
    subst hk
    refine pz_iln (i := 64) rfl rfl ?_
    refine pz_aln (i := 65) rfl rfl ?_
    refine pz_get (i := 66) rfl (gf_13_1 ..) ?_
    refine pz_get (i := 67) rfl (gf_7_3 ..) ?_
    rw [hT]
    refine pz_ii_ge (i := 68) rfl (fun c68 => ?_) (fun c68 => ?_)
    · exact hnext av1 hf h0 h1
    · exact absurd (Int32.le_refl _) c68
  intro m
  induction m with
  | zero =>
    intro k av1 hk hm hf h0 h1
    exact hdone k av1 (by omega) hf h0 h1
  | succ m ih =>
    intro k av1 hk hm hf h0 h1
    by_cases hkn : k = n
    · exact hdone k av1 hkn hf h0 h1
    refine pz_iln (i := 64) rfl rfl ?_
    refine pz_aln (i := 65) rfl rfl ?_
    refine pz_get (i := 66) rfl (gf_13_1 ..) ?_
    refine pz_get (i := 67) rfl (gf_7_3 ..) ?_
    rw [hT]
    refine pz_ii_ge (i := 68) rfl (fun c68 => ?_) (fun c68 => ?_)
    · exact absurd (le_ofI c68) (by omega)
    · refine pz_aln (i := 69) rfl rfl ?_
      refine pz_get (i := 70) rfl (gf_13_6 ..) ?_
      refine pz_bi (i := 71) rfl ?_
      refine pz_iln (i := 72) rfl rfl ?_
      refine pz_add (i := 73) rfl ?_
      rw [show (21 : Int32) + nI k = nI (21 + k) from nI_add 21 k]
      refine pz_aln (i := 74) rfl rfl ?_
      refine pz_get (i := 75) rfl (gf_13_1 ..) ?_
      refine pz_get (i := 76) rfl (gf_7_2 ..) ?_
      refine pz_iln (i := 77) rfl rfl ?_
      refine pz_ial (i := 78) rfl (ga_12 ..) (in_ofI (by omega)) ?_
      rw [cl_ofI (a := k), hf 4 (by decide)]
      refine pz_i2b (i := 79) rfl ?_
      refine pz_bas (i := 80) rfl (ga_21 ..) rfl (in_ofI (by omega)) (pa_21 ..) ?_
      refine pz_inc (i := 81) rfl rfl rfl rfl ?_
      refine pz_go (i := 82) rfl ?_
      rw [nI_1]
      refine ih (k + 1) _ (by omega) (by omega) (frA_up hf (by decide)) (fun j hj => ?_) (fun j hj => ?_)
      · rw [ua_s, cl_ofI (a := 21 + k)]
        by_cases hjk : j = k
        · subst hjk
          rw [ui_s]
          exact pk_vb _
        · rw [ui_n (by omega)]
          exact h0 j (by omega)
      · rw [ua_s, cl_ofI (a := 21 + k), ui_n (by omega)]
        exact h1 j hj
set_option maxRecDepth 20000 in
theorem lp_rt3 {av : Nat → Nat → Int32} {n : Nat} (hn : n ≤ 6) (hT : iv 10 = nI n) (hnext : ∀ av', frA av av' [27] → pgR (av' 27) (upd iv 11 (iv 11 + 1)) (av 4) n → pz Lx xs (d + 1) rt_38 none Q 97 [some (.ref 13), some (.int (nI rm + 15600 + ((iv 11 + 1) &&& 1) * 64))] [] (wX rm (upd iv 11 (iv 11 + 1)) av' r)) : rx_R Lx xs (d + 2) 38 [.ref 13] (wX rm iv av r) Q := by
  refine pz_en (t := rt_38) ⟨Nat.le_of_ble_eq_true rfl, rfl⟩ rfl rfl ?_
  refine pz_aln (i := 0) rfl rfl ?_
  refine pz_get (i := 1) rfl (gf_13_1 ..) ?_
  refine pz_dup (i := 2) rfl rfl ?_
  refine pz_get (i := 3) rfl (gf_7_4 ..) ?_
  refine pz_ic (i := 4) rfl ?_
  refine pz_add (i := 5) rfl ?_
  refine pz_put (i := 6) rfl (pf_7_4 ..) ⟨rfl, rfl⟩ ?_
  refine pz_ic (i := 7) rfl ?_
  refine pz_isn (i := 8) rfl ⟨rfl, Nat.le_of_ble_eq_true rfl⟩ rfl ?_
  refine lp_rt1 (av := av) (fun av1 f1 h1 => ?_) 64 0 av (by omega) (by omega) (frA_rfl _ _) (fun j hj => absurd hj (by omega))
  refine pz_aln (i := 19) rfl rfl ?_
  refine pz_get (i := 20) rfl (gf_13_6 ..) ?_
  refine pz_ic (i := 21) rfl ?_
  refine pz_aln (i := 22) rfl rfl ?_
  refine pz_get (i := 23) rfl (gf_13_1 ..) ?_
  refine pz_get (i := 24) rfl (gf_7_4 ..) ?_
  refine pz_sV3 (i := 25) rfl (by decide) (Nat.le_of_ble_eq_true rfl) rfl ?_
  refine sx_setP (q := 0) (by decide) ?_
  skip
  refine ⟨rfl, ?_⟩
  refine pz_aln (i := 26) rfl rfl ?_
  refine pz_get (i := 27) rfl (gf_13_6 ..) ?_
  refine pz_ic (i := 28) rfl ?_
  refine pz_aln (i := 29) rfl rfl ?_
  refine pz_get (i := 30) rfl (gf_13_1 ..) ?_
  refine pz_get (i := 31) rfl (gf_7_5 ..) ?_
  refine pz_sV3 (i := 32) rfl (by decide) (Nat.le_of_ble_eq_true rfl) rfl ?_
  refine sx_setP (q := 4) (by decide) ?_
  refine ⟨rfl, ?_⟩
  refine pz_aln (i := 33) rfl rfl ?_
  refine pz_get (i := 34) rfl (gf_13_6 ..) ?_
  refine pz_bi (i := 35) rfl ?_
  refine pz_aln (i := 36) rfl rfl ?_
  refine pz_get (i := 37) rfl (gf_13_1 ..) ?_
  refine pz_get (i := 38) rfl (gf_7_7 ..) ?_
  refine pz_sV3 (i := 39) rfl (by decide) (Nat.le_of_ble_eq_true rfl) rfl ?_
  refine sx_setP (q := 8) (by decide) ?_
  refine ⟨rfl, ?_⟩
  refine pz_aln (i := 40) rfl rfl ?_
  refine pz_get (i := 41) rfl (gf_13_6 ..) ?_
  refine pz_bi (i := 42) rfl ?_
  refine pz_aln (i := 43) rfl rfl ?_
  refine pz_get (i := 44) rfl (gf_13_1 ..) ?_
  refine pz_get (i := 45) rfl (gf_7_6 ..) ?_
  refine pz_sV3 (i := 46) rfl (by decide) (Nat.le_of_ble_eq_true rfl) rfl ?_
  refine sx_setP (q := 12) (by decide) ?_
  refine ⟨rfl, ?_⟩
  refine pz_aln (i := 47) rfl rfl ?_
  refine pz_get (i := 48) rfl (gf_13_6 ..) ?_
  refine pz_bi (i := 49) rfl ?_
  refine pz_aln (i := 50) rfl rfl ?_
  refine pz_get (i := 51) rfl (gf_13_1 ..) ?_
  refine pz_get (i := 52) rfl (gf_7_10 ..) ?_
  refine pz_sV3 (i := 53) rfl (by decide) (Nat.le_of_ble_eq_true rfl) rfl ?_
  refine sx_setP (q := 16) (by decide) ?_
  refine ⟨rfl, ?_⟩
  refine pz_aln (i := 54) rfl rfl ?_
  refine pz_get (i := 55) rfl (gf_13_6 ..) ?_
  refine pz_bi (i := 56) rfl ?_
  refine pz_aln (i := 57) rfl rfl ?_
  refine pz_get (i := 58) rfl (gf_13_1 ..) ?_
  refine pz_get (i := 59) rfl (gf_7_3 ..) ?_
  rw [show (upd iv 11 (iv 11 + 1)) 10 = nI n from (ui_n (by decide)).trans hT]
  refine pz_i2b (i := 60) rfl ?_
  refine pz_bas (i := 61) rfl (ga_21 ..) rfl (in_ofI (a := 20) (n := 1300) (by decide)) (pa_21 ..) ?_
  refine pz_ic (i := 62) rfl ?_
  refine pz_isn (i := 63) rfl ⟨rfl, Nat.le_of_ble_eq_true rfl⟩ rfl ?_
  refine lp_rt2 (n := n) hn ((ui_n (by decide)).trans hT) (fun av2 f2 h2 h3 => ?_) n 0 _ (by omega) (by omega) (frA_rfl _ _) (fun i hi => absurd hi (by omega)) (fun _ _ => rfl)
  refine pz_aln (i := 83) rfl rfl ?_
  refine pz_get (i := 84) rfl (gf_13_6 ..) ?_
  refine pz_bi (i := 85) rfl ?_
  refine pz_aln (i := 86) rfl rfl ?_
  refine pz_get (i := 87) rfl (gf_13_1 ..) ?_
  refine pz_get (i := 88) rfl (gf_7_4 ..) ?_
  refine pz_sV3 (i := 89) rfl (by decide) (Nat.le_of_ble_eq_true rfl) rfl ?_
  refine sx_setP (q := 60) (by decide) ?_
  refine ⟨rfl, ?_⟩
  refine pz_aln (i := 90) rfl rfl ?_
  refine pz_get (i := 91) rfl (gf_13_0 ..) ?_
  refine pz_aln (i := 92) rfl rfl ?_
  refine pz_get (i := 93) rfl (gf_13_1 ..) ?_
  refine pz_get (i := 94) rfl (gf_7_4 ..) ?_
  rw [show (upd iv 11 (iv 11 + 1)) 11 = iv 11 + 1 from ui_s _ _ _]
  refine pz_cI1 (i := 95) rfl (gc_2 ..) rfl (Nat.le_of_ble_eq_true rfl) rfl ?_
  refine sx_rootCell ?_
  refine ⟨_, rfl, ?_⟩
  refine pz_isn (i := 96) rfl ⟨rfl, Nat.le_of_ble_eq_true rfl⟩ rfl ?_
  refine hnext _ ?_ ⟨fun j hj => ?_, ?_, fun i hi => ?_, fun j hj1 hj2 => ?_⟩
  · exact frA_up (frA_tr (frA_tr f1 (frA_up (frA_up (frA_up (frA_up (frA_up (frA_up (frA_rfl av1 [27]) (by decide)) (by decide)) (by decide)) (by decide)) (by decide)) (by decide)) (S := [27]) (by decide) (by decide)) f2 (by decide) (by decide)) (by decide)
  · rw [ua_s]
    refine ⟨?_, ?_, ?_, ?_, ?_, ?_⟩
    · rw [w4_out (by omega), h3 _ (by omega), ua_s, ui_n (by show _ ≠ (20 : Nat); omega), ua_s, w4_out (by omega), ua_s, w4_out (by omega), ua_s, w4_out (by omega), ua_s, w4_out (by omega), ua_s, w4_in hj]
    · rw [w4_out (by omega), h3 _ (by omega), ua_s, ui_n (by show _ ≠ (20 : Nat); omega), ua_s, w4_out (by omega), ua_s, w4_out (by omega), ua_s, w4_out (by omega), ua_s, w4_in hj]
    · rw [w4_out (by omega), h3 _ (by omega), ua_s, ui_n (by show _ ≠ (20 : Nat); omega), ua_s, w4_out (by omega), ua_s, w4_out (by omega), ua_s, w4_in hj]
    · rw [w4_out (by omega), h3 _ (by omega), ua_s, ui_n (by show _ ≠ (20 : Nat); omega), ua_s, w4_out (by omega), ua_s, w4_in hj]
    · rw [w4_out (by omega), h3 _ (by omega), ua_s, ui_n (by show _ ≠ (20 : Nat); omega), ua_s, w4_in hj]
    · rw [w4_in hj, ui_s]
  · rw [ua_s, w4_out (by omega), h3 _ (by omega), ua_s]
    exact (ui_s _ _ _).trans (pk_vb _)
  · rw [ua_s, w4_out (by omega), h2 i hi]
    rw [ua_n (by decide), ua_n (by decide), ua_n (by decide), ua_n (by decide), ua_n (by decide), ua_n (by decide), f1 4 (by decide)]
  · rw [ua_s, w4_out (by omega), h3 _ (by omega), ua_s, ui_n (by show _ ≠ (20 : Nat); omega), ua_s, w4_out (by omega), ua_s, w4_out (by omega), ua_s, w4_out (by omega), ua_s, w4_out (by omega), ua_s, w4_out (by omega)]
    exact h1 j (by omega)
/-- the first sixty bytes of a root -/
def rtB (V : vW) : List Nat := n4 (V.2.2 1) ++ n4 (V.2.2 2) ++ n4 (V.2.2 4) ++ n4 (V.2.2 3) ++ n4 (V.2.2 7) ++ [V.1.length] ++ (V.1.map (fun t => t.1) ++ List.replicate (39 - V.1.length) 0)
theorem rtB_len {V : vW} (h : V.1.length ≤ 6) : (rtB V).length = 60 := by
  simp only [rtB, n4, List.length_append, List.length_cons, List.length_nil, List.length_map, List.length_replicate]
  omega
def rtC (rm ver : Nat) : Nat := rm + 15600 + ver % 2 * 64
/-- the disk behind a root's writes -/
def rtS (rm : Nat) (s : dS) (V : vW) : dS := wr (wr (wr s (wL (rtC rm (V.2.2 1) + 60) (List.replicate 4 0))) (wL (rtC rm (V.2.2 1)) (rtB V))) (wL (rtC rm (V.2.2 1) + 60) (n4 (V.2.2 1)))
def rtV (V : vW) : vW := (V.1, V.2.1, vs V.2.2 1 (V.2.2 1 + 1))
theorem rtB_get {V : vW} {g iv pl : Nat → Int32} (h6 : V.1.length ≤ 6) (hpl : ∀ i t, V.1[i]? = some t → pl i = nI t.1) (hn : ∀ i, 1 ≤ i → i ≤ 7 → uN (iv (10 + i)) = V.2.2 i) (hg : pgR g iv pl V.1.length) : ∀ k, k < 60 → g k = lB (rtB V) k := by
  intro k hk
  obtain ⟨g1, g2, g3, g4⟩ := hg
  have e1 := hn 1 (by decide) (by decide)
  have e2 := hn 2 (by decide) (by decide)
  have e3 := hn 3 (by decide) (by decide)
  have e4 := hn 4 (by decide) (by decide)
  have e7 := hn 7 (by decide) (by decide)
  rcases Nat.lt_or_ge k 20 with h | h
  · have hc : ∃ a j, j < 4 ∧ a < 5 ∧ k = 4 * a + j := ⟨k / 4, k % 4, by omega, by omega, by omega⟩
    obtain ⟨a, j, hj, ha, rfl⟩ := hc
    obtain ⟨q0, q1, q2, q3, q4, q5⟩ := g1 j hj
    have hjc : j = 0 ∨ j = 1 ∨ j = 2 ∨ j = 3 := by omega
    have hac : a = 0 ∨ a = 1 ∨ a = 2 ∨ a = 3 ∨ a = 4 := by omega
    rcases hac with rfl | rfl | rfl | rfl | rfl
    · rw [q0, e1]
      rcases hjc with rfl | rfl | rfl | rfl <;> rfl
    · rw [q1, e2]
      rcases hjc with rfl | rfl | rfl | rfl <;> rfl
    · rw [q2, e4]
      rcases hjc with rfl | rfl | rfl | rfl <;> rfl
    · rw [q3, e3]
      rcases hjc with rfl | rfl | rfl | rfl <;> rfl
    · rw [q4, e7]
      rcases hjc with rfl | rfl | rfl | rfl <;> rfl
  · rcases Nat.lt_or_ge k 21 with h1 | h1
    · have : k = 20 := by omega
      subst this
      rw [g2]
      rfl
    · have hl : lB (rtB V) k = bS ((V.1.map (fun t : tB => t.1) ++ List.replicate (39 - V.1.length) 0).getD (k - 21) 0) := by
        unfold lB rtB
        rw [gd_r (by simp only [n4, List.length_append, List.length_cons, List.length_nil]; omega)]
        rfl
      rw [hl]
      rcases Nat.lt_or_ge (k - 21) V.1.length with h2 | h2
      · rw [gd_l (by rw [List.length_map]; exact h2), List.getD_eq_getElem?_getD, List.getElem?_map, List.getElem?_eq_getElem h2]
        have := g3 (k - 21) h2
        rw [show 21 + (k - 21) = k by omega, hpl (k - 21) _ (List.getElem?_eq_getElem h2)] at this
        exact this
      · rw [gd_r (by rw [List.length_map]; exact h2), g4 k (by omega) hk]
        exact (lB_z _ _).symm
theorem rc_cell {rm v : Nat} (hv : v < 2 ^ 31) : nI rm + 15600 + (nI v &&& 1) * 64 = nI (rtC rm v) := by
  rw [pk_andN (by omega) 1 rfl, show nI (v % 2 ^ 1) * 64 = nI (v % 2 ^ 1 * 64) from pk_mul _ 64, show nI rm + 15600 = nI (rm + 15600) from nI_add rm 15600, nI_add]
  rfl
theorem vX_num {v : Nat} {iv iv' : Nat → Int32} {n : Nat → Nat} {S : List Nat} (h : ∀ i, 1 ≤ i → i ≤ 7 → iv (10 + 10 * v + i) = nI (n i)) (hf : frI iv iv' S) (hS : ∀ x ∈ S, x ≤ 10 + 10 * v ∨ 17 + 10 * v < x) : ∀ i, 1 ≤ i → i ≤ 7 → iv' (10 + 10 * v + i) = nI (n i) := fun i h1 h2 => by
  rw [hf _ (fun z => by have := hS _ z; omega)]
  exact h i h1 h2
set_option maxRecDepth 20000 in
theorem sx_writeRoot (hr : 512 ≤ rm ∧ rm ≤ 4096) {av : Nat → Nat → Int32} {V : vW} {s : dS} (hd : dX rm iv av s) (hV : vX 0 iv av V) (hz : kz av) (hc : cp s 3 68) (hb : ∀ i, 1 ≤ i → i ≤ 7 → V.2.2 i < 2 ^ 30)
    (hQ : ∀ iv' av', dX rm iv' av' (rtS rm s (rtV V)) → vX 0 iv' av' (rtV V) → kz av' → frI iv iv' [0, 1, 2, 5, 11] → frA av av' [0, 1, 2, 3, 27] → Q none (wX rm iv' av' r)) : rx_R Lx xs (d + 3) 38 [.ref 13] (wX rm iv av r) Q := by
  have hr' : 0 < rm ∧ rm ≤ 4096 := ⟨by omega, hr.2⟩
  have hb1 := hb 1 (by decide) (by decide)
  have e11 : iv 11 = nI (V.2.2 1) := hV.2.2 1 (by decide) (by decide)
  have h6 : (rtV V).1.length ≤ 6 := hV.1.2.1
  have hnum : ∀ i, 1 ≤ i → i ≤ 7 → upd iv 11 (iv 11 + 1) (10 + i) = nI ((rtV V).2.2 i) := fun i h1 h2 => by
    by_cases h : i = 1
    · subst h
      show upd iv 11 (iv 11 + 1) 11 = nI (vs V.2.2 1 (V.2.2 1 + 1) 1)
      rw [ui_s, vs_s, e11, nI_1]
    · rw [ui_n (by omega)]
      show _ = nI (vs V.2.2 1 (V.2.2 1 + 1) i)
      rw [vs_n h]
      exact hV.2.2 i h1 h2
  have hlt : ∀ i, 1 ≤ i → i ≤ 7 → (rtV V).2.2 i < 2 ^ 30 + 1 := fun i h1 h2 => by
    show vs V.2.2 1 (V.2.2 1 + 1) i < _
    by_cases h : i = 1
    · subst h
      rw [vs_s]
      omega
    · rw [vs_n h]
      have := hb i h1 h2
      omega
  have hv1 : iv 11 + 1 = nI ((rtV V).2.2 1) := by
    rw [e11, nI_1]
    rfl
  have hl1 := hlt 1 (by decide) (by decide)
  have hrl := rtB_len h6
  have hrc : rtC rm ((rtV V).2.2 1) + 64 ≤ rm + 15728 ∧ rm ≤ rtC rm ((rtV V).2.2 1) := by
    unfold rtC
    omega
  refine lp_rt3 (d := d + 1) hV.1.2.1 hV.1.1 (fun av1 f1 hp => ?_)
  have hget := rtB_get (V := rtV V) h6 (fun i t ht => hV.1.2.2 i t ht) (fun i h1 h2 => by rw [hnum i h1 h2]; exact uN_nI (by have := hlt i h1 h2; omega)) hp
  have hend : ∀ k, k < 4 → av1 27 (60 + k) = lB (n4 ((rtV V).2.2 1)) k := fun k hk => by
    have := (hp.1 k hk).2.2.2.2.2
    rw [this, show upd iv 11 (iv 11 + 1) 11 = nI ((rtV V).2.2 1) from hnum 1 (by decide) (by decide), uN_nI (by omega)]
  rw [hv1, rc_cell (by omega)]
  have hd1 : dX rm (upd iv 11 (nI ((rtV V).2.2 1))) av1 s := dX_ext hd (fun j hj => ui_n (by omega)) (fun j hj => f1 j (by simp only [List.mem_cons, List.not_mem_nil, or_false]; omega))
  refine pz_aln (i := 97) rfl rfl ?_
  refine pz_get (i := 98) rfl (gf_13_0 ..) ?_
  refine pz_iln (i := 99) rfl rfl ?_
  refine pz_bi (i := 100) rfl ?_
  refine pz_add (i := 101) rfl ?_
  rw [show nI (rtC rm ((rtV V).2.2 1)) + 60 = nI (rtC rm ((rtV V).2.2 1) + 60) from nI_add _ 60]
  refine pz_aln (i := 102) rfl rfl ?_
  refine pz_get (i := 103) rfl (gf_13_4 ..) ?_
  refine pz_ic (i := 104) rfl ?_
  refine pz_ic (i := 105) rfl ?_
  refine pz_cV4 (i := 106) rfl (gc_2 ..) rfl (Nat.le_of_ble_eq_true rfl) rfl ?_
  refine sx_write hr' (ρ := 18) (a := 25) (na := 12) (from0 := 0) (n := 4) (c := rtC rm ((rtV V).2.2 1) + 60) (g := lB (List.replicate 4 0)) (fun _ _ => ga_19 ..) (by decide) (by decide) (by decide) (fun k hk => ?_) (lB_bt _) (Or.inr (by dsimp only; omega)) hd1 (fun h => ?_) (fun iv2 av2 hd2 fi2 fa2 => ?_)
  · rw [Nat.zero_add, f1 25 (by decide), hz.1 k (by omega)]
    exact (lB_z 4 k).symm
  · have := hc h
    omega
  refine ⟨rfl, ?_⟩
  refine pz_aln (i := 107) rfl rfl ?_
  refine pz_get (i := 108) rfl (gf_13_0 ..) ?_
  refine pz_iln (i := 109) rfl rfl ?_
  refine pz_aln (i := 110) rfl rfl ?_
  refine pz_get (i := 111) rfl (gf_13_6 ..) ?_
  refine pz_ic (i := 112) rfl ?_
  refine pz_bi (i := 113) rfl ?_
  refine pz_cV4 (i := 114) rfl (gc_2 ..) rfl (Nat.le_of_ble_eq_true rfl) rfl ?_
  refine sx_write hr' (ρ := 20) (a := 27) (na := 1300) (from0 := 0) (n := 60) (c := rtC rm ((rtV V).2.2 1)) (g := lB (rtB (rtV V))) (fun _ _ => ga_21 ..) (by decide) (by decide) (by decide) (fun k hk => ?_) (lB_bt _) (Or.inr (by dsimp only; omega)) hd2 (fun h => ?_) (fun iv3 av3 hd3 fi3 fa3 => ?_)
  · rw [Nat.zero_add, fa2 27 (by decide)]
    exact hget k hk
  · have := (cp_wr (x := wL (rtC rm ((rtV V).2.2 1) + 60) (List.replicate 4 0)) (k := 2) (b := 64) hc) h
    show (wr s (wL (rtC rm ((rtV V).2.2 1) + 60) (List.replicate 4 0))).2.1.length < 1024 ∧ tot (wr s (wL (rtC rm ((rtV V).2.2 1) + 60) (List.replicate 4 0))).2.1 + 60 ≤ 8192
    omega
  refine ⟨rfl, ?_⟩
  refine pz_aln (i := 115) rfl rfl ?_
  refine pz_get (i := 116) rfl (gf_13_0 ..) ?_
  refine pz_iln (i := 117) rfl rfl ?_
  refine pz_bi (i := 118) rfl ?_
  refine pz_add (i := 119) rfl ?_
  rw [show nI (rtC rm ((rtV V).2.2 1)) + 60 = nI (rtC rm ((rtV V).2.2 1) + 60) from nI_add _ 60]
  refine pz_aln (i := 120) rfl rfl ?_
  refine pz_get (i := 121) rfl (gf_13_6 ..) ?_
  refine pz_bi (i := 122) rfl ?_
  refine pz_ic (i := 123) rfl ?_
  refine pz_cV4 (i := 124) rfl (gc_2 ..) rfl (Nat.le_of_ble_eq_true rfl) rfl ?_
  have hd3' : dX rm iv3 av3 (wr (wr s (wL (rtC rm ((rtV V).2.2 1) + 60) (List.replicate 4 0))) (wL (rtC rm ((rtV V).2.2 1)) (rtB (rtV V)))) := by
    unfold wL
    rw [hrl]
    exact hd3
  refine sx_write hr' (ρ := 20) (a := 27) (na := 1300) (from0 := 60) (n := 4) (c := rtC rm ((rtV V).2.2 1) + 60) (g := lB (n4 ((rtV V).2.2 1))) (fun _ _ => ga_21 ..) (by decide) (by decide) (by decide) (fun k hk => ?_) (lB_bt _) (Or.inr (by dsimp only; omega)) hd3' (fun h => ?_) (fun iv4 av4 hd4 fi4 fa4 => ?_)
  · rw [fa3 27 (by decide), fa2 27 (by decide)]
    exact hend k hk
  · have := (cp_wr (x := wL (rtC rm ((rtV V).2.2 1)) (rtB (rtV V))) (k := 1) (b := 4) (by show cp _ 2 ((rtB (rtV V)).length + 4); rw [hrl]; exact cp_wr (x := wL (rtC rm ((rtV V).2.2 1) + 60) (List.replicate 4 0)) (k := 2) (b := 64) hc)) h
    omega
  refine ⟨rfl, ?_⟩
  refine pz_vr (i := 125) rfl rfl ?_
  have ff : frI (upd iv 11 (nI ((rtV V).2.2 1))) iv4 [0, 1, 2, 5] := frI_tr fi2 (frI_tr fi3 fi4 (S := [0, 1, 2, 5]) (by decide) (by decide)) (by decide) (by decide)
  have fg : frA av1 av4 [0, 1, 2, 3] := frA_tr fa2 (frA_tr fa3 fa4 (S := [0, 1, 2, 3]) (by decide) (by decide)) (by decide) (by decide)
  have fg2 : frA av av4 [0, 1, 2, 3, 27] := frA_tr f1 fg (by decide) (by decide)
  refine hQ iv4 av4 hd4 ⟨⟨?_, h6, fun i t ht => ?_⟩, ?_, ?_⟩ ⟨fun j hj => ?_, ?_⟩ ?_ fg2
  · show iv4 10 = _
    rw [ff 10 (by decide), ui_n (by decide)]
    exact hV.1.1
  · show av4 4 i = _
    rw [fg2 4 (by decide)]
    exact hV.1.2.2 i t ht
  · exact eX_ext hV.2.1 ((ff 30 (by decide)).trans (ui_n (by decide))) (fg2 10 (by decide)) (fg2 11 (by decide)) (fg2 12 (by decide))
  · rw [hv1] at hnum
    intro i h1 h2
    rw [Nat.mul_zero, Nat.add_zero]
    rw [ff (10 + i) (by simp only [List.mem_cons, List.not_mem_nil, or_false, not_or]; omega)]
    exact hnum i h1 h2
  · rw [fg2 25 (by decide)]
    exact hz.1 j hj
  · rw [fg2 26 (by decide)]
    exact hz.2
  · exact frI_tr (frI_up (frI_rfl iv [11]) (by decide)) ff (by decide) (by decide)
end S63
