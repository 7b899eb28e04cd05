/-! PART 77: View.loadRootAt, View.loadRoot -/
section S77
variable {Lx : Nat} {xs : Nat → Int32} {d rm : Nat} {r : pW} {Q : rQ}
set_option maxRecDepth 20000 in
theorem lp_lra (hr : 0 < rm ∧ rm ≤ 4096) {v n : Nat} (hv : v < 2) (hn : n ≤ 5) {c : Int32} {iv : Nat → Int32} {av : Nat → Nat → Int32} (hT : iv (10 + 10 * v + 0) = nI n) (hQ : ∀ av', (∀ i, i < n → av' (4 + v) i = bx_at rm av (c + 21 + nI i)) → frA av av' [4 + v] → Q none (wX rm iv av' r)) :
    ∀ (m k : Nat) (av1 : Nat → Nat → Int32), k ≤ n → n ≤ k + m → (∀ i, i < k → av1 (4 + v) i = bx_at rm av (c + 21 + nI i)) → frA av av1 [4 + v] → pz Lx xs (d + 1) rt_44 none Q 50 [some (.ref (oV v)), some (.int c), some (.int (nI k))] [] (wX rm iv av1 r) := by
  have hdone : ∀ (k : Nat) (av1 : Nat → Nat → Int32), k = n → (∀ i, i < k → av1 (4 + v) i = bx_at rm av (c + 21 + nI i)) → frA av av1 [4 + v] → pz Lx xs (d + 1) rt_44 none Q 50 [some (.ref (oV v)), some (.int c), some (.int (nI k))] [] (wX rm iv av1 r) := by
    intro k av1 hk h0 hf
    subst hk
    refine pz_iln (i := 50) rfl rfl ?_
    refine pz_aln (i := 51) rfl rfl ?_
    refine pz_get (i := 52) rfl (gV_3 hv ..) ?_
    rw [hT]
    refine pz_ii_ge (i := 53) rfl (fun c53 => ?_) (fun c53 => ?_)
    · refine pz_vr (i := 68) rfl rfl ?_
      exact hQ av1 h0 hf
    · exact absurd (Int32.le_refl _) c53
  intro m
  induction m with
  | zero =>
    intro k av1 hk hm h0 hf
    exact hdone k av1 (by omega) h0 hf
  | succ m ih =>
    intro k av1 hk hm h0 hf
    by_cases hkn : k = n
    · exact hdone k av1 hkn h0 hf
    have hc0 : ∀ c, bx_at rm av1 c = bx_at rm av c := fun c => by
      unfold bx_at
      rw [hf 0 (by simp only [List.mem_cons, List.not_mem_nil, or_false]; omega)]
    refine pz_iln (i := 50) rfl rfl ?_
    refine pz_aln (i := 51) rfl rfl ?_
    refine pz_get (i := 52) rfl (gV_3 hv ..) ?_
    rw [hT]
    refine pz_ii_ge (i := 53) rfl (fun c53 => ?_) (fun c53 => ?_)
    · exact absurd (le_ofI c53) (by omega)
    · refine pz_aln (i := 54) rfl rfl ?_
      refine pz_get (i := 55) rfl (gV_2 hv ..) ?_
      refine pz_iln (i := 56) rfl rfl ?_
      refine pz_aln (i := 57) rfl rfl ?_
      refine pz_get (i := 58) rfl (gV_0 hv ..) ?_
      refine pz_iln (i := 59) rfl rfl ?_
      refine pz_bi (i := 60) rfl ?_
      refine pz_add (i := 61) rfl ?_
      refine pz_iln (i := 62) rfl rfl ?_
      refine pz_add (i := 63) rfl ?_
      refine pz_cI1 (i := 64) rfl (gc_2 ..) rfl (Nat.le_of_ble_eq_true rfl) rfl ?_
      refine sx_byteAt hr ?_
      rw [hc0]
      refine ⟨_, rfl, ?_⟩
      refine pz_ias (i := 65) rfl (gVp hv ..) (in_ofI (by omega)) (pVp hv ..) ?_
      refine pz_inc (i := 66) rfl rfl rfl rfl ?_
      refine pz_go (i := 67) rfl ?_
      rw [nI_1]
      refine ih (k + 1) _ (by omega) (by omega) (fun i hi => ?_) (frA_up hf (by simp))
      rw [ua_s, cl_ofI (a := k)]
      by_cases hik : i = k
      · subst hik
        rw [ui_s]
      · rw [ui_n hik]
        exact h0 i (by omega)
set_option maxRecDepth 20000 in
theorem sx_loadRootAt (hr : 0 < rm ∧ rm ≤ 4096) {v : Nat} (hv : v < 2) {c : Int32} {iv : Nat → Int32} {av : Nat → Nat → Int32} (hQ : ∀ iv' av' n, n ≤ 5 → nI n = (if 5 < bx_at rm av (c + 20) then 5 else bx_at rm av (c + 20)) → iv' (10 + 10 * v + 0) = nI n → iv' (10 + 10 * v + 1) = bx_num rm av c → iv' (10 + 10 * v + 2) = bx_num rm av (c + 4) → iv' (10 + 10 * v + 4) = bx_num rm av (c + 8) → iv' (10 + 10 * v + 3) = bx_num rm av (c + 12) → iv' (10 + 10 * v + 7) = bx_num rm av (c + 16) → (∀ i, i < n → av' (4 + v) i = bx_at rm av (c + 21 + nI i)) → frI iv iv' [10 + 10 * v + 0, 10 + 10 * v + 1, 10 + 10 * v + 2, 10 + 10 * v + 3, 10 + 10 * v + 4, 10 + 10 * v + 7] → frA av av' [4 + v] → Q none (wX rm iv' av' r)) : rx_R Lx xs (d + 3) 44 [.ref (oV v), .int c] (wX rm iv av r) Q := by
  refine pz_en (t := rt_44) ⟨Nat.le_of_ble_eq_true rfl, rfl⟩ rfl rfl ?_
  refine pz_aln (i := 0) rfl rfl ?_
  refine pz_aln (i := 1) rfl rfl ?_
  refine pz_get (i := 2) rfl (gV_0 hv ..) ?_
  refine pz_iln (i := 3) rfl rfl ?_
  refine pz_cI1 (i := 4) rfl (gc_2 ..) rfl (Nat.le_of_ble_eq_true rfl) rfl ?_
  refine sx_numberAt hr ?_
  refine ⟨_, rfl, ?_⟩
  refine pz_put (i := 5) rfl (pV_4 hv ..) ⟨rfl, rfl⟩ ?_
  refine pz_aln (i := 6) rfl rfl ?_
  refine pz_aln (i := 7) rfl rfl ?_
  refine pz_get (i := 8) rfl (gV_0 hv ..) ?_
  refine pz_iln (i := 9) rfl rfl ?_
  refine pz_ic (i := 10) rfl ?_
  refine pz_add (i := 11) rfl ?_
  refine pz_cI1 (i := 12) rfl (gc_2 ..) rfl (Nat.le_of_ble_eq_true rfl) rfl ?_
  refine sx_numberAt hr ?_
  refine ⟨_, rfl, ?_⟩
  refine pz_put (i := 13) rfl (pV_5 hv ..) ⟨rfl, rfl⟩ ?_
  refine pz_aln (i := 14) rfl rfl ?_
  refine pz_aln (i := 15) rfl rfl ?_
  refine pz_get (i := 16) rfl (gV_0 hv ..) ?_
  refine pz_iln (i := 17) rfl rfl ?_
  refine pz_bi (i := 18) rfl ?_
  refine pz_add (i := 19) rfl ?_
  refine pz_cI1 (i := 20) rfl (gc_2 ..) rfl (Nat.le_of_ble_eq_true rfl) rfl ?_
  refine sx_numberAt hr ?_
  refine ⟨_, rfl, ?_⟩
  refine pz_put (i := 21) rfl (pV_7 hv ..) ⟨rfl, rfl⟩ ?_
  refine pz_aln (i := 22) rfl rfl ?_
  refine pz_aln (i := 23) rfl rfl ?_
  refine pz_get (i := 24) rfl (gV_0 hv ..) ?_
  refine pz_iln (i := 25) rfl rfl ?_
  refine pz_bi (i := 26) rfl ?_
  refine pz_add (i := 27) rfl ?_
  refine pz_cI1 (i := 28) rfl (gc_2 ..) rfl (Nat.le_of_ble_eq_true rfl) rfl ?_
  refine sx_numberAt hr ?_
  refine ⟨_, rfl, ?_⟩
  refine pz_put (i := 29) rfl (pV_6 hv ..) ⟨rfl, rfl⟩ ?_
  refine pz_aln (i := 30) rfl rfl ?_
  refine pz_aln (i := 31) rfl rfl ?_
  refine pz_get (i := 32) rfl (gV_0 hv ..) ?_
  refine pz_iln (i := 33) rfl rfl ?_
  refine pz_bi (i := 34) rfl ?_
  refine pz_add (i := 35) rfl ?_
  refine pz_cI1 (i := 36) rfl (gc_2 ..) rfl (Nat.le_of_ble_eq_true rfl) rfl ?_
  refine sx_numberAt hr ?_
  refine ⟨_, rfl, ?_⟩
  refine pz_put (i := 37) rfl (pV_10 hv ..) ⟨rfl, rfl⟩ ?_
  refine pz_aln (i := 38) rfl rfl ?_
  refine pz_aln (i := 39) rfl rfl ?_
  refine pz_get (i := 40) rfl (gV_0 hv ..) ?_
  refine pz_iln (i := 41) rfl rfl ?_
  refine pz_bi (i := 42) rfl ?_
  refine pz_add (i := 43) rfl ?_
  refine pz_cI1 (i := 44) rfl (gc_2 ..) rfl (Nat.le_of_ble_eq_true rfl) rfl ?_
  refine sx_byteAt hr ?_
  refine ⟨_, rfl, ?_⟩
  refine pz_ic (i := 45) rfl ?_
  refine pz_mn (i := 46) rfl (Nat.le_of_ble_eq_true rfl) ?_
  obtain ⟨n, hn5, hn⟩ : ∃ n, n ≤ 5 ∧ nI n = (if 5 < bx_at rm av (c + 20) then 5 else bx_at rm av (c + 20)) := by
    obtain ⟨b, hb1, hb2⟩ := bx_any rm av (c + 20)
    rw [hb2]
    by_cases h5 : (5 : Int32) < nI b
    · exact ⟨5, by decide, by rw [if_pos h5]; rfl⟩
    · refine ⟨b, ?_, by rw [if_neg h5]⟩
      rcases Nat.lt_or_ge 5 b with h | h
      · exact absurd (nI_lt h (by omega)) h5
      · exact h
  rw [← hn]
  refine pz_put (i := 47) rfl (pV_3 hv ..) ⟨rfl, rfl⟩ ?_
  refine pz_ic (i := 48) rfl ?_
  refine pz_isn (i := 49) rfl ⟨rfl, Nat.le_of_ble_eq_true rfl⟩ rfl ?_
  refine lp_lra hr hv hn5 (ui_s _ _ _) (fun av2 h1 h2 => ?_) n 0 av (by omega) (by omega) (fun i hi => absurd hi (by omega)) (frA_rfl _ _)
  refine hQ _ av2 n hn5 hn (ui_s _ _ _) ?_ ?_ ?_ ?_ ?_ h1 ?_ h2
  · rw [ui_n (by omega), ui_n (by omega), ui_n (by omega), ui_n (by omega), ui_n (by omega), ui_s]
  · rw [ui_n (by omega), ui_n (by omega), ui_n (by omega), ui_n (by omega), ui_s]
  · rw [ui_n (by omega), ui_n (by omega), ui_n (by omega), ui_s]
  · rw [ui_n (by omega), ui_n (by omega), ui_s]
  · rw [ui_n (by omega), ui_s]
  · exact frI_up (frI_up (frI_up (frI_up (frI_up (frI_up (frI_rfl _ _) (by simp)) (by simp)) (by simp)) (by simp)) (by simp)) (by simp)
/-- the root of the view is that of W -/
def vR (v : Nat) (iv : Nat → Int32) (av : Nat → Nat → Int32) (W : vW) : Prop := vT v iv av W.1 ∧ ∀ i, i = 1 ∨ i = 2 ∨ i = 3 ∨ i = 4 ∨ i = 7 → iv (10 + 10 * v + i) = nI (W.2.2 i)
theorem slC_rc {rm k : Nat} (hk : k < 2) : nI rm + 15600 + (nI k &&& 1) * 64 = nI (slC rm k) := by
  rw [rc_cell (by omega)]
  unfold rtC slC
  congr 1
  omega
set_option maxRecDepth 20000 in
/-- a slot with an old root, or with none -/
theorem lp_old (hr : 0 < rm ∧ rm ≤ 4096) {v k x ver : Nat} (hv : v < 2) (hk : k < 2) {iv : Nat → Int32} {av : Nat → Nat → Int32} {x2 x3 : Option Value} (hx : x < 2 ^ 30) (hver : ver < 2 ^ 30) (h1 : iv (10 + 10 * v + 1) = nI x) (hO : sOld rm (av 0) k ver)
    (hs : ∀ x2 x3, pz Lx xs (d + 3) rt_43 none Q 20 [some (.ref (oV v)), some (.int (nI (k + 1))), x2, x3] [] (wX rm iv av r))
    (hl : ∀ iv' av' x2 x3 a, x < a → a < ver → iv' (10 + 10 * v + 1) = nI a → frI iv iv' [10 + 10 * v + 0, 10 + 10 * v + 1, 10 + 10 * v + 2, 10 + 10 * v + 3, 10 + 10 * v + 4, 10 + 10 * v + 7] → frA av av' [4 + v] → pz Lx xs (d + 3) rt_43 none Q 20 [some (.ref (oV v)), some (.int (nI (k + 1))), x2, x3] [] (wX rm iv' av' r)) :
    pz Lx xs (d + 3) rt_43 none Q 20 [some (.ref (oV v)), some (.int (nI k)), x2, x3] [] (wX rm iv av r) := by
  have ha := qN_lt (av 0) (slC rm k)
  have hb := qN_lt (av 0) (slC rm k + 60)
  have hsl : slC rm k + 64 ≤ rm + 15728 := by unfold slC; omega
  refine pz_iln (i := 20) rfl rfl ?_
  refine pz_ic (i := 21) rfl ?_
  refine pz_ii_ge (i := 22) rfl (fun c22 => ?_) (fun c22 => ?_)
  · exact absurd (le_ofI (a := 2) c22) (by omega)
  · refine pz_aln (i := 23) rfl rfl ?_
    refine pz_get (i := 24) rfl (gV_0 hv ..) ?_
    refine pz_iln (i := 25) rfl rfl ?_
    refine pz_cI1 (i := 26) rfl (gc_2 ..) rfl (Nat.le_of_ble_eq_true rfl) rfl ?_
    refine sx_rootCell ?_
    rw [slC_rc hk]
    refine ⟨_, rfl, ?_⟩
    refine pz_isn (i := 27) rfl ⟨rfl, Nat.le_of_ble_eq_true rfl⟩ rfl ?_
    refine pz_aln (i := 28) rfl rfl ?_
    refine pz_get (i := 29) rfl (gV_0 hv ..) ?_
    refine pz_iln (i := 30) rfl rfl ?_
    refine pz_cI1 (i := 31) rfl (gc_2 ..) rfl (Nat.le_of_ble_eq_true rfl) rfl ?_
    refine sx_numberAt hr ?_
    rw [bx_numN (by omega) hr.2]
    refine ⟨_, rfl, ?_⟩
    refine pz_isn (i := 32) rfl ⟨rfl, Nat.le_of_ble_eq_true rfl⟩ rfl ?_
    refine pz_iln (i := 33) rfl rfl ?_
    refine pz_aln (i := 34) rfl rfl ?_
    refine pz_get (i := 35) rfl (gV_4 hv ..) ?_
    rw [h1]
    refine pz_ii_le (i := 36) rfl (fun c36 => ?_) (fun c36 => ?_)
    · refine pz_inc (i := 48) rfl rfl rfl rfl ?_
      refine pz_go (i := 49) rfl ?_
      rw [nI_1]
      first
        | exact hs _ _
        | exact hl iv1 av1 _ _ _ hxa hlt j4 j10 j11
    · refine pz_iln (i := 37) rfl rfl ?_
      refine pz_aln (i := 38) rfl rfl ?_
      refine pz_get (i := 39) rfl (gV_0 hv ..) ?_
      refine pz_iln (i := 40) rfl rfl ?_
      refine pz_bi (i := 41) rfl ?_
      refine pz_add (i := 42) rfl ?_
      rw [show nI (slC rm k) + 60 = nI (slC rm k + 60) from nI_add _ 60]
      refine pz_cI1 (i := 43) rfl (gc_2 ..) rfl (Nat.le_of_ble_eq_true rfl) rfl ?_
      refine sx_numberAt hr ?_
      rw [bx_numN (by omega) hr.2]
      refine ⟨_, rfl, ?_⟩
      refine pz_ii_ne (i := 44) rfl (fun c44 => ?_) (fun c44 => ?_)
      · refine pz_inc (i := 48) rfl rfl rfl rfl ?_
        refine pz_go (i := 49) rfl ?_
        rw [nI_1]
        first
          | exact hs _ _
          | exact hl iv1 av1 _ _ _ hxa hlt j4 j10 j11
      · have hab := nI_32 ha hb c44
        have hlt : qN (av 0) (slC rm k) < ver := by
          rcases hO with h | h
          · exfalso
            rw [hab, h] at c36
            exact c36 (nI_le (Nat.zero_le x) (by omega))
          · exact h.2 hab.symm
        have hxa : x < qN (av 0) (slC rm k) := Nat.lt_of_not_le (fun z => c36 (nI_le z (by omega)))
        refine pz_aln (i := 45) rfl rfl ?_
        refine pz_iln (i := 46) rfl rfl ?_
        refine pz_cV1 (i := 47) rfl (gV_c hv ..) rfl (Nat.le_of_ble_eq_true rfl) rfl ?_
        refine sx_loadRootAt hr hv (fun iv1 av1 n j1 j2 j3 j4 j5 j6 j7 j8 j9 j10 j11 => ?_)
        rw [bx_numN (by omega) hr.2] at j4
        refine ⟨rfl, ?_⟩
        refine pz_inc (i := 48) rfl rfl rfl rfl ?_
        refine pz_go (i := 49) rfl ?_
        rw [nI_1]
        first
          | exact hs _ _
          | exact hl iv1 av1 _ _ _ hxa hlt j4 j10 j11
set_option maxRecDepth 20000 in
/-- the slot with the root -/
theorem lp_new (hr : 0 < rm ∧ rm ≤ 4096) {v k x : Nat} (hv : v < 2) (hk : k < 2) {iv : Nat → Int32} {av : Nat → Nat → Int32} {x2 x3 : Option Value} {W : vW} (hW5 : W.1.length ≤ 5) (hb : ∀ i, 1 ≤ i → i ≤ 7 → W.2.2 i < 2 ^ 30) (hx : x < W.2.2 1) (h1 : iv (10 + 10 * v + 1) = nI x) (hA : atC (av 0) (slC rm k) (rtB W)) (hE : qN (av 0) (slC rm k + 60) = W.2.2 1)
    (hl : ∀ iv' av' x2 x3, vR v iv' av' W → frI iv iv' [10 + 10 * v + 0, 10 + 10 * v + 1, 10 + 10 * v + 2, 10 + 10 * v + 3, 10 + 10 * v + 4, 10 + 10 * v + 7] → frA av av' [4 + v] → pz Lx xs (d + 3) rt_43 none Q 20 [some (.ref (oV v)), some (.int (nI (k + 1))), x2, x3] [] (wX rm iv' av' r)) :
    pz Lx xs (d + 3) rt_43 none Q 20 [some (.ref (oV v)), some (.int (nI k)), x2, x3] [] (wX rm iv av r) := by
  have hsl : slC rm k + 64 ≤ rm + 15728 := by unfold slC; omega
  have hb1 := hb 1 (by decide) (by decide)
  obtain ⟨g1, g2, g3, g4, g5, g6, g7⟩ := rt_num (by omega) hb hA
  refine pz_iln (i := 20) rfl rfl ?_
  refine pz_ic (i := 21) rfl ?_
  refine pz_ii_ge (i := 22) rfl (fun c22 => ?_) (fun c22 => ?_)
  · exact absurd (le_ofI (a := 2) c22) (by omega)
  · refine pz_aln (i := 23) rfl rfl ?_
    refine pz_get (i := 24) rfl (gV_0 hv ..) ?_
    refine pz_iln (i := 25) rfl rfl ?_
    refine pz_cI1 (i := 26) rfl (gc_2 ..) rfl (Nat.le_of_ble_eq_true rfl) rfl ?_
    refine sx_rootCell ?_
    rw [slC_rc hk]
    refine ⟨_, rfl, ?_⟩
    refine pz_isn (i := 27) rfl ⟨rfl, Nat.le_of_ble_eq_true rfl⟩ rfl ?_
    refine pz_aln (i := 28) rfl rfl ?_
    refine pz_get (i := 29) rfl (gV_0 hv ..) ?_
    refine pz_iln (i := 30) rfl rfl ?_
    refine pz_cI1 (i := 31) rfl (gc_2 ..) rfl (Nat.le_of_ble_eq_true rfl) rfl ?_
    refine sx_numberAt hr ?_
    rw [bx_numN (by omega) hr.2, g1]
    refine ⟨_, rfl, ?_⟩
    refine pz_isn (i := 32) rfl ⟨rfl, Nat.le_of_ble_eq_true rfl⟩ rfl ?_
    refine pz_iln (i := 33) rfl rfl ?_
    refine pz_aln (i := 34) rfl rfl ?_
    refine pz_get (i := 35) rfl (gV_4 hv ..) ?_
    rw [h1]
    refine pz_ii_le (i := 36) rfl (fun c36 => ?_) (fun c36 => ?_)
    · exact absurd (le_ofI c36 (by omega) (by omega)) (by omega)
    · refine pz_iln (i := 37) rfl rfl ?_
      refine pz_aln (i := 38) rfl rfl ?_
      refine pz_get (i := 39) rfl (gV_0 hv ..) ?_
      refine pz_iln (i := 40) rfl rfl ?_
      refine pz_bi (i := 41) rfl ?_
      refine pz_add (i := 42) rfl ?_
      rw [show nI (slC rm k) + 60 = nI (slC rm k + 60) from nI_add _ 60]
      refine pz_cI1 (i := 43) rfl (gc_2 ..) rfl (Nat.le_of_ble_eq_true rfl) rfl ?_
      refine sx_numberAt hr ?_
      rw [bx_numN (by omega) hr.2, hE]
      refine ⟨_, rfl, ?_⟩
      refine pz_ii_ne (i := 44) rfl (fun c44 => ?_) (fun c44 => ?_)
      · exact absurd rfl c44
      · refine pz_aln (i := 45) rfl rfl ?_
        refine pz_iln (i := 46) rfl rfl ?_
        refine pz_cV1 (i := 47) rfl (gV_c hv ..) rfl (Nat.le_of_ble_eq_true rfl) rfl ?_
        refine sx_loadRootAt hr hv (fun iv1 av1 n j1 j2 j3 j4 j5 j6 j7 j8 j9 j10 j11 => ?_)
        rw [bx_numN (by omega) hr.2, g1] at j4
        rw [show nI (slC rm k) + 4 = nI (slC rm k + 4) from nI_add _ 4, bx_numN (by omega) hr.2, g2] at j5
        rw [show nI (slC rm k) + 8 = nI (slC rm k + 8) from nI_add _ 8, bx_numN (by omega) hr.2, g3] at j6
        rw [show nI (slC rm k) + 12 = nI (slC rm k + 12) from nI_add _ 12, bx_numN (by omega) hr.2, g4] at j7
        rw [show nI (slC rm k) + 16 = nI (slC rm k + 16) from nI_add _ 16, bx_numN (by omega) hr.2, g5] at j8
        rw [show nI (slC rm k) + 20 = nI (slC rm k + 20) from nI_add _ 20, bx_atN (by omega) hr.2, g6, if_neg (show ¬ (5 : Int32) < nI W.1.length from nI_nlt (a := 5) (b := W.1.length) hW5 (by decide))] at j2
        have hnl : n = W.1.length := nI_32 (by omega) (by omega) j2
        subst hnl
        refine ⟨rfl, ?_⟩
        refine pz_inc (i := 48) rfl rfl rfl rfl ?_
        refine pz_go (i := 49) rfl ?_
        rw [nI_1]
        refine hl iv1 av1 _ _ ⟨⟨j3, by omega, fun i t ht => ?_⟩, fun i hi => ?_⟩ j10 j11
        · have hi := (List.getElem?_eq_some_iff.mp ht).1
          rw [j9 i hi, show nI (slC rm k) + 21 = nI (slC rm k + 21) from nI_add _ 21, nI_add, bx_atN (by omega) hr.2, g7 i t ht]
        · rcases hi with rfl | rfl | rfl | rfl | rfl
          · exact j4
          · exact j5
          · exact j7
          · exact j6
          · exact j8
set_option maxRecDepth 20000 in
theorem sx_loadRoot (hr : 0 < rm ∧ rm ≤ 4096) {v : Nat} (hv : v < 2) {iv : Nat → Int32} {av : Nat → Nat → Int32} {W : vW} (hI : rtI rm (av 0) W) (hQ : ∀ iv' av', vR v iv' av' W → frI iv iv' [10 + 10 * v + 0, 10 + 10 * v + 1, 10 + 10 * v + 2, 10 + 10 * v + 3, 10 + 10 * v + 4, 10 + 10 * v + 7] → frA av av' [4 + v] → Q none (wX rm iv' av' r)) : rx_R Lx xs (d + 4) 43 [.ref (oV v)] (wX rm iv av r) Q := by
  obtain ⟨hW5, h12, hbn, hcase⟩ := hI
  have hb1 := hbn 1 (by decide) (by decide)
  have hend : ∀ (iv' : Nat → Int32) (av' : Nat → Nat → Int32) (x2 x3 : Option Value), vR v iv' av' W → frI iv iv' [10 + 10 * v + 0, 10 + 10 * v + 1, 10 + 10 * v + 2, 10 + 10 * v + 3, 10 + 10 * v + 4, 10 + 10 * v + 7] → frA av av' [4 + v] → pz Lx xs (d + 3) rt_43 none Q 20 [some (.ref (oV v)), some (.int (nI 2)), x2, x3] [] (wX rm iv' av' r) := by
    intro iv' av' x2 x3 k1 k2 k3
    refine pz_iln (i := 20) rfl rfl ?_
    refine pz_ic (i := 21) rfl ?_
    refine pz_ii_ge (i := 22) rfl (fun c22 => ?_) (fun c22 => ?_)
    · refine pz_vr (i := 50) rfl rfl ?_
      exact hQ iv' av' k1 k2 k3
    · exact absurd (Int32.le_refl _) c22
  refine pz_en (t := rt_43) ⟨Nat.le_of_ble_eq_true rfl, rfl⟩ rfl rfl ?_
  refine pz_aln (i := 0) rfl rfl ?_
  refine pz_ic (i := 1) rfl ?_
  refine pz_put (i := 2) rfl (pV_4 hv ..) ⟨rfl, rfl⟩ ?_
  refine pz_aln (i := 3) rfl rfl ?_
  refine pz_ic (i := 4) rfl ?_
  refine pz_put (i := 5) rfl (pV_5 hv ..) ⟨rfl, rfl⟩ ?_
  refine pz_aln (i := 6) rfl rfl ?_
  refine pz_ic (i := 7) rfl ?_
  refine pz_put (i := 8) rfl (pV_7 hv ..) ⟨rfl, rfl⟩ ?_
  refine pz_aln (i := 9) rfl rfl ?_
  refine pz_ic (i := 10) rfl ?_
  refine pz_put (i := 11) rfl (pV_6 hv ..) ⟨rfl, rfl⟩ ?_
  refine pz_aln (i := 12) rfl rfl ?_
  refine pz_ic (i := 13) rfl ?_
  refine pz_put (i := 14) rfl (pV_10 hv ..) ⟨rfl, rfl⟩ ?_
  refine pz_aln (i := 15) rfl rfl ?_
  refine pz_ic (i := 16) rfl ?_
  refine pz_put (i := 17) rfl (pV_3 hv ..) ⟨rfl, rfl⟩ ?_
  refine pz_ic (i := 18) rfl ?_
  refine pz_isn (i := 19) rfl ⟨rfl, Nat.le_of_ble_eq_true rfl⟩ rfl ?_
  have hF : frI iv (upd (upd (upd (upd (upd (upd iv (10 + 10 * v + 1) 0) (10 + 10 * v + 2) 0) (10 + 10 * v + 4) 0) (10 + 10 * v + 3) 1) (10 + 10 * v + 7) 1) (10 + 10 * v + 0) 0) [10 + 10 * v + 0, 10 + 10 * v + 1, 10 + 10 * v + 2, 10 + 10 * v + 3, 10 + 10 * v + 4, 10 + 10 * v + 7] := frI_up (frI_up (frI_up (frI_up (frI_up (frI_up (frI_rfl _ _) (by simp)) (by simp)) (by simp)) (by simp)) (by simp)) (by simp)
  have hv1 : (upd (upd (upd (upd (upd (upd iv (10 + 10 * v + 1) 0) (10 + 10 * v + 2) 0) (10 + 10 * v + 4) 0) (10 + 10 * v + 3) 1) (10 + 10 * v + 7) 1) (10 + 10 * v + 0) 0) (10 + 10 * v + 1) = nI 0 := by rw [ui_n (by omega), ui_n (by omega), ui_n (by omega), ui_n (by omega), ui_n (by omega), ui_s]; rfl
  rcases hcase with ⟨w1, w2, w3, w4, w5, w6, w7, w8⟩ | ⟨w1, w2, w3, w4⟩
  · have hvR : vR v (upd (upd (upd (upd (upd (upd iv (10 + 10 * v + 1) 0) (10 + 10 * v + 2) 0) (10 + 10 * v + 4) 0) (10 + 10 * v + 3) 1) (10 + 10 * v + 7) 1) (10 + 10 * v + 0) 0) av W := by
      refine ⟨⟨by rw [w4]; exact ui_s _ _ _, by omega, fun i t ht => by rw [w4] at ht; cases ht⟩, fun i hi => ?_⟩
      rcases hi with rfl | rfl | rfl | rfl | rfl
      · rw [hv1, w1]
      · rw [ui_n (by omega), ui_n (by omega), ui_n (by omega), ui_n (by omega), ui_s, w5]; rfl
      · rw [ui_n (by omega), ui_n (by omega), ui_s, w6]; rfl
      · rw [ui_n (by omega), ui_n (by omega), ui_n (by omega), ui_s, w7]; rfl
      · rw [ui_n (by omega), ui_s, w8]; rfl
    exact lp_old (k := 0) (x := 0) (ver := 0) hr hv (by decide) (by decide) (by decide) hv1 w2 (fun x2 x3 => lp_old (k := 1) (x := 0) (ver := 0) hr hv (by decide) (by decide) (by decide) hv1 w3 (fun x2 x3 => hend _ av x2 x3 hvR hF (frA_rfl _ _)) (fun iv1 av1 x2 x3 a j1 j2 => absurd j2 (by omega))) (fun iv1 av1 x2 x3 a j1 j2 => absurd j2 (by omega))
  · have hk2 : W.2.2 1 % 2 = 0 ∨ W.2.2 1 % 2 = 1 := by omega
    rcases hk2 with hk | hk
    · rw [hk] at w2 w3
      rw [show (W.2.2 1 + 1) % 2 = 1 by omega] at w4
      refine lp_new (k := 0) (x := 0) hr hv (by decide) hW5 hbn w1 hv1 w2 w3 (fun iv1 av1 x2 x3 j1 j2 j3 => ?_)
      have hc : av1 0 = av 0 := j3 0 (by simp only [List.mem_cons, List.not_mem_nil, or_false]; omega)
      refine lp_old (k := 1) (x := W.2.2 1) (ver := W.2.2 1) hr hv (by decide) hb1 hb1 (j1.2 1 (by simp)) (by rw [hc]; exact w4) (fun x2 x3 => hend iv1 av1 x2 x3 j1 (frI_tr hF j2 (fun _ h => h) (fun _ h => h)) j3) (fun iv2 av2 x2 x3 a i1 i2 => absurd i2 (by omega))
    · rw [hk] at w2 w3
      rw [show (W.2.2 1 + 1) % 2 = 0 by omega] at w4
      have hgo : ∀ (iv1 : Nat → Int32) (av1 : Nat → Nat → Int32) (x : Nat) (x2 x3 : Option Value), x < W.2.2 1 → iv1 (10 + 10 * v + 1) = nI x → frI iv iv1 [10 + 10 * v + 0, 10 + 10 * v + 1, 10 + 10 * v + 2, 10 + 10 * v + 3, 10 + 10 * v + 4, 10 + 10 * v + 7] → frA av av1 [4 + v] → pz Lx xs (d + 3) rt_43 none Q 20 [some (.ref (oV v)), some (.int (nI 1)), x2, x3] [] (wX rm iv1 av1 r) := by
        intro iv1 av1 x x2 x3 hx1 hx2 i1 i2
        have hc : av1 0 = av 0 := i2 0 (by simp only [List.mem_cons, List.not_mem_nil, or_false]; omega)
        refine lp_new (k := 1) (x := x) hr hv (by decide) hW5 hbn hx1 hx2 (by rw [hc]; exact w2) (by rw [hc]; exact w3) (fun iv2 av2 x2 x3 j1 j2 j3 => ?_)
        exact hend iv2 av2 x2 x3 j1 (frI_tr i1 j2 (fun _ h => h) (fun _ h => h)) (frA_tr i2 j3 (fun _ h => h) (fun _ h => h))
      exact lp_old (k := 0) (x := 0) (ver := W.2.2 1) hr hv (by decide) (by decide) hb1 hv1 w4 (fun x2 x3 => hgo _ av 0 x2 x3 w1 hv1 hF (frA_rfl _ _)) (fun iv1 av1 x2 x3 a j1 j2 j3 j4 j5 => hgo iv1 av1 a x2 x3 j2 j3 (frI_tr hF j4 (fun _ h => h) (fun _ h => h)) j5)
end S77
