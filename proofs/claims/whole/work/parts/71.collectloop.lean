/-! PART 71: Disk.copyValue; the loop of Keeper.collectTail -/
section S71
variable {Lx : Nat} {xs : Nat → Int32} {d rm : Nat} {r : pW} {Q : rQ}
set_option maxRecDepth 20000 in
theorem lp_copy (hr : 0 < rm ∧ rm ≤ 4096) {ρ a q : Nat} {val : List Nat} (hrow : ∀ iv' av', gt_a (wX rm iv' av' r) (ρ + 1) = some (1, 64, .inl (av' a))) (hput : ∀ iv' av' f, pt_a (wX rm iv' av' r) (ρ + 1) (1, 64, .inl f) = wX rm iv' (up_a av' a f) r) (ha : 3 < a) {iv : Nat → Int32} {av : Nat → Nat → Int32} (hl : val.length ≤ 64) (hq : q < 2 ^ 30) (hv : ∀ i, i < val.length → bN (av 0) ((q + 12 + i) % rm) = val.getD i 0) (hQ : ∀ av', frA av av' [a] → (∀ i, i < val.length → av' a i = lB val i) → Q (some (.int (nI val.length))) (wX rm iv av' r)) :
    ∀ (m k : Nat) (av1 : Nat → Nat → Int32), k ≤ val.length → val.length ≤ k + m → frA av av1 [a] → (∀ i, i < k → av1 a i = lB val i) → pz Lx xs (d + 2) rt_14 (some .int) Q 11 [some (.ref 2), some (.int (nI q)), some (.ref (ρ + 1)), some (.int (nI val.length)), some (.int (nI k))] [] (wX rm iv av1 r) := by
  have hdone : ∀ (k : Nat) (av1 : Nat → Nat → Int32), k = val.length → frA av av1 [a] → (∀ i, i < k → av1 a i = lB val i) → pz Lx xs (d + 2) rt_14 (some .int) Q 11 [some (.ref 2), some (.int (nI q)), some (.ref (ρ + 1)), some (.int (nI val.length)), some (.int (nI k))] [] (wX rm iv av1 r) := by
    intro k av1 hk hf h0
    subst hk
    refine pz_il (i := 11) rfl rfl ?_
    refine pz_iln (i := 12) rfl rfl ?_
    refine pz_ii_ge (i := 13) rfl (fun c13 => ?_) (fun c13 => ?_)
    · refine pz_iln (i := 27) rfl rfl ?_
      refine pz_ir (i := 28) rfl rfl rfl ?_
      exact hQ av1 hf h0
    · exact absurd (Int32.le_refl _) c13
  intro m
  induction m with
  | zero =>
    intro k av1 hk hm hf h0
    exact hdone k av1 (by omega) hf h0
  | succ m ih =>
    intro k av1 hk hm hf h0
    by_cases hkn : k = val.length
    · exact hdone k av1 hkn hf h0
    have hc : av1 0 = av 0 := hf 0 (by simp only [List.mem_cons, List.not_mem_nil, or_false]; omega)
    refine pz_il (i := 11) rfl rfl ?_
    refine pz_iln (i := 12) rfl rfl ?_
    refine pz_ii_ge (i := 13) rfl (fun c13 => ?_) (fun c13 => ?_)
    · exact absurd (le_ofI c13) (by omega)
    · refine pz_aln (i := 14) rfl rfl ?_
      refine pz_il (i := 15) rfl rfl ?_
      refine pz_aln (i := 16) rfl rfl ?_
      refine pz_iln (i := 17) rfl rfl ?_
      refine pz_bi (i := 18) rfl ?_
      refine pz_add (i := 19) rfl ?_
      rw [show nI q + 12 = nI (q + 12) from nI_add q 12]
      refine pz_il (i := 20) rfl rfl ?_
      refine pz_add (i := 21) rfl ?_
      rw [nI_add]
      refine pz_cI1 (i := 22) rfl (gc_2 ..) rfl (Nat.le_of_ble_eq_true rfl) rfl ?_
      refine sx_logByte hr (by omega) ?_
      rw [bN_and, hc, hv k (by omega)]
      refine ⟨_, rfl, ?_⟩
      refine pz_i2b (i := 23) rfl ?_
      refine pz_bas (i := 24) rfl (hrow _ _) rfl (in_ofI (by omega)) (hput _ _ _) ?_
      refine pz_inc (i := 25) rfl rfl rfl rfl ?_
      refine pz_go (i := 26) rfl ?_
      rw [nI_1]
      refine ih (k + 1) _ (by omega) (by omega) (frA_up hf (by simp)) (fun i hi => ?_)
      rw [ua_s, cl_ofI (a := k)]
      by_cases hik : i = k
      · subst hik
        rw [ui_s]
        exact pk_vb _
      · rw [ui_n hik]
        exact h0 i (by omega)
set_option maxRecDepth 20000 in
theorem sx_copy (hr : 0 < rm ∧ rm ≤ 4096) {ρ a q : Nat} {val : List Nat} (hrow : ∀ iv' av', gt_a (wX rm iv' av' r) (ρ + 1) = some (1, 64, .inl (av' a))) (hput : ∀ iv' av' f, pt_a (wX rm iv' av' r) (ρ + 1) (1, 64, .inl f) = wX rm iv' (up_a av' a f) r) (ha : 3 < a) {iv : Nat → Int32} {av : Nat → Nat → Int32} (hl : val.length ≤ 64) (hq : q < 2 ^ 30) (hn : bN (av 0) ((q + 2) % rm) = val.length) (hv : ∀ i, i < val.length → bN (av 0) ((q + 12 + i) % rm) = val.getD i 0) (hQ : ∀ av', frA av av' [a] → (∀ i, i < val.length → av' a i = lB val i) → Q (some (.int (nI val.length))) (wX rm iv av' r)) : rx_R Lx xs (d + 3) 14 [.ref 2, .int (nI q), .ref (ρ + 1)] (wX rm iv av r) Q := by
  refine pz_en (t := rt_14) ⟨Nat.le_of_ble_eq_true rfl, rfl⟩ rfl rfl ?_
  refine pz_aln (i := 0) rfl rfl ?_
  refine pz_iln (i := 1) rfl rfl ?_
  refine pz_ic (i := 2) rfl ?_
  refine pz_add (i := 3) rfl ?_
  rw [show nI q + 2 = nI (q + 2) from nI_add q 2]
  refine pz_cI1 (i := 4) rfl (gc_2 ..) rfl (Nat.le_of_ble_eq_true rfl) rfl ?_
  refine sx_logByte hr (by omega) ?_
  rw [bN_and, hn]
  refine ⟨_, rfl, ?_⟩
  refine pz_aln (i := 5) rfl rfl ?_
  refine pz_len (i := 6) rfl (hrow _ _) (by decide) ?_
  refine pz_mn (i := 7) rfl (Nat.le_of_ble_eq_true rfl) ?_
  rw [if_neg (nI_nlt hl (by decide))]
  refine pz_isn (i := 8) rfl ⟨rfl, Nat.le_of_ble_eq_true rfl⟩ rfl ?_
  refine pz_ic (i := 9) rfl ?_
  refine pz_is (i := 10) rfl ⟨rfl, Nat.le_of_ble_eq_true rfl⟩ rfl ?_
  exact lp_copy hr hrow hput ha hl hq hv hQ val.length 0 av (by omega) (by omega) (frA_rfl _ _) (fun i hi => absurd hi (by omega))
theorem frI_w {iv iv' : Nat → Int32} {S S' : List Nat} (h : frI iv iv' S) (g : ∀ x ∈ S, x ∈ S') : frI iv iv' S' := fun j hj => h j (fun z => hj (g j z))
theorem frA_w {av av' : Nat → Nat → Int32} {S S' : List Nat} (h : frA av av' S) (g : ∀ x ∈ S, x ∈ S') : frA av av' S' := fun j hj => h j (fun z => hj (g j z))
theorem vX_ext {iv iv' : Nat → Int32} {av av' : Nat → Nat → Int32} {V : vW} {S S' : List Nat} (h : vX 0 iv av V) (fi : frI iv iv' S) (fa : frA av av' S') (hS : ∀ x ∈ S, ¬ (10 ≤ x ∧ x ≤ 17) ∧ x ≠ 30) (hS' : ∀ x ∈ S', x ≠ 4 ∧ x ≠ 10 ∧ x ≠ 11 ∧ x ≠ 12) : vX 0 iv' av' V :=
  ⟨⟨(fi 10 (fun z => (hS 10 z).1 (by decide))).trans h.1.1, h.1.2.1, fun i t ht => by rw [fa (4 + 0) (fun z => (hS' 4 z).1 rfl)]; exact h.1.2.2 i t ht⟩, eX_ext h.2.1 (fi 30 (fun z => (hS 30 z).2 rfl)) (fa 10 (fun z => (hS' 10 z).2.1 rfl)) (fa 11 (fun z => (hS' 11 z).2.2.1 rfl)) (fa 12 (fun z => (hS' 12 z).2.2.2 rfl)), fun i h1 h2 => by rw [fi _ (fun z => (hS _ z).1 (by omega))]; exact h.2.2 i h1 h2⟩
theorem kz_ext {av av' : Nat → Nat → Int32} {S' : List Nat} (h : kz av) (fa : frA av av' S') (hS' : ∀ x ∈ S', x ≠ 25 ∧ x ≠ 26) : kz av' := ⟨fun j hj => by rw [fa 25 (fun z => (hS' 25 z).1 rfl)]; exact h.1 j hj, by rw [fa 26 (fun z => (hS' 26 z).2 rfl)]; exact h.2⟩
theorem dX_fr {iv iv' : Nat → Int32} {av av' : Nat → Nat → Int32} {s : dS} {S S' : List Nat} (h : dX rm iv av s) (fi : frI iv iv' S) (fa : frA av av' S') (hS : ∀ x ∈ S, 5 < x) (hS' : ∀ x ∈ S', 3 < x) : dX rm iv' av' s := dX_ext h (fun j hj => fi j (fun z => by have := hS j z; omega)) (fun j hj => fa j (fun z => by have := hS' j z; omega))
set_option maxRecDepth 20000 in
theorem lp_cl (hr : 512 ≤ rm ∧ rm ≤ 4096) {n e0 : Nat} (hn : n ≤ 1000) (he0 : e0 < 2 ^ 30) : ∀ (todo : List lR) (iv : Nat → Int32) (av : Nat → Nat → Int32) (s : dS) (V : vW) (p k : Nat) (x5 x6 x7 : Option Value), p + lgZ todo = e0 → k ≤ n → dX rm iv av s → vX 0 iv av V → kz av → clG rm n todo s V p k →
    (∀ iv' av' x5 x6 x7, dX rm iv' av' (clR rm n todo s V p k).1 → vX 0 iv' av' (clR rm n todo s V p k).2.1 → kz av' → frI iv iv' [0, 1, 2, 5, 15, 16, 30, 40, 41, 42, 43, 44, 45] → frA av av' [0, 1, 2, 3, 10, 11, 12, 26, 28] → pz Lx xs (d + 5) rt_39 (some .int) Q 98 [some (.ref 13), some (.int (nI n)), some (.int (nI e0)), some (.int (nI (clR rm n todo s V p k).2.2.1)), some (.int (nI (clR rm n todo s V p k).2.2.2)), x5, x6, x7] [] (wX rm iv' av' r)) → pz Lx xs (d + 5) rt_39 (some .int) Q 19 [some (.ref 13), some (.int (nI n)), some (.int (nI e0)), some (.int (nI p)), some (.int (nI k)), x5, x6, x7] [] (wX rm iv av r) := by
  have hr' : 0 < rm ∧ rm ≤ 4096 := ⟨by omega, hr.2⟩
  intro todo
  induction todo with
  | nil =>
    intro iv av s V p k x5 x6 x7 hp hk hd hV hz hG hnext
    have hpe : p = e0 := hp
    subst hpe
    refine pz_il (i := 19) rfl rfl ?_
    refine pz_iln (i := 20) rfl rfl ?_
    refine pz_ii_ge (i := 21) rfl (fun c21 => ?_) (fun c21 => ?_)
    · exact hnext iv av x5 x6 x7 hd hV hz (frI_rfl _ _) (frA_rfl _ _)
    · refine pz_iln (i := 22) rfl rfl ?_
      refine pz_iln (i := 23) rfl rfl ?_
      refine pz_ii_ge (i := 24) rfl (fun c24 => ?_) (fun c24 => ?_)
      · exact hnext iv av x5 x6 x7 hd hV hz (frI_rfl _ _) (frA_rfl _ _)
      · exact absurd (Int32.le_refl _) c24
  | cons rc l ih =>
    intro iv av s V p k x5 x6 x7 hp hk hd hV hz hG hnext
    have hpz : p + (rcZ rc + lgZ l) = e0 := hp
    have hrz : 12 ≤ rcZ rc := by unfold rcZ; omega
    unfold clR at hnext
    by_cases hst : k = n ∨ s.2.2.2.2.2 = true
    · rw [if_pos hst] at hnext
      refine pz_il (i := 19) rfl rfl ?_
      refine pz_iln (i := 20) rfl rfl ?_
      refine pz_ii_ge (i := 21) rfl (fun c21 => ?_) (fun c21 => ?_)
      · exact hnext iv av x5 x6 x7 hd hV hz (frI_rfl _ _) (frA_rfl _ _)
      · refine pz_iln (i := 22) rfl rfl ?_
        refine pz_iln (i := 23) rfl rfl ?_
        refine pz_ii_ge (i := 24) rfl (fun c24 => ?_) (fun c24 => ?_)
        · exact hnext iv av x5 x6 x7 hd hV hz (frI_rfl _ _) (frA_rfl _ _)
        · refine pz_aln (i := 25) rfl rfl ?_
          refine pz_get (i := 26) rfl (gf_13_0 ..) ?_
          refine pz_get (i := 27) rfl (gf_2_10 ..) ?_
          rw [hd.2.2.2.2.2.2.2.2.1]
          refine pz_if_ne (i := 28) rfl (fun c28 => ?_) (fun c28 => ?_)
          · exact hnext iv av x5 x6 x7 hd hV hz (frI_rfl _ _) (frA_rfl _ _)
          · rcases hst with h | h
            · exact absurd (nI_le (Nat.le_of_eq h.symm) (by omega)) c21
            · rw [h] at c28
              exact absurd c28 (by decide)
    rw [if_neg hst] at hnext
    have hkn : k < n := by omega
    have hal : s.2.2.2.2.2 = false := by
      cases h : s.2.2.2.2.2 with
      | true => exact absurd (Or.inr h) hst
      | false => rfl
    obtain ⟨⟨hE, ⟨num, hrc⟩, ⟨o1, o2, o3, o4, o5, o6, o7⟩, b1, b2, b3, b4⟩, hG1, hG2⟩ := (hG.resolve_left (fun z => hst (Or.inl z))).resolve_left (fun z => hst (Or.inr z))
    have hc0 : av 0 = cu rm s := hd.1
    have hE' : ∀ t ∈ V.1, tE rm (av 0) t := by rw [hc0]; exact hE
    rw [← hc0] at hrc
    have hmk : ∀ t ∈ V.1, mOK t.2.2.2 := fun t ht => (hE t ht).2.2.2.1
    have hkey1 : kx_is (nI rc.2.2.1) = true := kx_of o4
    refine pz_il (i := 19) rfl rfl ?_
    refine pz_iln (i := 20) rfl rfl ?_
    refine pz_ii_ge (i := 21) rfl (fun c21 => ?_) (fun c21 => ?_)
    · exact absurd (le_ofI c21) (by omega)
    · refine pz_iln (i := 22) rfl rfl ?_
      refine pz_iln (i := 23) rfl rfl ?_
      refine pz_ii_ge (i := 24) rfl (fun c24 => ?_) (fun c24 => ?_)
      · exact absurd (le_ofI c24) (by omega)
      · refine pz_aln (i := 25) rfl rfl ?_
        refine pz_get (i := 26) rfl (gf_13_0 ..) ?_
        refine pz_get (i := 27) rfl (gf_2_10 ..) ?_
        rw [hd.2.2.2.2.2.2.2.2.1, hal]
        refine pz_if_ne (i := 28) rfl (fun c28 => ?_) (fun c28 => ?_)
        · exact absurd rfl c28
        · refine pz_aln (i := 29) rfl rfl ?_
          refine pz_get (i := 30) rfl (gf_13_0 ..) ?_
          refine pz_iln (i := 31) rfl rfl ?_
          refine pz_ic (i := 32) rfl ?_
          refine pz_add (i := 33) rfl ?_
          rw [show nI p + 1 = nI (p + 1) from nI_add p 1]
          refine pz_cI1 (i := 34) rfl (gc_2 ..) rfl (Nat.le_of_ble_eq_true rfl) rfl ?_
          refine sx_logByte hr' (by omega) ?_
          rw [bN_and, rcA_key hrc]
          refine ⟨_, rfl, ?_⟩
          refine pz_is (i := 35) rfl ⟨rfl, Nat.le_of_ble_eq_true rfl⟩ rfl ?_
          refine pz_aln (i := 36) rfl rfl ?_
          refine pz_get (i := 37) rfl (gf_13_0 ..) ?_
          refine pz_iln (i := 38) rfl rfl ?_
          refine pz_cI1 (i := 39) rfl (gc_2 ..) rfl (Nat.le_of_ble_eq_true rfl) rfl ?_
          refine sx_recordSize hr' (by omega) ?_
          rw [bN_and, rcA_len hrc, show (12 : Int32) + nI rc.2.2.2.length = nI (rcZ rc) from nI_add 12 _]
          refine ⟨_, rfl, ?_⟩
          refine pz_is (i := 40) rfl ⟨rfl, Nat.le_of_ble_eq_true rfl⟩ rfl ?_
          refine pz_aln (i := 41) rfl rfl ?_
          refine pz_get (i := 42) rfl (gf_13_1 ..) ?_
          refine pz_il (i := 43) rfl rfl ?_
          refine pz_aln (i := 44) rfl rfl ?_
          refine pz_get (i := 45) rfl (gf_13_2 ..) ?_
          refine pz_cV2 (i := 46) rfl (gc_7 ..) rfl (Nat.le_of_ble_eq_true rfl) rfl ?_
          refine sx_find (v := 0) (f := 0) hr' (by decide) (by decide) hV.1 hE' hV.2.1 (fun iv1 hfa f1 => ?_)
          unfold fAll at hfa
          rw [if_pos hkey1, cl_ofI (a := rc.2.2.1)] at hfa
          have hfo := hfa.1
          have f1 : frI iv iv1 [40, 41, 42, 43, 44, 45] := f1
          refine ⟨rfl, ?_⟩
          cases hlv : liv V rc.2.2.1 p with
          | false =>
            rw [if_neg (by rw [hlv]; decide)] at hnext
            refine pz_aln (i := 47) rfl rfl ?_
            refine pz_get (i := 48) rfl (gf_13_2 ..) ?_
            refine pz_get (i := 49) rfl (gf_14_0 ..) ?_
            refine pz_ic (i := 50) rfl ?_
            refine pz_ii_ne (i := 51) rfl (fun c51 => ?_) (fun c51 => ?_)
            · refine pz_iln (i := 92) rfl rfl ?_
              refine pz_il (i := 93) rfl rfl ?_
              refine pz_add (i := 94) rfl ?_
              rw [nI_add]
              refine pz_isn (i := 95) rfl ⟨rfl, Nat.le_of_ble_eq_true rfl⟩ rfl ?_
              refine pz_inc (i := 96) rfl rfl rfl rfl ?_
              refine pz_go (i := 97) rfl ?_
              rw [nI_1]
              refine ih iv1 av s V (p + rcZ rc) (k + 1) _ _ _ (by omega) (by omega) (dX_fr hd f1 (frA_rfl av []) (by decide) (by decide)) (vX_ext hV f1 (frA_rfl av []) (by decide) (by decide)) hz (hG2 hlv) (fun iv2 av2 y5 y6 y7 k1 k2 k3 k4 k5 => hnext iv2 av2 y5 y6 y7 k1 k2 k3 (frI_tr f1 k4 (by decide) (by decide)) k5)
            · refine pz_aln (i := 52) rfl rfl ?_
              refine pz_get (i := 53) rfl (gf_13_2 ..) ?_
              refine pz_get (i := 54) rfl (gf_14_2 ..) ?_
              refine pz_iln (i := 55) rfl rfl ?_
              refine pz_ii_ne (i := 56) rfl (fun c56 => ?_) (fun c56 => ?_)
              · refine pz_iln (i := 92) rfl rfl ?_
                refine pz_il (i := 93) rfl rfl ?_
                refine pz_add (i := 94) rfl ?_
                rw [nI_add]
                refine pz_isn (i := 95) rfl ⟨rfl, Nat.le_of_ble_eq_true rfl⟩ rfl ?_
                refine pz_inc (i := 96) rfl rfl rfl rfl ?_
                refine pz_go (i := 97) rfl ?_
                rw [nI_1]
                refine ih iv1 av s V (p + rcZ rc) (k + 1) _ _ _ (by omega) (by omega) (dX_fr hd f1 (frA_rfl av []) (by decide) (by decide)) (vX_ext hV f1 (frA_rfl av []) (by decide) (by decide)) hz (hG2 hlv) (fun iv2 av2 y5 y6 y7 k1 k2 k3 k4 k5 => hnext iv2 av2 y5 y6 y7 k1 k2 k3 (frI_tr f1 k4 (by decide) (by decide)) k5)
              · exfalso
                cases he : ent V.2.1 V.1 rc.2.2.1 with
                | none =>
                  rw [he] at hfo
                  have hfo' : iv1 40 = 0 := hfo
                  rw [hfo'] at c51
                  exact absurd c51 (by decide)
                | some e =>
                  rw [he] at hfo
                  obtain ⟨w1, w2, w3⟩ := hfo
                  have ho := ent_ok hV.2.1.1 hmk he
                  have w1' : iv1 40 = nI e.1 := w1
                  have w3' : iv1 42 = nI e.2.2 := w3
                  rw [w1'] at c51
                  rw [w3'] at c56
                  exact liv_f hlv he (eq_ofI (b := 1) c51 (by omega) (by decide)) (eq_ofI c56 (by omega) (by omega))
          | true =>
            obtain ⟨e, he, he1, he2⟩ := liv_t hlv
            rw [he] at hfo
            obtain ⟨w1, w2, w3⟩ := hfo
            rw [he1] at w1
            rw [he2] at w3
            have w1 : iv1 40 = 1 := w1
            have w3 : iv1 42 = nI p := w3
            have hhas : (kx_is (nI rc.2.2.1) && decide (¬ av (10 + 3 * 0 + 0) (nI rc.2.2.1).toNatClampNeg = 0)) = (V.2.1 rc.2.2.1).isSome := by
              rw [hkey1, Bool.true_and, cl_ofI (a := rc.2.2.1)]
              have hz0 := eX_zero (e := 2 * 0) hV.2.1 o4
              cases hm : V.2.1 rc.2.2.1 with
              | none => rw [decide_eq_false (fun z => z (hz0.mpr hm))]; rfl
              | some x =>
                have hne : ¬ av (10 + 3 * 0 + 0) rc.2.2.1 = 0 := fun z => by rw [hz0.mp z] at hm; cases hm
                rw [decide_eq_true hne]
                rfl
            have hcnt : iv1 30 = nI (kS V.2.1).length := (f1 30 (by decide)).trans hV.2.1.2.1
            have hroom : bB (decide (iv1 15 + nI (rcZ rc) + 12 - iv1 14 ≤ nI rm)) = bB (decide (V.2.2 5 + rcZ rc + 12 ≤ V.2.2 4 + rm)) := by
              have h15 : iv1 15 = nI (V.2.2 5) := (f1 15 (by decide)).trans (hV.2.2 5 (by decide) (by decide))
              have h14 : iv1 14 = nI (V.2.2 4) := (f1 14 (by decide)).trans (hV.2.2 4 (by decide) (by decide))
              have hzz : rcZ rc ≤ 76 := by unfold rcZ; omega
              rw [h15, h14, nI_add, show nI (V.2.2 5 + rcZ rc) + 12 = nI (V.2.2 5 + rcZ rc + 12) from nI_add _ 12, pk_sub (by omega)]
              congr 1
              apply decide_eq_decide.mpr
              rw [nI_leI (by omega) (by omega)]
              omega
            have hkl := kS_len V.2.1
            rw [if_pos hlv] at hnext
            cases hrb : rmB rm V rc.2.2.1 (rcZ rc) with
            | false =>
              rw [if_neg (by rw [hrb]; decide)] at hnext
              refine pz_aln (i := 47) rfl rfl ?_
              refine pz_get (i := 48) rfl (gf_13_2 ..) ?_
              refine pz_get (i := 49) rfl (gf_14_0 ..) ?_
              refine pz_ic (i := 50) rfl ?_
              refine pz_ii_ne (i := 51) rfl (fun c51 => ?_) (fun c51 => ?_)
              · exact absurd w1 c51
              · refine pz_aln (i := 52) rfl rfl ?_
                refine pz_get (i := 53) rfl (gf_13_2 ..) ?_
                refine pz_get (i := 54) rfl (gf_14_2 ..) ?_
                refine pz_iln (i := 55) rfl rfl ?_
                refine pz_ii_ne (i := 56) rfl (fun c56 => ?_) (fun c56 => ?_)
                · exact absurd w3 c56
                · refine pz_aln (i := 57) rfl rfl ?_
                  refine pz_get (i := 58) rfl (gf_13_1 ..) ?_
                  refine pz_get (i := 59) rfl (gf_7_1 ..) ?_
                  refine pz_il (i := 60) rfl rfl ?_
                  refine pz_cI1 (i := 61) rfl (gc_8 ..) rfl (Nat.le_of_ble_eq_true rfl) rfl ?_
                  refine sx_Ehas (e := 0) (by decide) ?_
                  rw [hhas]
                  refine ⟨_, rfl, ?_⟩
                  refine pz_if_ne (i := 62) rfl (fun c62 => ?_) (fun c62 => ?_)
                  · refine pz_ic (i := 69) rfl ?_
                    refine pz_go (i := 70) rfl ?_
                    refine pz_is (i := 72) rfl ⟨rfl, Nat.le_of_ble_eq_true rfl⟩ rfl ?_
                    refine pz_il (i := 73) rfl rfl ?_
                    refine pz_if_eq (i := 74) rfl (fun c74 => ?_) (fun c74 => ?_)
                    · exact hnext iv1 av _ _ _ (dX_fr hd f1 (frA_rfl av []) (by decide) (by decide)) (vX_ext hV f1 (frA_rfl av []) (by decide) (by decide)) hz (frI_w f1 (by decide)) (frA_rfl _ _)
                    · refine pz_aln (i := 75) rfl rfl ?_
                      refine pz_il (i := 76) rfl rfl ?_
                      refine pz_cI1 (i := 77) rfl (gc_13 ..) rfl (Nat.le_of_ble_eq_true rfl) rfl ?_
                      refine sx_hasRoom ?_
                      rw [hroom]
                      refine ⟨_, rfl, ?_⟩
                      refine pz_if_ne (i := 78) rfl (fun c78 => ?_) (fun c78 => ?_)
                      · exfalso
                        first
                          | exact absurd rfl c74
                          | (have hb1 := bB_t c78
                             have hb2 := of_decide_eq_true hb1
                             unfold rmB at hrb
                             rw [decide_eq_true hb2, Bool.and_true] at hrb
                             rw [Bool.or_eq_false_iff] at hrb
                             first
                               | (have := bB_t c62
                                  rw [hrb.1] at this
                                  cases this)
                               | exact of_decide_eq_false hrb.2 (Nat.lt_of_not_le (fun z => c68 (nI_le z (by omega)))))
                      · refine pz_go (i := 79) rfl ?_
                        exact hnext iv1 av _ _ _ (dX_fr hd f1 (frA_rfl av []) (by decide) (by decide)) (vX_ext hV f1 (frA_rfl av []) (by decide) (by decide)) hz (frI_w f1 (by decide)) (frA_rfl _ _)
                  · refine pz_aln (i := 63) rfl rfl ?_
                    refine pz_get (i := 64) rfl (gf_13_1 ..) ?_
                    refine pz_get (i := 65) rfl (gf_7_1 ..) ?_
                    refine pz_get (i := 66) rfl (gf_8_3 ..) ?_
                    rw [hcnt]
                    refine pz_bi (i := 67) rfl ?_
                    refine pz_ii_ge (i := 68) rfl (fun c68 => ?_) (fun c68 => ?_)
                    · refine pz_ic (i := 71) rfl ?_
                      refine pz_is (i := 72) rfl ⟨rfl, Nat.le_of_ble_eq_true rfl⟩ rfl ?_
                      refine pz_il (i := 73) rfl rfl ?_
                      refine pz_if_eq (i := 74) rfl (fun c74 => ?_) (fun c74 => ?_)
                      · exact hnext iv1 av _ _ _ (dX_fr hd f1 (frA_rfl av []) (by decide) (by decide)) (vX_ext hV f1 (frA_rfl av []) (by decide) (by decide)) hz (frI_w f1 (by decide)) (frA_rfl _ _)
                      · refine pz_aln (i := 75) rfl rfl ?_
                        refine pz_il (i := 76) rfl rfl ?_
                        refine pz_cI1 (i := 77) rfl (gc_13 ..) rfl (Nat.le_of_ble_eq_true rfl) rfl ?_
                        refine sx_hasRoom ?_
                        rw [hroom]
                        refine ⟨_, rfl, ?_⟩
                        refine pz_if_ne (i := 78) rfl (fun c78 => ?_) (fun c78 => ?_)
                        · exfalso
                          first
                            | exact absurd rfl c74
                            | (have hb1 := bB_t c78
                               have hb2 := of_decide_eq_true hb1
                               unfold rmB at hrb
                               rw [decide_eq_true hb2, Bool.and_true] at hrb
                               rw [Bool.or_eq_false_iff] at hrb
                               first
                                 | (have := bB_t c62
                                    rw [hrb.1] at this
                                    cases this)
                                 | exact of_decide_eq_false hrb.2 (Nat.lt_of_not_le (fun z => c68 (nI_le z (by omega)))))
                        · refine pz_go (i := 79) rfl ?_
                          exact hnext iv1 av _ _ _ (dX_fr hd f1 (frA_rfl av []) (by decide) (by decide)) (vX_ext hV f1 (frA_rfl av []) (by decide) (by decide)) hz (frI_w f1 (by decide)) (frA_rfl _ _)
                    · refine pz_ic (i := 69) rfl ?_
                      refine pz_go (i := 70) rfl ?_
                      refine pz_is (i := 72) rfl ⟨rfl, Nat.le_of_ble_eq_true rfl⟩ rfl ?_
                      refine pz_il (i := 73) rfl rfl ?_
                      refine pz_if_eq (i := 74) rfl (fun c74 => ?_) (fun c74 => ?_)
                      · exact hnext iv1 av _ _ _ (dX_fr hd f1 (frA_rfl av []) (by decide) (by decide)) (vX_ext hV f1 (frA_rfl av []) (by decide) (by decide)) hz (frI_w f1 (by decide)) (frA_rfl _ _)
                      · refine pz_aln (i := 75) rfl rfl ?_
                        refine pz_il (i := 76) rfl rfl ?_
                        refine pz_cI1 (i := 77) rfl (gc_13 ..) rfl (Nat.le_of_ble_eq_true rfl) rfl ?_
                        refine sx_hasRoom ?_
                        rw [hroom]
                        refine ⟨_, rfl, ?_⟩
                        refine pz_if_ne (i := 78) rfl (fun c78 => ?_) (fun c78 => ?_)
                        · exfalso
                          first
                            | exact absurd rfl c74
                            | (have hb1 := bB_t c78
                               have hb2 := of_decide_eq_true hb1
                               unfold rmB at hrb
                               rw [decide_eq_true hb2, Bool.and_true] at hrb
                               rw [Bool.or_eq_false_iff] at hrb
                               first
                                 | (have := bB_t c62
                                    rw [hrb.1] at this
                                    cases this)
                                 | exact of_decide_eq_false hrb.2 (Nat.lt_of_not_le (fun z => c68 (nI_le z (by omega)))))
                        · refine pz_go (i := 79) rfl ?_
                          exact hnext iv1 av _ _ _ (dX_fr hd f1 (frA_rfl av []) (by decide) (by decide)) (vX_ext hV f1 (frA_rfl av []) (by decide) (by decide)) hz (frI_w f1 (by decide)) (frA_rfl _ _)
            | true =>
              rw [if_pos hrb] at hnext
              refine pz_aln (i := 47) rfl rfl ?_
              refine pz_get (i := 48) rfl (gf_13_2 ..) ?_
              refine pz_get (i := 49) rfl (gf_14_0 ..) ?_
              refine pz_ic (i := 50) rfl ?_
              refine pz_ii_ne (i := 51) rfl (fun c51 => ?_) (fun c51 => ?_)
              · exact absurd w1 c51
              · refine pz_aln (i := 52) rfl rfl ?_
                refine pz_get (i := 53) rfl (gf_13_2 ..) ?_
                refine pz_get (i := 54) rfl (gf_14_2 ..) ?_
                refine pz_iln (i := 55) rfl rfl ?_
                refine pz_ii_ne (i := 56) rfl (fun c56 => ?_) (fun c56 => ?_)
                · exact absurd w3 c56
                · refine pz_aln (i := 57) rfl rfl ?_
                  refine pz_get (i := 58) rfl (gf_13_1 ..) ?_
                  refine pz_get (i := 59) rfl (gf_7_1 ..) ?_
                  refine pz_il (i := 60) rfl rfl ?_
                  refine pz_cI1 (i := 61) rfl (gc_8 ..) rfl (Nat.le_of_ble_eq_true rfl) rfl ?_
                  refine sx_Ehas (e := 0) (by decide) ?_
                  rw [hhas]
                  refine ⟨_, rfl, ?_⟩
                  refine pz_if_ne (i := 62) rfl (fun c62 => ?_) (fun c62 => ?_)
                  · refine pz_ic (i := 69) rfl ?_
                    refine pz_go (i := 70) rfl ?_
                    refine pz_is (i := 72) rfl ⟨rfl, Nat.le_of_ble_eq_true rfl⟩ rfl ?_
                    refine pz_il (i := 73) rfl rfl ?_
                    refine pz_if_eq (i := 74) rfl (fun c74 => ?_) (fun c74 => ?_)
                    · exfalso
                      unfold rmB at hrb
                      rw [Bool.and_eq_true, Bool.or_eq_true] at hrb
                      first
                        | (have := bB_f c78
                           rw [hrb.2] at this
                           cases this)
                        | (have h1 := bB_f c62
                           rcases hrb.1 with h | h
                           · rw [h1] at h
                             cases h
                           · exact absurd (le_ofI (a := 24) c68 (by decide) (by omega)) (by have := of_decide_eq_true h; omega))
                        | exact absurd c74 (by decide)
                    · refine pz_aln (i := 75) rfl rfl ?_
                      refine pz_il (i := 76) rfl rfl ?_
                      refine pz_cI1 (i := 77) rfl (gc_13 ..) rfl (Nat.le_of_ble_eq_true rfl) rfl ?_
                      refine sx_hasRoom ?_
                      rw [hroom]
                      refine ⟨_, rfl, ?_⟩
                      refine pz_if_ne (i := 78) rfl (fun c78 => ?_) (fun c78 => ?_)
                      · refine pz_aln (i := 80) rfl rfl ?_
                        refine pz_ic (i := 81) rfl ?_
                        refine pz_il (i := 82) rfl rfl ?_
                        refine pz_aln (i := 83) rfl rfl ?_
                        refine pz_get (i := 84) rfl (gf_13_7 ..) ?_
                        refine pz_aln (i := 85) rfl rfl ?_
                        refine pz_get (i := 86) rfl (gf_13_0 ..) ?_
                        refine pz_iln (i := 87) rfl rfl ?_
                        refine pz_aln (i := 88) rfl rfl ?_
                        refine pz_get (i := 89) rfl (gf_13_7 ..) ?_
                        refine pz_cI2 (i := 90) rfl (gc_2 ..) rfl (Nat.le_of_ble_eq_true rfl) rfl ?_
                        refine sx_copy (ρ := 21) (a := 28) (q := p) (val := rc.2.2.2) hr' (fun _ _ => ga_22 ..) (fun _ _ _ => pa_22 ..) (by decide) o5 (by omega) (rcA_len hrc) (fun i hi => rcA_val hrc hi) (fun av2 f2 hval => ?_)
                        refine ⟨_, rfl, ?_⟩
                        refine pz_cV4 (i := 91) rfl (gc_13 ..) rfl (Nat.le_of_ble_eq_true rfl) rfl ?_
                        obtain ⟨hcp, hG3⟩ := hG1 hlv hrb
                        refine sx_append (kd := 1) (gg := 0) (key := rc.2.2.1) (ρ := 21) (a := 28) (val := rc.2.2.2) hr ⟨by decide, by decide⟩ (Or.inl rfl) o4 o5 (fun _ _ => ga_22 ..) (by decide) hval (dX_fr hd f1 f2 (by decide) (by decide)) (vX_ext hV f1 f2 (by decide) (by decide)) (kz_ext hz f2 (by decide)) hcp (by omega) (fun iv3 av3 hd3 hV3 hz3 f3 f4 => ?_)
                        refine ⟨rfl, ?_⟩
                        refine pz_iln (i := 92) rfl rfl ?_
                        refine pz_il (i := 93) rfl rfl ?_
                        refine pz_add (i := 94) rfl ?_
                        rw [nI_add]
                        refine pz_isn (i := 95) rfl ⟨rfl, Nat.le_of_ble_eq_true rfl⟩ rfl ?_
                        refine pz_inc (i := 96) rfl rfl rfl rfl ?_
                        refine pz_go (i := 97) rfl ?_
                        rw [nI_1]
                        exact ih iv3 av3 _ _ (p + rcZ rc) (k + 1) _ _ _ (by omega) (by omega) hd3 hV3 hz3 hG3 (fun iv4 av4 y5 y6 y7 k1 k2 k3 k4 k5 => hnext iv4 av4 y5 y6 y7 k1 k2 k3 (frI_tr f1 (frI_tr f3 k4 (S := [0, 1, 2, 5, 15, 16, 30, 40, 41, 42, 43, 44, 45]) (by decide) (by decide)) (by decide) (by decide)) (frA_tr f2 (frA_tr f4 k5 (S := [0, 1, 2, 3, 10, 11, 12, 26, 28]) (by decide) (by decide)) (by decide) (by decide)))
                      · refine pz_go (i := 79) rfl ?_
                        exfalso
                        unfold rmB at hrb
                        rw [Bool.and_eq_true, Bool.or_eq_true] at hrb
                        first
                          | (have := bB_f c78
                             rw [hrb.2] at this
                             cases this)
                          | (have h1 := bB_f c62
                             rcases hrb.1 with h | h
                             · rw [h1] at h
                               cases h
                             · exact absurd (le_ofI (a := 24) c68 (by decide) (by omega)) (by have := of_decide_eq_true h; omega))
                          | exact absurd c74 (by decide)
                  · refine pz_aln (i := 63) rfl rfl ?_
                    refine pz_get (i := 64) rfl (gf_13_1 ..) ?_
                    refine pz_get (i := 65) rfl (gf_7_1 ..) ?_
                    refine pz_get (i := 66) rfl (gf_8_3 ..) ?_
                    rw [hcnt]
                    refine pz_bi (i := 67) rfl ?_
                    refine pz_ii_ge (i := 68) rfl (fun c68 => ?_) (fun c68 => ?_)
                    · refine pz_ic (i := 71) rfl ?_
                      refine pz_is (i := 72) rfl ⟨rfl, Nat.le_of_ble_eq_true rfl⟩ rfl ?_
                      refine pz_il (i := 73) rfl rfl ?_
                      refine pz_if_eq (i := 74) rfl (fun c74 => ?_) (fun c74 => ?_)
                      · exfalso
                        unfold rmB at hrb
                        rw [Bool.and_eq_true, Bool.or_eq_true] at hrb
                        first
                          | (have := bB_f c78
                             rw [hrb.2] at this
                             cases this)
                          | (have h1 := bB_f c62
                             rcases hrb.1 with h | h
                             · rw [h1] at h
                               cases h
                             · exact absurd (le_ofI (a := 24) c68 (by decide) (by omega)) (by have := of_decide_eq_true h; omega))
                          | exact absurd c74 (by decide)
                      · refine pz_aln (i := 75) rfl rfl ?_
                        refine pz_il (i := 76) rfl rfl ?_
                        refine pz_cI1 (i := 77) rfl (gc_13 ..) rfl (Nat.le_of_ble_eq_true rfl) rfl ?_
                        refine sx_hasRoom ?_
                        rw [hroom]
                        refine ⟨_, rfl, ?_⟩
                        refine pz_if_ne (i := 78) rfl (fun c78 => ?_) (fun c78 => ?_)
                        · refine pz_aln (i := 80) rfl rfl ?_
                          refine pz_ic (i := 81) rfl ?_
                          refine pz_il (i := 82) rfl rfl ?_
                          refine pz_aln (i := 83) rfl rfl ?_
                          refine pz_get (i := 84) rfl (gf_13_7 ..) ?_
                          refine pz_aln (i := 85) rfl rfl ?_
                          refine pz_get (i := 86) rfl (gf_13_0 ..) ?_
                          refine pz_iln (i := 87) rfl rfl ?_
                          refine pz_aln (i := 88) rfl rfl ?_
                          refine pz_get (i := 89) rfl (gf_13_7 ..) ?_
                          refine pz_cI2 (i := 90) rfl (gc_2 ..) rfl (Nat.le_of_ble_eq_true rfl) rfl ?_
                          refine sx_copy (ρ := 21) (a := 28) (q := p) (val := rc.2.2.2) hr' (fun _ _ => ga_22 ..) (fun _ _ _ => pa_22 ..) (by decide) o5 (by omega) (rcA_len hrc) (fun i hi => rcA_val hrc hi) (fun av2 f2 hval => ?_)
                          refine ⟨_, rfl, ?_⟩
                          refine pz_cV4 (i := 91) rfl (gc_13 ..) rfl (Nat.le_of_ble_eq_true rfl) rfl ?_
                          obtain ⟨hcp, hG3⟩ := hG1 hlv hrb
                          refine sx_append (kd := 1) (gg := 0) (key := rc.2.2.1) (ρ := 21) (a := 28) (val := rc.2.2.2) hr ⟨by decide, by decide⟩ (Or.inl rfl) o4 o5 (fun _ _ => ga_22 ..) (by decide) hval (dX_fr hd f1 f2 (by decide) (by decide)) (vX_ext hV f1 f2 (by decide) (by decide)) (kz_ext hz f2 (by decide)) hcp (by omega) (fun iv3 av3 hd3 hV3 hz3 f3 f4 => ?_)
                          refine ⟨rfl, ?_⟩
                          refine pz_iln (i := 92) rfl rfl ?_
                          refine pz_il (i := 93) rfl rfl ?_
                          refine pz_add (i := 94) rfl ?_
                          rw [nI_add]
                          refine pz_isn (i := 95) rfl ⟨rfl, Nat.le_of_ble_eq_true rfl⟩ rfl ?_
                          refine pz_inc (i := 96) rfl rfl rfl rfl ?_
                          refine pz_go (i := 97) rfl ?_
                          rw [nI_1]
                          exact ih iv3 av3 _ _ (p + rcZ rc) (k + 1) _ _ _ (by omega) (by omega) hd3 hV3 hz3 hG3 (fun iv4 av4 y5 y6 y7 k1 k2 k3 k4 k5 => hnext iv4 av4 y5 y6 y7 k1 k2 k3 (frI_tr f1 (frI_tr f3 k4 (S := [0, 1, 2, 5, 15, 16, 30, 40, 41, 42, 43, 44, 45]) (by decide) (by decide)) (by decide) (by decide)) (frA_tr f2 (frA_tr f4 k5 (S := [0, 1, 2, 3, 10, 11, 12, 26, 28]) (by decide) (by decide)) (by decide) (by decide)))
                        · refine pz_go (i := 79) rfl ?_
                          exfalso
                          unfold rmB at hrb
                          rw [Bool.and_eq_true, Bool.or_eq_true] at hrb
                          first
                            | (have := bB_f c78
                               rw [hrb.2] at this
                               cases this)
                            | (have h1 := bB_f c62
                               rcases hrb.1 with h | h
                               · rw [h1] at h
                                 cases h
                               · exact absurd (le_ofI (a := 24) c68 (by decide) (by omega)) (by have := of_decide_eq_true h; omega))
                            | exact absurd c74 (by decide)
                    · refine pz_ic (i := 69) rfl ?_
                      refine pz_go (i := 70) rfl ?_
                      refine pz_is (i := 72) rfl ⟨rfl, Nat.le_of_ble_eq_true rfl⟩ rfl ?_
                      refine pz_il (i := 73) rfl rfl ?_
                      refine pz_if_eq (i := 74) rfl (fun c74 => ?_) (fun c74 => ?_)
                      · exfalso
                        unfold rmB at hrb
                        rw [Bool.and_eq_true, Bool.or_eq_true] at hrb
                        first
                          | (have := bB_f c78
                             rw [hrb.2] at this
                             cases this)
                          | (have h1 := bB_f c62
                             rcases hrb.1 with h | h
                             · rw [h1] at h
                               cases h
                             · exact absurd (le_ofI (a := 24) c68 (by decide) (by omega)) (by have := of_decide_eq_true h; omega))
                          | exact absurd c74 (by decide)
                      · refine pz_aln (i := 75) rfl rfl ?_
                        refine pz_il (i := 76) rfl rfl ?_
                        refine pz_cI1 (i := 77) rfl (gc_13 ..) rfl (Nat.le_of_ble_eq_true rfl) rfl ?_
                        refine sx_hasRoom ?_
                        rw [hroom]
                        refine ⟨_, rfl, ?_⟩
                        refine pz_if_ne (i := 78) rfl (fun c78 => ?_) (fun c78 => ?_)
                        · refine pz_aln (i := 80) rfl rfl ?_
                          refine pz_ic (i := 81) rfl ?_
                          refine pz_il (i := 82) rfl rfl ?_
                          refine pz_aln (i := 83) rfl rfl ?_
                          refine pz_get (i := 84) rfl (gf_13_7 ..) ?_
                          refine pz_aln (i := 85) rfl rfl ?_
                          refine pz_get (i := 86) rfl (gf_13_0 ..) ?_
                          refine pz_iln (i := 87) rfl rfl ?_
                          refine pz_aln (i := 88) rfl rfl ?_
                          refine pz_get (i := 89) rfl (gf_13_7 ..) ?_
                          refine pz_cI2 (i := 90) rfl (gc_2 ..) rfl (Nat.le_of_ble_eq_true rfl) rfl ?_
                          refine sx_copy (ρ := 21) (a := 28) (q := p) (val := rc.2.2.2) hr' (fun _ _ => ga_22 ..) (fun _ _ _ => pa_22 ..) (by decide) o5 (by omega) (rcA_len hrc) (fun i hi => rcA_val hrc hi) (fun av2 f2 hval => ?_)
                          refine ⟨_, rfl, ?_⟩
                          refine pz_cV4 (i := 91) rfl (gc_13 ..) rfl (Nat.le_of_ble_eq_true rfl) rfl ?_
                          obtain ⟨hcp, hG3⟩ := hG1 hlv hrb
                          refine sx_append (kd := 1) (gg := 0) (key := rc.2.2.1) (ρ := 21) (a := 28) (val := rc.2.2.2) hr ⟨by decide, by decide⟩ (Or.inl rfl) o4 o5 (fun _ _ => ga_22 ..) (by decide) hval (dX_fr hd f1 f2 (by decide) (by decide)) (vX_ext hV f1 f2 (by decide) (by decide)) (kz_ext hz f2 (by decide)) hcp (by omega) (fun iv3 av3 hd3 hV3 hz3 f3 f4 => ?_)
                          refine ⟨rfl, ?_⟩
                          refine pz_iln (i := 92) rfl rfl ?_
                          refine pz_il (i := 93) rfl rfl ?_
                          refine pz_add (i := 94) rfl ?_
                          rw [nI_add]
                          refine pz_isn (i := 95) rfl ⟨rfl, Nat.le_of_ble_eq_true rfl⟩ rfl ?_
                          refine pz_inc (i := 96) rfl rfl rfl rfl ?_
                          refine pz_go (i := 97) rfl ?_
                          rw [nI_1]
                          exact ih iv3 av3 _ _ (p + rcZ rc) (k + 1) _ _ _ (by omega) (by omega) hd3 hV3 hz3 hG3 (fun iv4 av4 y5 y6 y7 k1 k2 k3 k4 k5 => hnext iv4 av4 y5 y6 y7 k1 k2 k3 (frI_tr f1 (frI_tr f3 k4 (S := [0, 1, 2, 5, 15, 16, 30, 40, 41, 42, 43, 44, 45]) (by decide) (by decide)) (by decide) (by decide)) (frA_tr f2 (frA_tr f4 k5 (S := [0, 1, 2, 3, 10, 11, 12, 26, 28]) (by decide) (by decide)) (by decide) (by decide)))
                        · refine pz_go (i := 79) rfl ?_
                          exfalso
                          unfold rmB at hrb
                          rw [Bool.and_eq_true, Bool.or_eq_true] at hrb
                          first
                            | (have := bB_f c78
                               rw [hrb.2] at this
                               cases this)
                            | (have h1 := bB_f c62
                               rcases hrb.1 with h | h
                               · rw [h1] at h
                                 cases h
                               · exact absurd (le_ofI (a := 24) c68 (by decide) (by omega)) (by have := of_decide_eq_true h; omega))
                            | exact absurd c74 (by decide)
end S71
