/-! PART 81: the class: losePower, ended, batchOver, begin, cancel, sync, crash, fail, spare, read, cell, type -/
theorem ceF_nat {rm : Nat} {y1 y2 : Int32} (hr : 0 < rm ∧ rm ≤ 4096) (h : ¬ ceF rm y1 y2 = -1) : ∃ c, c < rm + 15728 ∧ ceF rm y1 y2 = nI c := by
  unfold ceF at h ⊢
  split at h
  · rename_i h0
    rw [if_pos h0]
    split at h
    · exact absurd rfl h
    · rename_i h1
      rw [if_neg h1]
      obtain ⟨k, hk, rfl⟩ := nI_of (fun z => h1 (Or.inl z))
      have : k < rm := lt_ofI (Int32.not_le.mp (fun z => h1 (Or.inr z))) hk (by omega)
      exact ⟨k, by omega, rfl⟩
  · rename_i h0
    rw [if_neg h0]
    split at h
    · rename_i h0'
      rw [if_pos h0']
      split at h
      · exact absurd rfl h
      · rename_i h1
        rw [if_neg h1]
        obtain ⟨k, hk, rfl⟩ := nI_of (fun z => h1 (Or.inl z))
        have : k < 15600 := lt_ofI (b := 15600) (Int32.not_le.mp (fun z => h1 (Or.inr z))) hk (by omega)
        exact ⟨rm + k, by omega, nI_add _ _⟩
    · rename_i h0'
      rw [if_neg h0']
      split at h
      · rename_i h0''
        rw [if_pos h0'']
        split at h
        · exact absurd rfl h
        · rename_i h1
          rw [if_neg h1]
          obtain ⟨k, hk, rfl⟩ := nI_of (fun z => h1 (Or.inl z))
          have : k < 128 := lt_ofI (b := 128) (Int32.not_le.mp (fun z => h1 (Or.inr z))) hk (by omega)
          exact ⟨rm + 15600 + k, by omega, by rw [show nI rm + 15600 = nI (rm + 15600) from nI_add rm 15600, nI_add]⟩
      · exact absurd rfl h
section S81
variable {Lx : Nat} {xs : Nat → Int32} {d rm : Nat} {iv : Nat → Int32} {av : Nat → Nat → Int32} {r : pW} {Q : rQ}
set_option maxRecDepth 20000 in
theorem sx_losePower (hr : 512 ≤ rm ∧ rm ≤ 4096) {s : dS} {keep cut : Nat} {G : List Nat × Nat × Nat} (hd : dX rm iv av s) (hz : kz av) (hG : gX iv av G) (hk : keep < 2 ^ 31) (hc : cut < 2 ^ 31) (hQ : ∀ iv' av', dX rm iv' av' (fl rm s keep cut) → kz av' → tX iv' av' ([], false, []) → gX iv' av' G → Q none (wX rm iv' av' r)) : rx_R Lx xs (d + 3) 87 [.ref 1, .int (nI keep), .int (nI cut)] (wX rm iv av r) Q := by
  refine pz_en (t := rt_87) ⟨Nat.le_of_ble_eq_true rfl, rfl⟩ rfl rfl ?_
  refine pz_aln (i := 0) rfl rfl ?_
  refine pz_get (i := 1) rfl (gf_1_0 ..) ?_
  refine pz_iln (i := 2) rfl rfl ?_
  refine pz_iln (i := 3) rfl rfl ?_
  refine pz_cV2 (i := 4) rfl (gc_2 ..) rfl (Nat.le_of_ble_eq_true rfl) rfl ?_
  refine sx_takeBack ⟨by omega, hr.2⟩ hd hk hc (fun iv1 av1 hd1 f1 f2 => ?_)
  refine ⟨rfl, ?_⟩
  refine pz_aln (i := 5) rfl rfl ?_
  refine pz_ic (i := 6) rfl ?_
  refine pz_put (i := 7) rfl (pf_1_9 ..) ⟨rfl, rfl⟩ ?_
  refine pz_aln (i := 8) rfl rfl ?_
  refine pz_get (i := 9) rfl (gf_1_6 ..) ?_
  refine pz_ic (i := 10) rfl ?_
  refine pz_put (i := 11) rfl (pf_37_4 ..) ⟨rfl, rfl⟩ ?_
  refine pz_aln (i := 12) rfl rfl ?_
  refine pz_ic (i := 13) rfl ?_
  refine pz_put (i := 14) rfl (pf_1_7 ..) ⟨rfl, rfl⟩ ?_
  refine pz_vr (i := 15) rfl rfl ?_
  refine hQ _ av1 (dX_ext hd1 (fun j hj => ?_) (fun _ _ => rfl)) (kz_ext hz f2 (by decide)) ⟨⟨?_, Nat.zero_le _, fun i x hx => (by cases hx)⟩, ?_, fun _ => rfl, ?_, Nat.zero_le _, fun x hx => (by cases hx), fun k hk => absurd hk (Nat.not_lt_zero k)⟩ (gX_fr hG (frI_up (frI_up (frI_up (frI_w f1 (S' := [0, 1, 2, 5, 7, 8, 9]) (by decide)) (by decide)) (by decide)) (by decide)) f2 (by decide) (by decide))
  · rw [ui_n (by omega), ui_n (by omega), ui_n (by omega)]
  · rw [ui_n (by decide)]
    exact ui_s _ _ _
  · exact ui_s _ _ _
  · rw [ui_n (by decide), ui_n (by decide)]
    exact ui_s _ _ _
set_option maxRecDepth 20000 in
theorem sx_ended (hr : 512 ≤ rm ∧ rm ≤ 4096) {D : dS × vW × List lR} {T : List bR × Bool × List Nat} {G : List Nat × Nat × Nat} {z z0 : Int32} (hd : dX rm iv av D.1) (hz : kz av) (hT : tX iv av T) (hG : gX iv av G) (hV : D.1.2.2.2.2.2 = false → vX 0 iv av D.2.1 ∧ z0 = z) (hQ : ∀ iv' av', xS rm iv' av' (fin rm D T G z).2 → Q (some (.int (fin rm D T G z).1)) (wX rm iv' av' r)) : rx_R Lx xs (d + 4) 86 [.ref 1, .int z0] (wX rm iv av r) Q := by
  refine pz_en (t := rt_86) ⟨Nat.le_of_ble_eq_true rfl, rfl⟩ rfl rfl ?_
  have h5 : iv 5 = bB D.1.2.2.2.2.2 := hd.2.2.2.2.2.2.2.2.1
  have h3 : iv 3 = nI D.1.2.2.2.1 := hd.2.2.2.2.2.2.1
  have h4 : iv 4 = nI D.1.2.2.2.2.1 := hd.2.2.2.2.2.2.2.1
  unfold fin at hQ
  refine pz_aln (i := 0) rfl rfl ?_
  refine pz_get (i := 1) rfl (gf_1_0 ..) ?_
  refine pz_get (i := 2) rfl (gf_2_10 ..) ?_
  rw [h5]
  refine pz_if_ne (i := 3) rfl (fun c3 => ?_) (fun c3 => ?_)
  · refine pz_aln (i := 6) rfl rfl ?_
    refine pz_aln (i := 7) rfl rfl ?_
    refine pz_get (i := 8) rfl (gf_1_0 ..) ?_
    refine pz_get (i := 9) rfl (gf_2_8 ..) ?_
    rw [h3]
    refine pz_aln (i := 10) rfl rfl ?_
    refine pz_get (i := 11) rfl (gf_1_0 ..) ?_
    refine pz_get (i := 12) rfl (gf_2_9 ..) ?_
    rw [h4]
    refine pz_cV2 (i := 13) rfl (gc_1 ..) rfl (Nat.le_of_ble_eq_true rfl) rfl ?_
    refine sx_losePower hr hd hz hG hd.2.2.2.2.2.2.2.2.2.2.1 hd.2.2.2.2.2.2.2.2.2.2.2.1 (fun iv1 av1 k1 k2 k3 k4 => ?_)
    refine ⟨rfl, ?_⟩
    refine pz_bi (i := 14) rfl ?_
    refine pz_ir (i := 15) rfl rfl rfl ?_
    have hl := bB_t c3
    rw [if_pos hl] at hQ
    exact hQ iv1 av1 ⟨k1, k2, k3, k4, fun w => (by cases w)⟩
  · refine pz_iln (i := 4) rfl rfl ?_
    refine pz_ir (i := 5) rfl rfl rfl ?_
    have hl := bB_f c3
    rw [if_neg (by rw [hl]; decide)] at hQ
    rw [(hV hl).2]
    exact hQ iv av ⟨hd, hz, hT, hG, fun _ => (hV hl).1⟩
set_option maxRecDepth 20000 in
theorem sx_batchOver (hr : 512 ≤ rm ∧ rm ≤ 4096) {D : dS × vW × List lR} {b : List bR} {T2 : Bool} {tp : List Nat} {G : List Nat × Nat × Nat} {z z0 : Int32} (hd : dX rm iv av D.1) (hz : kz av) (h9 : iv 9 = nI tp.length) (htl : tp.length ≤ 64) (htb : by8 tp) (ht : ∀ k, k < tp.length → av 40 k = lB tp k) (hG : gX iv av G) (hV : D.1.2.2.2.2.2 = false → vX 0 iv av D.2.1 ∧ z0 = z) (hQ : ∀ iv' av', xS rm iv' av' (fin rm D ([], false, tp) G z).2 → Q (some (.int (fin rm D ([], false, tp) G z).1)) (wX rm iv' av' r)) : rx_R Lx xs (d + 5) 85 [.ref 1, .int z0] (wX rm iv av r) Q := by
  refine pz_en (t := rt_85) ⟨Nat.le_of_ble_eq_true rfl, rfl⟩ rfl rfl ?_
  refine pz_aln (i := 0) rfl rfl ?_
  refine pz_get (i := 1) rfl (gf_1_6 ..) ?_
  refine pz_ic (i := 2) rfl ?_
  refine pz_put (i := 3) rfl (pf_37_4 ..) ⟨rfl, rfl⟩ ?_
  refine pz_aln (i := 4) rfl rfl ?_
  refine pz_ic (i := 5) rfl ?_
  refine pz_put (i := 6) rfl (pf_1_7 ..) ⟨rfl, rfl⟩ ?_
  refine pz_aln (i := 7) rfl rfl ?_
  refine pz_iln (i := 8) rfl rfl ?_
  refine pz_cI1 (i := 9) rfl (gc_1 ..) rfl (Nat.le_of_ble_eq_true rfl) rfl ?_
  have fi : frI iv (upd (upd iv 7 0) 8 0) [7, 8] := frI_up (frI_up (frI_rfl _ _) (by decide)) (by decide)
  refine sx_ended hr (T := ([], false, tp)) (z := z) (dX_fr hd fi (frA_rfl av []) (by decide) (by decide)) hz ⟨⟨?_, Nat.zero_le _, fun i x hx => (by cases hx)⟩, ui_s _ _ _, fun _ => rfl, ?_, htl, htb, ht⟩ (gX_fr hG fi (frA_rfl av []) (by decide) (by decide)) (fun w => ⟨vX_ext (hV w).1 fi (frA_rfl av []) (by decide) (by decide), (hV w).2⟩) (fun iv1 av1 k1 => ?_)
  · rw [ui_n (by decide)]
    exact ui_s _ _ _
  · rw [ui_n (by decide), ui_n (by decide)]
    exact h9
  refine ⟨_, rfl, ?_⟩
  refine pz_ir (i := 10) rfl rfl rfl ?_
  exact hQ iv1 av1 k1
set_option maxRecDepth 20000 in
theorem sx_begin (hr : 512 ≤ rm ∧ rm ≤ 4096) {a : aS} (hx : xS rm iv av a) (hQ : ∀ iv' av', xS rm iv' av' (aBegin a).2 → Q (some (.int (aBegin a).1)) (wX rm iv' av' r)) : rx_R Lx xs (d + 1) 61 [.ref 1] (wX rm iv av r) Q := by
  refine pz_en (t := rt_61) ⟨Nat.le_of_ble_eq_true rfl, rfl⟩ rfl rfl ?_
  unfold aBegin at hQ
  obtain ⟨hd, hz, hT, hG, hV⟩ := id hx
  have h5 : iv 5 = bB (dwn a) := hd.2.2.2.2.2.2.2.2.1
  refine pz_aln (i := 0) rfl rfl ?_
  refine pz_get (i := 1) rfl (gf_1_0 ..) ?_
  refine pz_get (i := 2) rfl (gf_2_10 ..) ?_
  rw [h5]
  refine pz_if_eq (i := 3) rfl (fun c3 => ?_) (fun c3 => ?_)
  · have hl := bB_f c3
    rw [if_neg (show ¬ dwn a = true by rw [hl]; decide)] at hQ
    refine pz_aln (i := 6) rfl rfl ?_
    refine pz_get (i := 7) rfl (gf_1_7 ..) ?_
    rw [hT.2.1]
    refine pz_if_eq (i := 8) rfl (fun c8 => ?_) (fun c8 => ?_)
    · refine pz_aln (i := 11) rfl rfl ?_
      refine pz_ic (i := 12) rfl ?_
      refine pz_put (i := 13) rfl (pf_1_7 ..) (bB_n true) ?_
      refine pz_ic (i := 14) rfl ?_
      refine pz_ir (i := 15) rfl rfl rfl ?_
      rw [if_neg (show ¬ a.2.1.2.1 = true by rw [bB_f c8]; decide)] at hQ
      have fi : frI iv (upd iv 8 1) [8] := frI_up (frI_rfl _ _) (by decide)
      refine hQ _ av ⟨dX_fr hd fi (frA_rfl av []) (by decide) (by decide), hz, ⟨bX_ext hT.1 (ui_n (by decide)) (fun _ _ _ => rfl), ui_s _ _ _, fun w => (by cases w), (ui_n (by decide)).trans hT.2.2.2.1, hT.2.2.2.2⟩, gX_fr hG fi (frA_rfl av []) (by decide) (by decide), fun w => vX_ext (hV w) fi (frA_rfl av []) (by decide) (by decide)⟩
    · refine pz_ic (i := 9) rfl ?_
      refine pz_ir (i := 10) rfl rfl rfl ?_
      rw [if_pos (bB_t c8)] at hQ
      exact hQ iv av hx
  · refine pz_bi (i := 4) rfl ?_
    refine pz_ir (i := 5) rfl rfl rfl ?_
    rw [if_pos (bB_t c3)] at hQ
    exact hQ iv av hx
set_option maxRecDepth 20000 in
theorem sx_cancel (hr : 512 ≤ rm ∧ rm ≤ 4096) {a : aS} (hx : xS rm iv av a) (hQ : ∀ iv' av', xS rm iv' av' (aCancel a).2 → Q (some (.int (aCancel a).1)) (wX rm iv' av' r)) : rx_R Lx xs (d + 6) 63 [.ref 1] (wX rm iv av r) Q := by
  refine pz_en (t := rt_63) ⟨Nat.le_of_ble_eq_true rfl, rfl⟩ rfl rfl ?_
  unfold aCancel at hQ
  obtain ⟨hd, hz, hT, hG, hV⟩ := id hx
  have h5 : iv 5 = bB (dwn a) := hd.2.2.2.2.2.2.2.2.1
  refine pz_aln (i := 0) rfl rfl ?_
  refine pz_get (i := 1) rfl (gf_1_0 ..) ?_
  refine pz_get (i := 2) rfl (gf_2_10 ..) ?_
  rw [h5]
  refine pz_if_eq (i := 3) rfl (fun c3 => ?_) (fun c3 => ?_)
  · have hl := bB_f c3
    rw [if_neg (show ¬ dwn a = true by rw [hl]; decide)] at hQ
    refine pz_aln (i := 6) rfl rfl ?_
    refine pz_aln (i := 7) rfl rfl ?_
    refine pz_get (i := 8) rfl (gf_1_7 ..) ?_
    rw [hT.2.1]
    refine pz_if_eq (i := 9) rfl (fun c9 => ?_) (fun c9 => ?_)
    · refine pz_ic (i := 14) rfl ?_
      refine pz_cI1 (i := 15) rfl (gc_1 ..) rfl (Nat.le_of_ble_eq_true rfl) rfl ?_
      have hal : a.1.1.2.2.2.2.2 = false := hl
      refine sx_batchOver hr (D := a.1) (b := []) (T2 := false) (z := if a.2.1.2.1 = true then nI a.2.1.1.length else -1) hd hz hT.2.2.2.1 hT.2.2.2.2.1 hT.2.2.2.2.2.1 hT.2.2.2.2.2.2 hG (fun w => ⟨hV hl, ?_⟩) (fun iv1 av1 k1 => ?_)
      · first
          | rw [if_pos (bB_t c9)]
          | rw [if_neg (show ¬ a.2.1.2.1 = true by rw [bB_f c9]; decide)]
      unfold fin at k1
      rw [if_neg (by rw [hal]; decide)] at k1
      have e9 : (fin rm a.1 ([], false, a.2.1.2.2) a.2.2 (if a.2.1.2.1 = true then nI a.2.1.1.length else -1)).1 = if a.2.1.2.1 = true then nI a.2.1.1.length else -1 := by
        unfold fin
        rw [if_neg (by rw [hal]; decide)]
      rw [e9]
      refine ⟨_, rfl, ?_⟩
      refine pz_ir (i := 16) rfl rfl rfl ?_
      exact hQ iv1 av1 k1
    · refine pz_aln (i := 10) rfl rfl ?_
      refine pz_get (i := 11) rfl (gf_1_6 ..) ?_
      refine pz_get (i := 12) rfl (gf_37_4 ..) ?_
      rw [hT.1.1]
      refine pz_go (i := 13) rfl ?_
      refine pz_cI1 (i := 15) rfl (gc_1 ..) rfl (Nat.le_of_ble_eq_true rfl) rfl ?_
      have hal : a.1.1.2.2.2.2.2 = false := hl
      refine sx_batchOver hr (D := a.1) (b := []) (T2 := false) (z := if a.2.1.2.1 = true then nI a.2.1.1.length else -1) hd hz hT.2.2.2.1 hT.2.2.2.2.1 hT.2.2.2.2.2.1 hT.2.2.2.2.2.2 hG (fun w => ⟨hV hl, ?_⟩) (fun iv1 av1 k1 => ?_)
      · first
          | rw [if_pos (bB_t c9)]
          | rw [if_neg (show ¬ a.2.1.2.1 = true by rw [bB_f c9]; decide)]
      unfold fin at k1
      rw [if_neg (by rw [hal]; decide)] at k1
      have e9 : (fin rm a.1 ([], false, a.2.1.2.2) a.2.2 (if a.2.1.2.1 = true then nI a.2.1.1.length else -1)).1 = if a.2.1.2.1 = true then nI a.2.1.1.length else -1 := by
        unfold fin
        rw [if_neg (by rw [hal]; decide)]
      rw [e9]
      refine ⟨_, rfl, ?_⟩
      refine pz_ir (i := 16) rfl rfl rfl ?_
      exact hQ iv1 av1 k1
  · refine pz_bi (i := 4) rfl ?_
    refine pz_ir (i := 5) rfl rfl rfl ?_
    rw [if_pos (bB_t c3)] at hQ
    exact hQ iv av hx
set_option maxRecDepth 20000 in
theorem sx_syncF (hr : 512 ≤ rm ∧ rm ≤ 4096) {a : aS} (hx : xS rm iv av a) (hQ : ∀ iv' av', xS rm iv' av' (aSync rm a).2 → Q (some (.int (aSync rm a).1)) (wX rm iv' av' r)) : rx_R Lx xs (d + 2) 67 [.ref 1] (wX rm iv av r) Q := by
  refine pz_en (t := rt_67) ⟨Nat.le_of_ble_eq_true rfl, rfl⟩ rfl rfl ?_
  unfold aSync at hQ
  obtain ⟨hd, hz, hT, hG, hV⟩ := id hx
  have h5 : iv 5 = bB (dwn a) := hd.2.2.2.2.2.2.2.2.1
  refine pz_aln (i := 0) rfl rfl ?_
  refine pz_get (i := 1) rfl (gf_1_0 ..) ?_
  refine pz_get (i := 2) rfl (gf_2_10 ..) ?_
  rw [h5]
  refine pz_if_eq (i := 3) rfl (fun c3 => ?_) (fun c3 => ?_)
  · have hl := bB_f c3
    rw [if_neg (show ¬ dwn a = true by rw [hl]; decide)] at hQ
    refine pz_aln (i := 6) rfl rfl ?_
    refine pz_get (i := 7) rfl (gf_1_0 ..) ?_
    refine pz_get (i := 8) rfl (gf_2_6 ..) ?_
    rw [show iv 1 = nI a.1.1.2.1.length from hd.2.1]
    refine pz_isn (i := 9) rfl ⟨rfl, Nat.le_of_ble_eq_true rfl⟩ rfl ?_
    refine pz_aln (i := 10) rfl rfl ?_
    refine pz_get (i := 11) rfl (gf_1_0 ..) ?_
    refine pz_cV0 (i := 12) rfl (gc_2 ..) rfl (Nat.le_of_ble_eq_true rfl) rfl ?_
    refine sx_sync hd (fun iv1 hd1 f1 => ?_)
    refine ⟨rfl, ?_⟩
    refine pz_iln (i := 13) rfl rfl ?_
    refine pz_ir (i := 14) rfl rfl rfl ?_
    exact hQ iv1 av ⟨hd1, hz, tX_fr hT f1 (frA_rfl av []) (by decide) (by decide), gX_fr hG f1 (frA_rfl av []) (by decide) (by decide), fun w => vX_ext (hV hl) f1 (frA_rfl av []) (by decide) (by decide)⟩
  · refine pz_bi (i := 4) rfl ?_
    refine pz_ir (i := 5) rfl rfl rfl ?_
    rw [if_pos (bB_t c3)] at hQ
    exact hQ iv av hx
set_option maxRecDepth 20000 in
theorem sx_crash (hr : 512 ≤ rm ∧ rm ≤ 4096) {a : aS} {y1 y2 : Int32} (hx : xS rm iv av a) (hQ : ∀ iv' av', xS rm iv' av' (aCrash rm y1 y2 a).2 → Q (some (.int (aCrash rm y1 y2 a).1)) (wX rm iv' av' r)) : rx_R Lx xs (d + 4) 70 [.ref 1, .int y1, .int y2] (wX rm iv av r) Q := by
  refine pz_en (t := rt_70) ⟨Nat.le_of_ble_eq_true rfl, rfl⟩ rfl rfl ?_
  unfold aCrash at hQ
  obtain ⟨hd, hz, hT, hG, hV⟩ := id hx
  have h5 : iv 5 = bB (dwn a) := hd.2.2.2.2.2.2.2.2.1
  refine pz_aln (i := 0) rfl rfl ?_
  refine pz_get (i := 1) rfl (gf_1_0 ..) ?_
  refine pz_get (i := 2) rfl (gf_2_10 ..) ?_
  rw [h5]
  refine pz_if_eq (i := 3) rfl (fun c3 => ?_) (fun c3 => ?_)
  · have hl := bB_f c3
    rw [if_neg (show ¬ dwn a = true by rw [hl]; decide)] at hQ
    refine pz_iln (i := 6) rfl rfl ?_
    refine pz_if_lt (i := 7) rfl (fun c7 => ?_) (fun c7 => ?_)
    · refine pz_ic (i := 10) rfl ?_
      refine pz_ir (i := 11) rfl rfl rfl ?_
      first
        | rw [if_pos (Or.inl c7)] at hQ
        | rw [if_pos (Or.inr (Int32.not_le.mp c9))] at hQ
      exact hQ iv av hx
    · refine pz_iln (i := 8) rfl rfl ?_
      refine pz_if_ge (i := 9) rfl (fun c9 => ?_) (fun c9 => ?_)
      · rw [if_neg (fun z => z.elim c7 (fun w => (Int32.not_le.mpr w) c9))] at hQ
        obtain ⟨k, hk, rfl⟩ := nI_of c7
        obtain ⟨c, hc, rfl⟩ := nI_of (fun w => (Int32.not_le.mpr w) c9)
        rw [cl_ofI hk, cl_ofI hc] at hQ
        refine pz_aln (i := 12) rfl rfl ?_
        refine pz_get (i := 13) rfl (gf_1_0 ..) ?_
        refine pz_get (i := 14) rfl (gf_2_6 ..) ?_
        rw [show iv 1 = nI a.1.1.2.1.length from hd.2.1]
        refine pz_isn (i := 15) rfl ⟨rfl, Nat.le_of_ble_eq_true rfl⟩ rfl ?_
        refine pz_aln (i := 16) rfl rfl ?_
        refine pz_iln (i := 17) rfl rfl ?_
        refine pz_iln (i := 18) rfl rfl ?_
        refine pz_cV2 (i := 19) rfl (gc_1 ..) rfl (Nat.le_of_ble_eq_true rfl) rfl ?_
        refine sx_losePower hr hd hz hG hk hc (fun iv1 av1 k1 k2 k3 k4 => ?_)
        refine ⟨rfl, ?_⟩
        refine pz_iln (i := 20) rfl rfl ?_
        refine pz_ir (i := 21) rfl rfl rfl ?_
        exact hQ iv1 av1 ⟨k1, k2, k3, k4, fun w => (by cases w)⟩
      · refine pz_ic (i := 10) rfl ?_
        refine pz_ir (i := 11) rfl rfl rfl ?_
        first
          | rw [if_pos (Or.inl c7)] at hQ
          | rw [if_pos (Or.inr (Int32.not_le.mp c9))] at hQ
        exact hQ iv av hx
  · refine pz_bi (i := 4) rfl ?_
    refine pz_ir (i := 5) rfl rfl rfl ?_
    rw [if_pos (bB_t c3)] at hQ
    exact hQ iv av hx
set_option maxRecDepth 20000 in
theorem sx_fail (hr : 512 ≤ rm ∧ rm ≤ 4096) {a : aS} {y1 y2 y3 : Int32} (hx : xS rm iv av a) (hQ : ∀ iv' av', xS rm iv' av' (aFail y1 y2 y3 a).2 → Q (some (.int (aFail y1 y2 y3 a).1)) (wX rm iv' av' r)) : rx_R Lx xs (d + 1) 71 [.ref 1, .int y1, .int y2, .int y3] (wX rm iv av r) Q := by
  refine pz_en (t := rt_71) ⟨Nat.le_of_ble_eq_true rfl, rfl⟩ rfl rfl ?_
  unfold aFail at hQ
  obtain ⟨hd, hz, hT, hG, hV⟩ := id hx
  have h5 : iv 5 = bB (dwn a) := hd.2.2.2.2.2.2.2.2.1
  refine pz_aln (i := 0) rfl rfl ?_
  refine pz_get (i := 1) rfl (gf_1_0 ..) ?_
  refine pz_get (i := 2) rfl (gf_2_10 ..) ?_
  rw [h5]
  refine pz_if_eq (i := 3) rfl (fun c3 => ?_) (fun c3 => ?_)
  · have hl := bB_f c3
    rw [if_neg (show ¬ dwn a = true by rw [hl]; decide)] at hQ
    refine pz_iln (i := 6) rfl rfl ?_
    refine pz_ic (i := 7) rfl ?_
    refine pz_ii_lt (i := 8) rfl (fun c8 => ?_) (fun c8 => ?_)
    · refine pz_ic (i := 16) rfl ?_
      refine pz_ir (i := 17) rfl rfl rfl ?_
      first
        | rw [if_pos (Or.inl c8)] at hQ
        | rw [if_pos (Or.inr (Or.inl c11))] at hQ
        | rw [if_pos (Or.inr (Or.inr (Or.inl c13)))] at hQ
        | rw [if_pos (Or.inr (Or.inr (Or.inr (Int32.not_le.mp c15))))] at hQ
      exact hQ iv av hx
    · refine pz_iln (i := 9) rfl rfl ?_
      refine pz_si (i := 10) rfl ?_
      refine pz_ii_gt (i := 11) rfl (fun c11 => ?_) (fun c11 => ?_)
      · refine pz_ic (i := 16) rfl ?_
        refine pz_ir (i := 17) rfl rfl rfl ?_
        first
          | rw [if_pos (Or.inl c8)] at hQ
          | rw [if_pos (Or.inr (Or.inl c11))] at hQ
          | rw [if_pos (Or.inr (Or.inr (Or.inl c13)))] at hQ
          | rw [if_pos (Or.inr (Or.inr (Or.inr (Int32.not_le.mp c15))))] at hQ
        exact hQ iv av hx
      · refine pz_iln (i := 12) rfl rfl ?_
        refine pz_if_lt (i := 13) rfl (fun c13 => ?_) (fun c13 => ?_)
        · refine pz_ic (i := 16) rfl ?_
          refine pz_ir (i := 17) rfl rfl rfl ?_
          first
            | rw [if_pos (Or.inl c8)] at hQ
            | rw [if_pos (Or.inr (Or.inl c11))] at hQ
            | rw [if_pos (Or.inr (Or.inr (Or.inl c13)))] at hQ
            | rw [if_pos (Or.inr (Or.inr (Or.inr (Int32.not_le.mp c15))))] at hQ
          exact hQ iv av hx
        · refine pz_iln (i := 14) rfl rfl ?_
          refine pz_if_ge (i := 15) rfl (fun c15 => ?_) (fun c15 => ?_)
          · rw [if_neg (fun z => z.elim c8 (fun w => w.elim c11 (fun w => w.elim c13 (fun w => (Int32.not_le.mpr w) c15))))] at hQ
            obtain ⟨k, hk, rfl⟩ := nI_of c13
            obtain ⟨c, hc, rfl⟩ := nI_of (fun w => (Int32.not_le.mpr w) c15)
            obtain ⟨n, hn, rfl⟩ := nI_of2 (M := 1000) (n := 1000) (by decide) (fun w => c8 (Int32.lt_trans w (by decide))) (Int32.not_lt.mp c11)
            rw [cl_ofI hk, cl_ofI hc, cl_ofI (a := n)] at hQ
            refine pz_aln (i := 18) rfl rfl ?_
            refine pz_get (i := 19) rfl (gf_1_0 ..) ?_
            refine pz_iln (i := 20) rfl rfl ?_
            refine pz_put (i := 21) rfl (pf_2_7 ..) ⟨rfl, rfl⟩ ?_
            refine pz_aln (i := 22) rfl rfl ?_
            refine pz_get (i := 23) rfl (gf_1_0 ..) ?_
            refine pz_iln (i := 24) rfl rfl ?_
            refine pz_put (i := 25) rfl (pf_2_8 ..) ⟨rfl, rfl⟩ ?_
            refine pz_aln (i := 26) rfl rfl ?_
            refine pz_get (i := 27) rfl (gf_1_0 ..) ?_
            refine pz_iln (i := 28) rfl rfl ?_
            refine pz_put (i := 29) rfl (pf_2_9 ..) ⟨rfl, rfl⟩ ?_
            refine pz_ic (i := 30) rfl ?_
            refine pz_ir (i := 31) rfl rfl rfl ?_
            have fi : frI iv (upd (upd (upd iv 2 (nI n)) 3 (nI k)) 4 (nI c)) [2, 3, 4] := frI_up (frI_up (frI_up (frI_rfl _ _) (by decide)) (by decide)) (by decide)
            refine hQ _ av ⟨?_, hz, tX_fr hT fi (frA_rfl av []) (by decide) (by decide), gX_fr hG fi (frA_rfl av []) (by decide) (by decide), fun w => vX_ext (hV hl) fi (frA_rfl av []) (by decide) (by decide)⟩
            obtain ⟨q0, q1, q2, q3, q4, q5, q6, q7, q8, q9, q10, q11, qb1, qb2, q12⟩ := hd
            refine ⟨q0, ?_, ?_, q3, q4, ?_, ?_, ?_, ?_, hn, hk, hc, qb1, qb2, q12⟩
            · rw [ui_n (by decide), ui_n (by decide), ui_n (by decide)]; exact q1
            · rw [ui_n (by decide), ui_n (by decide), ui_n (by decide)]; exact q2
            · rw [ui_n (by decide), ui_n (by decide), ui_s]
            · rw [ui_n (by decide), ui_s]
            · rw [ui_s]
            · rw [ui_n (by decide), ui_n (by decide), ui_n (by decide)]; exact q8
          · refine pz_ic (i := 16) rfl ?_
            refine pz_ir (i := 17) rfl rfl rfl ?_
            first
              | rw [if_pos (Or.inl c8)] at hQ
              | rw [if_pos (Or.inr (Or.inl c11))] at hQ
              | rw [if_pos (Or.inr (Or.inr (Or.inl c13)))] at hQ
              | rw [if_pos (Or.inr (Or.inr (Or.inr (Int32.not_le.mp c15))))] at hQ
            exact hQ iv av hx
  · refine pz_bi (i := 4) rfl ?_
    refine pz_ir (i := 5) rfl rfl rfl ?_
    rw [if_pos (bB_t c3)] at hQ
    exact hQ iv av hx
set_option maxRecDepth 20000 in
theorem sx_spare (hr : 512 ≤ rm ∧ rm ≤ 4096) {a : aS} (hx : xS rm iv av a) (hQ : ∀ iv' av', xS rm iv' av' (aSpare a).2 → Q (some (.int (aSpare a).1)) (wX rm iv' av' r)) : rx_R Lx xs (d + 1) 72 [.ref 1] (wX rm iv av r) Q := by
  refine pz_en (t := rt_72) ⟨Nat.le_of_ble_eq_true rfl, rfl⟩ rfl rfl ?_
  unfold aSpare at hQ
  obtain ⟨hd, hz, hT, hG, hV⟩ := id hx
  have h5 : iv 5 = bB (dwn a) := hd.2.2.2.2.2.2.2.2.1
  have h2 : iv 2 = nI a.1.1.2.2.1 := hd.2.2.2.2.2.1
  have hn := hd.2.2.2.2.2.2.2.2.2.1
  refine pz_aln (i := 0) rfl rfl ?_
  refine pz_get (i := 1) rfl (gf_1_0 ..) ?_
  refine pz_get (i := 2) rfl (gf_2_10 ..) ?_
  rw [h5]
  refine pz_if_eq (i := 3) rfl (fun c3 => ?_) (fun c3 => ?_)
  · have hl := bB_f c3
    rw [if_neg (show ¬ dwn a = true by rw [hl]; decide)] at hQ
    refine pz_aln (i := 6) rfl rfl ?_
    refine pz_get (i := 7) rfl (gf_1_0 ..) ?_
    refine pz_get (i := 8) rfl (gf_2_7 ..) ?_
    rw [h2]
    refine pz_if_le (i := 9) rfl (fun c9 => ?_) (fun c9 => ?_)
    · refine pz_ic (i := 12) rfl ?_
      refine pz_isn (i := 13) rfl ⟨rfl, Nat.le_of_ble_eq_true rfl⟩ rfl ?_
      refine pz_aln (i := 14) rfl rfl ?_
      refine pz_get (i := 15) rfl (gf_1_0 ..) ?_
      refine pz_ic (i := 16) rfl ?_
      refine pz_put (i := 17) rfl (pf_2_7 ..) ⟨rfl, rfl⟩ ?_
      refine pz_iln (i := 18) rfl rfl ?_
      refine pz_ir (i := 19) rfl rfl rfl ?_
      have fi : frI iv (upd iv 2 0) [2] := frI_up (frI_rfl _ _) (by decide)
      have hxs : xS rm (upd iv 2 0) av (((a.1.1.1, a.1.1.2.1, 0, a.1.1.2.2.2), a.1.2), a.2) := by
        refine ⟨?_, hz, tX_fr hT fi (frA_rfl av []) (by decide) (by decide), gX_fr hG fi (frA_rfl av []) (by decide) (by decide), fun w => vX_ext (hV hl) fi (frA_rfl av []) (by decide) (by decide)⟩
        obtain ⟨q0, q1, q2, q3, q4, q5, q6, q7, q8, q9, q10, q11, qb1, qb2, q12⟩ := hd
        refine ⟨q0, ?_, ?_, q3, q4, ?_, ?_, ?_, ?_, Nat.zero_le _, q10, q11, qb1, qb2, q12⟩
        · rw [ui_n (by decide)]; exact q1
        · rw [ui_n (by decide)]; exact q2
        · exact ui_s _ _ _
        · rw [ui_n (by decide)]; exact q6
        · rw [ui_n (by decide)]; exact q7
        · rw [ui_n (by decide)]; exact q8
      have h := hQ _ av hxs
      first
        | (rw [show (if a.1.1.2.2.1 = 0 then (0 : Int32) else 1) = 1 from if_neg (fun z => c9 (by rw [z]; exact Int32.le_refl _))] at h
           exact h)
        | (rw [show (if a.1.1.2.2.1 = 0 then (0 : Int32) else 1) = 0 from if_pos (by have := le_ofI (b := 0) c9 (by omega) (by decide); omega)] at h
           exact h)
    · refine pz_ic (i := 10) rfl ?_
      refine pz_go (i := 11) rfl ?_
      refine pz_isn (i := 13) rfl ⟨rfl, Nat.le_of_ble_eq_true rfl⟩ rfl ?_
      refine pz_aln (i := 14) rfl rfl ?_
      refine pz_get (i := 15) rfl (gf_1_0 ..) ?_
      refine pz_ic (i := 16) rfl ?_
      refine pz_put (i := 17) rfl (pf_2_7 ..) ⟨rfl, rfl⟩ ?_
      refine pz_iln (i := 18) rfl rfl ?_
      refine pz_ir (i := 19) rfl rfl rfl ?_
      have fi : frI iv (upd iv 2 0) [2] := frI_up (frI_rfl _ _) (by decide)
      have hxs : xS rm (upd iv 2 0) av (((a.1.1.1, a.1.1.2.1, 0, a.1.1.2.2.2), a.1.2), a.2) := by
        refine ⟨?_, hz, tX_fr hT fi (frA_rfl av []) (by decide) (by decide), gX_fr hG fi (frA_rfl av []) (by decide) (by decide), fun w => vX_ext (hV hl) fi (frA_rfl av []) (by decide) (by decide)⟩
        obtain ⟨q0, q1, q2, q3, q4, q5, q6, q7, q8, q9, q10, q11, qb1, qb2, q12⟩ := hd
        refine ⟨q0, ?_, ?_, q3, q4, ?_, ?_, ?_, ?_, Nat.zero_le _, q10, q11, qb1, qb2, q12⟩
        · rw [ui_n (by decide)]; exact q1
        · rw [ui_n (by decide)]; exact q2
        · exact ui_s _ _ _
        · rw [ui_n (by decide)]; exact q6
        · rw [ui_n (by decide)]; exact q7
        · rw [ui_n (by decide)]; exact q8
      have h := hQ _ av hxs
      first
        | (rw [show (if a.1.1.2.2.1 = 0 then (0 : Int32) else 1) = 1 from if_neg (fun z => c9 (by rw [z]; exact Int32.le_refl _))] at h
           exact h)
        | (rw [show (if a.1.1.2.2.1 = 0 then (0 : Int32) else 1) = 0 from if_pos (by have := le_ofI (b := 0) c9 (by omega) (by decide); omega)] at h
           exact h)
  · refine pz_bi (i := 4) rfl ?_
    refine pz_ir (i := 5) rfl rfl rfl ?_
    rw [if_pos (bB_t c3)] at hQ
    exact hQ iv av hx
set_option maxRecDepth 20000 in
theorem sx_read (hr : 512 ≤ rm ∧ rm ≤ 4096) {a : aS} {y1 : Int32} (hx : xS rm iv av a) (hQ : ∀ iv' av', xS rm iv' av' (aRead y1 a).2 → Q (some (.int (aRead y1 a).1)) (wX rm iv' av' r)) : rx_R Lx xs (d + 1) 65 [.ref 1, .int y1] (wX rm iv av r) Q := by
  refine pz_en (t := rt_65) ⟨Nat.le_of_ble_eq_true rfl, rfl⟩ rfl rfl ?_
  unfold aRead at hQ
  obtain ⟨hd, hz, hT, hG, hV⟩ := id hx
  have h5 : iv 5 = bB (dwn a) := hd.2.2.2.2.2.2.2.2.1
  obtain ⟨g1, g2, g3, g4, _, _⟩ := id hG
  refine pz_iln (i := 0) rfl rfl ?_
  refine pz_if_lt (i := 1) rfl (fun c1 => ?_) (fun c1 => ?_)
  · refine pz_ic (i := 6) rfl ?_
    refine pz_go (i := 7) rfl ?_
    refine pz_ir (i := 14) rfl rfl rfl ?_
    first
      | exact hQ iv av hx
      | (rw [if_pos (Or.inl c1)] at hQ
         exact hQ iv av hx)
      | (rw [if_pos (Or.inr (Int32.not_lt.mp c5))] at hQ
         exact hQ iv av hx)
  · refine pz_iln (i := 2) rfl rfl ?_
    refine pz_aln (i := 3) rfl rfl ?_
    refine pz_get (i := 4) rfl (gf_1_11 ..) ?_
    rw [g1]
    refine pz_ii_lt (i := 5) rfl (fun c5 => ?_) (fun c5 => ?_)
    · obtain ⟨k, hk, rfl⟩ := nI_of c1
      have hkl : k < a.2.2.1.length := lt_ofI c5 hk (by omega)
      rw [if_neg (fun z => z.elim c1 (fun w => (Int32.not_le.mpr c5) w)), cl_ofI hk] at hQ
      refine pz_aln (i := 8) rfl rfl ?_
      refine pz_get (i := 9) rfl (gf_1_10 ..) ?_
      refine pz_iln (i := 10) rfl rfl ?_
      refine pz_bal (i := 11) rfl (ga_51 ..) rfl (in_ofI (by omega)) ?_
      rw [cl_ofI hk, g4 k hkl]
      refine pz_si (i := 12) rfl ?_
      refine pz_and (i := 13) rfl ?_
      rw [show lB a.2.2.1 k &&& 255 = nI (a.2.2.1.getD k 0) from sc_k8 _ (by8_get g3 k)]
      refine pz_ir (i := 14) rfl rfl rfl ?_
      first
        | exact hQ iv av hx
        | (rw [if_pos (Or.inl c1)] at hQ
           exact hQ iv av hx)
        | (rw [if_pos (Or.inr (Int32.not_lt.mp c5))] at hQ
           exact hQ iv av hx)
    · refine pz_ic (i := 6) rfl ?_
      refine pz_go (i := 7) rfl ?_
      refine pz_ir (i := 14) rfl rfl rfl ?_
      first
        | exact hQ iv av hx
        | (rw [if_pos (Or.inl c1)] at hQ
           exact hQ iv av hx)
        | (rw [if_pos (Or.inr (Int32.not_lt.mp c5))] at hQ
           exact hQ iv av hx)
set_option maxRecDepth 20000 in
theorem sx_cell (hr : 512 ≤ rm ∧ rm ≤ 4096) {a : aS} {y1 y2 : Int32} (hx : xS rm iv av a) (hQ : ∀ iv' av', xS rm iv' av' (aCell rm y1 y2 a).2 → Q (some (.int (aCell rm y1 y2 a).1)) (wX rm iv' av' r)) : rx_R Lx xs (d + 3) 77 [.ref 1, .int y1, .int y2] (wX rm iv av r) Q := by
  refine pz_en (t := rt_77) ⟨Nat.le_of_ble_eq_true rfl, rfl⟩ rfl rfl ?_
  unfold aCell at hQ
  obtain ⟨hd, hz, hT, hG, hV⟩ := id hx
  have h5 : iv 5 = bB (dwn a) := hd.2.2.2.2.2.2.2.2.1
  have hr' : 0 < rm ∧ rm ≤ 4096 := ⟨by omega, hr.2⟩
  refine pz_aln (i := 0) rfl rfl ?_
  refine pz_get (i := 1) rfl (gf_1_0 ..) ?_
  refine pz_iln (i := 2) rfl rfl ?_
  refine pz_iln (i := 3) rfl rfl ?_
  refine pz_cI2 (i := 4) rfl (gc_2 ..) rfl (Nat.le_of_ble_eq_true rfl) rfl ?_
  refine sx_cellOf hr' ?_
  refine ⟨_, rfl, ?_⟩
  refine pz_isn (i := 5) rfl ⟨rfl, Nat.le_of_ble_eq_true rfl⟩ rfl ?_
  refine pz_iln (i := 6) rfl rfl ?_
  refine pz_ic (i := 7) rfl ?_
  refine pz_ii_ne (i := 8) rfl (fun c8 => ?_) (fun c8 => ?_)
  · refine pz_aln (i := 11) rfl rfl ?_
    refine pz_get (i := 12) rfl (gf_1_0 ..) ?_
    refine pz_iln (i := 13) rfl rfl ?_
    refine pz_cI1 (i := 14) rfl (gc_2 ..) rfl (Nat.le_of_ble_eq_true rfl) rfl ?_
    refine sx_byteAt hr' ?_
    refine ⟨_, rfl, ?_⟩
    refine pz_ir (i := 15) rfl rfl rfl ?_
    first
      | (rw [if_pos c8] at hQ
         exact hQ iv av hx)
      | (rw [if_neg c8] at hQ
         obtain ⟨c, hc1, hc2⟩ := ceF_nat hr' c8
         rw [hc2, cl_ofI (a := c)] at hQ
         rw [hc2, bx_atN hc1 hr.2, show av 0 = cu rm a.1.1 from hd.1]
         exact hQ iv av hx)
  · refine pz_ic (i := 9) rfl ?_
    refine pz_go (i := 10) rfl ?_
    refine pz_ir (i := 15) rfl rfl rfl ?_
    first
      | (rw [if_pos c8] at hQ
         exact hQ iv av hx)
      | (rw [if_neg c8] at hQ
         obtain ⟨c, hc1, hc2⟩ := ceF_nat hr' c8
         rw [hc2, cl_ofI (a := c)] at hQ
         rw [hc2, bx_atN hc1 hr.2, show av 0 = cu rm a.1.1 from hd.1]
         exact hQ iv av hx)
end S81
