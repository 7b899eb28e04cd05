/-! PART B9: the reference: writeBatch -/
section SB9
variable {Lx : Nat} {xs : Nat → Int32} {d rm : Nat} {iv : Nat → Int32} {av : Nat → Nat → Int32} {jv : Nat → Int32} {bv : Nat → Nat → Int32} {Q : rQ}
set_option maxRecDepth 20000 in
theorem lq_60 (hr : 512 ≤ rm ∧ rm ≤ 4096) {b : List bR} {s : dS} {V : vW} {x2 : Int32} {jv1 : Nat → Int32} {bv1 : Nat → Nat → Int32} (hb : bM jv bv b) (o : oM rm jv bv jv1 bv1 s [0, 1, 2, 12, 13, 14, 15, 16, 17, 18, 19, 20, 21, 22, 23, 24] [2, 3, 4, 5, 6, 7, 8, 15, 16, 17, 18, 19, 20, 21, 22, 23, 24]) (hv : s.2.2.2.2.2 = false → vM jv1 bv1 V) (hJ : stJ b (s, V)) (hQ : ∀ jv' bv' z, oM rm jv bv jv' bv' (stA rm b (s, V)).1 [0, 1, 2, 10, 11, 12, 13, 14, 15, 16, 17, 18, 19, 20, 21, 22, 23, 24] [2, 3, 4, 5, 6, 7, 8, 15, 16, 17, 18, 19, 20, 21, 22, 23, 24] → ((stA rm b (s, V)).1.2.2.2.2.2 = false → vM jv' bv' (stA rm b (s, V)).2.1 ∧ (z = if (stA rm b (s, V)).2.2 then nI b.length else -3) ∧ jv' 10 = 0 ∧ jv' 11 = 0) → ((stA rm b (s, V)).1.2.2.2.2.2 = true → z = -2) → Q (some (.int z)) (wX rm iv av (wM rm jv' bv'))) : pz Lx xs (d + 5) rt_123 (some .int) Q 60 [some (.ref 54), some (.int (nI (bZ b))), some (.int x2), none, none, none, none] [] (wX rm iv av (wM rm jv1 bv1)) := by
  refine pz_aln (i := 60) rfl rfl ?_
  refine pz_get (i := 61) rfl (gf_54_15 ..) ?_
  rw [oM_5 o]
  refine pz_if_eq (i := 62) rfl (fun c62 => ?_) (fun c62 => ?_)
  · have hda := bB_f c62
    obtain ⟨d1, d2, d3⟩ := o.1 hda
    have hv1 := hv hda
    obtain ⟨hu, hm, u1, u2, u3, u4, u5, u6, u7⟩ := id hv1
    have hb1 := bM_fr hb d2 d3 (by decide) (by decide)
    obtain ⟨⟨hbd1, hbd2⟩, hcp⟩ := hJ hda
    have q5 : V.2.2 5 < 2 ^ 30 - 2000 := hbd1 5 (by decide) (by decide)
    have q6 : V.2.2 6 < 2 ^ 30 - 2000 := hbd1 6 (by decide) (by decide)
    have h8 := hb1.2.1
    refine pz_aln (i := 65) rfl rfl ?_
    refine pz_get (i := 66) rfl (gf_54_23 ..) ?_
    rw [hb1.1]
    refine pz_isn (i := 67) rfl ⟨rfl, Nat.le_of_ble_eq_true rfl⟩ rfl ?_
    refine pz_aln (i := 68) rfl rfl ?_
    refine pz_get (i := 69) rfl (gf_54_32 ..) ?_
    rw [u6]
    refine pz_isn (i := 70) rfl ⟨rfl, Nat.le_of_ble_eq_true rfl⟩ rfl ?_
    refine pz_aln (i := 71) rfl rfl ?_
    refine pz_get (i := 72) rfl (gf_54_28 ..) ?_
    rw [u5]
    refine pz_is (i := 73) rfl ⟨rfl, Nat.le_of_ble_eq_true rfl⟩ rfl ?_
    refine pz_ic (i := 74) rfl ?_
    refine pz_is (i := 75) rfl ⟨rfl, Nat.le_of_ble_eq_true rfl⟩ rfl ?_
    refine lq_w1 hr hb1 b 0 s V jv1 bv1 _ rfl (Nat.zero_le _) d1 hda (frI_rfl _ _) (frA_rfl _ _) u5 u6 hcp ⟨by omega, by omega⟩ (fun jv2 bv2 y6 a1 a2 a3 a4 a5 a6 => ?_) (fun jv2 bv2 a1 a2 => ?_)
    · refine pz_ic (i := 129) rfl ?_
      refine pz_is (i := 130) rfl ⟨rfl, Nat.le_of_ble_eq_true rfl⟩ rfl ?_
      obtain ⟨n5, n6, n1, nn⟩ := aaV_num b V
      have hm2 : eM jv2 bv2 V.2.1 := eM_ext hm (a3 20 (by decide)) (a4 17 (by decide)) (a4 18 (by decide)) (a4 19 (by decide))
      refine lq_w2 (V := V) (bM_fr hb1 a3 a4 (by decide) (by decide)) ⟨q5, q6⟩ (fun jv3 bv3 y4 e3 f3 b3 => ?_) b.length 0 jv2 bv2 (Nat.zero_add _) (frI_rfl _ _) (frA_rfl _ _) hm2
      have F3 : frI jv1 jv3 [0, 1, 2, 12, 16, 20] := frI_tr a3 f3 (by decide) (by decide)
      have B3 : frA bv1 bv3 [2, 4, 5, 6, 7, 8, 17, 18, 19, 23, 24] := frA_tr a4 b3 (by decide) (by decide)
      refine pz_aln (i := 159) rfl rfl ?_
      refine pz_ic (i := 160) rfl ?_
      refine pz_put (i := 161) rfl (pf_54_23 ..) ⟨rfl, rfl⟩ ?_
      refine pz_aln (i := 162) rfl rfl ?_
      refine pz_ic (i := 163) rfl ?_
      refine pz_put (i := 164) rfl (pf_54_22 ..) ⟨rfl, rfl⟩ ?_
      refine pz_iln (i := 165) rfl rfl ?_
      refine pz_ir (i := 166) rfl rfl rfl ?_
      have G4 : frI jv3 (upd (upd jv3 11 0) 10 0) [10, 11] := frI_up (frI_up (frI_rfl _ _) (by decide)) (by decide)
      have F4 : frI jv1 (upd (upd jv3 11 0) 10 0) [0, 1, 2, 10, 11, 12, 16, 20] := frI_tr F3 G4 (by decide) (by decide)
      refine hQ _ bv3 _ ⟨fun _ => ⟨dM_fr (dM_fr a1 f3 b3 (by decide) (by decide)) G4 (frA_rfl _ []) (by decide) (by decide), frI_tr d2 F4 (by decide) (by decide), frA_tr d3 B3 (by decide) (by decide)⟩, fun w => (by rw [show (stA rm b (s, V)).1.2.2.2.2.2 = false from a2] at w; cases w)⟩ (fun _ => ⟨⟨?_, ?_, ?_⟩, rfl, ?_, ?_⟩) (fun w => (by rw [show (stA rm b (s, V)).1.2.2.2.2.2 = false from a2] at w; cases w))
      · show uM _ bv3 (aaV b V).1
        rw [n1]
        exact uM_fr hu F4 B3 (by decide) (by decide)
      · exact eM_ext e3 (G4 20 (by decide)) rfl rfl rfl
      · show nM _ (aaV b V).2.2
        refine ⟨?_, ?_, ?_, ?_, ?_, ?_, ?_⟩
        · rw [F4 18 (by decide), nn 1 (by decide) (by decide)]; exact u1
        · rw [F4 14 (by decide), nn 2 (by decide) (by decide)]; exact u2
        · rw [F4 15 (by decide), nn 3 (by decide) (by decide)]; exact u3
        · rw [F4 13 (by decide), nn 4 (by decide) (by decide)]; exact u4
        · rw [G4 12 (by decide), f3 12 (by decide)]; exact a5
        · rw [G4 16 (by decide), f3 16 (by decide)]; exact a6
        · rw [F4 17 (by decide), nn 7 (by decide) (by decide)]; exact u7
      · exact ui_s _ _ _
      · rw [ui_n (by decide), ui_s]
    · refine hQ jv2 bv2 (-2) ⟨fun w => (by rw [show (stA rm b (s, V)).1.2.2.2.2.2 = true from a1] at w; cases w), fun _ => ?_⟩ (fun w => (by rw [show (stA rm b (s, V)).1.2.2.2.2.2 = true from a1] at w; cases w)) (fun _ => rfl)
      exact ⟨a2.1, a2.2.1, a2.2.2.1, a2.2.2.2.1, a2.2.2.2.2.1.trans (d2 7 (by decide)), a2.2.2.2.2.2.1.trans (d2 8 (by decide)), a2.2.2.2.2.2.2.1.trans (d2 9 (by decide)), a2.2.2.2.2.2.2.2.trans (d3 10 (by decide))⟩
  · refine pz_bi (i := 63) rfl ?_
    refine pz_ir (i := 64) rfl rfl rfl ?_
    have hdd := bB_t c62
    have e : (stA rm b (s, V)).1 = s := stA_dead (q := (s, V)) hdd
    rw [e] at hQ
    exact hQ jv1 bv1 (-2) (oM_dead o hdd) (fun w => by rw [hdd] at w; cases w) (fun _ => rfl)
set_option maxRecDepth 20000 in
theorem lq_51 (hr : 512 ≤ rm ∧ rm ≤ 4096) {b : List bR} {s : dS} {V : vW} {x2 : Int32} {jv1 : Nat → Int32} {bv1 : Nat → Nat → Int32} (hb : bM jv bv b) (o : oM rm jv bv jv1 bv1 s [0, 1, 2, 12, 13, 14, 15, 16, 17, 18, 19, 20, 21, 22, 23, 24] [2, 3, 4, 5, 6, 7, 8, 15, 16, 17, 18, 19, 20, 21, 22, 23, 24]) (hv : s.2.2.2.2.2 = false → vM jv1 bv1 V ∧ ckI rm s V ∧ bnd V) (hJ : stJ b (ckM rm s V b)) (hQ : ∀ jv' bv' z, oM rm jv bv jv' bv' (stA rm b (ckM rm s V b)).1 [0, 1, 2, 10, 11, 12, 13, 14, 15, 16, 17, 18, 19, 20, 21, 22, 23, 24] [2, 3, 4, 5, 6, 7, 8, 15, 16, 17, 18, 19, 20, 21, 22, 23, 24] → ((stA rm b (ckM rm s V b)).1.2.2.2.2.2 = false → vM jv' bv' (stA rm b (ckM rm s V b)).2.1 ∧ (z = if (stA rm b (ckM rm s V b)).2.2 then nI b.length else -3) ∧ jv' 10 = 0 ∧ jv' 11 = 0) → ((stA rm b (ckM rm s V b)).1.2.2.2.2.2 = true → z = -2) → Q (some (.int z)) (wX rm iv av (wM rm jv' bv'))) : pz Lx xs (d + 7) rt_123 (some .int) Q 51 [some (.ref 54), some (.int (nI (bZ b))), some (.int x2), none, none, none, none] [] (wX rm iv av (wM rm jv1 bv1)) := by
  have hkl := kS_len V.2.1
  refine pz_aln (i := 51) rfl rfl ?_
  refine pz_get (i := 52) rfl (gf_54_15 ..) ?_
  rw [oM_5 o]
  refine pz_if_ne (i := 53) rfl (fun c53 => ?_) (fun c53 => ?_)
  · first
      | exact lq_60 hr hb (oM_tr d2 d3 o2 (by decide) (by decide) (by decide) (by decide) (by decide) (by decide)) k2 hJ hQ
      | (have hle := le_ofI (b := 24) c57 (by unfold wh; omega) (by decide)
         have eM9 : ckM rm s V b = (s, V) := if_pos hle
         rw [eM9] at hQ hJ
         exact lq_60 hr hb o (fun w => (hv w).1) hJ hQ)
      | (have hdd := bB_t c53
         have e1 : (ckM rm s V b).1 = s := ckM_dead hdd
         have e2 : (ckM rm s V b).1.2.2.2.2.2 = true := by rw [e1]; exact hdd
         exact lq_60 hr hb (V := (ckM rm s V b).2) (s := (ckM rm s V b).1) (by rw [e1]; exact o) (fun w => by rw [e2] at w; cases w) hJ hQ)
  · refine pz_aln (i := 54) rfl rfl ?_
    refine pz_cI0 (i := 55) rfl (gc_54 ..) rfl (Nat.le_of_ble_eq_true rfl) rfl ?_
    have hda := bB_f c53
    obtain ⟨d1, d2, d3⟩ := o.1 hda
    obtain ⟨hv1, hck, hbd⟩ := hv hda
    have hb1 := bM_fr hb d2 d3 (by decide) (by decide)
    have hcw := cWN_le V.2.1 (bK b) b.length
    have h8 := hb.2.1
    refine sm_wouldHave hb1 hv1.2.1 ?_
    refine ⟨_, rfl, ?_⟩
    refine pz_bi (i := 56) rfl ?_
    refine pz_ii_le (i := 57) rfl (fun c57 => ?_) (fun c57 => ?_)
    · first
        | exact lq_60 hr hb (oM_tr d2 d3 o2 (by decide) (by decide) (by decide) (by decide) (by decide) (by decide)) k2 hJ hQ
        | (have hle := le_ofI (b := 24) c57 (by unfold wh; omega) (by decide)
           have eM9 : ckM rm s V b = (s, V) := if_pos hle
           rw [eM9] at hQ hJ
           exact lq_60 hr hb o (fun w => (hv w).1) hJ hQ)
        | (have hdd := bB_t c53
           have e1 : (ckM rm s V b).1 = s := ckM_dead hdd
           have e2 : (ckM rm s V b).1.2.2.2.2.2 = true := by rw [e1]; exact hdd
           exact lq_60 hr hb (V := (ckM rm s V b).2) (s := (ckM rm s V b).1) (by rw [e1]; exact o) (fun w => by rw [e2] at w; cases w) hJ hQ)
    · refine pz_aln (i := 58) rfl rfl ?_
      refine pz_cV0 (i := 59) rfl (gc_54 ..) rfl (Nat.le_of_ble_eq_true rfl) rfl ?_
      have hne : ¬ wh V b ≤ 24 := fun z => c57 ((nI_leI (by unfold wh; omega) (by decide)).mpr z)
      have eM9 : ckM rm s V b = ck rm s V := if_neg hne
      rw [eM9] at hQ hJ
      refine sm_checkpointAll hr d1 hda hv1 hck (fun i i1 i2 => by have := hbd.1 i i1 i2; omega) (fun jv2 bv2 o2 k2 => ?_)
      refine ⟨rfl, ?_⟩
      first
        | exact lq_60 hr hb (oM_tr d2 d3 o2 (by decide) (by decide) (by decide) (by decide) (by decide) (by decide)) k2 hJ hQ
        | (have hle := le_ofI (b := 24) c57 (by unfold wh; omega) (by decide)
           have eM9 : ckM rm s V b = (s, V) := if_pos hle
           rw [eM9] at hQ hJ
           exact lq_60 hr hb o (fun w => (hv w).1) hJ hQ)
        | (have hdd := bB_t c53
           have e1 : (ckM rm s V b).1 = s := ckM_dead hdd
           have e2 : (ckM rm s V b).1.2.2.2.2.2 = true := by rw [e1]; exact hdd
           exact lq_60 hr hb (V := (ckM rm s V b).2) (s := (ckM rm s V b).1) (by rw [e1]; exact o) (fun w => by rw [e2] at w; cases w) hJ hQ)
set_option maxRecDepth 20000 in
theorem lq_6 (hr : 512 ≤ rm ∧ rm ≤ 4096) {b : List bR} {s : dS} {V : vW} {lg : List lR} {jv1 : Nat → Int32} {bv1 : Nat → Nat → Int32} (hb : bM jv bv b) (o : oM rm jv bv jv1 bv1 s [0, 1, 2, 12, 13, 14, 15, 16, 17, 18, 19, 20, 21, 22, 23, 24] [2, 3, 4, 5, 6, 7, 8, 15, 16, 17, 18, 19, 20, 21, 22, 23, 24]) (hv : s.2.2.2.2.2 = false → vM jv1 bv1 V ∧ bnd V ∧ (V.2.2 5 + (bZ b + 176) + 12 ≤ V.2.2 4 + rm → stJ b (s, V)) ∧ (¬ V.2.2 5 + (bZ b + 176) + 12 ≤ V.2.2 4 + rm → paI rm 1000 (V.2.2 5) 1 s V lg ∧ paE rm 1000 (V.2.2 5) 1 s V lg ∧ ((stP rm (s, V) lg).1.2.2.2.2.2 = false → bnd (stP rm (s, V) lg).2.1 ∧ ckI rm (stP rm (s, V) lg).1 (stP rm (s, V) lg).2.1 ∧ ((stP rm (s, V) lg).2.1.2.2 5 + (bZ b + 176) + 12 ≤ (stP rm (s, V) lg).2.1.2.2 4 + rm → stJ b (ckM rm (stP rm (s, V) lg).1 (stP rm (s, V) lg).2.1 b))))) (hQ : ∀ jv' bv' z, oM rm jv bv jv' bv' (stO rm b (s, V) lg).1 [0, 1, 2, 10, 11, 12, 13, 14, 15, 16, 17, 18, 19, 20, 21, 22, 23, 24] [2, 3, 4, 5, 6, 7, 8, 15, 16, 17, 18, 19, 20, 21, 22, 23, 24] → ((stO rm b (s, V) lg).1.2.2.2.2.2 = false → vM jv' bv' (stO rm b (s, V) lg).2.1 ∧ (z = if (stO rm b (s, V) lg).2.2 then nI b.length else -3) ∧ jv' 10 = 0 ∧ jv' 11 = 0) → ((stO rm b (s, V) lg).1.2.2.2.2.2 = true → z = -2) → Q (some (.int z)) (wX rm iv av (wM rm jv' bv'))) : pz Lx xs (d + 9) rt_123 (some .int) Q 6 [some (.ref 54), none, none, none, none, none, none] [] (wX rm iv av (wM rm jv1 bv1)) := by
  have h8 := hb.2.1
  have hbz : bZ b ≤ 608 := by
    have := bM_Z hb b.length
    rw [List.take_length] at this
    exact this
  cases hs : s.2.2.2.2.2 with
  | true =>
    obtain ⟨_, _, _, z11, _⟩ := o.2 hs
    have e9 : (stO rm b (s, V) lg).1 = s := stO_dead (q := (s, V)) hs
    rw [e9] at hQ
    refine pz_ic (i := 6) rfl ?_
    refine pz_isn (i := 7) rfl ⟨rfl, Nat.le_of_ble_eq_true rfl⟩ rfl ?_
    refine pz_ic (i := 8) rfl ?_
    refine pz_isn (i := 9) rfl ⟨rfl, Nat.le_of_ble_eq_true rfl⟩ rfl ?_
    refine pz_iln (i := 10) rfl rfl ?_
    refine pz_aln (i := 11) rfl rfl ?_
    refine pz_get (i := 12) rfl (gf_54_23 ..) ?_
    rw [z11]
    refine pz_ii_ge (i := 13) rfl (fun c13 => ?_) (fun c13 => ?_)
    · refine pz_aln (i := 25) rfl rfl ?_
      refine pz_get (i := 26) rfl (gf_54_15 ..) ?_
      rw [oM_5 o, hs]
      refine pz_if_ne (i := 27) rfl (fun c27 => ?_) (fun c27 => ?_)
      · refine pz_aln (i := 60) rfl rfl ?_
        refine pz_get (i := 61) rfl (gf_54_15 ..) ?_
        rw [oM_5 o, hs]
        refine pz_if_eq (i := 62) rfl (fun c62 => ?_) (fun c62 => ?_)
        · exact absurd c62 (by decide)
        · refine pz_bi (i := 63) rfl ?_
          refine pz_ir (i := 64) rfl rfl rfl ?_
          exact hQ jv1 bv1 (-2) (oM_dead o hs) (fun w => by rw [hs] at w; cases w) (fun _ => rfl)
      · exact absurd c27 (by decide)
    · exact absurd (Int32.le_refl _) c13
  | false =>
    have k25 : ∀ x2 : Int32, pz Lx xs (d + 9) rt_123 (some .int) Q 25 [some (.ref 54), some (.int (nI (bZ b))), some (.int x2), none, none, none, none] [] (wX rm iv av (wM rm jv1 bv1)) := by
      intro x2
      have hda := hs
      refine pz_aln (i := 25) rfl rfl ?_
      refine pz_get (i := 26) rfl (gf_54_15 ..) ?_
      rw [oM_5 o, hs]
      refine pz_if_ne (i := 27) rfl (fun c27 => ?_) (fun c27 => ?_)
      · exact absurd rfl c27
      · obtain ⟨d1, d2, d3⟩ := o.1 hda
        obtain ⟨hv1, ⟨hbd1, hbd2⟩, hj1, hj2⟩ := hv hda
        obtain ⟨hu, hm, u1, u2, u3, u4, u5, u6, u7⟩ := id hv1
        have q5 := hbd1 5 (by decide) (by decide)
        have q4 := hbd1 4 (by decide) (by decide)
        refine pz_aln (i := 28) rfl rfl ?_
        refine pz_iln (i := 29) rfl rfl ?_
        refine pz_si (i := 30) rfl ?_
        refine pz_cI2 (i := 31) rfl (gc_54 ..) rfl (Nat.le_of_ble_eq_true rfl) rfl ?_
        refine sm_hasRoom hr (h := V.2.2 5) (z := bZ b) (tl := V.2.2 4) (less := 176) u5 u4 ⟨by omega, by omega, by omega⟩ (by decide) ?_
        refine ⟨_, rfl, ?_⟩
        refine pz_if_ne (i := 32) rfl (fun c32 => ?_) (fun c32 => ?_)
        · first
            | (have hrr : V.2.2 5 + (bZ b + 176) + 12 ≤ V.2.2 4 + rm := by
                 rcases Nat.lt_or_ge (V.2.2 4 + rm) (V.2.2 5 + bZ b + 12 + 176) with w | w
                 · exact absurd (if_neg (by omega)) c32
                 · omega
               have eO : stO rm b (s, V) lg = stA rm b (s, V) := if_pos hrr
               rw [eO] at hQ
               exact lq_60 hr hb o (fun w => (hv w).1) (hj1 hrr) hQ)
        · refine pz_aln (i := 33) rfl rfl ?_
          refine pz_cV0 (i := 34) rfl (gc_54 ..) rfl (Nat.le_of_ble_eq_true rfl) rfl ?_
          have hnr : ¬ V.2.2 5 + (bZ b + 176) + 12 ≤ V.2.2 4 + rm := fun w => by
            rw [if_pos (by omega)] at c32
            exact absurd c32 (by decide)
          obtain ⟨p1, p2, p3⟩ := hj2 hnr
          have eO : stO rm b (s, V) lg = stQ rm b (stP rm (s, V) lg) := if_neg hnr
          rw [eO] at hQ
          refine sm_passLog hr d1 hda hv1 ⟨by omega, by omega⟩ p1 p2 (fun jv2 bv2 o2 k2 => ?_)
          have O2 : oM rm jv bv jv2 bv2 (stP rm (s, V) lg).1 [0, 1, 2, 12, 13, 14, 15, 16, 17, 18, 19, 20, 21, 22, 23, 24] [2, 3, 4, 5, 6, 7, 8, 15, 16, 17, 18, 19, 20, 21, 22, 23, 24] := oM_tr d2 d3 o2 (by decide) (by decide) (by decide) (by decide) (by decide) (by decide)
          have k2 : (stP rm (s, V) lg).1.2.2.2.2.2 = false → vM jv2 bv2 (stP rm (s, V) lg).2.1 := k2
          refine ⟨rfl, ?_⟩
          refine pz_aln (i := 35) rfl rfl ?_
          refine pz_get (i := 36) rfl (gf_54_15 ..) ?_
          rw [oM_5 O2]
          refine pz_if_ne (i := 37) rfl (fun c37 => ?_) (fun c37 => ?_)
          · first
              | (have hdd := bB_t c37
                 unfold stQ at hQ
                 by_cases hr2 : (stP rm (s, V) lg).2.1.2.2 5 + (bZ b + 176) + 12 ≤ (stP rm (s, V) lg).2.1.2.2 4 + rm
                 · simp only [if_pos hr2] at hQ
                   have e9 : (ckM rm (stP rm (s, V) lg).1 (stP rm (s, V) lg).2.1 b).1.2.2.2.2.2 = true := by rw [ckM_dead hdd]; exact hdd
                   exact lq_51 hr hb O2 (fun w => by rw [hdd] at w; cases w) (fun w => by rw [e9] at w; cases w) hQ
                 · simp only [if_neg hr2] at hQ
                   have e9 : (ckM rm (stP rm (s, V) lg).1 (stP rm (s, V) lg).2.1 b).1 = (stP rm (s, V) lg).1 := ckM_dead hdd
                   have e8 : (ckM rm (stP rm (s, V) lg).1 (stP rm (s, V) lg).2.1 b).1.2.2.2.2.2 = true := by rw [e9]; exact hdd
                   have e7 : (stA rm b (ckM rm (stP rm (s, V) lg).1 (stP rm (s, V) lg).2.1 b)).1 = (stP rm (s, V) lg).1 := by rw [stA_dead e8, e9]
                   refine lq_51 hr hb O2 (fun w => by rw [hdd] at w; cases w) (fun w => by rw [e8] at w; cases w) (fun jv3 bv3 z o3 k3 k4 => ?_)
                   rw [e7] at o3 k4
                   exact hQ jv3 bv3 z o3 (fun w => by rw [hdd] at w; cases w) k4)
              | (have hrr : (stP rm (s, V) lg).2.1.2.2 5 + (bZ b + 176) + 12 ≤ (stP rm (s, V) lg).2.1.2.2 4 + rm := by
                   rcases Nat.lt_or_ge ((stP rm (s, V) lg).2.1.2.2 4 + rm) ((stP rm (s, V) lg).2.1.2.2 5 + bZ b + 12 + 176) with w | w
                   · exact absurd (if_neg (by omega)) c42
                   · omega
                 unfold stQ at hQ
                 simp only [if_pos hrr] at hQ
                 exact lq_51 hr hb O2 (fun w => ⟨hv2, w3, ⟨w1, w2⟩⟩) (w4 hrr) hQ)
          · have hdb := bB_f c37
            obtain ⟨e1, e2, e3⟩ := O2.1 hdb
            have hv2 := k2 hdb
            obtain ⟨⟨w1, w2⟩, w3, w4⟩ := p3 hdb
            have t5 := w1 5 (by decide) (by decide)
            have t4 := w1 4 (by decide) (by decide)
            refine pz_aln (i := 38) rfl rfl ?_
            refine pz_iln (i := 39) rfl rfl ?_
            refine pz_si (i := 40) rfl ?_
            refine pz_cI2 (i := 41) rfl (gc_54 ..) rfl (Nat.le_of_ble_eq_true rfl) rfl ?_
            refine sm_hasRoom hr (h := (stP rm (s, V) lg).2.1.2.2 5) (z := bZ b) (tl := (stP rm (s, V) lg).2.1.2.2 4) (less := 176) hv2.2.2.2.2.2.2.1 hv2.2.2.2.2.2.1 ⟨by omega, by omega, by omega⟩ (by decide) ?_
            refine ⟨_, rfl, ?_⟩
            refine pz_if_ne (i := 42) rfl (fun c42 => ?_) (fun c42 => ?_)
            · first
                | (have hdd := bB_t c37
                   unfold stQ at hQ
                   by_cases hr2 : (stP rm (s, V) lg).2.1.2.2 5 + (bZ b + 176) + 12 ≤ (stP rm (s, V) lg).2.1.2.2 4 + rm
                   · simp only [if_pos hr2] at hQ
                     have e9 : (ckM rm (stP rm (s, V) lg).1 (stP rm (s, V) lg).2.1 b).1.2.2.2.2.2 = true := by rw [ckM_dead hdd]; exact hdd
                     exact lq_51 hr hb O2 (fun w => by rw [hdd] at w; cases w) (fun w => by rw [e9] at w; cases w) hQ
                   · simp only [if_neg hr2] at hQ
                     have e9 : (ckM rm (stP rm (s, V) lg).1 (stP rm (s, V) lg).2.1 b).1 = (stP rm (s, V) lg).1 := ckM_dead hdd
                     have e8 : (ckM rm (stP rm (s, V) lg).1 (stP rm (s, V) lg).2.1 b).1.2.2.2.2.2 = true := by rw [e9]; exact hdd
                     have e7 : (stA rm b (ckM rm (stP rm (s, V) lg).1 (stP rm (s, V) lg).2.1 b)).1 = (stP rm (s, V) lg).1 := by rw [stA_dead e8, e9]
                     refine lq_51 hr hb O2 (fun w => by rw [hdd] at w; cases w) (fun w => by rw [e8] at w; cases w) (fun jv3 bv3 z o3 k3 k4 => ?_)
                     rw [e7] at o3 k4
                     exact hQ jv3 bv3 z o3 (fun w => by rw [hdd] at w; cases w) k4)
                | (have hrr : (stP rm (s, V) lg).2.1.2.2 5 + (bZ b + 176) + 12 ≤ (stP rm (s, V) lg).2.1.2.2 4 + rm := by
                     rcases Nat.lt_or_ge ((stP rm (s, V) lg).2.1.2.2 4 + rm) ((stP rm (s, V) lg).2.1.2.2 5 + bZ b + 12 + 176) with w | w
                     · exact absurd (if_neg (by omega)) c42
                     · omega
                   unfold stQ at hQ
                   simp only [if_pos hrr] at hQ
                   exact lq_51 hr hb O2 (fun w => ⟨hv2, w3, ⟨w1, w2⟩⟩) (w4 hrr) hQ)
            · refine pz_aln (i := 43) rfl rfl ?_
              refine pz_ic (i := 44) rfl ?_
              refine pz_put (i := 45) rfl (pf_54_23 ..) ⟨rfl, rfl⟩ ?_
              refine pz_aln (i := 46) rfl rfl ?_
              refine pz_ic (i := 47) rfl ?_
              refine pz_put (i := 48) rfl (pf_54_22 ..) ⟨rfl, rfl⟩ ?_
              refine pz_bi (i := 49) rfl ?_
              refine pz_ir (i := 50) rfl rfl rfl ?_
              have hnr2 : ¬ (stP rm (s, V) lg).2.1.2.2 5 + (bZ b + 176) + 12 ≤ (stP rm (s, V) lg).2.1.2.2 4 + rm := fun w => by
                rw [if_pos (by omega)] at c42
                exact absurd c42 (by decide)
              unfold stQ at hQ
              simp only [if_neg hnr2] at hQ
              have G4 : frI jv2 (upd (upd jv2 11 0) 10 0) [10, 11] := frI_up (frI_up (frI_rfl _ _) (by decide)) (by decide)
              refine hQ _ bv2 (-3) ⟨fun _ => ⟨dM_fr e1 G4 (frA_rfl _ []) (by decide) (by decide), frI_tr e2 G4 (by decide) (by decide), frA_w e3 (by decide)⟩, fun w => (by rw [hdb] at w; cases w)⟩ (fun _ => ⟨vM_fr hv2 G4 (frA_rfl _ []) (by decide) (by decide), rfl, ui_s _ _ _, ?_⟩) (fun w => (by rw [hdb] at w; cases w))
              rw [ui_n (by decide), ui_s]
    refine pz_ic (i := 6) rfl ?_
    refine pz_isn (i := 7) rfl ⟨rfl, Nat.le_of_ble_eq_true rfl⟩ rfl ?_
    refine pz_ic (i := 8) rfl ?_
    refine pz_isn (i := 9) rfl ⟨rfl, Nat.le_of_ble_eq_true rfl⟩ rfl ?_
    obtain ⟨d1, d2, d3⟩ := o.1 hs
    exact lq_ws (bM_fr hb d2 d3 (by decide) (by decide)) (k25 _) b.length 0 (Nat.zero_add _)
end SB9
