/-! PART BC: the reference: openDisk; its state in pure words -/
section SBC
variable {Lx : Nat} {xs : Nat → Int32} {d rm : Nat} {iv : Nat → Int32} {av : Nat → Nat → Int32} {jv : Nat → Int32} {bv : Nat → Nat → Int32} {Q : rQ}
set_option maxRecDepth 20000 in
theorem lq_o126 (hr : 512 ≤ rm ∧ rm ≤ 4096) {s : dS} {W : vW} {all : List lR} {x1 x2 x3 : Int32} {jv1 : Nat → Int32} {bv1 : Nat → Nat → Int32} (hd : dM rm jv bv s) (hp : s.2.1 = []) (h0 : s.2.2.1 = 0) (hb : ∀ i, 1 ≤ i → i ≤ 7 → W.2.2 i < 2 ^ 30) (hL : lgI rm (cu rm s) W all) (f1 : frI jv jv1 [13, 14, 15, 17, 18, 19]) (f2 : frA bv bv1 [15]) (hu : uM jv1 bv1 W.1) (n18 : jv1 18 = nI (W.2.2 1)) (n14 : jv1 14 = nI (W.2.2 2)) (n15 : jv1 15 = nI (W.2.2 3)) (n13 : jv1 13 = nI (W.2.2 4)) (n17 : jv1 17 = nI (W.2.2 7)) (hQ : ∀ jv' bv', dM rm jv' bv' (opS rm s (W.2.2 5)) → vM jv' bv' W → jv' 8 = 0 → jv' 9 = 0 → frI jv jv' [0, 1, 2, 5, 8, 9, 12, 13, 14, 15, 16, 17, 18, 19, 20] → frA bv bv' [2, 3, 4, 5, 6, 7, 8, 15, 17, 18, 19, 23] → Q (some (.int (nI (tkn [] all).length))) (wX rm iv av (wM rm jv' bv'))) : pz Lx xs (d + 4) rt_125 (some .int) Q 126 [some (.ref 54), some (.int x1), some (.int x2), some (.int x3), none, none, none] [] (wX rm iv av (wM rm jv1 bv1)) := by
  have hr' : 0 < rm ∧ rm ≤ 4096 := ⟨by omega, hr.2⟩
  obtain ⟨l1, l2, l3, l4, l5, l6, l7, l8, l9, l10⟩ := hL
  have b4 := hb 4 (by decide) (by decide)
  have b5 := hb 5 (by decide) (by decide)
  have h2 : bv 2 = cu rm s := hd.1
  refine pz_aln (i := 126) rfl rfl ?_
  refine pz_ic (i := 127) rfl ?_
  refine pz_put (i := 128) rfl (pf_54_41 ..) ⟨rfl, rfl⟩ ?_
  refine pz_ic (i := 129) rfl ?_
  refine pz_isn (i := 130) rfl ⟨rfl, Nat.le_of_ble_eq_true rfl⟩ rfl ?_
  refine lq_oz (fun bv2 z2 a2 => ?_) 120 0 bv1 rfl (frA_rfl _ _) (fun j hj => absurd hj (Nat.not_lt_zero j))
  have A2 : frA bv bv2 [15, 17] := frA_tr f2 a2 (by decide) (by decide)
  refine pz_aln (i := 141) rfl rfl ?_
  refine pz_aln (i := 142) rfl rfl ?_
  refine pz_get (i := 143) rfl (gf_54_30 ..) ?_
  rw [ui_n (by decide), n14]
  refine pz_put (i := 144) rfl (pf_54_28 ..) ⟨rfl, rfl⟩ ?_
  refine pz_aln (i := 145) rfl rfl ?_
  refine pz_aln (i := 146) rfl rfl ?_
  refine pz_get (i := 147) rfl (gf_54_31 ..) ?_
  rw [ui_n (by decide), ui_n (by decide), n15]
  refine pz_put (i := 148) rfl (pf_54_32 ..) ⟨rfl, rfl⟩ ?_
  refine pz_aln (i := 149) rfl rfl ?_
  refine pz_get (i := 150) rfl (gf_54_28 ..) ?_
  rw [ui_n (by decide), ui_s]
  refine pz_isn (i := 151) rfl ⟨rfl, Nat.le_of_ble_eq_true rfl⟩ rfl ?_
  refine pz_aln (i := 152) rfl rfl ?_
  refine pz_get (i := 153) rfl (gf_54_32 ..) ?_
  rw [ui_s]
  refine pz_is (i := 154) rfl ⟨rfl, Nat.le_of_ble_eq_true rfl⟩ rfl ?_
  refine pz_ic (i := 155) rfl ?_
  refine pz_is (i := 156) rfl ⟨rfl, Nat.le_of_ble_eq_true rfl⟩ rfl ?_
  have J : frI jv1 (upd (upd (upd jv1 20 0) 12 (nI (W.2.2 2))) 16 (nI (W.2.2 3))) [12, 16, 20] := frI_up (frI_up (frI_up (frI_rfl _ _) (by decide)) (by decide)) (by decide)
  have hm : eM (upd (upd (upd jv1 20 0) 12 (nI (W.2.2 2))) 16 (nI (W.2.2 3))) bv2 m0 := ⟨mOK_0, by rw [ui_n (by decide), ui_n (by decide), ui_s, kS_0]; rfl, fun k hk => z2 k hk⟩
  have hc2 : bv2 2 = cu rm s := (A2 2 (by decide)).trans h2
  have e0 : W.2.2 2 + lgZ ([] : List lR) = W.2.2 2 := rfl
  have e1 : W.2.2 3 + ([] : List lR).length = W.2.2 3 := rfl
  have key := lq_ol (Lx := Lx) (xs := xs) (d := d) (iv := iv) (av := av) (Q := Q) (x1 := x1) (x2 := x2) hr (tl := W.2.2 4) (jv0 := upd (upd (upd jv1 20 0) 12 (nI (W.2.2 2))) 16 (nI (W.2.2 3))) (bv0 := bv2) (geo_fr (dM_geo hd) A2 (by decide)) ((J 13 (by decide)).trans n13) b4 all [] (W.2.2 2) (W.2.2 3) 0 m0 _ bv2 none (by rw [e0]; exact l7) (by rw [e1]; exact l6) (by show 0 + 0 + all.length < _; omega) (by rw [hc2]; exact l2) (by exact l1) (by rw [e0]; exact l4) (by rw [e0, e1, hc2]; exact l3) ((ui_n (by decide)).trans (ui_s _ _ _)) (ui_s _ _ _) hm (frI_rfl _ _) (frA_rfl _ _) (fun jv3 bv3 y3 y4 y6 q1 q2 q3 q4 q5 => ?_)
  · rw [e0, e1] at key
    exact key
  rw [← l8] at q1
  rw [← l9] at q2
  rw [← l10] at q3
  rw [Nat.zero_add]
  have J3 : frI jv jv3 [12, 13, 14, 15, 16, 17, 18, 19, 20] := frI_tr (frI_tr (S := [12, 13, 14, 15, 16, 17, 18, 19, 20]) f1 J (by decide) (by decide)) q4 (by decide) (by decide)
  have A3 : frA bv bv3 [15, 17, 18, 19] := frA_tr A2 q5 (by decide) (by decide)
  refine pz_aln (i := 223) rfl rfl ?_
  refine pz_ic (i := 224) rfl ?_
  refine pz_put (i := 225) rfl (pf_54_15 ..) ⟨rfl, rfl⟩ ?_
  refine pz_aln (i := 226) rfl rfl ?_
  refine pz_ic (i := 227) rfl ?_
  refine pz_put (i := 228) rfl (pf_54_20 ..) ⟨rfl, rfl⟩ ?_
  refine pz_aln (i := 229) rfl rfl ?_
  refine pz_ic (i := 230) rfl ?_
  refine pz_put (i := 231) rfl (pf_54_21 ..) ⟨rfl, rfl⟩ ?_
  refine pz_aln (i := 232) rfl rfl ?_
  refine pz_bi (i := 233) rfl ?_
  refine pz_cV1 (i := 234) rfl (gc_54 ..) rfl (Nat.le_of_ble_eq_true rfl) rfl ?_
  refine sm_clearBuffer (n := 12) (by decide) ?_
  have G4 : frI jv3 (upd (upd (upd jv3 5 0) 8 0) 9 0) [5, 8, 9] := frI_up (frI_up (frI_up (frI_rfl _ _) (by decide)) (by decide)) (by decide)
  have F4 : frA bv3 (up_a bv3 23 (fun j => if j < 12 then 0 else bv3 23 j)) [23] := frA_up (frA_rfl _ _) (by decide)
  have hd4 : dM rm (upd (upd (upd jv3 5 0) 8 0) 9 0) (up_a bv3 23 (fun j => if j < 12 then 0 else bv3 23 j)) (dUp s) := by
    have hdd := dM_fr (dM_fr hd J3 A3 (by decide) (by decide)) (frI_rfl jv3 []) F4 (by decide) (by decide)
    have hd5 := dM_dn (jv' := upd jv3 5 0) (b' := false) hdd (ui_s _ _ _) (fun j hj => ui_n hj)
    exact dM_fr hd5 (frI_up (frI_up (frI_rfl _ [8, 9]) (by decide)) (by decide)) (frA_rfl _ []) (by decide) (by decide)
  refine ⟨rfl, ?_⟩
  refine pz_aln (i := 235) rfl rfl ?_
  refine pz_ic (i := 236) rfl ?_
  refine pz_aln (i := 237) rfl rfl ?_
  refine pz_get (i := 238) rfl (gf_54_28 ..) ?_
  rw [ui_n (by decide), ui_n (by decide), ui_n (by decide), q1]
  refine pz_bi (i := 239) rfl ?_
  refine pz_cV3 (i := 240) rfl (gc_54 ..) rfl (Nat.le_of_ble_eq_true rfl) rfl ?_
  refine sm_wrL hr' hd4 rfl (a := 0) (q := W.2.2 5) (c := W.2.2 5 % rm) (l := z12) (by decide) (by omega) (by decide) (by decide) (Or.inl ⟨rfl, by show 12 ≤ rm; omega⟩) (Nat.zero_add _) (fun k hk => by rw [ua_s, show lB z12 k = 0 from lB_z 12 k]; exact if_pos hk) (fun _ => by show s.2.1.length + 1 ≤ 1024 ∧ tot s.2.1 + 12 ≤ 8192; rw [hp]; exact ⟨by decide, by decide⟩) (fun jv5 bv5 o5 => ?_)
  have hal : (wr (dUp s) (wL (W.2.2 5 % rm) z12)).2.2.2.2.2 = false := by
    unfold wr dUp
    show decide (s.2.2.1 = 1) = false
    rw [h0]
    rfl
  obtain ⟨w1, w2, w3⟩ := o5.1 hal
  refine ⟨rfl, ?_⟩
  refine pz_aln (i := 241) rfl rfl ?_
  refine pz_cI0 (i := 242) rfl (gc_54 ..) rfl (Nat.le_of_ble_eq_true rfl) rfl ?_
  refine sm_syncAll hr' w1 hal (fun jv6 bv6 k6 f6 a6 => ?_)
  have J6 : frI jv3 jv6 [0, 1, 2, 5, 8, 9] := frI_tr (frI_tr (S := [0, 1, 2, 5, 8, 9]) G4 w2 (by decide) (by decide)) f6 (by decide) (by decide)
  have A6 : frA bv3 bv6 [2, 3, 4, 5, 6, 7, 8, 23] := frA_tr (frA_tr (S := [2, 3, 4, 5, 6, 7, 8, 23]) F4 w3 (by decide) (by decide)) a6 (by decide) (by decide)
  have J7 : frI jv1 jv6 [0, 1, 2, 5, 8, 9, 12, 16, 20] := frI_tr (frI_tr (S := [0, 1, 2, 5, 8, 9, 12, 16, 20]) J q4 (by decide) (by decide)) J6 (by decide) (by decide)
  have A7 : frA bv1 bv6 [2, 3, 4, 5, 6, 7, 8, 17, 18, 19, 23] := frA_tr (frA_tr (S := [2, 3, 4, 5, 6, 7, 8, 17, 18, 19, 23]) a2 q5 (by decide) (by decide)) A6 (by decide) (by decide)
  refine ⟨_, rfl, ?_⟩
  refine pz_is (i := 243) rfl ⟨rfl, Nat.le_of_ble_eq_true rfl⟩ rfl ?_
  refine pz_il (i := 244) rfl rfl ?_
  refine pz_ir (i := 245) rfl rfl rfl ?_
  refine hQ jv6 bv6 k6 ⟨uM_fr hu J7 A7 (by decide) (by decide), eM_ext q3 (J6 20 (by decide)) (A6 17 (by decide)) (A6 18 (by decide)) (A6 19 (by decide)), ⟨(J7 18 (by decide)).trans n18, (J7 14 (by decide)).trans n14, (J7 15 (by decide)).trans n15, (J7 13 (by decide)).trans n13, (J6 12 (by decide)).trans q1, (J6 16 (by decide)).trans q2, (J7 17 (by decide)).trans n17⟩⟩ ?_ ?_ (frI_tr J3 J6 (by decide) (by decide)) (frA_tr A3 A6 (by decide) (by decide))
  · rw [f6 8 (by decide), w2 8 (by decide), ui_n (by decide), ui_s]
  · rw [f6 9 (by decide), w2 9 (by decide), ui_s]
set_option maxRecDepth 20000 in
theorem sm_openDisk (hr : 512 ≤ rm ∧ rm ≤ 4096) {s : dS} {W : vW} {all : List lR} (hd : dM rm jv bv s) (hp : s.2.1 = []) (h0 : s.2.2.1 = 0) (hI : rtI rm (cu rm s) W) (hL : lgI rm (cu rm s) W all) (hQ : ∀ jv' bv', dM rm jv' bv' (opS rm s (W.2.2 5)) → vM jv' bv' W → jv' 8 = 0 → jv' 9 = 0 → frI jv jv' [0, 1, 2, 5, 8, 9, 12, 13, 14, 15, 16, 17, 18, 19, 20] → frA bv bv' [2, 3, 4, 5, 6, 7, 8, 15, 17, 18, 19, 23] → Q (some (.int (nI (tkn [] all).length))) (wX rm iv av (wM rm jv' bv'))) : rx_R Lx xs (d + 5) 125 [.ref 54] (wX rm iv av (wM rm jv bv)) Q := by
  refine pz_en (t := rt_125) ⟨Nat.le_of_ble_eq_true rfl, rfl⟩ rfl rfl ?_
  have hr' : 0 < rm ∧ rm ≤ 4096 := ⟨by omega, hr.2⟩
  have h2 : bv 2 = cu rm s := hd.1
  have hm2 : W.2.2 1 % 2 < 2 := Nat.mod_lt _ (by decide)
  obtain ⟨i1, i2, i3, i4⟩ := id hI
  refine pz_ic (i := 0) rfl ?_
  refine pz_isn (i := 1) rfl ⟨rfl, Nat.le_of_ble_eq_true rfl⟩ rfl ?_
  refine pz_aln (i := 2) rfl rfl ?_
  refine pz_ic (i := 3) rfl ?_
  refine pz_put (i := 4) rfl (pf_54_34 ..) ⟨rfl, rfl⟩ ?_
  refine pz_ic (i := 5) rfl ?_
  refine pz_isn (i := 6) rfl ⟨rfl, Nat.le_of_ble_eq_true rfl⟩ rfl ?_
  refine lq_o7 hr' (dM_geo hd) (V := W) (by rw [h2]; exact hI) (ui_s _ _ _) (fun v0 jv1 x3 n18 f1 => ?_) (fun v0 jv1 x3 n18 f1 => ?_)
  · have F1 : frI jv jv1 [18] := frI_tr (frI_up (frI_rfl _ [18]) (by decide)) f1 (by decide) (by decide)
    obtain ⟨_, _, _, e1, e2, e3, e4, e7⟩ : W.2.2 1 = 0 ∧ sOld rm (cu rm s) 0 0 ∧ sOld rm (cu rm s) 1 0 ∧ W.1 = [] ∧ W.2.2 2 = 0 ∧ W.2.2 3 = 1 ∧ W.2.2 4 = 0 ∧ W.2.2 7 = 1 := by
      rcases i4 with g | g
      · exact g
      · omega
    refine pz_bi (i := 42) rfl ?_
    refine pz_iln (i := 43) rfl rfl ?_
    refine pz_mul (i := 44) rfl ?_
    refine pz_isn (i := 45) rfl ⟨rfl, Nat.le_of_ble_eq_true rfl⟩ rfl ?_
    refine pz_aln (i := 46) rfl rfl ?_
    refine pz_iln (i := 47) rfl rfl ?_
    refine pz_if_ge (i := 48) rfl (fun c48 => ?_) (fun c48 => ?_)
    · exact absurd c48 (by decide)
    · refine pz_ic (i := 49) rfl ?_
      refine pz_go (i := 50) rfl ?_
      refine pz_put (i := 57) rfl (pf_54_30 ..) ⟨rfl, rfl⟩ ?_
      refine pz_aln (i := 58) rfl rfl ?_
      refine pz_iln (i := 59) rfl rfl ?_
      refine pz_if_ge (i := 60) rfl (fun c60 => ?_) (fun c60 => ?_)
      · exact absurd c60 (by decide)
      · refine pz_ic (i := 61) rfl ?_
        refine pz_go (i := 62) rfl ?_
        refine pz_put (i := 69) rfl (pf_54_29 ..) ⟨rfl, rfl⟩ ?_
        refine pz_aln (i := 70) rfl rfl ?_
        refine pz_iln (i := 71) rfl rfl ?_
        refine pz_if_ge (i := 72) rfl (fun c72 => ?_) (fun c72 => ?_)
        · exact absurd c72 (by decide)
        · refine pz_ic (i := 73) rfl ?_
          refine pz_go (i := 74) rfl ?_
          refine pz_put (i := 81) rfl (pf_54_31 ..) ⟨rfl, rfl⟩ ?_
          refine pz_aln (i := 82) rfl rfl ?_
          refine pz_iln (i := 83) rfl rfl ?_
          refine pz_if_ge (i := 84) rfl (fun c84 => ?_) (fun c84 => ?_)
          · exact absurd c84 (by decide)
          · refine pz_ic (i := 85) rfl ?_
            refine pz_go (i := 86) rfl ?_
            refine pz_put (i := 93) rfl (pf_54_33 ..) ⟨rfl, rfl⟩ ?_
            refine pz_aln (i := 94) rfl rfl ?_
            refine pz_iln (i := 95) rfl rfl ?_
            refine pz_if_ge (i := 96) rfl (fun c96 => ?_) (fun c96 => ?_)
            · exact absurd c96 (by decide)
            · refine pz_ic (i := 97) rfl ?_
              refine pz_go (i := 98) rfl ?_
              refine pz_put (i := 105) rfl (pf_54_36 ..) ⟨rfl, rfl⟩ ?_
              refine pz_ic (i := 106) rfl ?_
              refine pz_isn (i := 107) rfl ⟨rfl, Nat.le_of_ble_eq_true rfl⟩ rfl ?_
              refine pz_iln (i := 108) rfl rfl ?_
              refine pz_aln (i := 109) rfl rfl ?_
              refine pz_get (i := 110) rfl (gf_54_36 ..) ?_
              rw [ui_s]
              refine pz_ii_ge (i := 111) rfl (fun c111 => ?_) (fun c111 => ?_)
              · have G : frI jv1 (upd (upd (upd (upd (upd jv1 14 0) 13 0) 15 1) 17 1) 19 0) [13, 14, 15, 17, 19] := frI_up (frI_up (frI_up (frI_up (frI_up (frI_rfl _ _) (by decide)) (by decide)) (by decide)) (by decide)) (by decide)
                refine lq_o126 hr hd hp h0 i3 hL (frI_tr F1 G (by decide) (by decide)) (frA_rfl _ _) ⟨?_, by rw [e1]; exact Nat.zero_le _, fun i t ht => by rw [e1] at ht; cases ht⟩ ?_ ?_ ?_ ?_ ?_ hQ
                · rw [ui_s, e1]
                  rfl
                · rw [G 18 (by decide), n18, v0]
                · rw [ui_n (by decide), ui_n (by decide), ui_n (by decide), ui_n (by decide), ui_s, e2]
                  rfl
                · rw [ui_n (by decide), ui_n (by decide), ui_s, e3]
                  rfl
                · rw [ui_n (by decide), ui_n (by decide), ui_n (by decide), ui_s, e4]
                  rfl
                · rw [ui_n (by decide), ui_s, e7]
                  rfl
              · exact absurd (Int32.le_refl _) c111
  · have F1 : frI jv jv1 [18] := frI_tr (frI_up (frI_rfl _ [18]) (by decide)) f1 (by decide) (by decide)
    obtain ⟨_, hat, _, _⟩ : 0 < W.2.2 1 ∧ atC (cu rm s) (slC rm (W.2.2 1 % 2)) (rtB W) ∧ qN (cu rm s) (slC rm (W.2.2 1 % 2) + 60) = W.2.2 1 ∧ sOld rm (cu rm s) ((W.2.2 1 + 1) % 2) (W.2.2 1) := by
      rcases i4 with g | g
      · omega
      · exact g
    obtain ⟨r1, r2, r4, r3, r7, rl, rp⟩ := rt_num (by omega) i3 hat
    refine pz_bi (i := 42) rfl ?_
    refine pz_iln (i := 43) rfl rfl ?_
    refine pz_mul (i := 44) rfl ?_
    rw [show (64 : Int32) * nI (W.2.2 1 % 2) = nI (64 * (W.2.2 1 % 2)) from pk_mul 64 _]
    refine pz_isn (i := 45) rfl ⟨rfl, Nat.le_of_ble_eq_true rfl⟩ rfl ?_
    refine pz_aln (i := 46) rfl rfl ?_
    refine pz_iln (i := 47) rfl rfl ?_
    refine pz_if_ge (i := 48) rfl (fun c48 => ?_) (fun c48 => ?_)
    · refine pz_aln (i := 51) rfl rfl ?_
      refine pz_ic (i := 52) rfl ?_
      refine pz_iln (i := 53) rfl rfl ?_
      refine pz_ic (i := 54) rfl ?_
      refine pz_add (i := 55) rfl ?_
      rw [show nI (64 * (W.2.2 1 % 2)) + 4 = nI (64 * (W.2.2 1 % 2) + 4) from nI_add _ 4]
      refine pz_cI2 (i := 56) rfl (gc_54 ..) rfl (Nat.le_of_ble_eq_true rfl) rfl ?_
      refine sm_four hr' (geo_fr (dM_geo hd) (frA_rfl bv []) (by decide)) (a := 2) (by decide) (by omega) ?_
      rw [b4_qN2 (by omega), show rm + 15600 + (64 * (W.2.2 1 % 2) + 4) = slC rm (W.2.2 1 % 2) + 4 by unfold slC; omega, h2]
      rw [r2]
      refine ⟨_, rfl, ?_⟩
      refine pz_put (i := 57) rfl (pf_54_30 ..) ⟨rfl, rfl⟩ ?_
      refine pz_aln (i := 58) rfl rfl ?_
      refine pz_iln (i := 59) rfl rfl ?_
      refine pz_if_ge (i := 60) rfl (fun c60 => ?_) (fun c60 => ?_)
      · refine pz_aln (i := 63) rfl rfl ?_
        refine pz_ic (i := 64) rfl ?_
        refine pz_iln (i := 65) rfl rfl ?_
        refine pz_bi (i := 66) rfl ?_
        refine pz_add (i := 67) rfl ?_
        rw [show nI (64 * (W.2.2 1 % 2)) + 8 = nI (64 * (W.2.2 1 % 2) + 8) from nI_add _ 8]
        refine pz_cI2 (i := 68) rfl (gc_54 ..) rfl (Nat.le_of_ble_eq_true rfl) rfl ?_
        refine sm_four hr' (geo_fr (dM_geo hd) (frA_rfl bv []) (by decide)) (a := 2) (by decide) (by omega) ?_
        rw [b4_qN2 (by omega), show rm + 15600 + (64 * (W.2.2 1 % 2) + 8) = slC rm (W.2.2 1 % 2) + 8 by unfold slC; omega, h2]
        rw [r4]
        refine ⟨_, rfl, ?_⟩
        refine pz_put (i := 69) rfl (pf_54_29 ..) ⟨rfl, rfl⟩ ?_
        refine pz_aln (i := 70) rfl rfl ?_
        refine pz_iln (i := 71) rfl rfl ?_
        refine pz_if_ge (i := 72) rfl (fun c72 => ?_) (fun c72 => ?_)
        · refine pz_aln (i := 75) rfl rfl ?_
          refine pz_ic (i := 76) rfl ?_
          refine pz_iln (i := 77) rfl rfl ?_
          refine pz_bi (i := 78) rfl ?_
          refine pz_add (i := 79) rfl ?_
          rw [show nI (64 * (W.2.2 1 % 2)) + 12 = nI (64 * (W.2.2 1 % 2) + 12) from nI_add _ 12]
          refine pz_cI2 (i := 80) rfl (gc_54 ..) rfl (Nat.le_of_ble_eq_true rfl) rfl ?_
          refine sm_four hr' (geo_fr (dM_geo hd) (frA_rfl bv []) (by decide)) (a := 2) (by decide) (by omega) ?_
          rw [b4_qN2 (by omega), show rm + 15600 + (64 * (W.2.2 1 % 2) + 12) = slC rm (W.2.2 1 % 2) + 12 by unfold slC; omega, h2]
          rw [r3]
          refine ⟨_, rfl, ?_⟩
          refine pz_put (i := 81) rfl (pf_54_31 ..) ⟨rfl, rfl⟩ ?_
          refine pz_aln (i := 82) rfl rfl ?_
          refine pz_iln (i := 83) rfl rfl ?_
          refine pz_if_ge (i := 84) rfl (fun c84 => ?_) (fun c84 => ?_)
          · refine pz_aln (i := 87) rfl rfl ?_
            refine pz_ic (i := 88) rfl ?_
            refine pz_iln (i := 89) rfl rfl ?_
            refine pz_bi (i := 90) rfl ?_
            refine pz_add (i := 91) rfl ?_
            rw [show nI (64 * (W.2.2 1 % 2)) + 16 = nI (64 * (W.2.2 1 % 2) + 16) from nI_add _ 16]
            refine pz_cI2 (i := 92) rfl (gc_54 ..) rfl (Nat.le_of_ble_eq_true rfl) rfl ?_
            refine sm_four hr' (geo_fr (dM_geo hd) (frA_rfl bv []) (by decide)) (a := 2) (by decide) (by omega) ?_
            rw [b4_qN2 (by omega), show rm + 15600 + (64 * (W.2.2 1 % 2) + 16) = slC rm (W.2.2 1 % 2) + 16 by unfold slC; omega, h2]
            rw [r7]
            refine ⟨_, rfl, ?_⟩
            refine pz_put (i := 93) rfl (pf_54_33 ..) ⟨rfl, rfl⟩ ?_
            refine pz_aln (i := 94) rfl rfl ?_
            refine pz_iln (i := 95) rfl rfl ?_
            refine pz_if_ge (i := 96) rfl (fun c96 => ?_) (fun c96 => ?_)
            · refine pz_aln (i := 99) rfl rfl ?_
              refine pz_ic (i := 100) rfl ?_
              refine pz_iln (i := 101) rfl rfl ?_
              refine pz_bi (i := 102) rfl ?_
              refine pz_add (i := 103) rfl ?_
              rw [show nI (64 * (W.2.2 1 % 2)) + 20 = nI (64 * (W.2.2 1 % 2) + 20) from nI_add _ 20]
              refine pz_cI2 (i := 104) rfl (gc_54 ..) rfl (Nat.le_of_ble_eq_true rfl) rfl ?_
              refine sm_byteAt hr' (dM_geo hd) (a := 2) (by decide) (by omega) ?_
              rw [pl_2 (by omega), bN_and, h2, show rm + 15600 + (64 * (W.2.2 1 % 2) + 20) = slC rm (W.2.2 1 % 2) + 20 by unfold slC; omega, rl]
              refine ⟨_, rfl, ?_⟩
              refine pz_put (i := 105) rfl (pf_54_36 ..) ⟨rfl, rfl⟩ ?_
              refine pz_ic (i := 106) rfl ?_
              refine pz_isn (i := 107) rfl ⟨rfl, Nat.le_of_ble_eq_true rfl⟩ rfl ?_
              have G : frI jv1 (upd (upd (upd (upd (upd jv1 14 (nI (W.2.2 2))) 13 (nI (W.2.2 4))) 15 (nI (W.2.2 3))) 17 (nI (W.2.2 7))) 19 (nI W.1.length)) [13, 14, 15, 17, 19] := frI_up (frI_up (frI_up (frI_up (frI_up (frI_rfl _ _) (by decide)) (by decide)) (by decide)) (by decide)) (by decide)
              refine lq_op hr' (us := W.1) (dM_geo hd) hm2 i1 i2 (fun i t ht => by rw [h2]; exact rp i t ht) (ui_s _ _ _) (fun bv2 u2 a2 => ?_) W.1.length 0 bv (Nat.zero_add _) (frA_rfl _ _) (fun j hj => absurd hj (Nat.not_lt_zero j))
              refine lq_o126 hr hd hp h0 i3 hL (frI_tr F1 G (by decide) (by decide)) a2 u2 ?_ ?_ ?_ ?_ ?_ hQ
              · rw [G 18 (by decide), n18]
              · rw [ui_n (by decide), ui_n (by decide), ui_n (by decide), ui_n (by decide), ui_s]
              · rw [ui_n (by decide), ui_n (by decide), ui_s]
              · rw [ui_n (by decide), ui_n (by decide), ui_n (by decide), ui_s]
              · rw [ui_n (by decide), ui_s]
            · exact absurd (nI_le (Nat.zero_le _) (by omega)) c96
          · exact absurd (nI_le (Nat.zero_le _) (by omega)) c84
        · exact absurd (nI_le (Nat.zero_le _) (by omega)) c72
      · exact absurd (nI_le (Nat.zero_le _) (by omega)) c60
    · exact absurd (nI_le (Nat.zero_le _) (by omega)) c48
end SBC
/-- the reference: batch, begun, tape -/
def tM (jv : Nat → Int32) (bv : Nat → Nat → Int32) (T : List bR × Bool × List Nat) : Prop := bM jv bv T.1 ∧ jv 10 = bB T.2.1 ∧ (T.2.1 = false → T.1 = []) ∧ jv 6 = nI T.2.2.length ∧ T.2.2.length ≤ 64 ∧ by8 T.2.2 ∧ ∀ k, k < T.2.2.length → bv 9 k = lB T.2.2 k
/-- the reference: what was read -/
def gM (jv : Nat → Int32) (bv : Nat → Nat → Int32) (G : List Nat × Nat × Nat) : Prop := jv 7 = nI G.1.length ∧ G.1.length ≤ 64 ∧ by8 G.1 ∧ (∀ k, k < G.1.length → bv 10 k = lB G.1 k) ∧ jv 8 = nI G.2.1 ∧ jv 9 = nI G.2.2
/-- the reference in the state a -/
def mS (rm : Nat) (jv : Nat → Int32) (bv : Nat → Nat → Int32) (a : aS) : Prop := dM rm jv bv a.1.1 ∧ tM jv bv a.2.1 ∧ gM jv bv a.2.2 ∧ (dwn a = false → vM jv bv a.1.2.1)
theorem tM_fr {jv jv' : Nat → Int32} {bv bv' : Nat → Nat → Int32} {T : List bR × Bool × List Nat} {S A : List Nat} (h : tM jv bv T) (f1 : frI jv jv' S) (f2 : frA bv bv' A) (h1 : 6 ∉ S ∧ 10 ∉ S ∧ 11 ∉ S) (h2 : 9 ∉ A ∧ 11 ∉ A ∧ 12 ∉ A ∧ 13 ∉ A ∧ 14 ∉ A) : tM jv' bv' T := by
  obtain ⟨g1, g2, g3, g4, g5, g6, g7⟩ := h
  refine ⟨bM_fr g1 f1 f2 h1.2.2 h2.2, (f1 10 h1.2.1).trans g2, g3, (f1 6 h1.1).trans g4, g5, g6, fun k hk => ?_⟩
  rw [f2 9 h2.1]
  exact g7 k hk
theorem gM_fr {jv jv' : Nat → Int32} {bv bv' : Nat → Nat → Int32} {G : List Nat × Nat × Nat} {S A : List Nat} (h : gM jv bv G) (f1 : frI jv jv' S) (f2 : frA bv bv' A) (h1 : 7 ∉ S ∧ 8 ∉ S ∧ 9 ∉ S) (h2 : 10 ∉ A) : gM jv' bv' G := by
  obtain ⟨g1, g2, g3, g4, g5, g6⟩ := h
  refine ⟨(f1 7 h1.1).trans g1, g2, g3, fun k hk => ?_, (f1 8 h1.2.1).trans g5, (f1 9 h1.2.2).trans g6⟩
  rw [f2 10 h2]
  exact g4 k hk
theorem tM_0 {jv : Nat → Int32} {bv : Nat → Nat → Int32} (h6 : jv 6 = 0) (h10 : jv 10 = 0) (h11 : jv 11 = 0) : tM jv bv ([], false, []) := ⟨⟨h11, Nat.zero_le _, fun i x hx => (by cases hx)⟩, h10, fun _ => rfl, h6, Nat.zero_le _, fun x hx => (by cases hx), fun k hk => absurd hk (Nat.not_lt_zero k)⟩
/-- a power failure that the reference sees at once and the class at the end of the call -/
theorem mS_dead {rm : Nat} {jv jv' : Nat → Int32} {bv bv' : Nat → Nat → Int32} {D : dS × vW × List lR} {T : List bR × Bool × List Nat} {G : List Nat × Nat × Nat} {z : Int32} (h : ddM rm jv bv jv' bv' D.1) (hd : D.1.2.2.2.2.2 = true) (hG : gM jv bv G) : mS rm jv' bv' (fin rm D T G z).2 ∧ (fin rm D T G z).1 = -2 := by
  unfold fin
  rw [if_pos hd]
  obtain ⟨d1, d2, d3, d4, d5, d6, d7, d8⟩ := h
  refine ⟨⟨d1, tM_0 d2 d3 d4, ?_, fun w => (by cases w)⟩, rfl⟩
  obtain ⟨g1, g2, g3, g4, g5, g6⟩ := hG
  refine ⟨d5.trans g1, g2, g3, fun k hk => ?_, d6.trans g5, d7.trans g6⟩
  rw [d8]
  exact g4 k hk
