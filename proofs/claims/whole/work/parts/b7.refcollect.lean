/-! PART B7: the reference: hasRoom, collecting, passLog -/
theorem hr_cmp {h z tl r : Nat} (h1 : h < 2 ^ 30) (h2 : z < 2 ^ 30) (h3 : tl < 2 ^ 30) (h4 : r < 2 ^ 30) : (0 < lg_cmp ((nI h).toInt64 + (nI z).toInt64 + Int64.ofNat 12 - (nI tl).toInt64) (nI r).toInt64) ↔ tl + r < h + z + 12 := by
  rw [lg_cmp_gt, Int64.lt_iff_toInt_lt, Int64.toInt_sub, Int64.toInt_add, Int64.toInt_add, Int32.toInt_toInt64, Int32.toInt_toInt64, Int32.toInt_toInt64, Int32.toInt_toInt64, nI_toInt (by omega), nI_toInt (by omega), nI_toInt (by omega), nI_toInt (by omega)]
  rw [show (Int64.ofNat 12).toInt = 12 from rfl]
  rw [Int.bmod_eq_of_le (n := (h : Int) + (z : Int)) (by omega) (by omega), Int.bmod_eq_of_le (n := (h : Int) + (z : Int) + 12) (by omega) (by omega), Int.bmod_eq_of_le (by omega) (by omega)]
  omega
section SB7
variable {Lx : Nat} {xs : Nat → Int32} {d rm : Nat} {iv : Nat → Int32} {av : Nat → Nat → Int32} {jv : Nat → Int32} {bv : Nat → Nat → Int32} {Q : rQ}
set_option maxRecDepth 20000 in
theorem sm_hasRoom (hr : 512 ≤ rm ∧ rm ≤ 4096) {h z tl less : Nat} (h12 : jv 12 = nI h) (h13 : jv 13 = nI tl) (hb : h < 2 ^ 30 ∧ z < 2 ^ 30 ∧ tl < 2 ^ 30) (hl : less ≤ 176) (hQ : Q (some (.int (if h + z + 12 + less ≤ tl + rm then 1 else 0))) (wX rm iv av (wM rm jv bv))) : rx_R Lx xs (d + 1) 119 [.ref 54, .int (nI z), .int (nI less)] (wX rm iv av (wM rm jv bv)) Q := by
  refine pz_en (t := rt_119) ⟨Nat.le_of_ble_eq_true rfl, rfl⟩ rfl rfl ?_
  refine pz_aln (i := 0) rfl rfl ?_
  refine pz_get (i := 1) rfl (gf_54_28 ..) ?_
  rw [h12]
  refine pz_i2l (i := 2) rfl ?_
  refine pz_iln (i := 3) rfl rfl ?_
  refine pz_i2l (i := 4) rfl ?_
  refine pz_ladd (i := 5) rfl ?_
  refine pz_l2 (i := 6) rfl ?_
  refine pz_ladd (i := 7) rfl ?_
  refine pz_aln (i := 8) rfl rfl ?_
  refine pz_get (i := 9) rfl (gf_54_29 ..) ?_
  rw [h13]
  refine pz_i2l (i := 10) rfl ?_
  refine pz_lsub (i := 11) rfl ?_
  refine pz_aln (i := 12) rfl rfl ?_
  refine pz_get (i := 13) rfl (gf_54_0 ..) ?_
  refine pz_iln (i := 14) rfl rfl ?_
  refine pz_sub (i := 15) rfl ?_
  rw [pk_sub (show less ≤ rm by omega)]
  refine pz_i2l (i := 16) rfl ?_
  refine pz_lcmp (i := 17) rfl ?_
  refine pz_if_gt (i := 18) rfl (fun c18 => ?_) (fun c18 => ?_)
  · refine pz_ic (i := 21) rfl ?_
    refine pz_ir (i := 22) rfl rfl rfl ?_
    first
      | (have hc := (hr_cmp (h := h) (z := z) (tl := tl) (r := rm - less) hb.1 hb.2.1 hb.2.2 (by omega)).mp c18
         rw [if_neg (by omega)] at hQ
         exact hQ)
      | (have hc : ¬ tl + (rm - less) < h + z + 12 := fun w => c18 ((hr_cmp (h := h) (z := z) (tl := tl) (r := rm - less) hb.1 hb.2.1 hb.2.2 (by omega)).mpr w)
         rw [if_pos (by omega)] at hQ
         exact hQ)
  · refine pz_ic (i := 19) rfl ?_
    refine pz_go (i := 20) rfl ?_
    refine pz_ir (i := 22) rfl rfl rfl ?_
    first
      | (have hc := (hr_cmp (h := h) (z := z) (tl := tl) (r := rm - less) hb.1 hb.2.1 hb.2.2 (by omega)).mp c18
         rw [if_neg (by omega)] at hQ
         exact hQ)
      | (have hc : ¬ tl + (rm - less) < h + z + 12 := fun w => c18 ((hr_cmp (h := h) (z := z) (tl := tl) (r := rm - less) hb.1 hb.2.1 hb.2.2 (by omega)).mpr w)
         rw [if_pos (by omega)] at hQ
         exact hQ)
set_option maxRecDepth 20000 in
theorem lq_cv (hr : 0 < rm ∧ rm ≤ 4096) {n en k0 x5 x6 x8 : Int32} {x10 : Option Value} {q : Nat} {val : List Nat} (hq : q < 2 ^ 30) (hlen : val.length ≤ 64) {bv0 : Nat → Nat → Int32} (hg : geo rm bv0) (hv : ∀ i, i < val.length → bN (bv0 2) ((q + 12 + i) % rm) = val.getD i 0) (hQ : ∀ bv', frA bv0 bv' [24] → (∀ i, i < val.length → bv' 24 i = lB val i) → pz Lx xs (d + 2) rt_120 (some .int) Q 101 [some (.ref 54), some (.int n), some (.int en), some (.int (nI q)), some (.int k0), some (.int x5), some (.int x6), some (.int (nI (12 + val.length))), some (.int x8), some (.int (nI val.length)), x10] [] (wX rm iv av (wM rm jv bv'))) : ∀ (m k : Nat) (bv : Nat → Nat → Int32), k + m = val.length → frA bv0 bv [24] → (∀ i, i < k → bv 24 i = lB val i) → pz Lx xs (d + 2) rt_120 (some .int) Q 81 [some (.ref 54), some (.int n), some (.int en), some (.int (nI q)), some (.int k0), some (.int x5), some (.int x6), some (.int (nI (12 + val.length))), some (.int x8), some (.int (nI k)), x10] [] (wX rm iv av (wM rm jv bv))
  | 0, k, bv, hk, f, h1 => by
    obtain rfl : k = val.length := by omega
    refine pz_il (i := 81) rfl rfl ?_
    refine pz_il (i := 82) rfl rfl ?_
    refine pz_bi (i := 83) rfl ?_
    refine pz_sub (i := 84) rfl ?_
    rw [show nI (12 + val.length) - 12 = nI (12 + val.length - 12) from pk_sub (b := 12) (by omega), Nat.add_sub_cancel_left]
    refine pz_ii_ge (i := 85) rfl (fun c85 => ?_) (fun c85 => ?_)
    · exact hQ bv f h1
    · exact absurd (Int32.le_refl _) c85
  | m + 1, k, bv, hk, f, h1 => by
    have hk1 : k < val.length := by omega
    refine pz_il (i := 81) rfl rfl ?_
    refine pz_il (i := 82) rfl rfl ?_
    refine pz_bi (i := 83) rfl ?_
    refine pz_sub (i := 84) rfl ?_
    rw [show nI (12 + val.length) - 12 = nI (12 + val.length - 12) from pk_sub (b := 12) (by omega), Nat.add_sub_cancel_left]
    refine pz_ii_ge (i := 85) rfl (fun c85 => ?_) (fun c85 => ?_)
    · exact absurd (le_ofI c85) (by omega)
    · refine pz_aln (i := 86) rfl rfl ?_
      refine pz_get (i := 87) rfl (gf_54_50 ..) ?_
      refine pz_il (i := 88) rfl rfl ?_
      refine pz_aln (i := 89) rfl rfl ?_
      refine pz_ic (i := 90) rfl ?_
      refine pz_iln (i := 91) rfl rfl ?_
      refine pz_bi (i := 92) rfl ?_
      refine pz_add (i := 93) rfl ?_
      rw [show nI q + 12 = nI (q + 12) from nI_add q 12]
      refine pz_il (i := 94) rfl rfl ?_
      refine pz_add (i := 95) rfl ?_
      rw [nI_add]
      refine pz_cI2 (i := 96) rfl (gc_54 ..) rfl (Nat.le_of_ble_eq_true rfl) rfl ?_
      refine sm_byteAt hr (geo_fr hg f (by decide)) (a := 0) (by decide) (by omega) ?_
      rw [show plM rm 0 (q + 12 + k) = (q + 12 + k) % rm from Nat.zero_add _, bN_and, f 2 (by decide), hv k hk1]
      refine ⟨_, rfl, ?_⟩
      refine pz_i2b (i := 97) rfl ?_
      rw [show (nI (val.getD k 0)).toInt8.toInt32 = lB val k from rfl]
      refine pz_bas (i := 98) rfl (ga_79 ..) rfl (in_ofI (by omega)) (pa_79 ..) ?_
      rw [cl_ofI (a := k)]
      refine pz_inc (i := 99) rfl rfl rfl rfl ?_
      rw [show nI k + 1 = nI (k + 1) from nI_add k 1]
      refine pz_go (i := 100) rfl ?_
      refine lq_cv hr hq hlen hg hv hQ m (k + 1) _ (by omega) (frA_tr f (frA_up (frA_rfl _ [24]) (by decide)) (by decide) (by decide)) (fun j hj => ?_)
      rw [ua_s]
      by_cases e : j = k
      · subst e
        rw [ui_s]
        exact lB_bt val j
      · rw [ui_n e]
        exact h1 j (by omega)
set_option maxRecDepth 20000 in
theorem lq_cl (hr : 512 ≤ rm ∧ rm ≤ 4096) {n en : Nat} (hn : n ≤ 1000) : ∀ (todo : List lR) (s : dS) (V : vW) (p k : Nat) (jv : Nat → Int32) (bv : Nat → Nat → Int32) (x6 x7 x8 x9 x10 : Option Value), k ≤ n → en = p + lgZ todo → en < 2 ^ 30 → dM rm jv bv s → s.2.2.2.2.2 = false → vM jv bv V → clG rm n todo s V p k → (∀ jv' bv' m x6 x7 x8 x9 x10, dM rm jv' bv' (clR rm n todo s V p k).1 → (clR rm n todo s V p k).1.2.2.2.2.2 = false → vM jv' bv' (clR rm n todo s V p k).2.1 → frI jv jv' [0, 1, 2, 12, 13, 14, 15, 16, 17, 18, 19, 20, 21, 22, 23, 24] → frA bv bv' [2, 3, 4, 5, 6, 7, 8, 15, 16, 17, 18, 19, 20, 21, 22, 23, 24] → pz Lx xs (d + 7) rt_120 (some .int) Q 131 [some (.ref 54), some (.int (nI n)), some (.int (nI en)), some (.int (nI (clR rm n todo s V p k).2.2.1)), some (.int (nI (clR rm n todo s V p k).2.2.2)), some (.int m), x6, x7, x8, x9, x10] [] (wX rm iv av (wM rm jv' bv'))) → (∀ jv' bv', (clR rm n todo s V p k).1.2.2.2.2.2 = true → ddM rm jv bv jv' bv' (clR rm n todo s V p k).1 → Q (some (.int 0)) (wX rm iv av (wM rm jv' bv'))) → pz Lx xs (d + 7) rt_120 (some .int) Q 22 [some (.ref 54), some (.int (nI n)), some (.int (nI en)), some (.int (nI p)), some (.int (nI k)), some (.int 1), x6, x7, x8, x9, x10] [] (wX rm iv av (wM rm jv bv)) := by
  have hr' : 0 < rm ∧ rm ≤ 4096 := ⟨by omega, hr.2⟩
  intro todo
  induction todo with
  | nil =>
    intro s V p k jv bv x6 x7 x8 x9 x10 hk he hen hd hdn hv hG hQ1 hQ2
    have e0 : lgZ ([] : List lR) = 0 := rfl
    have ep : p = en := by omega
    have eR : clR rm n [] s V p k = (s, V, p, k) := rfl
    rw [eR] at hQ1 hQ2
    refine pz_il (i := 22) rfl rfl ?_
    refine pz_if_eq (i := 23) rfl (fun c23 => ?_) (fun c23 => ?_)
    · exact absurd c23 (by decide)
    · refine pz_il (i := 24) rfl rfl ?_
      refine pz_iln (i := 25) rfl rfl ?_
      refine pz_ii_ge (i := 26) rfl (fun c26 => ?_) (fun c26 => ?_)
      · exact hQ1 jv bv 1 x6 x7 x8 x9 x10 hd hdn hv (frI_rfl _ _) (frA_rfl _ _)
      · refine pz_iln (i := 27) rfl rfl ?_
        refine pz_iln (i := 28) rfl rfl ?_
        refine pz_ii_ge (i := 29) rfl (fun c29 => ?_) (fun c29 => ?_)
        · exact hQ1 jv bv 1 x6 x7 x8 x9 x10 hd hdn hv (frI_rfl _ _) (frA_rfl _ _)
        · rw [ep] at c29
          exact absurd (Int32.le_refl _) c29
  | cons r td ih =>
    intro s V p k jv bv x6 x7 x8 x9 x10 hk he hen hd hdn hv hG hQ1 hQ2
    have eZ : lgZ (r :: td) = rcZ r + lgZ td := rfl
    have eR : clR rm n (r :: td) s V p k = if k = n ∨ s.2.2.2.2.2 = true then (s, V, p, k) else if liv V r.2.2.1 p = true then (if rmB rm V r.2.2.1 (rcZ r) = true then clR rm n td (apS rm s 1 r.2.2.1 r.2.2.2 (V.2.2 5) (V.2.2 6)) (apV V 1 r.2.2.1 r.2.2.2.length) (p + rcZ r) (k + 1) else (s, V, p, k)) else clR rm n td s V (p + rcZ r) (k + 1) := rfl
    have hpos := rcZ_pos r
    have eZr : rcZ r = 12 + r.2.2.2.length := rfl
    by_cases hkn : k = n
    · rw [eR, if_pos (Or.inl hkn)] at hQ1 hQ2
      refine pz_il (i := 22) rfl rfl ?_
      refine pz_if_eq (i := 23) rfl (fun c23 => ?_) (fun c23 => ?_)
      · exact absurd c23 (by decide)
      · refine pz_il (i := 24) rfl rfl ?_
        refine pz_iln (i := 25) rfl rfl ?_
        refine pz_ii_ge (i := 26) rfl (fun c26 => ?_) (fun c26 => ?_)
        · exact hQ1 jv bv 1 x6 x7 x8 x9 x10 hd hdn hv (frI_rfl _ _) (frA_rfl _ _)
        · rw [hkn] at c26
          exact absurd (Int32.le_refl _) c26
    have hst : ¬ (k = n ∨ s.2.2.2.2.2 = true) := fun z => z.elim hkn (fun w => by rw [hdn] at w; cases w)
    rw [eR, if_neg hst] at hQ1 hQ2
    obtain ⟨hF, hG1, hG2⟩ : clF rm s V p r ∧ (liv V r.2.2.1 p = true → rmB rm V r.2.2.1 (rcZ r) = true → cp s 3 (24 + r.2.2.2.length) ∧ clG rm n td (apS rm s 1 r.2.2.1 r.2.2.2 (V.2.2 5) (V.2.2 6)) (apV V 1 r.2.2.1 r.2.2.2.length) (p + rcZ r) (k + 1)) ∧ (liv V r.2.2.1 p = false → clG rm n td s V (p + rcZ r) (k + 1)) := by
      rcases hG with z | z | z
      · exact absurd (Or.inl z) hst
      · exact absurd (Or.inr z) hst
      · exact z
    obtain ⟨hE, ⟨mm, hrc⟩, hro, ht5, hb5, hb6, hbp⟩ := hF
    have h2 : bv 2 = cu rm s := hd.1
    have hg := dM_geo hd
    have hkey := hro.2.2.2.1
    have hlen := hro.2.2.2.2.1
    obtain ⟨hu, hm, hnM⟩ := id hv
    obtain ⟨u1, u2, u3, u4, u5, u6, u7⟩ := id hnM
    -- no room: it ends here
    have k76f : ∀ (jv1 : Nat → Int32) (y8 : Int32) (y9 y10 : Option Value), liv V r.2.2.1 p = true → rmB rm V r.2.2.1 (rcZ r) = false → frI jv jv1 [21, 22, 23, 24] → pz Lx xs (d + 7) rt_120 (some .int) Q 76 [some (.ref 54), some (.int (nI n)), some (.int (nI en)), some (.int (nI p)), some (.int (nI k)), some (.int 1), some (.int (nI r.2.2.1)), some (.int (nI (12 + r.2.2.2.length))), some (.int y8), y9, y10] [.int 0] (wX rm iv av (wM rm jv1 bv)) := by
      intro jv1 y8 y9 y10 hl hrmf f1
      rw [if_pos hl, if_neg (by rw [hrmf]; decide)] at hQ1 hQ2
      have hd1 := dM_fr hd f1 (frA_rfl bv []) (by decide) (by decide)
      have hv1 := vM_fr hv f1 (frA_rfl bv []) (by decide) (by decide)
      have F1 : frI jv jv1 [0, 1, 2, 12, 13, 14, 15, 16, 17, 18, 19, 20, 21, 22, 23, 24] := frI_w f1 (by decide)
      refine pz_is (i := 76) rfl ⟨rfl, Nat.le_of_ble_eq_true rfl⟩ rfl ?_
      refine pz_il (i := 77) rfl rfl ?_
      refine pz_if_eq (i := 78) rfl (fun c78 => ?_) (fun c78 => ?_)
      · refine pz_il (i := 123) rfl rfl ?_
        refine pz_if_eq (i := 124) rfl (fun c124 => ?_) (fun c124 => ?_)
        · refine pz_go (i := 130) rfl ?_
          refine pz_il (i := 22) rfl rfl ?_
          refine pz_if_eq (i := 23) rfl (fun c23 => ?_) (fun c23 => ?_)
          · exact hQ1 jv1 bv 0 _ _ _ _ _ hd1 hdn hv1 F1 (frA_rfl _ _)
          · exact absurd rfl c23
        · exact absurd rfl c124
      · exact absurd rfl c78
    -- room: it is copied
    have k76t : ∀ (jv1 : Nat → Int32) (y8 : Int32) (y9 y10 : Option Value), liv V r.2.2.1 p = true → rmB rm V r.2.2.1 (rcZ r) = true → frI jv jv1 [21, 22, 23, 24] → pz Lx xs (d + 7) rt_120 (some .int) Q 76 [some (.ref 54), some (.int (nI n)), some (.int (nI en)), some (.int (nI p)), some (.int (nI k)), some (.int 1), some (.int (nI r.2.2.1)), some (.int (nI (12 + r.2.2.2.length))), some (.int y8), y9, y10] [.int 1] (wX rm iv av (wM rm jv1 bv)) := by
      intro jv1 y8 y9 y10 hl hrmt f1
      rw [if_pos hl, if_pos hrmt] at hQ1 hQ2
      obtain ⟨hcp, hG1'⟩ := hG1 hl hrmt
      have hd1 := dM_fr hd f1 (frA_rfl bv []) (by decide) (by decide)
      have hv1 := vM_fr hv f1 (frA_rfl bv []) (by decide) (by decide)
      have F1 : frI jv jv1 [0, 1, 2, 12, 13, 14, 15, 16, 17, 18, 19, 20, 21, 22, 23, 24] := frI_w f1 (by decide)
      refine pz_is (i := 76) rfl ⟨rfl, Nat.le_of_ble_eq_true rfl⟩ rfl ?_
      refine pz_il (i := 77) rfl rfl ?_
      refine pz_if_eq (i := 78) rfl (fun c78 => ?_) (fun c78 => ?_)
      · exact absurd c78 (by decide)
      · refine pz_ic (i := 79) rfl ?_
        refine pz_is (i := 80) rfl ⟨rfl, Nat.le_of_ble_eq_true rfl⟩ rfl ?_
        refine lq_cv hr' (val := r.2.2.2) (by omega) hlen hg (fun i hi => by rw [h2]; exact rcA_val hrc hi) (fun bv2 f2 v2 => ?_) r.2.2.2.length 0 bv (Nat.zero_add _) (frA_rfl _ _) (fun i hi => absurd hi (Nat.not_lt_zero i))
        have hd2 := dM_fr hd1 (frI_rfl jv1 []) f2 (by decide) (by decide)
        refine pz_aln (i := 101) rfl rfl ?_
        refine pz_get (i := 102) rfl (gf_54_28 ..) ?_
        rw [f1 12 (by decide), u5]
        refine pz_is (i := 103) rfl ⟨rfl, Nat.le_of_ble_eq_true rfl⟩ rfl ?_
        refine pz_aln (i := 104) rfl rfl ?_
        refine pz_get (i := 105) rfl (gf_54_32 ..) ?_
        rw [f1 16 (by decide), u6]
        refine pz_is (i := 106) rfl ⟨rfl, Nat.le_of_ble_eq_true rfl⟩ rfl ?_
        refine pz_aln (i := 107) rfl rfl ?_
        refine pz_ic (i := 108) rfl ?_
        refine pz_il (i := 109) rfl rfl ?_
        refine pz_il (i := 110) rfl rfl ?_
        refine pz_bi (i := 111) rfl ?_
        refine pz_sub (i := 112) rfl ?_
        rw [show nI (12 + r.2.2.2.length) - 12 = nI (12 + r.2.2.2.length - 12) from pk_sub (b := 12) (by omega), Nat.add_sub_cancel_left]
        refine pz_cI3 (i := 113) rfl (gc_54 ..) rfl (Nat.le_of_ble_eq_true rfl) rfl ?_
        refine sm_append hr (kd := 1) (by decide) (by omega) hlen v2 hd2 hdn hcp ((f1 12 (by decide)).trans u5) ((f1 16 (by decide)).trans u6) ⟨by omega, by omega⟩ (fun jv3 bv3 z o3 hz1 hz0 => ?_)
        refine ⟨_, rfl, ?_⟩
        refine pz_if_ne (i := 114) rfl (fun c114 => ?_) (fun c114 => ?_)
        · have hda : (apS rm s 1 r.2.2.1 r.2.2.2 (V.2.2 5) (V.2.2 6)).2.2.2.2.2 = false := by
            cases hs : (apS rm s 1 r.2.2.1 r.2.2.2 (V.2.2 5) (V.2.2 6)).2.2.2.2.2 with
            | false => rfl
            | true => exact absurd (hz0 hs) c114
          obtain ⟨g1, g2, g3⟩ := o3.1 hda
          obtain ⟨_, j12, j16⟩ := hz1 hda
          have hv3 : eM jv3 bv3 V.2.1 := eM_ext hv1.2.1 (g2 20 (by decide)) ((g3 17 (by decide)).trans (f2 17 (by decide))) ((g3 18 (by decide)).trans (f2 18 (by decide))) ((g3 19 (by decide)).trans (f2 19 (by decide)))
          refine pz_aln (i := 117) rfl rfl ?_
          refine pz_il (i := 118) rfl rfl ?_
          refine pz_ic (i := 119) rfl ?_
          refine pz_il (i := 120) rfl rfl ?_
          refine pz_il (i := 121) rfl rfl ?_
          refine pz_cV4 (i := 122) rfl (gc_54 ..) rfl (Nat.le_of_ble_eq_true rfl) rfl ?_
          refine sm_remember hv3 hkey (x := (1, V.2.2 6, V.2.2 5)) ⟨(by decide : 0 < 1), (by decide : 1 < 3), (by show V.2.2 6 < 2 ^ 30; omega), (by show V.2.2 5 < 2 ^ 30; omega)⟩ (fun jv4 bv4 e4 f4 a4 => ?_)
          have J4 : frI jv jv4 [0, 1, 2, 12, 16, 20, 21, 22, 23, 24] := frI_tr (frI_tr (S := [0, 1, 2, 12, 16, 20, 21, 22, 23, 24]) f1 g2 (by decide) (by decide)) f4 (by decide) (by decide)
          have B4 : frA bv bv4 [2, 4, 5, 6, 7, 8, 17, 18, 19, 23, 24] := frA_tr (frA_tr (S := [2, 4, 5, 6, 7, 8, 17, 18, 19, 23, 24]) f2 g3 (by decide) (by decide)) a4 (by decide) (by decide)
          refine ⟨rfl, ?_⟩
          refine pz_il (i := 123) rfl rfl ?_
          refine pz_if_eq (i := 124) rfl (fun c124 => ?_) (fun c124 => ?_)
          · exact absurd c124 (by decide)
          · refine pz_inc (i := 125) rfl rfl rfl rfl ?_
            rw [show nI k + 1 = nI (k + 1) from nI_add k 1]
            refine pz_iln (i := 126) rfl rfl ?_
            refine pz_il (i := 127) rfl rfl ?_
            refine pz_add (i := 128) rfl ?_
            rw [nI_add, ← eZr]
            refine pz_isn (i := 129) rfl ⟨rfl, Nat.le_of_ble_eq_true rfl⟩ rfl ?_
            refine pz_go (i := 130) rfl ?_
            have hv4 : vM jv4 bv4 (apV V 1 r.2.2.1 r.2.2.2.length) := ⟨uM_fr hu J4 B4 (by decide) (by decide), e4, ⟨(J4 18 (by decide)).trans u1, (J4 14 (by decide)).trans u2, (J4 15 (by decide)).trans u3, (J4 13 (by decide)).trans u4, (f4 12 (by decide)).trans j12, (f4 16 (by decide)).trans j16, (J4 17 (by decide)).trans u7⟩⟩
            exact ih (apS rm s 1 r.2.2.1 r.2.2.2 (V.2.2 5) (V.2.2 6)) (apV V 1 r.2.2.1 r.2.2.2.length) (p + rcZ r) (k + 1) jv4 bv4 _ _ _ _ _ (by omega) (by omega) hen (dM_fr g1 f4 a4 (by decide) (by decide)) hda hv4 hG1' (fun jv5 bv5 m y6 y7 y8 y9 y10 a b c d e => hQ1 jv5 bv5 m y6 y7 y8 y9 y10 a b c (frI_tr J4 d (by decide) (by decide)) (frA_tr B4 e (by decide) (by decide))) (fun jv5 bv5 a b => hQ2 jv5 bv5 a ⟨b.1, b.2.1, b.2.2.1, b.2.2.2.1, b.2.2.2.2.1.trans (J4 7 (by decide)), b.2.2.2.2.2.1.trans (J4 8 (by decide)), b.2.2.2.2.2.2.1.trans (J4 9 (by decide)), b.2.2.2.2.2.2.2.trans (B4 10 (by decide))⟩)
        · refine pz_ic (i := 115) rfl ?_
          refine pz_ir (i := 116) rfl rfl rfl ?_
          have hdd : (apS rm s 1 r.2.2.1 r.2.2.2 (V.2.2 5) (V.2.2 6)).2.2.2.2.2 = true := by
            cases hs : (apS rm s 1 r.2.2.1 r.2.2.2 (V.2.2 5) (V.2.2 6)).2.2.2.2.2 with
            | true => rfl
            | false =>
              rw [(hz1 hs).1] at c114
              exact absurd c114 (by decide)
          rw [clR_stop (Or.inr hdd)] at hQ2
          refine hQ2 jv3 bv3 hdd ?_
          obtain ⟨q1, q2, q3, q4, q5, q6, q7, q8⟩ := o3.2 hdd
          exact ⟨q1, q2, q3, q4, q5.trans (f1 7 (by decide)), q6.trans (f1 8 (by decide)), q7.trans (f1 9 (by decide)), q8.trans (f2 10 (by decide))⟩
    have k56 : ∀ (jv1 : Nat → Int32) (y8 y9 y10 : Option Value) (L : Bool), L = liv V r.2.2.1 p → frI jv jv1 [21, 22, 23, 24] → pz Lx xs (d + 7) rt_120 (some .int) Q 56 [some (.ref 54), some (.int (nI n)), some (.int (nI en)), some (.int (nI p)), some (.int (nI k)), some (.int 1), some (.int (nI r.2.2.1)), some (.int (nI (12 + r.2.2.2.length))), y8, y9, y10] [.int (bB L)] (wX rm iv av (wM rm jv1 bv)) := by
      intro jv1 y8 y9 y10 L hL f1
      have hd1 := dM_fr hd f1 (frA_rfl bv []) (by decide) (by decide)
      have hv1 := vM_fr hv f1 (frA_rfl bv []) (by decide) (by decide)
      have F1 : frI jv jv1 [0, 1, 2, 12, 13, 14, 15, 16, 17, 18, 19, 20, 21, 22, 23, 24] := frI_w f1 (by decide)
      refine pz_is (i := 56) rfl ⟨rfl, Nat.le_of_ble_eq_true rfl⟩ rfl ?_
      refine pz_il (i := 57) rfl rfl ?_
      refine pz_if_eq (i := 58) rfl (fun c58 => ?_) (fun c58 => ?_)
      · refine pz_il (i := 123) rfl rfl ?_
        refine pz_if_eq (i := 124) rfl (fun c124 => ?_) (fun c124 => ?_)
        · exact absurd c124 (by decide)
        · refine pz_inc (i := 125) rfl rfl rfl rfl ?_
          rw [show nI k + 1 = nI (k + 1) from nI_add k 1]
          refine pz_iln (i := 126) rfl rfl ?_
          refine pz_il (i := 127) rfl rfl ?_
          refine pz_add (i := 128) rfl ?_
          rw [nI_add, ← eZr]
          refine pz_isn (i := 129) rfl ⟨rfl, Nat.le_of_ble_eq_true rfl⟩ rfl ?_
          refine pz_go (i := 130) rfl ?_
          have hl : liv V r.2.2.1 p = false := by rw [← hL]; exact bB_f c58
          rw [if_neg (by rw [hl]; decide)] at hQ1 hQ2
          exact ih s V (p + rcZ r) (k + 1) jv1 bv _ _ _ _ _ (by omega) (by omega) hen hd1 hdn hv1 (hG2 hl) (fun jv5 bv5 m y6 y7 y8 y9 y10 a b c d e => hQ1 jv5 bv5 m y6 y7 y8 y9 y10 a b c (frI_tr F1 d (by decide) (by decide)) e) (fun jv5 bv5 a b => hQ2 jv5 bv5 a ⟨b.1, b.2.1, b.2.2.1, b.2.2.2.1, b.2.2.2.2.1.trans (f1 7 (by decide)), b.2.2.2.2.2.1.trans (f1 8 (by decide)), b.2.2.2.2.2.2.1.trans (f1 9 (by decide)), b.2.2.2.2.2.2.2⟩)
      · have hl : liv V r.2.2.1 p = true := by rw [← hL]; exact bB_t c58
        have hkl := kS_len V.2.1
        refine pz_aln (i := 59) rfl rfl ?_
        refine pz_il (i := 60) rfl rfl ?_
        refine pz_ic (i := 61) rfl ?_
        refine pz_cI2 (i := 62) rfl (gc_54 ..) rfl (Nat.le_of_ble_eq_true rfl) rfl ?_
        refine sm_hasRoom hr (h := V.2.2 5) (z := 12 + r.2.2.2.length) (tl := V.2.2 4) (less := 0) ((f1 12 (by decide)).trans u5) ((f1 13 (by decide)).trans u4) ⟨by omega, by omega, by omega⟩ (by decide) ?_
        rw [show V.2.2 5 + (12 + r.2.2.2.length) + 12 + 0 = V.2.2 5 + rcZ r + 12 by omega]
        refine ⟨_, rfl, ?_⟩
        refine pz_if_eq (i := 63) rfl (fun c63 => ?_) (fun c63 => ?_)
        · refine pz_ic (i := 75) rfl ?_
          first
            | exact k76t jv1 _ _ _ hl (by unfold rmB; rw [decide_eq_true (Classical.byContradiction (fun w => c63 (if_neg w)) : V.2.2 5 + rcZ r + 12 ≤ V.2.2 4 + rm), Bool.and_true, (eM_0 hm hkey).mp c68]; rfl) f1
            | exact k76t jv1 _ _ _ hl (by unfold rmB; rw [decide_eq_true (Classical.byContradiction (fun w => c63 (if_neg w)) : V.2.2 5 + rcZ r + 12 ≤ V.2.2 4 + rm), Bool.and_true, decide_eq_true (show (kS V.2.1).length < 24 from nle_ofI (a := 24) c72), Bool.or_true]) f1
            | exact k76f jv1 _ _ _ hl (by unfold rmB; rw [decide_eq_false (show ¬ (kS V.2.1).length < 24 from by have := le_ofI (a := 24) c72; omega), (show (V.2.1 r.2.2.1).isSome = false from by cases hh : (V.2.1 r.2.2.1).isSome with | false => rfl | true => exact absurd ((eM_0 hm hkey).mpr hh) c68)]; rfl) f1
            | exact k76f jv1 _ _ _ hl (by unfold rmB; rw [decide_eq_false (show ¬ V.2.2 5 + rcZ r + 12 ≤ V.2.2 4 + rm from fun w => by rw [if_pos w] at c63; exact absurd c63 (by decide)), Bool.and_false]) f1
        · refine pz_aln (i := 64) rfl rfl ?_
          refine pz_get (i := 65) rfl (gf_54_38 ..) ?_
          refine pz_il (i := 66) rfl rfl ?_
          refine pz_ial (i := 67) rfl (ga_72 ..) (in_ofI hkey) ?_
          rw [cl_ofI (a := r.2.2.1) (by omega)]
          refine pz_if_gt (i := 68) rfl (fun c68 => ?_) (fun c68 => ?_)
          · refine pz_ic (i := 73) rfl ?_
            refine pz_go (i := 74) rfl ?_
            first
              | exact k76t jv1 _ _ _ hl (by unfold rmB; rw [decide_eq_true (Classical.byContradiction (fun w => c63 (if_neg w)) : V.2.2 5 + rcZ r + 12 ≤ V.2.2 4 + rm), Bool.and_true, (eM_0 hm hkey).mp c68]; rfl) f1
              | exact k76t jv1 _ _ _ hl (by unfold rmB; rw [decide_eq_true (Classical.byContradiction (fun w => c63 (if_neg w)) : V.2.2 5 + rcZ r + 12 ≤ V.2.2 4 + rm), Bool.and_true, decide_eq_true (show (kS V.2.1).length < 24 from nle_ofI (a := 24) c72), Bool.or_true]) f1
              | exact k76f jv1 _ _ _ hl (by unfold rmB; rw [decide_eq_false (show ¬ (kS V.2.1).length < 24 from by have := le_ofI (a := 24) c72; omega), (show (V.2.1 r.2.2.1).isSome = false from by cases hh : (V.2.1 r.2.2.1).isSome with | false => rfl | true => exact absurd ((eM_0 hm hkey).mpr hh) c68)]; rfl) f1
              | exact k76f jv1 _ _ _ hl (by unfold rmB; rw [decide_eq_false (show ¬ V.2.2 5 + rcZ r + 12 ≤ V.2.2 4 + rm from fun w => by rw [if_pos w] at c63; exact absurd c63 (by decide)), Bool.and_false]) f1
          · refine pz_aln (i := 69) rfl rfl ?_
            refine pz_get (i := 70) rfl (gf_54_41 ..) ?_
            rw [f1 20 (by decide), hm.2.1]
            refine pz_bi (i := 71) rfl ?_
            refine pz_ii_ge (i := 72) rfl (fun c72 => ?_) (fun c72 => ?_)
            · refine pz_ic (i := 75) rfl ?_
              first
                | exact k76t jv1 _ _ _ hl (by unfold rmB; rw [decide_eq_true (Classical.byContradiction (fun w => c63 (if_neg w)) : V.2.2 5 + rcZ r + 12 ≤ V.2.2 4 + rm), Bool.and_true, (eM_0 hm hkey).mp c68]; rfl) f1
                | exact k76t jv1 _ _ _ hl (by unfold rmB; rw [decide_eq_true (Classical.byContradiction (fun w => c63 (if_neg w)) : V.2.2 5 + rcZ r + 12 ≤ V.2.2 4 + rm), Bool.and_true, decide_eq_true (show (kS V.2.1).length < 24 from nle_ofI (a := 24) c72), Bool.or_true]) f1
                | exact k76f jv1 _ _ _ hl (by unfold rmB; rw [decide_eq_false (show ¬ (kS V.2.1).length < 24 from by have := le_ofI (a := 24) c72; omega), (show (V.2.1 r.2.2.1).isSome = false from by cases hh : (V.2.1 r.2.2.1).isSome with | false => rfl | true => exact absurd ((eM_0 hm hkey).mpr hh) c68)]; rfl) f1
                | exact k76f jv1 _ _ _ hl (by unfold rmB; rw [decide_eq_false (show ¬ V.2.2 5 + rcZ r + 12 ≤ V.2.2 4 + rm from fun w => by rw [if_pos w] at c63; exact absurd c63 (by decide)), Bool.and_false]) f1
            · refine pz_ic (i := 73) rfl ?_
              refine pz_go (i := 74) rfl ?_
              first
                | exact k76t jv1 _ _ _ hl (by unfold rmB; rw [decide_eq_true (Classical.byContradiction (fun w => c63 (if_neg w)) : V.2.2 5 + rcZ r + 12 ≤ V.2.2 4 + rm), Bool.and_true, (eM_0 hm hkey).mp c68]; rfl) f1
                | exact k76t jv1 _ _ _ hl (by unfold rmB; rw [decide_eq_true (Classical.byContradiction (fun w => c63 (if_neg w)) : V.2.2 5 + rcZ r + 12 ≤ V.2.2 4 + rm), Bool.and_true, decide_eq_true (show (kS V.2.1).length < 24 from nle_ofI (a := 24) c72), Bool.or_true]) f1
                | exact k76f jv1 _ _ _ hl (by unfold rmB; rw [decide_eq_false (show ¬ (kS V.2.1).length < 24 from by have := le_ofI (a := 24) c72; omega), (show (V.2.1 r.2.2.1).isSome = false from by cases hh : (V.2.1 r.2.2.1).isSome with | false => rfl | true => exact absurd ((eM_0 hm hkey).mpr hh) c68)]; rfl) f1
                | exact k76f jv1 _ _ _ hl (by unfold rmB; rw [decide_eq_false (show ¬ V.2.2 5 + rcZ r + 12 ≤ V.2.2 4 + rm from fun w => by rw [if_pos w] at c63; exact absurd c63 (by decide)), Bool.and_false]) f1
    refine pz_il (i := 22) rfl rfl ?_
    refine pz_if_eq (i := 23) rfl (fun c23 => ?_) (fun c23 => ?_)
    · exact absurd c23 (by decide)
    · refine pz_il (i := 24) rfl rfl ?_
      refine pz_iln (i := 25) rfl rfl ?_
      refine pz_ii_ge (i := 26) rfl (fun c26 => ?_) (fun c26 => ?_)
      · exact absurd (le_ofI c26) (by omega)
      · refine pz_iln (i := 27) rfl rfl ?_
        refine pz_iln (i := 28) rfl rfl ?_
        refine pz_ii_ge (i := 29) rfl (fun c29 => ?_) (fun c29 => ?_)
        · exact absurd (le_ofI c29) (by omega)
        · refine pz_aln (i := 30) rfl rfl ?_
          refine pz_ic (i := 31) rfl ?_
          refine pz_iln (i := 32) rfl rfl ?_
          refine pz_ic (i := 33) rfl ?_
          refine pz_add (i := 34) rfl ?_
          rw [show nI p + 1 = nI (p + 1) from nI_add p 1]
          refine pz_cI2 (i := 35) rfl (gc_54 ..) rfl (Nat.le_of_ble_eq_true rfl) rfl ?_
          refine sm_byteAt hr' hg (a := 0) (by decide) (by omega) ?_
          rw [show plM rm 0 (p + 1) = (p + 1) % rm from Nat.zero_add _, bN_and, h2, rcA_key hrc]
          refine ⟨_, rfl, ?_⟩
          refine pz_is (i := 36) rfl ⟨rfl, Nat.le_of_ble_eq_true rfl⟩ rfl ?_
          refine pz_aln (i := 37) rfl rfl ?_
          refine pz_iln (i := 38) rfl rfl ?_
          refine pz_cI1 (i := 39) rfl (gc_54 ..) rfl (Nat.le_of_ble_eq_true rfl) rfl ?_
          refine sm_sizeAt hr' hg (by omega) ?_
          rw [h2, rcA_len hrc]
          refine ⟨_, rfl, ?_⟩
          refine pz_is (i := 40) rfl ⟨rfl, Nat.le_of_ble_eq_true rfl⟩ rfl ?_
          refine pz_aln (i := 41) rfl rfl ?_
          refine pz_il (i := 42) rfl rfl ?_
          refine pz_cI1 (i := 43) rfl (gc_54 ..) rfl (Nat.le_of_ble_eq_true rfl) rfl ?_
          refine sm_find hr' hg hkey (fun t ht => by rw [h2]; exact hE t ht) hu hm (fun jv1 z hf h24 f1 => ?_)
          refine ⟨_, rfl, ?_⟩
          refine pz_if_eq (i := 44) rfl (fun c44 => ?_) (fun c44 => ?_)
          · refine pz_ic (i := 55) rfl ?_
            cases he : ent V.2.1 V.1 r.2.2.1 with
            | none =>
              rw [he] at hf
              first
                | exact absurd hf.1 c44
                | exact k56 jv1 _ _ _ false (by unfold liv; rw [he]) f1
            | some e =>
              rw [he] at hf
              have h3 := ent_ok hm.1 (fun t ht => (hE t ht).2.2.2.1) he
              first
                | (have e1 : e.1 = 1 := eq_ofI (b := 1) (hf.2.1.symm.trans c48)
                   have e2 : e.2.2 = p := eq_ofI (hf.2.2.2.symm.trans c52)
                   exact k56 jv1 _ _ _ true (by unfold liv; rw [he]; exact (decide_eq_true ⟨e1, e2⟩).symm) f1)
                | (have e2 : ¬ e.2.2 = p := fun z => c52 (hf.2.2.2.trans (congrArg nI z))
                   exact k56 jv1 _ _ _ false (by unfold liv; rw [he]; exact (decide_eq_false (fun z => e2 z.2)).symm) f1)
                | (have e1 : ¬ e.1 = 1 := fun z => c48 (hf.2.1.trans (congrArg nI z))
                   exact k56 jv1 _ _ _ false (by unfold liv; rw [he]; exact (decide_eq_false (fun z => e1 z.1)).symm) f1)
                | (have h9 := hf.1.symm.trans c44
                   exact absurd h9 (by decide))
          · refine pz_aln (i := 45) rfl rfl ?_
            refine pz_get (i := 46) rfl (gf_54_46 ..) ?_
            refine pz_ic (i := 47) rfl ?_
            refine pz_ii_ne (i := 48) rfl (fun c48 => ?_) (fun c48 => ?_)
            · refine pz_ic (i := 55) rfl ?_
              cases he : ent V.2.1 V.1 r.2.2.1 with
              | none =>
                rw [he] at hf
                first
                  | exact absurd hf.1 c44
                  | exact k56 jv1 _ _ _ false (by unfold liv; rw [he]) f1
              | some e =>
                rw [he] at hf
                have h3 := ent_ok hm.1 (fun t ht => (hE t ht).2.2.2.1) he
                first
                  | (have e1 : e.1 = 1 := eq_ofI (b := 1) (hf.2.1.symm.trans c48)
                     have e2 : e.2.2 = p := eq_ofI (hf.2.2.2.symm.trans c52)
                     exact k56 jv1 _ _ _ true (by unfold liv; rw [he]; exact (decide_eq_true ⟨e1, e2⟩).symm) f1)
                  | (have e2 : ¬ e.2.2 = p := fun z => c52 (hf.2.2.2.trans (congrArg nI z))
                     exact k56 jv1 _ _ _ false (by unfold liv; rw [he]; exact (decide_eq_false (fun z => e2 z.2)).symm) f1)
                  | (have e1 : ¬ e.1 = 1 := fun z => c48 (hf.2.1.trans (congrArg nI z))
                     exact k56 jv1 _ _ _ false (by unfold liv; rw [he]; exact (decide_eq_false (fun z => e1 z.1)).symm) f1)
                  | (have h9 := hf.1.symm.trans c44
                     exact absurd h9 (by decide))
            · refine pz_aln (i := 49) rfl rfl ?_
              refine pz_get (i := 50) rfl (gf_54_48 ..) ?_
              refine pz_iln (i := 51) rfl rfl ?_
              refine pz_ii_ne (i := 52) rfl (fun c52 => ?_) (fun c52 => ?_)
              · refine pz_ic (i := 55) rfl ?_
                cases he : ent V.2.1 V.1 r.2.2.1 with
                | none =>
                  rw [he] at hf
                  first
                    | exact absurd hf.1 c44
                    | exact k56 jv1 _ _ _ false (by unfold liv; rw [he]) f1
                | some e =>
                  rw [he] at hf
                  have h3 := ent_ok hm.1 (fun t ht => (hE t ht).2.2.2.1) he
                  first
                    | (have e1 : e.1 = 1 := eq_ofI (b := 1) (hf.2.1.symm.trans c48)
                       have e2 : e.2.2 = p := eq_ofI (hf.2.2.2.symm.trans c52)
                       exact k56 jv1 _ _ _ true (by unfold liv; rw [he]; exact (decide_eq_true ⟨e1, e2⟩).symm) f1)
                    | (have e2 : ¬ e.2.2 = p := fun z => c52 (hf.2.2.2.trans (congrArg nI z))
                       exact k56 jv1 _ _ _ false (by unfold liv; rw [he]; exact (decide_eq_false (fun z => e2 z.2)).symm) f1)
                    | (have e1 : ¬ e.1 = 1 := fun z => c48 (hf.2.1.trans (congrArg nI z))
                       exact k56 jv1 _ _ _ false (by unfold liv; rw [he]; exact (decide_eq_false (fun z => e1 z.1)).symm) f1)
                    | (have h9 := hf.1.symm.trans c44
                       exact absurd h9 (by decide))
              · refine pz_ic (i := 53) rfl ?_
                refine pz_go (i := 54) rfl ?_
                cases he : ent V.2.1 V.1 r.2.2.1 with
                | none =>
                  rw [he] at hf
                  first
                    | exact absurd hf.1 c44
                    | exact k56 jv1 _ _ _ false (by unfold liv; rw [he]) f1
                | some e =>
                  rw [he] at hf
                  have h3 := ent_ok hm.1 (fun t ht => (hE t ht).2.2.2.1) he
                  first
                    | (have e1 : e.1 = 1 := eq_ofI (b := 1) (hf.2.1.symm.trans c48)
                       have e2 : e.2.2 = p := eq_ofI (hf.2.2.2.symm.trans c52)
                       exact k56 jv1 _ _ _ true (by unfold liv; rw [he]; exact (decide_eq_true ⟨e1, e2⟩).symm) f1)
                    | (have e2 : ¬ e.2.2 = p := fun z => c52 (hf.2.2.2.trans (congrArg nI z))
                       exact k56 jv1 _ _ _ false (by unfold liv; rw [he]; exact (decide_eq_false (fun z => e2 z.2)).symm) f1)
                    | (have e1 : ¬ e.1 = 1 := fun z => c48 (hf.2.1.trans (congrArg nI z))
                       exact k56 jv1 _ _ _ false (by unfold liv; rw [he]; exact (decide_eq_false (fun z => e1 z.1)).symm) f1)
                    | (have h9 := hf.1.symm.trans c44
                       exact absurd h9 (by decide))
set_option maxRecDepth 20000 in
theorem lq_c131 (hr : 512 ≤ rm ∧ rm ≤ 4096) {b : dS × vW × Nat × Nat} {n en m : Int32} {x6 x7 x8 x9 x10 : Option Value} (hd : dM rm jv bv b.1) (hdn : b.1.2.2.2.2.2 = false) (hv : vM jv bv b.2.1) (hb : ∀ i, 1 ≤ i → i ≤ 7 → b.2.1.2.2 i < 2 ^ 30 - 1000) (hp : b.2.2.1 < 2 ^ 30 - 1000) (hk : b.2.2.2 ≤ 1000) (hQ : ∀ jv' bv' z, oM rm jv bv jv' bv' (clT rm b).1 [0, 1, 2, 12, 13, 14, 15, 16, 17, 18, 19, 20, 21, 22, 23, 24] [2, 3, 4, 5, 6, 7, 8, 15, 16, 17, 18, 19, 20, 21, 22, 23, 24] → ((clT rm b).1.2.2.2.2.2 = false → vM jv' bv' (clT rm b).2.1 ∧ z = nI (clT rm b).2.2) → Q (some (.int z)) (wX rm iv av (wM rm jv' bv'))) : pz Lx xs (d + 7) rt_120 (some .int) Q 131 [some (.ref 54), some (.int n), some (.int en), some (.int (nI b.2.2.1)), some (.int (nI b.2.2.2)), some (.int m), x6, x7, x8, x9, x10] [] (wX rm iv av (wM rm jv bv)) := by
  have hr' : 0 < rm ∧ rm ≤ 4096 := ⟨by omega, hr.2⟩
  have hdn2 : (sy rm b.1).2.2.2.2.2 = false := by rw [sy_al]; exact hdn
  unfold clT at hQ
  refine pz_aln (i := 131) rfl rfl ?_
  refine pz_cI0 (i := 132) rfl (gc_54 ..) rfl (Nat.le_of_ble_eq_true rfl) rfl ?_
  refine sm_syncAll hr' hd hdn (fun jv1 bv1 k1 f1 a1 => ?_)
  have hv1 := vM_fr hv f1 a1 (by decide) (by decide)
  obtain ⟨hu1, hm1, u1, u2, u3, u4, u5, u6, u7⟩ := hv1
  refine ⟨_, rfl, ?_⟩
  refine pz_is (i := 133) rfl ⟨rfl, Nat.le_of_ble_eq_true rfl⟩ rfl ?_
  refine pz_aln (i := 134) rfl rfl ?_
  refine pz_iln (i := 135) rfl rfl ?_
  refine pz_put (i := 136) rfl (pf_54_29 ..) ⟨rfl, rfl⟩ ?_
  have G2 : frI jv1 (upd jv1 13 (nI b.2.2.1)) [13] := frI_up (frI_rfl _ _) (by decide)
  have hv2 : vM (upd jv1 13 (nI b.2.2.1)) bv1 (clV b) := ⟨uM_fr hu1 G2 (frA_rfl bv1 []) (by decide) (by decide), eM_ext hm1 (G2 20 (by decide)) rfl rfl rfl, ⟨(G2 18 (by decide)).trans u1, (G2 14 (by decide)).trans u2, (G2 15 (by decide)).trans u3, ui_s _ _ _, (G2 12 (by decide)).trans u5, (G2 16 (by decide)).trans u6, (G2 17 (by decide)).trans u7⟩⟩
  have hd2 := dM_fr k1 G2 (frA_rfl bv1 []) (by decide) (by decide)
  have F2 : frI jv (upd jv1 13 (nI b.2.2.1)) [0, 1, 13] := frI_tr f1 G2 (by decide) (by decide)
  refine pz_il (i := 137) rfl rfl ?_
  refine pz_if_le (i := 138) rfl (fun c138 => ?_) (fun c138 => ?_)
  · refine pz_il (i := 147) rfl rfl ?_
    refine pz_ir (i := 148) rfl rfl rfl ?_
    first
      | (refine hQ jv4 bv4 _ ⟨fun _ => ⟨k4, frI_tr F2 J4 (by decide) (by decide), frA_tr a1 B4 (by decide) (by decide)⟩, fun w => by rw [show (sy rm (rtS rm (sy rm b.1) (rtV (clV b)))).2.2.2.2.2 = false by rw [sy_al]; exact hdb] at w; cases w⟩ (fun _ => ⟨⟨uM_fr hv2.1 J4 B4 (by decide) (by decide), eM_ext hv2.2.1 (J4 20 (by decide)) (B4 17 (by decide)) (B4 18 (by decide)) (B4 19 (by decide)), ?_⟩, rfl⟩)
         obtain ⟨w1, w2, w3, w4, w5, w6, w7⟩ := hv2.2.2
         exact ⟨(f4 18 (by decide)).trans (k3 hdb), (J4 14 (by decide)).trans w2, (J4 15 (by decide)).trans w3, (J4 13 (by decide)).trans w4, (J4 12 (by decide)).trans w5, (J4 16 (by decide)).trans w6, (J4 17 (by decide)).trans w7⟩)
      | (have hdd := bB_t c143
         rw [sy_dead hdd] at hQ
         exact hQ jv3 bv3 _ (oM_dead O3 hdd) (fun w => by rw [show (rtS rm (sy rm b.1) (rtV (clV b))).2.2.2.2.2 = true from hdd] at w; cases w))
      | (have hk0 : b.2.2.2 = 0 := by
           have := le_ofI (b := 0) c138
           omega
         rw [if_pos hk0] at hQ
         exact hQ _ bv1 _ ⟨fun _ => ⟨hd2, frI_w F2 (by decide), frA_w a1 (by decide)⟩, fun w => by rw [show (sy rm b.1).2.2.2.2.2 = false from hdn2] at w; cases w⟩ (fun _ => ⟨hv2, by rw [hk0]⟩))
  · refine pz_aln (i := 139) rfl rfl ?_
    refine pz_cV0 (i := 140) rfl (gc_54 ..) rfl (Nat.le_of_ble_eq_true rfl) rfl ?_
    have hk0 : ¬ b.2.2.2 = 0 := fun z => c138 (by rw [z]; exact Int32.le_refl _)
    rw [if_neg hk0] at hQ
    refine sm_writeRoot hr (V := clV b) hd2 hdn2 (cp_sy (by decide) (by decide)) hv2.1 hv2.2.2 (fun i i1 i2 => ?_) (fun jv3 bv3 o3 k3 => ?_)
    · have := hb i i1 i2
      show vs b.2.1.2.2 4 b.2.2.1 i < _
      unfold vs
      split <;> omega
    have O3 : oM rm jv bv jv3 bv3 (rtS rm (sy rm b.1) (rtV (clV b))) [0, 1, 2, 12, 13, 14, 15, 16, 17, 18, 19, 20, 21, 22, 23, 24] [2, 3, 4, 5, 6, 7, 8, 15, 16, 17, 18, 19, 20, 21, 22, 23, 24] := oM_tr F2 a1 o3 (by decide) (by decide) (by decide) (by decide) (by decide) (by decide)
    refine ⟨rfl, ?_⟩
    refine pz_aln (i := 141) rfl rfl ?_
    refine pz_get (i := 142) rfl (gf_54_15 ..) ?_
    rw [oM_5 O3]
    refine pz_if_ne (i := 143) rfl (fun c143 => ?_) (fun c143 => ?_)
    · refine pz_il (i := 147) rfl rfl ?_
      refine pz_ir (i := 148) rfl rfl rfl ?_
      first
        | (refine hQ jv4 bv4 _ ⟨fun _ => ⟨k4, frI_tr F2 J4 (by decide) (by decide), frA_tr a1 B4 (by decide) (by decide)⟩, fun w => by rw [show (sy rm (rtS rm (sy rm b.1) (rtV (clV b)))).2.2.2.2.2 = false by rw [sy_al]; exact hdb] at w; cases w⟩ (fun _ => ⟨⟨uM_fr hv2.1 J4 B4 (by decide) (by decide), eM_ext hv2.2.1 (J4 20 (by decide)) (B4 17 (by decide)) (B4 18 (by decide)) (B4 19 (by decide)), ?_⟩, rfl⟩)
           obtain ⟨w1, w2, w3, w4, w5, w6, w7⟩ := hv2.2.2
           exact ⟨(f4 18 (by decide)).trans (k3 hdb), (J4 14 (by decide)).trans w2, (J4 15 (by decide)).trans w3, (J4 13 (by decide)).trans w4, (J4 12 (by decide)).trans w5, (J4 16 (by decide)).trans w6, (J4 17 (by decide)).trans w7⟩)
        | (have hdd := bB_t c143
           rw [sy_dead hdd] at hQ
           exact hQ jv3 bv3 _ (oM_dead O3 hdd) (fun w => by rw [show (rtS rm (sy rm b.1) (rtV (clV b))).2.2.2.2.2 = true from hdd] at w; cases w))
        | (have hk0 : b.2.2.2 = 0 := by
             have := le_ofI (b := 0) c138
             omega
           rw [if_pos hk0] at hQ
           exact hQ _ bv1 _ ⟨fun _ => ⟨hd2, frI_w F2 (by decide), frA_w a1 (by decide)⟩, fun w => by rw [show (sy rm b.1).2.2.2.2.2 = false from hdn2] at w; cases w⟩ (fun _ => ⟨hv2, by rw [hk0]⟩))
    · refine pz_aln (i := 144) rfl rfl ?_
      refine pz_cI0 (i := 145) rfl (gc_54 ..) rfl (Nat.le_of_ble_eq_true rfl) rfl ?_
      have hdb := bB_f c143
      obtain ⟨e1, e2, e3⟩ := o3.1 hdb
      refine sm_syncAll hr' e1 hdb (fun jv4 bv4 k4 f4 a4 => ?_)
      have J4 : frI (upd jv1 13 (nI b.2.2.1)) jv4 [0, 1, 2, 18] := frI_tr e2 f4 (by decide) (by decide)
      have B4 : frA bv1 bv4 [2, 3, 4, 5, 6, 7, 8, 23] := frA_tr e3 a4 (by decide) (by decide)
      refine ⟨_, rfl, ?_⟩
      refine pz_is (i := 146) rfl ⟨rfl, Nat.le_of_ble_eq_true rfl⟩ rfl ?_
      refine pz_il (i := 147) rfl rfl ?_
      refine pz_ir (i := 148) rfl rfl rfl ?_
      first
        | (refine hQ jv4 bv4 _ ⟨fun _ => ⟨k4, frI_tr F2 J4 (by decide) (by decide), frA_tr a1 B4 (by decide) (by decide)⟩, fun w => by rw [show (sy rm (rtS rm (sy rm b.1) (rtV (clV b)))).2.2.2.2.2 = false by rw [sy_al]; exact hdb] at w; cases w⟩ (fun _ => ⟨⟨uM_fr hv2.1 J4 B4 (by decide) (by decide), eM_ext hv2.2.1 (J4 20 (by decide)) (B4 17 (by decide)) (B4 18 (by decide)) (B4 19 (by decide)), ?_⟩, rfl⟩)
           obtain ⟨w1, w2, w3, w4, w5, w6, w7⟩ := hv2.2.2
           exact ⟨(f4 18 (by decide)).trans (k3 hdb), (J4 14 (by decide)).trans w2, (J4 15 (by decide)).trans w3, (J4 13 (by decide)).trans w4, (J4 12 (by decide)).trans w5, (J4 16 (by decide)).trans w6, (J4 17 (by decide)).trans w7⟩)
        | (have hdd := bB_t c143
           rw [sy_dead hdd] at hQ
           exact hQ jv3 bv3 _ (oM_dead O3 hdd) (fun w => by rw [show (rtS rm (sy rm b.1) (rtV (clV b))).2.2.2.2.2 = true from hdd] at w; cases w))
        | (have hk0 : b.2.2.2 = 0 := by
             have := le_ofI (b := 0) c138
             omega
           rw [if_pos hk0] at hQ
           exact hQ _ bv1 _ ⟨fun _ => ⟨hd2, frI_w F2 (by decide), frA_w a1 (by decide)⟩, fun w => by rw [show (sy rm b.1).2.2.2.2.2 = false from hdn2] at w; cases w⟩ (fun _ => ⟨hv2, by rw [hk0]⟩))
set_option maxRecDepth 20000 in
theorem sm_collecting (hr : 512 ≤ rm ∧ rm ≤ 4096) {n : Nat} {s : dS} {V : vW} {lg : List lR} (hn : n ≤ 1000) (hd : dM rm jv bv s) (hdn : s.2.2.2.2.2 = false) (hv : vM jv bv V) (hI : clI rm n lg s V) (hQ : ∀ jv' bv' z, oM rm jv bv jv' bv' (cl rm n lg s V).1 [0, 1, 2, 12, 13, 14, 15, 16, 17, 18, 19, 20, 21, 22, 23, 24] [2, 3, 4, 5, 6, 7, 8, 15, 16, 17, 18, 19, 20, 21, 22, 23, 24] → ((cl rm n lg s V).1.2.2.2.2.2 = false → vM jv' bv' (cl rm n lg s V).2.1 ∧ z = nI (cl rm n lg s V).2.2) → Q (some (.int z)) (wX rm iv av (wM rm jv' bv'))) : rx_R Lx xs (d + 8) 120 [.ref 54, .int (nI n)] (wX rm iv av (wM rm jv bv)) Q := by
  refine pz_en (t := rt_120) ⟨Nat.le_of_ble_eq_true rfl, rfl⟩ rfl rfl ?_
  obtain ⟨hck, hb, hZ, hG⟩ := hI
  obtain ⟨hu, hm, u1, u2, u3, u4, u5, u6, u7⟩ := id hv
  have b2 := hb 2 (by decide) (by decide)
  have b4 := hb 4 (by decide) (by decide)
  have b5 := hb 5 (by decide) (by decide)
  have hbA := ck_bd (rm := rm) (s := s) hb
  have hn45 : (cA rm s V).2.2.2 4 = V.2.2 4 ∧ (cA rm s V).2.2.2 5 = V.2.2 5 := by
    unfold cA
    split
    · exact ⟨rfl, rfl⟩
    · obtain ⟨_, _, _, q4, _⟩ := ck_num (rm := rm) (s := s) (V := V)
      exact ⟨q4 4 (by omega), q4 5 (by omega)⟩
  have k7 : ∀ jv1 bv1, oM rm jv bv jv1 bv1 (cA rm s V).1 [0, 1, 2, 12, 13, 14, 15, 16, 17, 18, 19, 20, 21, 22, 23, 24] [2, 3, 4, 5, 6, 7, 8, 15, 16, 17, 18, 19, 20, 21, 22, 23, 24] → ((cA rm s V).1.2.2.2.2.2 = false → vM jv1 bv1 (cA rm s V).2) → pz Lx xs (d + 7) rt_120 (some .int) Q 7 [some (.ref 54), some (.int (nI n)), none, none, none, none, none, none, none, none, none] [] (wX rm iv av (wM rm jv1 bv1)) := by
    intro jv1 bv1 o1 hv1
    refine pz_aln (i := 7) rfl rfl ?_
    refine pz_get (i := 8) rfl (gf_54_15 ..) ?_
    rw [oM_5 o1]
    refine pz_if_eq (i := 9) rfl (fun c9 => ?_) (fun c9 => ?_)
    · have hda := bB_f c9
      obtain ⟨d1, d2, d3⟩ := o1.1 hda
      have hvA := hv1 hda
      obtain ⟨_, _, w1, w2, w3, w4, w5, w6, w7⟩ := id hvA
      have hGA := hG hda
      have hbd := clR_bd lg _ _ _ _ hGA hbA
      have hcn := clR_n (rm := rm) (n := n) lg (cA rm s V).1 (cA rm s V).2 (V.2.2 4) 0 (Nat.zero_le _)
      refine pz_aln (i := 12) rfl rfl ?_
      refine pz_get (i := 13) rfl (gf_54_28 ..) ?_
      rw [w5, hn45.2]
      refine pz_isn (i := 14) rfl ⟨rfl, Nat.le_of_ble_eq_true rfl⟩ rfl ?_
      refine pz_aln (i := 15) rfl rfl ?_
      refine pz_get (i := 16) rfl (gf_54_29 ..) ?_
      rw [w4, hn45.1]
      refine pz_isn (i := 17) rfl ⟨rfl, Nat.le_of_ble_eq_true rfl⟩ rfl ?_
      refine pz_ic (i := 18) rfl ?_
      refine pz_is (i := 19) rfl ⟨rfl, Nat.le_of_ble_eq_true rfl⟩ rfl ?_
      refine pz_ic (i := 20) rfl ?_
      refine pz_is (i := 21) rfl ⟨rfl, Nat.le_of_ble_eq_true rfl⟩ rfl ?_
      refine lq_cl hr hn lg (cA rm s V).1 (cA rm s V).2 (V.2.2 4) 0 jv1 bv1 none none none none none (Nat.zero_le _) hZ.symm (by omega) d1 hda hvA hGA (fun jv2 bv2 m y6 y7 y8 y9 y10 a b c e f => ?_) (fun jv2 bv2 a b => ?_)
      · refine lq_c131 hr (b := clB rm n lg s V) a b c (fun i i1 i2 => by have := hbd.1 i i1 i2; show (clR rm n lg (cA rm s V).1 (cA rm s V).2 (V.2.2 4) 0).2.1.2.2 i < _; omega) (by show (clR rm n lg (cA rm s V).1 (cA rm s V).2 (V.2.2 4) 0).2.2.1 < _; have := hbd.2.2.1; omega) (by show (clR rm n lg (cA rm s V).1 (cA rm s V).2 (V.2.2 4) 0).2.2.2 ≤ 1000; omega) (fun jv3 bv3 z o3 k3 => hQ jv3 bv3 z (oM_tr d2 d3 (oM_tr e f o3 (S := [0, 1, 2, 12, 13, 14, 15, 16, 17, 18, 19, 20, 21, 22, 23, 24]) (A := [2, 3, 4, 5, 6, 7, 8, 15, 16, 17, 18, 19, 20, 21, 22, 23, 24]) (by decide) (by decide) (by decide) (by decide) (by decide) (by decide)) (by decide) (by decide) (by decide) (by decide) (by decide) (by decide)) k3)
      · have hdd : (clB rm n lg s V).1.2.2.2.2.2 = true := a
        have ecl : (cl rm n lg s V).1 = (clB rm n lg s V).1 := by
          unfold cl clT
          split
          · exact sy_dead hdd
          · rw [sy_dead hdd, rtS_dead hdd, sy_dead hdd]
        rw [ecl] at hQ
        refine hQ jv2 bv2 0 ⟨fun w => (by rw [hdd] at w; cases w), fun _ => ?_⟩ (fun w => by rw [hdd] at w; cases w)
        exact ⟨b.1, b.2.1, b.2.2.1, b.2.2.2.1, b.2.2.2.2.1.trans (d2 7 (by decide)), b.2.2.2.2.2.1.trans (d2 8 (by decide)), b.2.2.2.2.2.2.1.trans (d2 9 (by decide)), b.2.2.2.2.2.2.2.trans (d3 10 (by decide))⟩
    · refine pz_ic (i := 10) rfl ?_
      refine pz_ir (i := 11) rfl rfl rfl ?_
      have hdd := bB_t c9
      obtain ⟨q1, q2⟩ := cl_dead1 (n := n) (lg := lg) hdd
      rw [q1, q2] at hQ
      exact hQ jv1 bv1 0 (oM_dead o1 hdd) (fun w => by rw [hdd] at w; cases w)
  refine pz_aln (i := 0) rfl rfl ?_
  refine pz_get (i := 1) rfl (gf_54_30 ..) ?_
  rw [u2]
  refine pz_aln (i := 2) rfl rfl ?_
  refine pz_get (i := 3) rfl (gf_54_28 ..) ?_
  rw [u5]
  refine pz_ii_eq (i := 4) rfl (fun c4 => ?_) (fun c4 => ?_)
  · first
      | exact k7 jv1 bv1 (by rw [eA]; exact oM_w o1 (by decide) (by decide)) (by rw [eA]; exact k1)
      | (have hee : V.2.2 2 = V.2.2 5 := eq_ofI c4
         have eA : cA rm s V = (s, V) := if_pos hee
         exact k7 jv bv (by rw [eA]; exact ⟨fun _ => ⟨hd, frI_rfl _ _, frA_rfl _ _⟩, fun w => by rw [show s.2.2.2.2.2 = false from hdn] at w; cases w⟩) (by rw [eA]; exact fun _ => hv))
  · refine pz_aln (i := 5) rfl rfl ?_
    refine pz_cV0 (i := 6) rfl (gc_54 ..) rfl (Nat.le_of_ble_eq_true rfl) rfl ?_
    have hne : ¬ V.2.2 2 = V.2.2 5 := ne_ofI c4
    have eA : cA rm s V = ck rm s V := if_neg hne
    refine sm_checkpointAll hr hd hdn hv hck (fun i i1 i2 => by have := hb i i1 i2; omega) (fun jv1 bv1 o1 k1 => ?_)
    refine ⟨rfl, ?_⟩
    first
      | exact k7 jv1 bv1 (by rw [eA]; exact oM_w o1 (by decide) (by decide)) (by rw [eA]; exact k1)
      | (have hee : V.2.2 2 = V.2.2 5 := eq_ofI c4
         have eA : cA rm s V = (s, V) := if_pos hee
         exact k7 jv bv (by rw [eA]; exact ⟨fun _ => ⟨hd, frI_rfl _ _, frA_rfl _ _⟩, fun w => by rw [show s.2.2.2.2.2 = false from hdn] at w; cases w⟩) (by rw [eA]; exact fun _ => hv))
set_option maxRecDepth 20000 in
theorem lq_pa (hr : 512 ≤ rm ∧ rm ≤ 4096) {g : Nat} (hg : g < 2 ^ 30) : ∀ (f k : Nat) (s : dS) (V : vW) (lg : List lR) (jv0 jv : Nat → Int32) (bv0 bv : Nat → Nat → Int32) (z : Int32), k ≤ 1000 → oM rm jv0 bv0 jv bv s [0, 1, 2, 12, 13, 14, 15, 16, 17, 18, 19, 20, 21, 22, 23, 24] [2, 3, 4, 5, 6, 7, 8, 15, 16, 17, 18, 19, 20, 21, 22, 23, 24] → (s.2.2.2.2.2 = false → vM jv bv V ∧ z = nI k ∧ V.2.2 4 < 2 ^ 30 ∧ paI rm f g k s V lg ∧ paE rm f g k s V lg) → (∀ jv' bv', oM rm jv0 bv0 jv' bv' (pas rm f g k s V lg).1 [0, 1, 2, 12, 13, 14, 15, 16, 17, 18, 19, 20, 21, 22, 23, 24] [2, 3, 4, 5, 6, 7, 8, 15, 16, 17, 18, 19, 20, 21, 22, 23, 24] → ((pas rm f g k s V lg).1.2.2.2.2.2 = false → vM jv' bv' (pas rm f g k s V lg).2.1) → Q none (wX rm iv av (wM rm jv' bv'))) → pz Lx xs (d + 8) rt_121 none Q 5 [some (.ref 54), some (.int (nI g)), some (.int z)] [] (wX rm iv av (wM rm jv bv)) := by
  intro f
  induction f with
  | zero =>
    intro k s V lg jv0 jv bv0 bv z hk o hI hQ
    have e0 : pas rm 0 g k s V lg = (s, V, lg) := rfl
    rw [e0] at hQ
    refine pz_aln (i := 5) rfl rfl ?_
    refine pz_get (i := 6) rfl (gf_54_15 ..) ?_
    rw [oM_5 o]
    refine pz_if_ne (i := 7) rfl (fun c7 => ?_) (fun c7 => ?_)
    · refine pz_vr (i := 19) rfl rfl ?_
      first
        | (have hdd := bB_t c7
           exact hQ jv bv o (fun w => by rw [show s.2.2.2.2.2 = true from hdd] at w; cases w))
        | (have hda := bB_f c7
           exact hQ jv bv o (fun _ => (hI hda).1))
    · refine pz_aln (i := 8) rfl rfl ?_
      refine pz_get (i := 9) rfl (gf_54_29 ..) ?_
      have hda := bB_f c7
      obtain ⟨v1, v2, v3, v4, v5⟩ := hI hda
      rw [v1.2.2.2.2.2.1]
      refine pz_iln (i := 10) rfl rfl ?_
      refine pz_ii_ge (i := 11) rfl (fun c11 => ?_) (fun c11 => ?_)
      · refine pz_vr (i := 19) rfl rfl ?_
        first
          | (have hdd := bB_t c7
             exact hQ jv bv o (fun w => by rw [show s.2.2.2.2.2 = true from hdd] at w; cases w))
          | (have hda := bB_f c7
             exact hQ jv bv o (fun _ => (hI hda).1))
      · refine pz_iln (i := 12) rfl rfl ?_
        refine pz_if_le (i := 13) rfl (fun c13 => ?_) (fun c13 => ?_)
        · refine pz_vr (i := 19) rfl rfl ?_
          first
            | (have hdd := bB_t c7
               exact hQ jv bv o (fun w => by rw [show s.2.2.2.2.2 = true from hdd] at w; cases w))
            | (have hda := bB_f c7
               exact hQ jv bv o (fun _ => (hI hda).1))
        · rcases v5 with w | w | w
          · exact absurd (show z ≤ 0 by rw [v2, w]; exact Int32.le_refl _) c13
          · exact absurd ((nI_leI (by omega) (by omega)).mpr w) c11
          · rw [hda] at w
            cases w
  | succ f ih =>
    intro k s V lg jv0 jv bv0 bv z hk o hI hQ
    have eP : pas rm (f + 1) g k s V lg = if k = 0 ∨ g ≤ V.2.2 4 then (s, V, lg) else pas rm f g (cl rm 1000 lg s V).2.2 (cl rm 1000 lg s V).1 (cl rm 1000 lg s V).2.1 (clN rm 1000 lg s V) := rfl
    have hcn := cl_n (rm := rm) (n := 1000) (lg := lg) (s := s) (V := V)
    refine pz_aln (i := 5) rfl rfl ?_
    refine pz_get (i := 6) rfl (gf_54_15 ..) ?_
    rw [oM_5 o]
    refine pz_if_ne (i := 7) rfl (fun c7 => ?_) (fun c7 => ?_)
    · refine pz_vr (i := 19) rfl rfl ?_
      first
        | (have hdd := bB_t c7
           have e : (pas rm (f + 1) g k s V lg).1 = s := pas_dead _ _ _ _ _ _ hdd
           rw [e] at hQ
           exact hQ jv bv o (fun w => by rw [show s.2.2.2.2.2 = true from hdd] at w; cases w))
        | (have hee := le_ofI (a := g) c11
           rw [eP, if_pos (Or.inr hee)] at hQ
           exact hQ jv bv o (fun _ => v1))
        | (rw [v2] at c13
           have hee : k = 0 := by have := le_ofI (b := 0) c13; omega
           rw [eP, if_pos (Or.inl hee)] at hQ
           exact hQ jv bv o (fun _ => v1))
    · refine pz_aln (i := 8) rfl rfl ?_
      refine pz_get (i := 9) rfl (gf_54_29 ..) ?_
      have hda := bB_f c7
      obtain ⟨v1, v2, v3, v4, v5⟩ := hI hda
      obtain ⟨d1, d2, d3⟩ := o.1 hda
      rw [v1.2.2.2.2.2.1]
      refine pz_iln (i := 10) rfl rfl ?_
      refine pz_ii_ge (i := 11) rfl (fun c11 => ?_) (fun c11 => ?_)
      · refine pz_vr (i := 19) rfl rfl ?_
        first
          | (have hdd := bB_t c7
             have e : (pas rm (f + 1) g k s V lg).1 = s := pas_dead _ _ _ _ _ _ hdd
             rw [e] at hQ
             exact hQ jv bv o (fun w => by rw [show s.2.2.2.2.2 = true from hdd] at w; cases w))
          | (have hee := le_ofI (a := g) c11
             rw [eP, if_pos (Or.inr hee)] at hQ
             exact hQ jv bv o (fun _ => v1))
          | (rw [v2] at c13
             have hee : k = 0 := by have := le_ofI (b := 0) c13; omega
             rw [eP, if_pos (Or.inl hee)] at hQ
             exact hQ jv bv o (fun _ => v1))
      · refine pz_iln (i := 12) rfl rfl ?_
        refine pz_if_le (i := 13) rfl (fun c13 => ?_) (fun c13 => ?_)
        · refine pz_vr (i := 19) rfl rfl ?_
          first
            | (have hdd := bB_t c7
               have e : (pas rm (f + 1) g k s V lg).1 = s := pas_dead _ _ _ _ _ _ hdd
               rw [e] at hQ
               exact hQ jv bv o (fun w => by rw [show s.2.2.2.2.2 = true from hdd] at w; cases w))
            | (have hee := le_ofI (a := g) c11
               rw [eP, if_pos (Or.inr hee)] at hQ
               exact hQ jv bv o (fun _ => v1))
            | (rw [v2] at c13
               have hee : k = 0 := by have := le_ofI (b := 0) c13; omega
               rw [eP, if_pos (Or.inl hee)] at hQ
               exact hQ jv bv o (fun _ => v1))
        · have hn0 : ¬ (k = 0 ∨ g ≤ V.2.2 4) := fun w => w.elim (fun w => c13 (by rw [v2, w]; exact Int32.le_refl _)) (fun w => c11 ((nI_leI (by omega) (by omega)).mpr w))
          rw [eP, if_neg hn0] at hQ
          obtain ⟨p1, p2⟩ : clI rm 1000 lg s V ∧ paI rm f g (cl rm 1000 lg s V).2.2 (cl rm 1000 lg s V).1 (cl rm 1000 lg s V).2.1 (clN rm 1000 lg s V) := by
            rcases v4 with w | w | w | w
            · exact absurd (Or.inl w) hn0
            · exact absurd (Or.inr w) hn0
            · rw [hda] at w
              cases w
            · exact w
          have p3 : paE rm f g (cl rm 1000 lg s V).2.2 (cl rm 1000 lg s V).1 (cl rm 1000 lg s V).2.1 (clN rm 1000 lg s V) := by
            rcases v5 with w | w | w | w
            · exact absurd (Or.inl w) hn0
            · exact absurd (Or.inr w) hn0
            · rw [hda] at w
              cases w
            · exact w
          refine pz_aln (i := 14) rfl rfl ?_
          refine pz_si (i := 15) rfl ?_
          refine pz_cI1 (i := 16) rfl (gc_54 ..) rfl (Nat.le_of_ble_eq_true rfl) rfl ?_
          refine sm_collecting hr (n := 1000) (Nat.le_refl _) d1 hda v1 p1 (fun jv1 bv1 z1 o1 k1 => ?_)
          refine ⟨_, rfl, ?_⟩
          refine pz_isn (i := 17) rfl ⟨rfl, Nat.le_of_ble_eq_true rfl⟩ rfl ?_
          refine pz_go (i := 18) rfl ?_
          refine ih (cl rm 1000 lg s V).2.2 (cl rm 1000 lg s V).1 (cl rm 1000 lg s V).2.1 (clN rm 1000 lg s V) jv0 jv1 bv0 bv1 z1 hcn (oM_tr d2 d3 o1 (by decide) (by decide) (by decide) (by decide) (by decide) (by decide)) (fun w => ⟨(k1 w).1, (k1 w).2, ?_, p2, p3⟩) hQ
          have hbd := clR_bd lg _ _ _ _ (p1.2.2.2 (by
            cases hc : (cA rm s V).1.2.2.2.2.2 with
            | false => rfl
            | true => rw [(cl_dead1 (n := 1000) (lg := lg) hc).1, hc] at w; cases w)) (ck_bd (rm := rm) (s := s) p1.2.1)
          have e4 : (cl rm 1000 lg s V).2.1.2.2 4 = (clB rm 1000 lg s V).2.2.1 := clT_num.1
          rw [e4]
          show (clR rm 1000 lg (cA rm s V).1 (cA rm s V).2 (V.2.2 4) 0).2.2.1 < _
          have h5 := p1.2.1 5 (by decide) (by decide)
          have hZ := p1.2.2.1
          have := hbd.2.2.1
          omega
set_option maxRecDepth 20000 in
theorem sm_passLog (hr : 512 ≤ rm ∧ rm ≤ 4096) {s : dS} {V : vW} {lg : List lR} (hd : dM rm jv bv s) (hdn : s.2.2.2.2.2 = false) (hv : vM jv bv V) (hb : V.2.2 4 < 2 ^ 30 ∧ V.2.2 5 < 2 ^ 30) (hI : paI rm 1000 (V.2.2 5) 1 s V lg) (hE : paE rm 1000 (V.2.2 5) 1 s V lg) (hQ : ∀ jv' bv', oM rm jv bv jv' bv' (pas rm 1000 (V.2.2 5) 1 s V lg).1 [0, 1, 2, 12, 13, 14, 15, 16, 17, 18, 19, 20, 21, 22, 23, 24] [2, 3, 4, 5, 6, 7, 8, 15, 16, 17, 18, 19, 20, 21, 22, 23, 24] → ((pas rm 1000 (V.2.2 5) 1 s V lg).1.2.2.2.2.2 = false → vM jv' bv' (pas rm 1000 (V.2.2 5) 1 s V lg).2.1) → Q none (wX rm iv av (wM rm jv' bv'))) : rx_R Lx xs (d + 9) 121 [.ref 54] (wX rm iv av (wM rm jv bv)) Q := by
  refine pz_en (t := rt_121) ⟨Nat.le_of_ble_eq_true rfl, rfl⟩ rfl rfl ?_
  refine pz_aln (i := 0) rfl rfl ?_
  refine pz_get (i := 1) rfl (gf_54_28 ..) ?_
  rw [hv.2.2.2.2.2.2.1]
  refine pz_isn (i := 2) rfl ⟨rfl, Nat.le_of_ble_eq_true rfl⟩ rfl ?_
  refine pz_ic (i := 3) rfl ?_
  refine pz_isn (i := 4) rfl ⟨rfl, Nat.le_of_ble_eq_true rfl⟩ rfl ?_
  exact lq_pa hr hb.2 1000 1 s V lg jv jv bv bv 1 (by decide) ⟨fun _ => ⟨hd, frI_rfl _ _, frA_rfl _ _⟩, fun w => by rw [hdn] at w; cases w⟩ (fun _ => ⟨hv, rfl, hb.1, hI, hE⟩) hQ
end SB7
