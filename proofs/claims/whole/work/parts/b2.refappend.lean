/-! PART B2: the reference: append, writeRoot -/
theorem lB_get {l : List Nat} {k x : Nat} (h : l.getD k 0 = x) : lB l k = bS x := by
  unfold lB
  rw [h]
section SB2
variable {Lx : Nat} {xs : Nat → Int32} {d rm : Nat} {iv : Nat → Int32} {av : Nat → Nat → Int32} {jv : Nat → Int32} {bv : Nat → Nat → Int32} {Q : rQ}
set_option maxRecDepth 20000 in
theorem lp_a46 (hr : 512 ≤ rm ∧ rm ≤ 4096) {kd key len h n : Nat} {s2 : dS} {x4 : Option Value} (hkd : kd < 256) (hkey : key < 256) (hlen : len ≤ 64) (hd : dM rm jv bv s2) (hdn : s2.2.2.2.2.2 = false) (hc : cp s2 1 12) (h12 : jv 12 = nI h) (h16 : jv 16 = nI n) (hb : h < 2 ^ 30 - 200 ∧ n < 2 ^ 30 - 200) (hQ : ∀ jv' bv' z, oM rm jv bv jv' bv' (wr s2 (wL (h % rm) (hdB kd key len n))) [0, 1, 2, 12, 16] [2, 4, 5, 6, 7, 8, 23] → ((wr s2 (wL (h % rm) (hdB kd key len n))).2.2.2.2.2 = false → z = 1 ∧ jv' 12 = nI (h + 12 + len) ∧ jv' 16 = nI (n + 1)) → ((wr s2 (wL (h % rm) (hdB kd key len n))).2.2.2.2.2 = true → z = 0) → Q (some (.int z)) (wX rm iv av (wM rm jv' bv'))) : pz Lx xs (d + 4) rt_100 (some .boolean) Q 46 [some (.ref 54), some (.int (nI kd)), some (.int (nI key)), some (.int (nI len)), x4] [] (wX rm iv av (wM rm jv bv)) := by
  have hr' : 0 < rm ∧ rm ≤ 4096 := ⟨by omega, hr.2⟩
  have hn0 : uN (nI n) = n := uN_nI (by omega)
  refine pz_aln (i := 46) rfl rfl ?_
  refine pz_get (i := 47) rfl (gf_54_45 ..) ?_
  refine pz_ic (i := 48) rfl ?_
  refine pz_iln (i := 49) rfl rfl ?_
  refine pz_i2b (i := 50) rfl ?_
  rw [i8_of, show (nI kd).toBitVec.toNat % 256 = kd from by have := uN_nI (n := kd) (by omega); unfold uN at this; rw [this]; omega]
  refine pz_bas (i := 51) rfl (ga_78 ..) rfl (in_ofI (a := 0) (n := 1300) (by decide)) (pa_78 ..) ?_
  rw [show (0 : Int32).toNatClampNeg = 0 from rfl]
  refine pz_aln (i := 52) rfl rfl ?_
  refine pz_get (i := 53) rfl (gf_54_45 ..) ?_
  refine pz_ic (i := 54) rfl ?_
  refine pz_iln (i := 55) rfl rfl ?_
  refine pz_i2b (i := 56) rfl ?_
  rw [i8_of, show (nI key).toBitVec.toNat % 256 = key from by have := uN_nI (n := key) (by omega); unfold uN at this; rw [this]; omega]
  refine pz_bas (i := 57) rfl (ga_78 ..) rfl (in_ofI (a := 1) (n := 1300) (by decide)) (pa_78 ..) ?_
  rw [show (1 : Int32).toNatClampNeg = 1 from rfl]
  refine pz_aln (i := 58) rfl rfl ?_
  refine pz_get (i := 59) rfl (gf_54_45 ..) ?_
  refine pz_ic (i := 60) rfl ?_
  refine pz_iln (i := 61) rfl rfl ?_
  refine pz_i2b (i := 62) rfl ?_
  rw [i8_of, show (nI len).toBitVec.toNat % 256 = len from by have := uN_nI (n := len) (by omega); unfold uN at this; rw [this]; omega]
  refine pz_bas (i := 63) rfl (ga_78 ..) rfl (in_ofI (a := 2) (n := 1300) (by decide)) (pa_78 ..) ?_
  rw [show (2 : Int32).toNatClampNeg = 2 from rfl]
  refine pz_aln (i := 64) rfl rfl ?_
  refine pz_get (i := 65) rfl (gf_54_45 ..) ?_
  refine pz_ic (i := 66) rfl ?_
  refine pz_ic (i := 67) rfl ?_
  refine pz_bas (i := 68) rfl (ga_78 ..) rfl (in_ofI (a := 3) (n := 1300) (by decide)) (pa_78 ..) ?_
  rw [show (3 : Int32).toNatClampNeg = 3 from rfl]
  refine pz_aln (i := 69) rfl rfl ?_
  refine pz_ic (i := 70) rfl ?_
  refine pz_aln (i := 71) rfl rfl ?_
  refine pz_get (i := 72) rfl (gf_54_32 ..) ?_
  rw [h16]
  refine pz_cV2 (i := 73) rfl (gc_54 ..) rfl (Nat.le_of_ble_eq_true rfl) rfl ?_
  refine sm_put4 (q := 4) (by decide) (fun bv1 f1 a1 b1 => ?_)
  rw [hn0] at a1
  refine ⟨rfl, ?_⟩
  refine pz_aln (i := 74) rfl rfl ?_
  refine pz_bi (i := 75) rfl ?_
  refine pz_aln (i := 76) rfl rfl ?_
  refine pz_get (i := 77) rfl (gf_54_32 ..) ?_
  rw [h16]
  refine pz_cV2 (i := 78) rfl (gc_54 ..) rfl (Nat.le_of_ble_eq_true rfl) rfl ?_
  refine sm_put4 (q := 8) (by decide) (fun bv2 f2 a2 b2 => ?_)
  rw [hn0] at a2
  refine ⟨rfl, ?_⟩
  refine pz_aln (i := 79) rfl rfl ?_
  refine pz_ic (i := 80) rfl ?_
  refine pz_aln (i := 81) rfl rfl ?_
  refine pz_get (i := 82) rfl (gf_54_28 ..) ?_
  rw [h12]
  refine pz_bi (i := 83) rfl ?_
  refine pz_cV3 (i := 84) rfl (gc_54 ..) rfl (Nat.le_of_ble_eq_true rfl) rfl ?_
  have F : frA bv bv2 [23] := frA_tr (frA_tr (S := [23]) (frA_up (frA_up (frA_up (frA_up (frA_rfl _ [23]) (by decide)) (by decide)) (by decide)) (by decide)) f1 (by decide) (by decide)) f2 (by decide) (by decide)
  have hbuf : ∀ k, k < 12 → bv2 23 k = lB (hdB kd key len n) k := fun k hk => by
    have hc12 : k = 0 ∨ k = 1 ∨ k = 2 ∨ k = 3 ∨ k = 4 ∨ k = 5 ∨ k = 6 ∨ k = 7 ∨ k = 8 ∨ k = 9 ∨ k = 10 ∨ k = 11 := by omega
    rcases hc12 with z | z | z | z | z | z | z | z | z | z | z | z <;> subst z
    · rw [b2 0 (by decide), b1 0 (by decide), ua_s, ui_n (by decide), ua_s, ui_n (by decide), ua_s, ui_n (by decide), ua_s, ui_s]
      exact bS_bt _
    · rw [b2 1 (by decide), b1 1 (by decide), ua_s, ui_n (by decide), ua_s, ui_n (by decide), ua_s, ui_s]
      exact bS_bt _
    · rw [b2 2 (by decide), b1 2 (by decide), ua_s, ui_n (by decide), ua_s, ui_s]
      exact bS_bt _
    · rw [b2 3 (by decide), b1 3 (by decide), ua_s, ui_s]
      rfl
    · rw [b2 4 (by decide)]
      exact a1 0 (by decide)
    · rw [b2 5 (by decide)]
      exact a1 1 (by decide)
    · rw [b2 6 (by decide)]
      exact a1 2 (by decide)
    · rw [b2 7 (by decide)]
      exact a1 3 (by decide)
    · exact a2 0 (by decide)
    · exact a2 1 (by decide)
    · exact a2 2 (by decide)
    · exact a2 3 (by decide)
  refine sm_wrL hr' (dM_fr hd (frI_rfl jv []) F (by decide) (by decide)) hdn (a := 0) (q := h) (c := h % rm) (l := hdB kd key len n) (by decide) (by omega) (by show 0 < 12; decide) (by show 12 ≤ 1300; decide) (Or.inl ⟨rfl, by show 12 ≤ rm; omega⟩) (Nat.zero_add _) hbuf hc (fun jv3 bv3 o3 => ?_)
  have O3 : oM rm jv bv jv3 bv3 (wr s2 (wL (h % rm) (hdB kd key len n))) [0, 1, 2] [2, 4, 5, 6, 7, 8, 23] := oM_tr (frI_rfl jv []) F o3 (by decide) (by decide) (by decide) (by decide) (by decide) (by decide)
  refine ⟨rfl, ?_⟩
  refine pz_aln (i := 85) rfl rfl ?_
  refine pz_get (i := 86) rfl (gf_54_15 ..) ?_
  rw [oM_5 O3]
  refine pz_if_eq (i := 87) rfl (fun c87 => ?_) (fun c87 => ?_)
  · have hda := bB_f c87
    obtain ⟨d1, d2, d3⟩ := O3.1 hda
    refine pz_aln (i := 90) rfl rfl ?_
    refine pz_aln (i := 91) rfl rfl ?_
    refine pz_get (i := 92) rfl (gf_54_28 ..) ?_
    rw [d2 12 (by decide), h12]
    refine pz_bi (i := 93) rfl ?_
    refine pz_add (i := 94) rfl ?_
    rw [show nI h + 12 = nI (h + 12) from nI_add _ 12]
    refine pz_iln (i := 95) rfl rfl ?_
    refine pz_add (i := 96) rfl ?_
    rw [nI_add]
    refine pz_put (i := 97) rfl (pf_54_28 ..) ⟨rfl, rfl⟩ ?_
    refine pz_aln (i := 98) rfl rfl ?_
    refine pz_dup (i := 99) rfl rfl ?_
    refine pz_get (i := 100) rfl (gf_54_32 ..) ?_
    rw [ui_n (by decide), d2 16 (by decide), h16]
    refine pz_ic (i := 101) rfl ?_
    refine pz_add (i := 102) rfl ?_
    rw [show nI n + 1 = nI (n + 1) from nI_add _ 1]
    refine pz_put (i := 103) rfl (pf_54_32 ..) ⟨rfl, rfl⟩ ?_
    refine pz_ic (i := 104) rfl ?_
    refine pz_ir (i := 105) rfl rfl rfl ?_
    have g1 : frI jv3 (upd (upd jv3 12 (nI (h + 12 + len))) 16 (nI (n + 1))) [12, 16] := frI_up (frI_up (frI_rfl _ _) (by decide)) (by decide)
    refine hQ _ bv3 1 ⟨fun _ => ⟨dM_fr d1 g1 (frA_rfl _ []) (by decide) (by decide), frI_tr d2 g1 (by decide) (by decide), d3⟩, fun w => by rw [hda] at w; cases w⟩ (fun _ => ⟨rfl, ?_, ui_s _ _ _⟩) (fun w => by rw [hda] at w; cases w)
    rw [ui_n (by decide), ui_s]
  · refine pz_ic (i := 88) rfl ?_
    refine pz_ir (i := 89) rfl rfl rfl ?_
    have hdd := bB_t c87
    exact hQ jv3 bv3 0 (oM_dead O3 hdd) (fun w => by rw [hdd] at w; cases w) (fun _ => rfl)
set_option maxRecDepth 20000 in
theorem lp_a41 (hr : 512 ≤ rm ∧ rm ≤ 4096) {kd key len h n : Nat} {s2 : dS} {x4 : Option Value} {jv1 : Nat → Int32} {bv1 : Nat → Nat → Int32} (hkd : kd < 256) (hkey : key < 256) (hlen : len ≤ 64) (o : oM rm jv bv jv1 bv1 s2 [0, 1, 2] [2, 4, 5, 6, 7, 8, 23]) (hc : cp s2 1 12) (h12 : jv 12 = nI h) (h16 : jv 16 = nI n) (hb : h < 2 ^ 30 - 200 ∧ n < 2 ^ 30 - 200) (hQ : ∀ jv' bv' z, oM rm jv bv jv' bv' (wr s2 (wL (h % rm) (hdB kd key len n))) [0, 1, 2, 12, 16] [2, 4, 5, 6, 7, 8, 23] → ((wr s2 (wL (h % rm) (hdB kd key len n))).2.2.2.2.2 = false → z = 1 ∧ jv' 12 = nI (h + 12 + len) ∧ jv' 16 = nI (n + 1)) → ((wr s2 (wL (h % rm) (hdB kd key len n))).2.2.2.2.2 = true → z = 0) → Q (some (.int z)) (wX rm iv av (wM rm jv' bv'))) : pz Lx xs (d + 4) rt_100 (some .boolean) Q 41 [some (.ref 54), some (.int (nI kd)), some (.int (nI key)), some (.int (nI len)), x4] [] (wX rm iv av (wM rm jv1 bv1)) := by
  refine pz_aln (i := 41) rfl rfl ?_
  refine pz_get (i := 42) rfl (gf_54_15 ..) ?_
  rw [oM_5 o]
  refine pz_if_eq (i := 43) rfl (fun c43 => ?_) (fun c43 => ?_)
  · have hda := bB_f c43
    obtain ⟨d1, d2, d3⟩ := o.1 hda
    exact lp_a46 hr hkd hkey hlen d1 hda hc ((d2 12 (by decide)).trans h12) ((d2 16 (by decide)).trans h16) hb (fun jv2 bv2 z o2 => hQ jv2 bv2 z (oM_tr d2 d3 o2 (by decide) (by decide) (by decide) (by decide) (by decide) (by decide)))
  · refine pz_ic (i := 44) rfl ?_
    refine pz_ir (i := 45) rfl rfl rfl ?_
    have hdd := bB_t c43
    have e : wr s2 (wL (h % rm) (hdB kd key len n)) = s2 := wr_dead hdd
    rw [e] at hQ
    exact hQ jv1 bv1 0 (oM_dead o hdd) (fun w => by rw [hdd] at w; cases w) (fun _ => rfl)
set_option maxRecDepth 20000 in
theorem lp_acp {kd key len : Nat} {val : List Nat} (hl : len = val.length) (hlen : len ≤ 64) {bv0 : Nat → Nat → Int32} (hval : ∀ k, k < val.length → bv0 24 k = lB val k) (hQ : ∀ bv', frA bv0 bv' [23] → (∀ j, j < len → bv' 23 j = lB val j) → pz Lx xs d rt_100 (some .boolean) Q 33 [some (.ref 54), some (.int (nI kd)), some (.int (nI key)), some (.int (nI len)), some (.int (nI len))] [] (wX rm iv av (wM rm jv bv'))) : ∀ (m k : Nat) (bv : Nat → Nat → Int32), k + m = len → frA bv0 bv [23] → (∀ j, j < k → bv 23 j = lB val j) → pz Lx xs d rt_100 (some .boolean) Q 20 [some (.ref 54), some (.int (nI kd)), some (.int (nI key)), some (.int (nI len)), some (.int (nI k))] [] (wX rm iv av (wM rm jv bv))
  | 0, k, bv, hk, f, h1 => by
    obtain rfl : k = len := by omega
    refine pz_il (i := 20) rfl rfl ?_
    refine pz_iln (i := 21) rfl rfl ?_
    refine pz_ii_ge (i := 22) rfl (fun c22 => ?_) (fun c22 => ?_)
    · exact hQ bv f h1
    · exact absurd (Int32.le_refl _) c22
  | m + 1, k, bv, hk, f, h1 => by
    have hkl : k < len := by omega
    refine pz_il (i := 20) rfl rfl ?_
    refine pz_iln (i := 21) rfl rfl ?_
    refine pz_ii_ge (i := 22) rfl (fun c22 => ?_) (fun c22 => ?_)
    · exact absurd (le_ofI c22) (by omega)
    · refine pz_aln (i := 23) rfl rfl ?_
      refine pz_get (i := 24) rfl (gf_54_45 ..) ?_
      refine pz_il (i := 25) rfl rfl ?_
      refine pz_aln (i := 26) rfl rfl ?_
      refine pz_get (i := 27) rfl (gf_54_50 ..) ?_
      refine pz_il (i := 28) rfl rfl ?_
      refine pz_bal (i := 29) rfl (ga_79 ..) rfl (in_ofI (by omega)) ?_
      rw [cl_ofI (a := k), f 24 (by decide), hval k (by omega)]
      refine pz_bas (i := 30) rfl (ga_78 ..) rfl (in_ofI (by omega)) (pa_78 ..) ?_
      rw [cl_ofI (a := k)]
      refine pz_inc (i := 31) rfl rfl rfl rfl ?_
      rw [show nI k + 1 = nI (k + 1) from nI_add k 1]
      refine pz_go (i := 32) rfl ?_
      refine lp_acp hl hlen hval hQ m (k + 1) _ (by omega) (frA_tr f (frA_up (frA_rfl _ [23]) (by decide)) (by decide) (by decide)) (fun j hj => ?_)
      rw [ua_s]
      by_cases e : j = k
      · subst e
        rw [ui_s]
        exact lB_bt val j
      · rw [ui_n e]
        exact h1 j (by omega)
set_option maxRecDepth 20000 in
theorem sm_append (hr : 512 ≤ rm ∧ rm ≤ 4096) {kd key h n : Nat} {val : List Nat} {s : dS} (hkd : kd < 256) (hkey : key < 256) (hlen : val.length ≤ 64) (hval : ∀ k, k < val.length → bv 24 k = lB val k) (hd : dM rm jv bv s) (hdn : s.2.2.2.2.2 = false) (hc : cp s 3 (24 + val.length)) (h12 : jv 12 = nI h) (h16 : jv 16 = nI n) (hb : h < 2 ^ 30 - 200 ∧ n < 2 ^ 30 - 200) (hQ : ∀ jv' bv' z, oM rm jv bv jv' bv' (apS rm s kd key val h n) [0, 1, 2, 12, 16] [2, 4, 5, 6, 7, 8, 23] → ((apS rm s kd key val h n).2.2.2.2.2 = false → z = 1 ∧ jv' 12 = nI (h + 12 + val.length) ∧ jv' 16 = nI (n + 1)) → ((apS rm s kd key val h n).2.2.2.2.2 = true → z = 0) → Q (some (.int z)) (wX rm iv av (wM rm jv' bv'))) : rx_R Lx xs (d + 5) 100 [.ref 54, .int (nI kd), .int (nI key), .int (nI val.length)] (wX rm iv av (wM rm jv bv)) Q := by
  refine pz_en (t := rt_100) ⟨Nat.le_of_ble_eq_true rfl, rfl⟩ rfl rfl ?_
  have hr' : 0 < rm ∧ rm ≤ 4096 := ⟨by omega, hr.2⟩
  unfold apS at hQ
  have hz12 : z12.length = 12 := rfl
  have F0 : frA bv (up_a bv 23 (fun j => if j < 12 then 0 else bv 23 j)) [23] := frA_up (frA_rfl _ _) (by decide)
  refine pz_aln (i := 0) rfl rfl ?_
  refine pz_bi (i := 1) rfl ?_
  refine pz_cV1 (i := 2) rfl (gc_54 ..) rfl (Nat.le_of_ble_eq_true rfl) rfl ?_
  refine sm_clearBuffer (n := 12) (by decide) ?_
  refine ⟨rfl, ?_⟩
  refine pz_aln (i := 3) rfl rfl ?_
  refine pz_ic (i := 4) rfl ?_
  refine pz_aln (i := 5) rfl rfl ?_
  refine pz_get (i := 6) rfl (gf_54_28 ..) ?_
  rw [h12]
  refine pz_bi (i := 7) rfl ?_
  refine pz_add (i := 8) rfl ?_
  rw [show nI h + 12 = nI (h + 12) from nI_add _ 12]
  refine pz_iln (i := 9) rfl rfl ?_
  refine pz_add (i := 10) rfl ?_
  rw [nI_add]
  refine pz_bi (i := 11) rfl ?_
  refine pz_cV3 (i := 12) rfl (gc_54 ..) rfl (Nat.le_of_ble_eq_true rfl) rfl ?_
  refine sm_wrL hr' (dM_fr hd (frI_rfl jv []) F0 (by decide) (by decide)) hdn (a := 0) (q := h + 12 + val.length) (c := (h + 12 + val.length) % rm) (l := z12) (by decide) (by omega) (by decide) (by decide) (Or.inl ⟨rfl, by show 12 ≤ rm; omega⟩) (Nat.zero_add _) (fun k hk => by rw [ua_s, show lB z12 k = 0 from lB_z 12 k]; exact if_pos hk) (cp_le hc (by decide) (by show 12 ≤ _; omega)) (fun jv1 bv1 o1 => ?_)
  have O1 : oM rm jv bv jv1 bv1 (wr s (wL ((h + 12 + val.length) % rm) z12)) [0, 1, 2] [2, 4, 5, 6, 7, 8, 23] := oM_tr (frI_rfl jv []) F0 o1 (by decide) (by decide) (by decide) (by decide) (by decide) (by decide)
  have hc1 : cp (wr s (wL ((h + 12 + val.length) % rm) z12)) 2 (12 + val.length) := cp_wr (cp_le hc (Nat.le_refl _) (by show 12 + (12 + val.length) ≤ _; omega))
  refine ⟨rfl, ?_⟩
  refine pz_aln (i := 13) rfl rfl ?_
  refine pz_get (i := 14) rfl (gf_54_15 ..) ?_
  rw [oM_5 O1]
  refine pz_if_ne (i := 15) rfl (fun c15 => ?_) (fun c15 => ?_)
  · first
      | (have hdd := bB_t c15
         by_cases hv : val.length = 0
         · rw [if_pos hv] at hQ
           exact lp_a41 hr hkd hkey hlen O1 (cp_le hc1 (by decide) (by omega)) h12 h16 hb hQ
         · rw [if_neg hv, wr_dead (x := wL ((h + 12) % rm) val) hdd] at hQ
           exact lp_a41 hr hkd hkey hlen O1 (cp_le hc1 (by decide) (by omega)) h12 h16 hb hQ)
      | (have hv : val.length = 0 := by
           have := le_ofI (b := 0) c17
           omega
         rw [if_pos hv] at hQ
         exact lp_a41 hr hkd hkey hlen O1 (cp_le hc1 (by decide) (by omega)) h12 h16 hb hQ)
  · refine pz_iln (i := 16) rfl rfl ?_
    refine pz_if_le (i := 17) rfl (fun c17 => ?_) (fun c17 => ?_)
    · first
        | (have hdd := bB_t c15
           by_cases hv : val.length = 0
           · rw [if_pos hv] at hQ
             exact lp_a41 hr hkd hkey hlen O1 (cp_le hc1 (by decide) (by omega)) h12 h16 hb hQ
           · rw [if_neg hv, wr_dead (x := wL ((h + 12) % rm) val) hdd] at hQ
             exact lp_a41 hr hkd hkey hlen O1 (cp_le hc1 (by decide) (by omega)) h12 h16 hb hQ)
        | (have hv : val.length = 0 := by
             have := le_ofI (b := 0) c17
             omega
           rw [if_pos hv] at hQ
           exact lp_a41 hr hkd hkey hlen O1 (cp_le hc1 (by decide) (by omega)) h12 h16 hb hQ)
    · refine pz_ic (i := 18) rfl ?_
      refine pz_is (i := 19) rfl ⟨rfl, Nat.le_of_ble_eq_true rfl⟩ rfl ?_
      have hda := bB_f c15
      have hv : ¬ val.length = 0 := fun z => c17 (by rw [z]; exact Int32.le_refl _)
      obtain ⟨d1, d2, d3⟩ := O1.1 hda
      rw [if_neg hv] at hQ
      refine lp_acp (len := val.length) (val := val) rfl hlen (bv0 := bv1) (fun k hk => by rw [d3 24 (by decide)]; exact hval k hk) (fun bv2 f2 b2 => ?_) val.length 0 bv1 (Nat.zero_add _) (frA_rfl _ _) (fun j hj => absurd hj (Nat.not_lt_zero j))
      refine pz_aln (i := 33) rfl rfl ?_
      refine pz_ic (i := 34) rfl ?_
      refine pz_aln (i := 35) rfl rfl ?_
      refine pz_get (i := 36) rfl (gf_54_28 ..) ?_
      rw [d2 12 (by decide), h12]
      refine pz_bi (i := 37) rfl ?_
      refine pz_add (i := 38) rfl ?_
      rw [show nI h + 12 = nI (h + 12) from nI_add _ 12]
      refine pz_iln (i := 39) rfl rfl ?_
      refine pz_cV3 (i := 40) rfl (gc_54 ..) rfl (Nat.le_of_ble_eq_true rfl) rfl ?_
      refine sm_wrL hr' (dM_fr d1 (frI_rfl jv1 []) f2 (by decide) (by decide)) hda (a := 0) (q := h + 12) (c := (h + 12) % rm) (l := val) (by decide) (by omega) (by omega) (by omega) (Or.inl ⟨rfl, by omega⟩) (Nat.zero_add _) b2 (cp_le hc1 (by decide) (by omega)) (fun jv3 bv3 o3 => ?_)
      have O3 : oM rm jv bv jv3 bv3 (wr (wr s (wL ((h + 12 + val.length) % rm) z12)) (wL ((h + 12) % rm) val)) [0, 1, 2] [2, 4, 5, 6, 7, 8, 23] := oM_tr d2 d3 (oM_tr (frI_rfl jv1 []) f2 o3 (S := [0, 1, 2]) (A := [2, 4, 5, 6, 7, 8, 23]) (by decide) (by decide) (by decide) (by decide) (by decide) (by decide)) (by decide) (by decide) (by decide) (by decide) (by decide) (by decide)
      refine ⟨rfl, ?_⟩
      exact lp_a41 hr hkd hkey hlen O3 (cp_wr (cp_le hc1 (Nat.le_refl _) (by show val.length + 12 ≤ _; omega))) h12 h16 hb hQ
/-- the numbers of the reference -/
def nM (jv : Nat → Int32) (n : Nat → Nat) : Prop := jv 18 = nI (n 1) ∧ jv 14 = nI (n 2) ∧ jv 15 = nI (n 3) ∧ jv 13 = nI (n 4) ∧ jv 12 = nI (n 5) ∧ jv 16 = nI (n 6) ∧ jv 17 = nI (n 7)
theorem nM_fr {jv jv' : Nat → Int32} {n : Nat → Nat} {S : List Nat} (h : nM jv n) (f : frI jv jv' S) (hS : ∀ x ∈ S, x < 12 ∨ 18 < x) : nM jv' n := by
  have g : ∀ j, 12 ≤ j → j ≤ 18 → jv' j = jv j := fun j h1 h2 => f j (fun z => by have := hS j z; omega)
  unfold nM at h ⊢
  rw [g 18 (by decide) (by decide), g 14 (by decide) (by decide), g 15 (by decide) (by decide), g 13 (by decide) (by decide), g 12 (by decide) (by decide), g 16 (by decide) (by decide), g 17 (by decide) (by decide)]
  exact h
theorem rt_pl {rm v : Nat} (k : Nat) (hk : k < 64) : plM rm 2 (64 * (v % 2) + k) = rtC rm v + k := by
  rw [pl_2 (by omega)]
  unfold rtC
  omega
set_option maxRecDepth 20000 in
theorem lp_rtm {q : Nat} {us : List tB} (hu : uM jv bv us) {bv0 : Nat → Nat → Int32} (h15 : bv0 15 = bv 15) (hQ : ∀ bv', frA bv0 bv' [23] → (∀ i, i < us.length → bv' 23 (21 + i) = (bv 15 i).toInt8.toInt32) → (∀ j, j < 21 ∨ 21 + us.length ≤ j → bv' 23 j = bv0 23 j) → pz Lx xs d rt_116 none Q 78 [some (.ref 54), some (.int (nI q)), some (.int (nI us.length))] [] (wX rm iv av (wM rm jv bv'))) : ∀ (m k : Nat) (bw : Nat → Nat → Int32), k + m = us.length → frA bv0 bw [23] → (∀ i, i < k → bw 23 (21 + i) = (bv 15 i).toInt8.toInt32) → (∀ j, j < 21 ∨ 21 + k ≤ j → bw 23 j = bv0 23 j) → pz Lx xs d rt_116 none Q 61 [some (.ref 54), some (.int (nI q)), some (.int (nI k))] [] (wX rm iv av (wM rm jv bw))
  | 0, k, bw, hk, f, h1, h2 => by
    obtain rfl : k = us.length := by omega
    refine pz_iln (i := 61) rfl rfl ?_
    refine pz_aln (i := 62) rfl rfl ?_
    refine pz_get (i := 63) rfl (gf_54_36 ..) ?_
    rw [hu.1]
    refine pz_ii_ge (i := 64) rfl (fun c64 => ?_) (fun c64 => ?_)
    · exact hQ bw f h1 h2
    · exact absurd (Int32.le_refl _) c64
  | m + 1, k, bw, hk, f, h1, h2 => by
    have h6 := hu.2.1
    have hkl : k < us.length := by omega
    refine pz_iln (i := 61) rfl rfl ?_
    refine pz_aln (i := 62) rfl rfl ?_
    refine pz_get (i := 63) rfl (gf_54_36 ..) ?_
    rw [hu.1]
    refine pz_ii_ge (i := 64) rfl (fun c64 => ?_) (fun c64 => ?_)
    · exact absurd (le_ofI c64) (by omega)
    · refine pz_aln (i := 65) rfl rfl ?_
      refine pz_get (i := 66) rfl (gf_54_45 ..) ?_
      refine pz_bi (i := 67) rfl ?_
      refine pz_iln (i := 68) rfl rfl ?_
      refine pz_add (i := 69) rfl ?_
      rw [show (21 : Int32) + nI k = nI (21 + k) from nI_add 21 _]
      refine pz_aln (i := 70) rfl rfl ?_
      refine pz_get (i := 71) rfl (gf_54_35 ..) ?_
      refine pz_iln (i := 72) rfl rfl ?_
      refine pz_ial (i := 73) rfl (ga_70 ..) (in_ofI (by omega)) ?_
      rw [cl_ofI (a := k), f 15 (by decide), h15]
      refine pz_i2b (i := 74) rfl ?_
      refine pz_bas (i := 75) rfl (ga_78 ..) rfl (in_ofI (by omega)) (pa_78 ..) ?_
      rw [cl_ofI (a := 21 + k)]
      refine pz_inc (i := 76) rfl rfl rfl rfl ?_
      rw [show nI k + 1 = nI (k + 1) from nI_add k 1]
      refine pz_go (i := 77) rfl ?_
      refine lp_rtm hu h15 hQ m (k + 1) _ (by omega) (frA_tr f (frA_up (frA_rfl _ [23]) (by decide)) (by decide) (by decide)) (fun j hj => ?_) (fun j hj => ?_)
      · rw [ua_s]
        by_cases e : j = k
        · subst e
          rw [ui_s]
          rw [i8_of]
          exact bS_bt _
        · rw [ui_n (by omega)]
          exact h1 j (by omega)
      · rw [ua_s, ui_n (by omega)]
        exact h2 j (by omega)
set_option maxRecDepth 20000 in
theorem sm_writeRoot (hr : 512 ≤ rm ∧ rm ≤ 4096) {V : vW} {s : dS} (hd : dM rm jv bv s) (hdn : s.2.2.2.2.2 = false) (hc : cp s 3 68) (hu : uM jv bv V.1) (hn : nM jv V.2.2) (hb : ∀ i, 1 ≤ i → i ≤ 7 → V.2.2 i < 2 ^ 30 - 10) (hQ : ∀ jv' bv', oM rm jv bv jv' bv' (rtS rm s (rtV V)) [0, 1, 2, 18] [2, 4, 5, 6, 7, 8, 23] → ((rtS rm s (rtV V)).2.2.2.2.2 = false → jv' 18 = nI (V.2.2 1 + 1)) → Q none (wX rm iv av (wM rm jv' bv'))) : rx_R Lx xs (d + 5) 116 [.ref 54] (wX rm iv av (wM rm jv bv)) Q := by
  refine pz_en (t := rt_116) ⟨Nat.le_of_ble_eq_true rfl, rfl⟩ rfl rfl ?_
  have hr' : 0 < rm ∧ rm ≤ 4096 := ⟨by omega, hr.2⟩
  have h6 := hu.2.1
  obtain ⟨u1, u2, u3, u4, u5, u6, u7⟩ := id hn
  have b1 := hb 1 (by decide) (by decide)
  have b2 := hb 2 (by decide) (by decide)
  have b3 := hb 3 (by decide) (by decide)
  have b4 := hb 4 (by decide) (by decide)
  have b7 := hb 7 (by decide) (by decide)
  have hv : (rtV V).2.2 1 = V.2.2 1 + 1 := rfl
  unfold rtS at hQ
  rw [hv] at hQ
  have g0 : frI jv (upd jv 18 (nI (V.2.2 1 + 1))) [18] := frI_up (frI_rfl _ _) (by decide)
  have F0 : frA bv (up_a bv 23 (fun j => if j < 64 then 0 else bv 23 j)) [23] := frA_up (frA_rfl _ _) (by decide)
  have hm2 : (V.2.2 1 + 1) % 2 < 2 := Nat.mod_lt _ (by decide)
  refine pz_aln (i := 0) rfl rfl ?_
  refine pz_dup (i := 1) rfl rfl ?_
  refine pz_get (i := 2) rfl (gf_54_34 ..) ?_
  rw [u1]
  refine pz_ic (i := 3) rfl ?_
  refine pz_add (i := 4) rfl ?_
  rw [show nI (V.2.2 1) + 1 = nI (V.2.2 1 + 1) from nI_add _ 1]
  refine pz_put (i := 5) rfl (pf_54_34 ..) ⟨rfl, rfl⟩ ?_
  refine pz_bi (i := 6) rfl ?_
  refine pz_aln (i := 7) rfl rfl ?_
  refine pz_get (i := 8) rfl (gf_54_34 ..) ?_
  rw [ui_s]
  refine pz_ic (i := 9) rfl ?_
  refine pz_rem (i := 10) rfl (by decide) ?_
  rw [show nI (V.2.2 1 + 1) - nI (V.2.2 1 + 1) / 2 * 2 = nI ((V.2.2 1 + 1) % 2) from pk_rem (by omega) (by decide) (by decide)]
  refine pz_mul (i := 11) rfl ?_
  rw [show (64 : Int32) * nI ((V.2.2 1 + 1) % 2) = nI (64 * ((V.2.2 1 + 1) % 2)) from pk_mul 64 _]
  refine pz_isn (i := 12) rfl ⟨rfl, Nat.le_of_ble_eq_true rfl⟩ rfl ?_
  refine pz_aln (i := 13) rfl rfl ?_
  refine pz_bi (i := 14) rfl ?_
  refine pz_cV1 (i := 15) rfl (gc_54 ..) rfl (Nat.le_of_ble_eq_true rfl) rfl ?_
  refine sm_clearBuffer (n := 64) (by decide) ?_
  refine ⟨rfl, ?_⟩
  refine pz_aln (i := 16) rfl rfl ?_
  refine pz_ic (i := 17) rfl ?_
  refine pz_iln (i := 18) rfl rfl ?_
  refine pz_bi (i := 19) rfl ?_
  refine pz_add (i := 20) rfl ?_
  rw [show nI (64 * ((V.2.2 1 + 1) % 2)) + 60 = nI (64 * ((V.2.2 1 + 1) % 2) + 60) from nI_add _ 60]
  refine pz_ic (i := 21) rfl ?_
  refine pz_cV3 (i := 22) rfl (gc_54 ..) rfl (Nat.le_of_ble_eq_true rfl) rfl ?_
  refine sm_wrL hr' (dM_fr hd g0 F0 (by decide) (by decide)) hdn (a := 2) (q := 64 * ((V.2.2 1 + 1) % 2) + 60) (c := rtC rm (V.2.2 1 + 1) + 60) (l := List.replicate 4 0) (by decide) (by omega) (by decide) (by decide) (Or.inr (Or.inr ⟨rfl, by show 64 * ((V.2.2 1 + 1) % 2) + 60 + 4 ≤ 128; omega⟩)) (rt_pl 60 (by decide)) (fun k hk => by rw [ua_s, lB_z]; exact if_pos (by have : k < 4 := hk; omega)) (cp_le hc (by decide) (by decide)) (fun jv1 bv1 o1 => ?_)
  have O1 : oM rm jv bv jv1 bv1 (wr s (wL (rtC rm (V.2.2 1 + 1) + 60) (List.replicate 4 0))) [0, 1, 2, 18] [2, 4, 5, 6, 7, 8, 23] := oM_tr g0 F0 o1 (by decide) (by decide) (by decide) (by decide) (by decide) (by decide)
  have hc1 : cp (wr s (wL (rtC rm (V.2.2 1 + 1) + 60) (List.replicate 4 0))) 2 64 := cp_wr (cp_le hc (Nat.le_refl _) (by show 4 + 64 ≤ 68; decide))
  refine ⟨rfl, ?_⟩
  refine pz_aln (i := 23) rfl rfl ?_
  refine pz_get (i := 24) rfl (gf_54_15 ..) ?_
  rw [oM_5 O1]
  refine pz_if_eq (i := 25) rfl (fun c25 => ?_) (fun c25 => ?_)
  · have hda := bB_f c25
    obtain ⟨d1, d2, d3⟩ := o1.1 hda
    have e18 : jv1 18 = nI (V.2.2 1 + 1) := (d2 18 (by decide)).trans (ui_s _ _ _)
    have G1 : frI jv jv1 [0, 1, 2, 18] := frI_tr g0 d2 (by decide) (by decide)
    have hz1 : ∀ j, j < 64 → bv1 23 j = 0 := fun j hj => by
      rw [d3 23 (by decide), ua_s]
      exact if_pos hj
    refine pz_aln (i := 27) rfl rfl ?_
    refine pz_ic (i := 28) rfl ?_
    refine pz_aln (i := 29) rfl rfl ?_
    refine pz_get (i := 30) rfl (gf_54_34 ..) ?_
    rw [e18]
    refine pz_cV2 (i := 31) rfl (gc_54 ..) rfl (Nat.le_of_ble_eq_true rfl) rfl ?_
    refine sm_put4 (q := 0) (by decide) (fun w0 f0 a0 z0 => ?_)
    rw [uN_nI (by omega)] at a0
    refine ⟨rfl, ?_⟩
    refine pz_aln (i := 32) rfl rfl ?_
    refine pz_ic (i := 33) rfl ?_
    refine pz_aln (i := 34) rfl rfl ?_
    refine pz_get (i := 35) rfl (gf_54_30 ..) ?_
    rw [G1 14 (by decide), u2]
    refine pz_cV2 (i := 36) rfl (gc_54 ..) rfl (Nat.le_of_ble_eq_true rfl) rfl ?_
    refine sm_put4 (q := 4) (by decide) (fun w1 f1 a1 z1 => ?_)
    rw [uN_nI (by omega)] at a1
    refine ⟨rfl, ?_⟩
    refine pz_aln (i := 37) rfl rfl ?_
    refine pz_bi (i := 38) rfl ?_
    refine pz_aln (i := 39) rfl rfl ?_
    refine pz_get (i := 40) rfl (gf_54_29 ..) ?_
    rw [G1 13 (by decide), u4]
    refine pz_cV2 (i := 41) rfl (gc_54 ..) rfl (Nat.le_of_ble_eq_true rfl) rfl ?_
    refine sm_put4 (q := 8) (by decide) (fun w2 f2 a2 z2 => ?_)
    rw [uN_nI (by omega)] at a2
    refine ⟨rfl, ?_⟩
    refine pz_aln (i := 42) rfl rfl ?_
    refine pz_bi (i := 43) rfl ?_
    refine pz_aln (i := 44) rfl rfl ?_
    refine pz_get (i := 45) rfl (gf_54_31 ..) ?_
    rw [G1 15 (by decide), u3]
    refine pz_cV2 (i := 46) rfl (gc_54 ..) rfl (Nat.le_of_ble_eq_true rfl) rfl ?_
    refine sm_put4 (q := 12) (by decide) (fun w3 f3 a3 z3 => ?_)
    rw [uN_nI (by omega)] at a3
    refine ⟨rfl, ?_⟩
    refine pz_aln (i := 47) rfl rfl ?_
    refine pz_bi (i := 48) rfl ?_
    refine pz_aln (i := 49) rfl rfl ?_
    refine pz_get (i := 50) rfl (gf_54_33 ..) ?_
    rw [G1 17 (by decide), u7]
    refine pz_cV2 (i := 51) rfl (gc_54 ..) rfl (Nat.le_of_ble_eq_true rfl) rfl ?_
    refine sm_put4 (q := 16) (by decide) (fun w4 f4 a4 z4 => ?_)
    rw [uN_nI (by omega)] at a4
    refine ⟨rfl, ?_⟩
    refine pz_aln (i := 52) rfl rfl ?_
    refine pz_get (i := 53) rfl (gf_54_45 ..) ?_
    refine pz_bi (i := 54) rfl ?_
    refine pz_aln (i := 55) rfl rfl ?_
    refine pz_get (i := 56) rfl (gf_54_36 ..) ?_
    rw [G1 19 (by decide), hu.1]
    refine pz_i2b (i := 57) rfl ?_
    rw [i8_of, show (nI V.1.length).toBitVec.toNat % 256 = V.1.length from by have := uN_nI (n := V.1.length) (by omega); unfold uN at this; rw [this]; omega]
    refine pz_bas (i := 58) rfl (ga_78 ..) rfl (in_ofI (a := 20) (n := 1300) (by decide)) (pa_78 ..) ?_
    rw [show (20 : Int32).toNatClampNeg = 20 from rfl]
    refine pz_ic (i := 59) rfl ?_
    refine pz_isn (i := 60) rfl ⟨rfl, Nat.le_of_ble_eq_true rfl⟩ rfl ?_
    have FW : frA bv1 w4 [23] := frA_tr (frA_tr (S := [23]) (frA_tr (S := [23]) (frA_tr (S := [23]) f0 f1 (by decide) (by decide)) f2 (by decide) (by decide)) f3 (by decide) (by decide)) f4 (by decide) (by decide)
    have FU : frA w4 (up_a w4 23 (upd (w4 23) 20 (vp_nar (rx_tg 1) (bS V.1.length)))) [23] := frA_up (frA_rfl _ _) (by decide)
    have FB : frA bv1 (up_a w4 23 (upd (w4 23) 20 (vp_nar (rx_tg 1) (bS V.1.length)))) [23] := frA_tr FW FU (by decide) (by decide)
    have hu1 : uM jv1 bv1 V.1 := ⟨(G1 19 (by decide)).trans hu.1, hu.2.1, fun i t ht => by rw [d3 15 (by decide), ua_n (by decide)]; exact hu.2.2 i t ht⟩
    refine lp_rtm hu1 (FB 15 (by decide)) (fun bw fw hpl hkp => ?_) V.1.length 0 _ (Nat.zero_add _) (frA_rfl _ _) (fun i hi => absurd hi (Nat.not_lt_zero i)) (fun _ _ => rfl)
    have hbuf : ∀ k, k < 60 → bw 23 k = lB (rtB (rtV V)) k := by
      have e20 : bw 23 20 = bS V.1.length := by
        rw [hkp 20 (by omega), ua_s, ui_s]
        exact bS_bt _
      have low : ∀ j, j < 20 → bw 23 j = w4 23 j := fun j hj => by
        rw [hkp j (by omega), ua_s, ui_n (by omega)]
      have hgg : ∀ k, k < 60 → (fun k => if k < 60 then bw 23 k else lB (n4 (V.2.2 1 + 1)) (k - 60)) k = lB (rtB (rtV V)) k := rtB_get (V := rtV V) (iv := fun j => nI ((rtV V).2.2 (j - 10))) (pl := bv1 15) h6 (fun i t ht => hu1.2.2 i t ht) (fun i i1 i2 => ?_) ⟨fun j hj => ⟨?_, ?_, ?_, ?_, ?_, ?_⟩, ?_, fun i hi => ?_, fun j h1 h2 => ?_⟩
      · intro k hk
        have := hgg k hk
        simp only [if_pos hk] at this
        exact this
      · show uN (nI ((rtV V).2.2 (10 + i - 10))) = _
        rw [Nat.add_sub_cancel_left]
        refine uN_nI ?_
        have hb9 := hb i i1 i2
        by_cases e1 : i = 1
        · subst e1
          show V.2.2 1 + 1 < 2 ^ 32
          omega
        · show vs V.2.2 1 (V.2.2 1 + 1) i < 2 ^ 32
          rw [vs_n e1]
          omega
      · show (if 0 + j < 60 then bw 23 (0 + j) else _) = lB (n4 (uN (nI (V.2.2 1 + 1)))) j
        rw [if_pos (by omega), uN_nI (by omega), low _ (by omega), z4 _ (by omega), z3 _ (by omega), z2 _ (by omega), z1 _ (by omega)]
        exact a0 j hj
      · show (if 4 + j < 60 then bw 23 (4 + j) else _) = lB (n4 (uN (nI (V.2.2 2)))) j
        rw [if_pos (by omega), uN_nI (by omega), low _ (by omega), z4 _ (by omega), z3 _ (by omega), z2 _ (by omega)]
        exact a1 j hj
      · show (if 8 + j < 60 then bw 23 (8 + j) else _) = lB (n4 (uN (nI (V.2.2 4)))) j
        rw [if_pos (by omega), uN_nI (by omega), low _ (by omega), z4 _ (by omega), z3 _ (by omega)]
        exact a2 j hj
      · show (if 12 + j < 60 then bw 23 (12 + j) else _) = lB (n4 (uN (nI (V.2.2 3)))) j
        rw [if_pos (by omega), uN_nI (by omega), low _ (by omega), z4 _ (by omega)]
        exact a3 j hj
      · show (if 16 + j < 60 then bw 23 (16 + j) else _) = lB (n4 (uN (nI (V.2.2 7)))) j
        rw [if_pos (by omega), uN_nI (by omega), low _ (by omega)]
        exact a4 j hj
      · show (if 60 + j < 60 then _ else lB (n4 (V.2.2 1 + 1)) (60 + j - 60)) = lB (n4 (uN (nI (V.2.2 1 + 1)))) j
        rw [if_neg (by omega), uN_nI (by omega), Nat.add_sub_cancel_left]
      · show (if 20 < 60 then bw 23 20 else _) = bS V.1.length
        rw [if_pos (by decide)]
        exact e20
      · show (if 21 + i < 60 then bw 23 (21 + i) else _) = _
        have hi6 : i < V.1.length := hi
        rw [if_pos (by omega)]
        exact hpl i hi
      · show (if j < 60 then bw 23 j else _) = 0
        have h1' : 21 + V.1.length ≤ j := h1
        rw [if_pos h2, hkp j (Or.inr h1'), ua_s, ui_n (by omega), z4 _ (by omega), z3 _ (by omega), z2 _ (by omega), z1 _ (by omega), z0 _ (by omega)]
        exact hz1 j (by omega)
    have FC : frA bv1 bw [23] := frA_tr FB fw (by decide) (by decide)
    have hlB : (rtB (rtV V)).length = 60 := rtB_len h6
    rw [show (nI V.1.length) = nI V.1.length from rfl]
    refine pz_aln (i := 78) rfl rfl ?_
    refine pz_ic (i := 79) rfl ?_
    refine pz_iln (i := 80) rfl rfl ?_
    refine pz_bi (i := 81) rfl ?_
    rw [show (60 : Int32) = nI (rtB (rtV V)).length from by rw [hlB]; rfl]
    refine pz_cV3 (i := 82) rfl (gc_54 ..) rfl (Nat.le_of_ble_eq_true rfl) rfl ?_
    refine sm_wrL hr' (dM_fr d1 (frI_rfl jv1 []) FC (by decide) (by decide)) hda (a := 2) (q := 64 * ((V.2.2 1 + 1) % 2)) (c := rtC rm (V.2.2 1 + 1)) (l := rtB (rtV V)) (by decide) (by omega) (by omega) (by omega) (Or.inr (Or.inr ⟨rfl, by omega⟩)) (rt_pl 0 (by decide)) (fun k hk => hbuf k (by omega)) (cp_le hc1 (by decide) (by omega)) (fun jv5 bv5 o5 => ?_)
    have O5 : oM rm jv1 bv1 jv5 bv5 (wr (wr s (wL (rtC rm (V.2.2 1 + 1) + 60) (List.replicate 4 0))) (wL (rtC rm (V.2.2 1 + 1)) (rtB (rtV V)))) [0, 1, 2] [2, 4, 5, 6, 7, 8, 23] := oM_tr (frI_rfl jv1 []) FC o5 (by decide) (by decide) (by decide) (by decide) (by decide) (by decide)
    have hc5 : cp (wr (wr s (wL (rtC rm (V.2.2 1 + 1) + 60) (List.replicate 4 0))) (wL (rtC rm (V.2.2 1 + 1)) (rtB (rtV V)))) 1 4 := cp_wr (cp_le hc1 (Nat.le_refl _) (by show (rtB (rtV V)).length + 4 ≤ 64; omega))
    have D3 : frA bv bv1 [2, 4, 5, 6, 7, 8, 23] := frA_tr F0 d3 (by decide) (by decide)
    refine ⟨rfl, ?_⟩
    refine pz_aln (i := 83) rfl rfl ?_
    refine pz_get (i := 84) rfl (gf_54_15 ..) ?_
    rw [oM_5 O5]
    refine pz_if_eq (i := 85) rfl (fun c85 => ?_) (fun c85 => ?_)
    · have hdb := bB_f c85
      obtain ⟨e1, e2, e3⟩ := O5.1 hdb
      refine pz_aln (i := 87) rfl rfl ?_
      refine pz_ic (i := 88) rfl ?_
      refine pz_aln (i := 89) rfl rfl ?_
      refine pz_get (i := 90) rfl (gf_54_34 ..) ?_
      rw [e2 18 (by decide), e18]
      refine pz_cV2 (i := 91) rfl (gc_54 ..) rfl (Nat.le_of_ble_eq_true rfl) rfl ?_
      refine sm_put4 (q := 0) (by decide) (fun w6 f6 a6 z6 => ?_)
      rw [uN_nI (by omega)] at a6
      refine ⟨rfl, ?_⟩
      refine pz_aln (i := 92) rfl rfl ?_
      refine pz_ic (i := 93) rfl ?_
      refine pz_iln (i := 94) rfl rfl ?_
      refine pz_bi (i := 95) rfl ?_
      refine pz_add (i := 96) rfl ?_
      rw [show nI (64 * ((V.2.2 1 + 1) % 2)) + 60 = nI (64 * ((V.2.2 1 + 1) % 2) + 60) from nI_add _ 60]
      refine pz_ic (i := 97) rfl ?_
      refine pz_cV3 (i := 98) rfl (gc_54 ..) rfl (Nat.le_of_ble_eq_true rfl) rfl ?_
      refine sm_wrL hr' (dM_fr e1 (frI_rfl jv5 []) f6 (by decide) (by decide)) hdb (a := 2) (q := 64 * ((V.2.2 1 + 1) % 2) + 60) (c := rtC rm (V.2.2 1 + 1) + 60) (l := n4 (V.2.2 1 + 1)) (by decide) (by omega) (by show 0 < 4; decide) (by show 4 ≤ 1300; decide) (Or.inr (Or.inr ⟨rfl, by show 64 * ((V.2.2 1 + 1) % 2) + 60 + 4 ≤ 128; omega⟩)) (rt_pl 60 (by decide)) (fun k hk => by have := a6 k hk; rw [Nat.zero_add] at this; exact this) hc5 (fun jv7 bv7 o7 => ?_)
      have O7 : oM rm jv1 bv1 jv7 bv7 (wr (wr (wr s (wL (rtC rm (V.2.2 1 + 1) + 60) (List.replicate 4 0))) (wL (rtC rm (V.2.2 1 + 1)) (rtB (rtV V)))) (wL (rtC rm (V.2.2 1 + 1) + 60) (n4 (V.2.2 1 + 1)))) [0, 1, 2] [2, 4, 5, 6, 7, 8, 23] := oM_tr e2 e3 (oM_tr (frI_rfl jv5 []) f6 o7 (S := [0, 1, 2]) (A := [2, 4, 5, 6, 7, 8, 23]) (by decide) (by decide) (by decide) (by decide) (by decide) (by decide)) (by decide) (by decide) (by decide) (by decide) (by decide) (by decide)
      refine ⟨rfl, ?_⟩
      refine pz_vr (i := 99) rfl rfl ?_
      exact hQ jv7 bv7 (oM_tr G1 D3 O7 (by decide) (by decide) (by decide) (by decide) (by decide) (by decide)) (fun w => ((O7.1 w).2.1 18 (by decide)).trans e18)
    · refine pz_vr (i := 86) rfl rfl ?_
      have hdd := bB_t c85
      rw [wr_dead (x := wL (rtC rm (V.2.2 1 + 1) + 60) (n4 (V.2.2 1 + 1))) hdd] at hQ
      exact hQ jv5 bv5 (oM_tr G1 D3 O5 (by decide) (by decide) (by decide) (by decide) (by decide) (by decide)) (fun w => by rw [hdd] at w; cases w)
  · refine pz_vr (i := 26) rfl rfl ?_
    have hdd := bB_t c25
    rw [wr_dead (x := wL (rtC rm (V.2.2 1 + 1)) (rtB (rtV V))) hdd, wr_dead (x := wL (rtC rm (V.2.2 1 + 1) + 60) (n4 (V.2.2 1 + 1))) hdd] at hQ
    exact hQ jv1 bv1 O1 (fun w => by rw [hdd] at w; cases w)
end SB2
