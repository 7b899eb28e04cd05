/-! PART B6: the reference: makeTables, checkpointAll -/
section SB6
variable {Lx : Nat} {xs : Nat → Int32} {d rm : Nat} {iv : Nat → Int32} {av : Nat → Nat → Int32} {jv : Nat → Int32} {bv : Nat → Nat → Int32} {Q : rQ}
set_option maxRecDepth 20000 in
theorem lq_m61 (hr : 512 ≤ rm ∧ rm ≤ 4096) {s : dS} {V : vW} {tk : List Nat} {A C : List tB} {pl : Int32} (hd : dM rm jv bv s) (hdn : s.2.2.2.2.2 = false) (hc : cp s 2 2432) (hu : uM jv bv V.1) (hpa : pA bv []) (etk : tk = pls V.1) (hnd : tk.length < 10) (hE : ∀ t ∈ V.1, tE rm (cu rm s) t) (eV : V.1 = A ++ C) (hA : ∀ t ∈ A, t.2.1 ≤ 1) (hC : ∀ t ∈ C, t.2.1 = 2) (hC1 : C.length ≤ 1) (hn4 : 4 + lvC V.1 1 = A.length) (h17 : jv 17 = nI (V.2.2 7)) (hnx : V.2.2 7 < 2 ^ 30 - 20) (hQ : ∀ jv' bv', oM rm jv bv jv' bv' (st1 rm s V tk).1 [0, 1, 2, 17, 19] [2, 4, 5, 6, 7, 8, 15, 16, 20, 21, 22, 23] → ((st1 rm s V tk).1.2.2.2.2.2 = false → uM jv' bv' (st1 rm s V tk).2.1 ∧ jv' 17 = nI ((st1 rm s V tk).2.2.2 7)) → Q none (wX rm iv av (wM rm jv' bv'))) : pz Lx xs (d + 5) rt_117 none Q 61 [some (.ref 54), some (.int pl), none, none, none] [] (wX rm iv av (wM rm jv bv)) := by
  have hr' : 0 < rm ∧ rm ≤ 4096 := ⟨by omega, hr.2⟩
  have hg := dM_geo hd
  have h2 : bv 2 = cu rm s := hd.1
  have h6 := hu.2.1
  have hlen : V.1.length = A.length + C.length := by rw [eV, List.length_append]
  have hn1 : lvN V.1 1 = A.length := by
    rw [eV, lvN_app A hA, lvN_0 C (fun t ht => by rw [hC t ht]; decide), Nat.add_zero]
  have em : m1A V = fun k => fnd (V.1.take A.length) k := by
    unfold m1A
    rw [hn1]
  have edr : V.1.drop A.length = C := by rw [eV, List.drop_left' rfl]
  have eta : V.1.take A.length = A := by rw [eV, List.take_left' rfl]
  have hnew : lf tk ∉ tk := lf_new (by omega)
  have htk : ∀ q, q < 12 → (q ∈ tk ↔ q ∈ ([] : List Nat) ∨ q ∈ pls V.1) := fun q _ => by
    rw [etk]
    exact ⟨Or.inr, fun z => z.elim (fun w => (by cases w)) id⟩
  have hmok : mOK (m1A V) := by
    rw [em]
    exact mOK_fnd (fun t ht => (hE t (List.mem_of_mem_take ht)).2.2.2.1)
  have e12 : ∀ t ∈ V.1, t.1 < 12 := fun t ht => (hE t ht).1
  unfold st1 at hQ
  refine pz_ic (i := 61) rfl ?_
  refine pz_aln (i := 62) rfl rfl ?_
  refine pz_ic (i := 63) rfl ?_
  refine pz_cI1 (i := 64) rfl (gc_54 ..) rfl (Nat.le_of_ble_eq_true rfl) rfl ?_
  refine sm_countOf hr' hg (l := 1) (by decide) hu (fun t ht => by rw [h2]; exact hE t ht) ?_
  refine ⟨_, rfl, ?_⟩
  refine pz_add (i := 65) rfl ?_
  rw [show (4 : Int32) + nI (lvC V.1 1) = nI (4 + lvC V.1 1) from nI_add 4 _, hn4]
  refine pz_isn (i := 66) rfl ⟨rfl, Nat.le_of_ble_eq_true rfl⟩ rfl ?_
  refine pz_aln (i := 67) rfl rfl ?_
  refine pz_cV0 (i := 68) rfl (gc_54 ..) rfl (Nat.le_of_ble_eq_true rfl) rfl ?_
  refine sm_clearNew (fun b1 w1 f1 => ?_)
  refine ⟨rfl, ?_⟩
  refine pz_ic (i := 69) rfl ?_
  refine pz_isn (i := 70) rfl ⟨rfl, Nat.le_of_ble_eq_true rfl⟩ rfl ?_
  refine lq_mt3 (x3 := 0) hr' (us := V.1) (n := A.length) (by omega) (geo_fr hg f1 (by decide)) (uM_fr hu (frI_rfl jv []) f1 (by decide) (by decide)) (fun t ht => by rw [f1 2 (by decide), h2]; exact hE t ht) (fun b2 w2 f2 => ?_) A.length 0 b1 (Nat.zero_add _) (frA_rfl _ _) w1
  rw [← em] at w2
  have F2 : frA bv b2 [20, 21, 22] := frA_tr f1 f2 (by decide) (by decide)
  have hu2 := uM_fr hu (frI_rfl jv []) F2 (by decide) (by decide)
  have hd2 := dM_fr hd (frI_rfl jv []) F2 (by decide) (by decide)
  have hpa2 := pA_ext hpa (F2 16 (by decide))
  have hkl := kS_len (m1A V)
  refine pz_aln (i := 79) rfl rfl ?_
  refine pz_ic (i := 80) rfl ?_
  refine pz_cI1 (i := 81) rfl (gc_54 ..) rfl (Nat.le_of_ble_eq_true rfl) rfl ?_
  refine sm_writeTable hr hd2 hdn (cp_le hc (by decide) (by decide)) (l := 1) (by decide) hu2 hpa2 e12 htk hnew w2 h17 (by omega) (fun jv4 bv4 o4 k4 => ?_)
  have O4 : oM rm jv bv jv4 bv4 (wr s (tabW rm (t1A V tk))) [0, 1, 2, 17, 19] [2, 4, 5, 6, 7, 8, 15, 16, 20, 21, 22, 23] := oM_tr (frI_rfl jv []) F2 o4 (by decide) (by decide) (by decide) (by decide) (by decide) (by decide)
  have k4 : (wr s (tabW rm (t1A V tk))).2.2.2.2.2 = false → jv4 17 = nI (V.2.2 7 + 1) := k4
  have o4 : oM rm jv b2 jv4 bv4 (wr s (tabW rm (t1A V tk))) [0, 1, 2, 17] [2, 4, 5, 6, 7, 8, 23] := o4
  refine ⟨_, rfl, ?_⟩
  refine pz_isn (i := 82) rfl ⟨rfl, Nat.le_of_ble_eq_true rfl⟩ rfl ?_
  refine pz_aln (i := 83) rfl rfl ?_
  refine pz_get (i := 84) rfl (gf_54_15 ..) ?_
  rw [oM_5 O4]
  refine pz_if_eq (i := 85) rfl (fun c85 => ?_) (fun c85 => ?_)
  · have hda := bB_f c85
    obtain ⟨e1, e2, e3⟩ := o4.1 hda
    obtain ⟨g1, g2, g3⟩ := O4.1 hda
    have hu4 := uM_fr hu2 e2 e3 (by decide) (by decide)
    refine pz_aln (i := 87) rfl rfl ?_
    refine pz_cI0 (i := 88) rfl (gc_54 ..) rfl (Nat.le_of_ble_eq_true rfl) rfl ?_
    refine sm_newCount (wN_ext w2 (e3 20 (by decide)) (e3 21 (by decide)) (e3 22 (by decide))) ?_
    refine ⟨_, rfl, ?_⟩
    refine pz_bi (i := 89) rfl ?_
    refine pz_ii_le (i := 90) rfl (fun c90 => ?_) (fun c90 => ?_)
    · refine pz_ic (i := 93) rfl ?_
      refine pz_isn (i := 94) rfl ⟨rfl, Nat.le_of_ble_eq_true rfl⟩ rfl ?_
      refine pz_aln (i := 95) rfl rfl ?_
      refine pz_ic (i := 96) rfl ?_
      refine pz_iln (i := 97) rfl rfl ?_
      refine pz_cV2 (i := 98) rfl (gc_54 ..) rfl (Nat.le_of_ble_eq_true rfl) rfl ?_
      refine sm_drop (us := V.1) (n := A.length) (by omega) hu4 e12 (pA_ext hpa2 (e3 16 (by decide))) (fun jv5 bv5 u5 p5 f5 a5 => ?_)
      rw [edr] at u5
      refine ⟨rfl, ?_⟩
      refine pz_aln (i := 99) rfl rfl ?_
      refine pz_ic (i := 100) rfl ?_
      refine pz_iln (i := 101) rfl rfl ?_
      refine pz_cV2 (i := 102) rfl (gc_54 ..) rfl (Nat.le_of_ble_eq_true rfl) rfl ?_
      refine sm_insert (t := t1A V tk) (by omega) u5 (fun jv6 bv6 u6 f6 a6 => ?_)
      have G6 : frI jv jv6 [0, 1, 2, 17, 19] := frI_tr (frI_tr (S := [0, 1, 2, 17, 19]) g2 f5 (by decide) (by decide)) f6 (by decide) (by decide)
      have A6 : frA bv bv6 [2, 4, 5, 6, 7, 8, 15, 16, 20, 21, 22, 23] := frA_tr (frA_tr (S := [2, 4, 5, 6, 7, 8, 15, 16, 20, 21, 22, 23]) g3 a5 (by decide) (by decide)) a6 (by decide) (by decide)
      have hd6 := dM_fr (dM_fr g1 f5 a5 (by decide) (by decide)) f6 a6 (by decide) (by decide)
      have j17 : jv6 17 = nI (V.2.2 7 + 1) := (f6 17 (by decide)).trans ((f5 17 (by decide)).trans (k4 hda))
      have eW : (tbV V (t1A V tk) (lvN V.1 1)).1 = t1A V tk :: C := by
        show _ :: V.1.drop (lvN V.1 1) = _
        rw [hn1, edr]
      refine ⟨rfl, ?_⟩
      refine pz_iln (i := 103) rfl rfl ?_
      refine pz_if_ne (i := 104) rfl (fun c104 => ?_) (fun c104 => ?_)
      · by_cases h40 : (kS (m1A V)).length ≤ 40
        · first | exact absurd rfl c104 | exact absurd ((nI_leI (by omega) (by decide)).mpr h40 : nI (kS (m1A V)).length ≤ nI 40) c90
        rw [if_neg h40] at hQ
        refine lq_m106 hr (W := tbV V (t1A V tk) (lvN V.1 1)) (pa := [] ++ pls (V.1.take A.length)) (tk := lf tk :: tk) hd6 hda (cp_wr (cp_le hc (Nat.le_refl _) (by have := tabW_len rm (t1A V tk); omega))) (by rw [eW]; exact u6) (pA_ext p5 (a6 16 (by decide))) (fun q _ => ?_) (lf_new (by show tk.length + 1 < 11; omega)) (fun t ht => ?_) ?_ ?_ j17 (by show V.2.2 7 + 1 < _; omega) (fun jv7 bv7 o7 k7 => hQ jv7 bv7 (oM_tr G6 A6 o7 (by decide) (by decide) (by decide) (by decide) (by decide) (by decide)) k7)
        · rw [eW, eta, etk, eV]
          show q ∈ lf _ :: pls (A ++ C) ↔ q ∈ [] ++ pls A ∨ q ∈ (t1A V (pls (A ++ C))).1 :: pls C
          unfold pls
          rw [List.map_append, List.nil_append, List.mem_cons, List.mem_append, List.mem_cons]
          exact ⟨fun z => z.elim (fun w => Or.inr (Or.inl w)) (fun w => w.elim Or.inl (fun w => Or.inr (Or.inr w))), fun z => z.elim (fun w => Or.inr (Or.inl w)) (fun w => w.elim Or.inl (fun w => Or.inr (Or.inr w)))⟩
        · rw [eW] at ht
          rw [cu_wr hdn]
          rcases List.mem_cons.mp ht with z | z
          · rw [z]
            exact tE_new (lf_lt _) (by decide : 1 < 3) (by show V.2.2 7 < 2 ^ 30; omega) hmok
          · have htV : t ∈ V.1 := by rw [eV]; exact List.mem_append_right _ z
            refine tE_old' (hE t htV) (fun w => hnew ?_)
            have w1 : t.1 = lf tk := w
            rw [← w1, etk]
            exact List.mem_map.mpr ⟨t, htV, rfl⟩
        · rw [eW]
          have := lvN_app (l := 2) (b := []) (t1A V tk :: C) (fun t ht => by
            rcases List.mem_cons.mp ht with z | z
            · rw [z]
              exact (by decide : 1 ≤ 2)
            · rw [hC t z]
              exact Nat.le_refl _)
          rw [List.append_nil] at this
          exact this
        · rw [eW, lvC_cons, lvC_all hC, if_neg (show ¬ (t1A V tk).2.1 = 2 from (by decide : ¬ 1 = 2)), List.length_cons]
          omega
      · refine pz_vr (i := 105) rfl rfl ?_
        by_cases h40 : (kS (m1A V)).length ≤ 40
        · rw [if_pos h40] at hQ
          refine hQ jv6 bv6 ⟨fun _ => ⟨hd6, G6, A6⟩, fun w => by rw [show (wr s (tabW rm (t1A V tk))).2.2.2.2.2 = false from hda] at w; cases w⟩ (fun _ => ⟨?_, j17⟩)
          show uM jv6 bv6 (tbV V (t1A V tk) (lvN V.1 1)).1
          rw [eW]
          exact u6
        · first | exact absurd (le_ofI (b := 40) c90) h40 | exact absurd c104 (by decide)
    · refine pz_ic (i := 91) rfl ?_
      refine pz_go (i := 92) rfl ?_
      refine pz_isn (i := 94) rfl ⟨rfl, Nat.le_of_ble_eq_true rfl⟩ rfl ?_
      refine pz_aln (i := 95) rfl rfl ?_
      refine pz_ic (i := 96) rfl ?_
      refine pz_iln (i := 97) rfl rfl ?_
      refine pz_cV2 (i := 98) rfl (gc_54 ..) rfl (Nat.le_of_ble_eq_true rfl) rfl ?_
      refine sm_drop (us := V.1) (n := A.length) (by omega) hu4 e12 (pA_ext hpa2 (e3 16 (by decide))) (fun jv5 bv5 u5 p5 f5 a5 => ?_)
      rw [edr] at u5
      refine ⟨rfl, ?_⟩
      refine pz_aln (i := 99) rfl rfl ?_
      refine pz_ic (i := 100) rfl ?_
      refine pz_iln (i := 101) rfl rfl ?_
      refine pz_cV2 (i := 102) rfl (gc_54 ..) rfl (Nat.le_of_ble_eq_true rfl) rfl ?_
      refine sm_insert (t := t1A V tk) (by omega) u5 (fun jv6 bv6 u6 f6 a6 => ?_)
      have G6 : frI jv jv6 [0, 1, 2, 17, 19] := frI_tr (frI_tr (S := [0, 1, 2, 17, 19]) g2 f5 (by decide) (by decide)) f6 (by decide) (by decide)
      have A6 : frA bv bv6 [2, 4, 5, 6, 7, 8, 15, 16, 20, 21, 22, 23] := frA_tr (frA_tr (S := [2, 4, 5, 6, 7, 8, 15, 16, 20, 21, 22, 23]) g3 a5 (by decide) (by decide)) a6 (by decide) (by decide)
      have hd6 := dM_fr (dM_fr g1 f5 a5 (by decide) (by decide)) f6 a6 (by decide) (by decide)
      have j17 : jv6 17 = nI (V.2.2 7 + 1) := (f6 17 (by decide)).trans ((f5 17 (by decide)).trans (k4 hda))
      have eW : (tbV V (t1A V tk) (lvN V.1 1)).1 = t1A V tk :: C := by
        show _ :: V.1.drop (lvN V.1 1) = _
        rw [hn1, edr]
      refine ⟨rfl, ?_⟩
      refine pz_iln (i := 103) rfl rfl ?_
      refine pz_if_ne (i := 104) rfl (fun c104 => ?_) (fun c104 => ?_)
      · by_cases h40 : (kS (m1A V)).length ≤ 40
        · first | exact absurd rfl c104 | exact absurd ((nI_leI (by omega) (by decide)).mpr h40 : nI (kS (m1A V)).length ≤ nI 40) c90
        rw [if_neg h40] at hQ
        refine lq_m106 hr (W := tbV V (t1A V tk) (lvN V.1 1)) (pa := [] ++ pls (V.1.take A.length)) (tk := lf tk :: tk) hd6 hda (cp_wr (cp_le hc (Nat.le_refl _) (by have := tabW_len rm (t1A V tk); omega))) (by rw [eW]; exact u6) (pA_ext p5 (a6 16 (by decide))) (fun q _ => ?_) (lf_new (by show tk.length + 1 < 11; omega)) (fun t ht => ?_) ?_ ?_ j17 (by show V.2.2 7 + 1 < _; omega) (fun jv7 bv7 o7 k7 => hQ jv7 bv7 (oM_tr G6 A6 o7 (by decide) (by decide) (by decide) (by decide) (by decide) (by decide)) k7)
        · rw [eW, eta, etk, eV]
          show q ∈ lf _ :: pls (A ++ C) ↔ q ∈ [] ++ pls A ∨ q ∈ (t1A V (pls (A ++ C))).1 :: pls C
          unfold pls
          rw [List.map_append, List.nil_append, List.mem_cons, List.mem_append, List.mem_cons]
          exact ⟨fun z => z.elim (fun w => Or.inr (Or.inl w)) (fun w => w.elim Or.inl (fun w => Or.inr (Or.inr w))), fun z => z.elim (fun w => Or.inr (Or.inl w)) (fun w => w.elim Or.inl (fun w => Or.inr (Or.inr w)))⟩
        · rw [eW] at ht
          rw [cu_wr hdn]
          rcases List.mem_cons.mp ht with z | z
          · rw [z]
            exact tE_new (lf_lt _) (by decide : 1 < 3) (by show V.2.2 7 < 2 ^ 30; omega) hmok
          · have htV : t ∈ V.1 := by rw [eV]; exact List.mem_append_right _ z
            refine tE_old' (hE t htV) (fun w => hnew ?_)
            have w1 : t.1 = lf tk := w
            rw [← w1, etk]
            exact List.mem_map.mpr ⟨t, htV, rfl⟩
        · rw [eW]
          have := lvN_app (l := 2) (b := []) (t1A V tk :: C) (fun t ht => by
            rcases List.mem_cons.mp ht with z | z
            · rw [z]
              exact (by decide : 1 ≤ 2)
            · rw [hC t z]
              exact Nat.le_refl _)
          rw [List.append_nil] at this
          exact this
        · rw [eW, lvC_cons, lvC_all hC, if_neg (show ¬ (t1A V tk).2.1 = 2 from (by decide : ¬ 1 = 2)), List.length_cons]
          omega
      · refine pz_vr (i := 105) rfl rfl ?_
        by_cases h40 : (kS (m1A V)).length ≤ 40
        · rw [if_pos h40] at hQ
          refine hQ jv6 bv6 ⟨fun _ => ⟨hd6, G6, A6⟩, fun w => by rw [show (wr s (tabW rm (t1A V tk))).2.2.2.2.2 = false from hda] at w; cases w⟩ (fun _ => ⟨?_, j17⟩)
          show uM jv6 bv6 (tbV V (t1A V tk) (lvN V.1 1)).1
          rw [eW]
          exact u6
        · first | exact absurd (le_ofI (b := 40) c90) h40 | exact absurd c104 (by decide)
  · refine pz_vr (i := 86) rfl rfl ?_
    have hdd := bB_t c85
    by_cases h40 : (kS (m1A V)).length ≤ 40
    · rw [if_pos h40] at hQ
      exact hQ jv4 bv4 O4 (fun w => by rw [show (wr s (tabW rm (t1A V tk))).2.2.2.2.2 = true from hdd] at w; cases w)
    · rw [if_neg h40, st2_dead hdd] at hQ
      exact hQ jv4 bv4 O4 (fun w => by rw [hdd] at w; cases w)
set_option maxRecDepth 20000 in
theorem sm_makeTables (hr : 512 ≤ rm ∧ rm ≤ 4096) {s : dS} {V : vW} (hd : dM rm jv bv s) (hdn : s.2.2.2.2.2 = false) (hc : cp s 3 3648) (hu : uM jv bv V.1) (hm : eM jv bv V.2.1) (hI : ckI rm s V) (h17 : jv 17 = nI (V.2.2 7)) (hnx : V.2.2 7 < 2 ^ 30 - 30) (hQ : ∀ jv' bv', oM rm jv bv jv' bv' (st0 rm s V).1 [0, 1, 2, 17, 19] [2, 4, 5, 6, 7, 8, 15, 16, 20, 21, 22, 23] → ((st0 rm s V).1.2.2.2.2.2 = false → uM jv' bv' (st0 rm s V).2.1 ∧ jv' 17 = nI ((st0 rm s V).2.2.2 7)) → Q none (wX rm iv av (wM rm jv' bv'))) : rx_R Lx xs (d + 6) 117 [.ref 54] (wX rm iv av (wM rm jv bv)) Q := by
  refine pz_en (t := rt_117) ⟨Nat.le_of_ble_eq_true rfl, rfl⟩ rfl rfl ?_
  have hr' : 0 < rm ∧ rm ≤ 4096 := ⟨by omega, hr.2⟩
  obtain ⟨hE, hlv⟩ := hI
  have hlen := lvOK_len hlv
  obtain ⟨a, b, c, eV, ha, hb, hcc, ha3, hb1, hc1⟩ := hlv
  have hpl : (pls V.1).length = V.1.length := by unfold pls; rw [List.length_map]
  have hnew : lf (pls V.1) ∉ pls V.1 := lf_new (by omega)
  have e12 : ∀ t ∈ V.1, t.1 < 12 := fun t ht => (hE t ht).1
  have h2 : bv 2 = cu rm s := hd.1
  have hlvn : lvN (tbV V (t0A V) 0).1 0 = 1 + a.length := by
    have := lvN_app (l := 0) (b := b ++ c) (t0A V :: a) (fun t ht => by
      rcases List.mem_cons.mp ht with z | z
      · rw [z]
        exact Nat.le_refl _
      · rw [ha t z]
        exact Nat.le_refl _)
    have h0 : lvN (b ++ c) 0 = 0 := lvN_0 _ (fun t ht => by
      rcases List.mem_append.mp ht with z | z
      · rw [hb t z]
        decide
      · rw [hcc t z]
        decide)
    rw [h0] at this
    show lvN (t0A V :: V.1) 0 = _
    rw [eV, show t0A V :: (a ++ (b ++ c)) = (t0A V :: a) ++ (b ++ c) from rfl, this, List.length_cons]
    omega
  have hc0 : lvC (t0A V :: V.1) 0 = 1 + a.length := by
    rw [lvC_cons, eV, lvC_app, lvC_app, lvC_all ha, lvC_none (a := b) (fun t ht => by rw [hb t ht]; decide), lvC_none (a := c) (fun t ht => by rw [hcc t ht]; decide), if_pos (show (t0A V).2.1 = 0 from rfl)]
    omega
  have hcc1 : lvC (t0A V :: V.1) 1 = b.length := by
    rw [lvC_cons, eV, lvC_app, lvC_app, lvC_all hb, lvC_none (a := a) (fun t ht => by rw [ha t ht]; decide), lvC_none (a := c) (fun t ht => by rw [hcc t ht]; decide), if_neg (show ¬ (t0A V).2.1 = 1 from (by decide : ¬ 0 = 1))]
    omega
  have hE1 : ∀ t ∈ t0A V :: V.1, tE rm (ap rm (cu rm s) (tabW rm (t0A V))) t := fun t ht => by
    rcases List.mem_cons.mp ht with z | z
    · rw [z]
      exact tE_new (lf_lt _) (by decide : 0 < 3) (by show V.2.2 7 < 2 ^ 30; omega) hm.1
    · refine tE_old' (hE t z) (fun w => hnew ?_)
      have w1 : t.1 = lf (pls V.1) := w
      rw [← w1]
      exact List.mem_map.mpr ⟨t, z, rfl⟩
  unfold st0 at hQ
  rw [hlvn] at hQ
  refine pz_ic (i := 0) rfl ?_
  refine pz_isn (i := 1) rfl ⟨rfl, Nat.le_of_ble_eq_true rfl⟩ rfl ?_
  refine lq_mt1 (fun b1 p1 f1 => ?_) 12 0 bv rfl (frA_rfl _ _) (fun j hj => absurd hj (Nat.not_lt_zero j))
  refine pz_ic (i := 12) rfl ?_
  refine pz_isn (i := 13) rfl ⟨rfl, Nat.le_of_ble_eq_true rfl⟩ rfl ?_
  refine lq_mt2 (fun b2 w2 f2 => ?_) 120 0 b1 rfl (frA_rfl _ _) (fun j hj => absurd hj (Nat.not_lt_zero j))
  have wm : wN b2 V.2.1 := ⟨hm.1, fun k hk => by
    obtain ⟨q1, q2, q3⟩ := w2 k hk
    have h3 := hm.2.2 k hk
    rw [q1, q2, q3, f1 17 (by decide), f1 18 (by decide), f1 19 (by decide)]
    exact h3⟩
  have F2 : frA bv b2 [16, 20, 21, 22] := frA_tr f1 f2 (by decide) (by decide)
  have hd2 := dM_fr hd (frI_rfl jv []) F2 (by decide) (by decide)
  have hu2 := uM_fr hu (frI_rfl jv []) F2 (by decide) (by decide)
  have hpa2 := pA_ext p1 (f2 16 (by decide))
  refine pz_aln (i := 43) rfl rfl ?_
  refine pz_ic (i := 44) rfl ?_
  refine pz_cI1 (i := 45) rfl (gc_54 ..) rfl (Nat.le_of_ble_eq_true rfl) rfl ?_
  refine sm_writeTable hr hd2 hdn (cp_le hc (by decide) (by decide)) (l := 0) (by decide) hu2 hpa2 e12 (tk := pls V.1) (fun q _ => ⟨Or.inr, fun z => z.elim (fun w => (by cases w)) id⟩) hnew wm h17 (by omega) (fun jv4 bv4 o4 k4 => ?_)
  have O4 : oM rm jv bv jv4 bv4 (wr s (tabW rm (t0A V))) [0, 1, 2, 17, 19] [2, 4, 5, 6, 7, 8, 15, 16, 20, 21, 22, 23] := oM_tr (frI_rfl jv []) F2 o4 (by decide) (by decide) (by decide) (by decide) (by decide) (by decide)
  have k4 : (wr s (tabW rm (t0A V))).2.2.2.2.2 = false → jv4 17 = nI (V.2.2 7 + 1) := k4
  have o4 : oM rm jv b2 jv4 bv4 (wr s (tabW rm (t0A V))) [0, 1, 2, 17] [2, 4, 5, 6, 7, 8, 23] := o4
  refine ⟨_, rfl, ?_⟩
  refine pz_isn (i := 46) rfl ⟨rfl, Nat.le_of_ble_eq_true rfl⟩ rfl ?_
  refine pz_aln (i := 47) rfl rfl ?_
  refine pz_get (i := 48) rfl (gf_54_15 ..) ?_
  rw [oM_5 O4]
  refine pz_if_eq (i := 49) rfl (fun c49 => ?_) (fun c49 => ?_)
  · have hda := bB_f c49
    obtain ⟨e1, e2, e3⟩ := o4.1 hda
    obtain ⟨g1, g2, g3⟩ := O4.1 hda
    have hu4 := uM_fr hu2 e2 e3 (by decide) (by decide)
    refine pz_aln (i := 51) rfl rfl ?_
    refine pz_ic (i := 52) rfl ?_
    refine pz_iln (i := 53) rfl rfl ?_
    refine pz_cV2 (i := 54) rfl (gc_54 ..) rfl (Nat.le_of_ble_eq_true rfl) rfl ?_
    refine sm_insert (t := t0A V) (by omega) hu4 (fun jv6 bv6 u6 f6 a6 => ?_)
    have G6 : frI jv jv6 [0, 1, 2, 17, 19] := frI_tr g2 f6 (by decide) (by decide)
    have A6 : frA bv bv6 [2, 4, 5, 6, 7, 8, 15, 16, 20, 21, 22, 23] := frA_tr g3 a6 (by decide) (by decide)
    have hd6 := dM_fr g1 f6 a6 (by decide) (by decide)
    have j17 : jv6 17 = nI (V.2.2 7 + 1) := (f6 17 (by decide)).trans (k4 hda)
    have hc6 : bv6 2 = ap rm (cu rm s) (tabW rm (t0A V)) := hd6.1.trans (cu_wr hdn)
    refine ⟨rfl, ?_⟩
    refine pz_aln (i := 55) rfl rfl ?_
    refine pz_ic (i := 56) rfl ?_
    refine pz_cI1 (i := 57) rfl (gc_54 ..) rfl (Nat.le_of_ble_eq_true rfl) rfl ?_
    refine sm_countOf hr' (dM_geo hd6) (l := 0) (by decide) u6 (fun t ht => by rw [hc6]; exact hE1 t ht) ?_
    rw [hc0]
    refine ⟨_, rfl, ?_⟩
    refine pz_ic (i := 58) rfl ?_
    refine pz_ii_ge (i := 59) rfl (fun c59 => ?_) (fun c59 => ?_)
    · have h3 := le_ofI (a := 4) c59
      rw [if_neg (show ¬ 1 + a.length ≤ 3 by omega)] at hQ
      refine lq_m61 hr (V := tbV V (t0A V) 0) (tk := lf (pls V.1) :: pls V.1) (A := t0A V :: (a ++ b)) (C := c) hd6 hda (cp_wr (cp_le hc (Nat.le_refl _) (by have := tabW_len rm (t0A V); omega))) u6 (pA_ext (pA_ext hpa2 (e3 16 (by decide))) (a6 16 (by decide))) rfl (by show (pls V.1).length + 1 < 10; omega) (fun t ht => by rw [cu_wr hdn]; exact hE1 t ht) ?_ (fun t ht => ?_) hcc hc1 ?_ j17 (by show V.2.2 7 + 1 < _; omega) (fun jv7 bv7 o7 k7 => hQ jv7 bv7 (oM_tr G6 A6 o7 (by decide) (by decide) (by decide) (by decide) (by decide) (by decide)) k7)
      · show t0A V :: V.1 = t0A V :: (a ++ b) ++ c
        rw [eV]
        show t0A V :: (a ++ (b ++ c)) = t0A V :: ((a ++ b) ++ c)
        rw [List.append_assoc]
      · rcases List.mem_cons.mp ht with z | z
        · rw [z]
          exact Nat.zero_le _
        · rcases List.mem_append.mp z with y | y
          · rw [ha t y]
            exact Nat.zero_le _
          · rw [hb t y]
            exact Nat.le_refl _
      · show 4 + lvC (t0A V :: V.1) 1 = _
        rw [hcc1, List.length_cons, List.length_append]
        omega
    · refine pz_vr (i := 60) rfl rfl ?_
      have h3 := nle_ofI (a := 4) c59
      rw [if_pos (show 1 + a.length ≤ 3 by omega)] at hQ
      exact hQ jv6 bv6 ⟨fun _ => ⟨hd6, G6, A6⟩, fun w => by rw [show (wr s (tabW rm (t0A V))).2.2.2.2.2 = false from hda] at w; cases w⟩ (fun _ => ⟨u6, j17⟩)
  · refine pz_vr (i := 50) rfl rfl ?_
    have hdd := bB_t c49
    by_cases h3 : 1 + a.length ≤ 3
    · rw [if_pos h3] at hQ
      exact hQ jv4 bv4 O4 (fun w => by rw [show (wr s (tabW rm (t0A V))).2.2.2.2.2 = true from hdd] at w; cases w)
    · rw [if_neg h3, st1_dead hdd] at hQ
      exact hQ jv4 bv4 O4 (fun w => by rw [hdd] at w; cases w)
/-- the view of the reference -/
def vM (jv : Nat → Int32) (bv : Nat → Nat → Int32) (V : vW) : Prop := uM jv bv V.1 ∧ eM jv bv V.2.1 ∧ nM jv V.2.2
theorem vM_fr {jv jv' : Nat → Int32} {bv bv' : Nat → Nat → Int32} {V : vW} {S A : List Nat} (h : vM jv bv V) (f1 : frI jv jv' S) (f2 : frA bv bv' A) (h1 : ∀ x ∈ S, x < 12 ∨ 20 < x) (h2 : ∀ x ∈ A, x ≠ 15 ∧ x ≠ 17 ∧ x ≠ 18 ∧ x ≠ 19) : vM jv' bv' V :=
  ⟨uM_fr h.1 f1 f2 (fun z => by have := h1 19 z; omega) (fun z => (h2 15 z).1 rfl), eM_ext h.2.1 (f1 20 (fun z => by have := h1 20 z; omega)) (f2 17 (fun z => (h2 17 z).2.1 rfl)) (f2 18 (fun z => (h2 18 z).2.2.1 rfl)) (f2 19 (fun z => (h2 19 z).2.2.2 rfl)), nM_fr h.2.2 f1 (fun x hx => by have := h1 x hx; omega)⟩
set_option maxRecDepth 20000 in
theorem lq_zk {x1 : Int32} {bv0 : Nat → Nat → Int32} (hQ : ∀ bv', (∀ j, j < 120 → bv' 17 j = 0) → frA bv0 bv' [17] → pz Lx xs d rt_118 none Q 27 [some (.ref 54), some (.int x1), some (.int (nI 120))] [] (wX rm iv av (wM rm jv bv'))) : ∀ (m k : Nat) (bv : Nat → Nat → Int32), k + m = 120 → frA bv0 bv [17] → (∀ j, j < k → bv 17 j = 0) → pz Lx xs d rt_118 none Q 17 [some (.ref 54), some (.int x1), some (.int (nI k))] [] (wX rm iv av (wM rm jv bv))
  | 0, k, bv, hk, f, h1 => by
    obtain rfl : k = 120 := by omega
    refine pz_iln (i := 17) rfl rfl ?_
    refine pz_bi (i := 18) rfl ?_
    refine pz_ii_ge (i := 19) rfl (fun c19 => ?_) (fun c19 => ?_)
    · exact hQ bv h1 f
    · exact absurd (Int32.le_refl _) c19
  | m + 1, k, bv, hk, f, h1 => by
    have hk1 : k < 120 := by omega
    refine pz_iln (i := 17) rfl rfl ?_
    refine pz_bi (i := 18) rfl ?_
    refine pz_ii_ge (i := 19) rfl (fun c19 => ?_) (fun c19 => ?_)
    · exact absurd (le_ofI (a := 120) c19) (by omega)
    · refine pz_aln (i := 20) rfl rfl ?_
      refine pz_get (i := 21) rfl (gf_54_38 ..) ?_
      refine pz_iln (i := 22) rfl rfl ?_
      refine pz_ic (i := 23) rfl ?_
      refine pz_ias (i := 24) rfl (ga_72 ..) (in_ofI hk1) (pa_72 ..) ?_
      rw [cl_ofI (a := k)]
      refine pz_inc (i := 25) rfl rfl rfl rfl ?_
      rw [show nI k + 1 = nI (k + 1) from nI_add k 1]
      refine pz_go (i := 26) rfl ?_
      refine lq_zk hQ m (k + 1) _ (by omega) (frA_tr f (frA_up (frA_rfl _ [17]) (by decide)) (by decide) (by decide)) (fun j hj => ?_)
      rw [ua_s]
      by_cases e : j = k
      · subst e
        exact ui_s _ _ _
      · rw [ui_n e]
        exact h1 j (by omega)
set_option maxRecDepth 20000 in
theorem lq_c8 (hr : 512 ≤ rm ∧ rm ≤ 4096) {s : dS} {V : vW} {x1 : Int32} {jv1 : Nat → Int32} {bv1 : Nat → Nat → Int32} (o : oM rm jv bv jv1 bv1 s [0, 1, 2, 17, 19] [2, 3, 4, 5, 6, 7, 8, 15, 16, 20, 21, 22, 23]) (hu : s.2.2.2.2.2 = false → uM jv1 bv1 V.1 ∧ nM jv1 V.2.2) (hb : ∀ i, 1 ≤ i → i ≤ 7 → V.2.2 i < 2 ^ 30 - 20) (hQ : ∀ jv' bv', oM rm jv bv jv' bv' (ckE rm s V) [0, 1, 2, 14, 15, 17, 18, 19, 20] [2, 3, 4, 5, 6, 7, 8, 15, 16, 17, 20, 21, 22, 23] → ((ckE rm s V).2.2.2.2.2 = false → vM jv' bv' (ckF V)) → Q none (wX rm iv av (wM rm jv' bv'))) : pz Lx xs (d + 6) rt_118 none Q 8 [some (.ref 54), some (.int x1), none] [] (wX rm iv av (wM rm jv1 bv1)) := by
  have hr' : 0 < rm ∧ rm ≤ 4096 := ⟨by omega, hr.2⟩
  refine pz_aln (i := 8) rfl rfl ?_
  refine pz_get (i := 9) rfl (gf_54_15 ..) ?_
  rw [oM_5 o]
  refine pz_if_eq (i := 10) rfl (fun c10 => ?_) (fun c10 => ?_)
  · have hda := bB_f c10
    obtain ⟨d1, d2, d3⟩ := o.1 hda
    obtain ⟨hu1, hn1⟩ := hu hda
    refine pz_aln (i := 12) rfl rfl ?_
    refine pz_ic (i := 13) rfl ?_
    refine pz_put (i := 14) rfl (pf_54_41 ..) ⟨rfl, rfl⟩ ?_
    refine pz_ic (i := 15) rfl ?_
    refine pz_isn (i := 16) rfl ⟨rfl, Nat.le_of_ble_eq_true rfl⟩ rfl ?_
    refine lq_zk (fun b2 z2 f2 => ?_) 120 0 bv1 rfl (frA_rfl _ _) (fun j hj => absurd hj (Nat.not_lt_zero j))
    have G2 : frI jv1 (upd jv1 20 0) [20] := frI_up (frI_rfl _ _) (by decide)
    have hd2 := dM_fr d1 G2 f2 (by decide) (by decide)
    have hm2 : eM (upd jv1 20 0) b2 m0 := ⟨mOK_0, by rw [ui_s, kS_0]; rfl, fun k hk => z2 k hk⟩
    refine pz_aln (i := 27) rfl rfl ?_
    refine pz_cI0 (i := 28) rfl (gc_54 ..) rfl (Nat.le_of_ble_eq_true rfl) rfl ?_
    refine sm_syncAll hr' hd2 hda (fun jv3 bv3 k3 f3 a3 => ?_)
    have J3 : frI jv1 jv3 [0, 1, 20] := frI_tr G2 f3 (by decide) (by decide)
    have B3 : frA bv1 bv3 [3, 17] := frA_tr f2 a3 (by decide) (by decide)
    obtain ⟨u1, u2, u3, u4, u5, u6, u7⟩ := id hn1
    refine ⟨_, rfl, ?_⟩
    refine pz_isn (i := 29) rfl ⟨rfl, Nat.le_of_ble_eq_true rfl⟩ rfl ?_
    refine pz_aln (i := 30) rfl rfl ?_
    refine pz_aln (i := 31) rfl rfl ?_
    refine pz_get (i := 32) rfl (gf_54_28 ..) ?_
    rw [J3 12 (by decide), u5]
    refine pz_put (i := 33) rfl (pf_54_30 ..) ⟨rfl, rfl⟩ ?_
    refine pz_aln (i := 34) rfl rfl ?_
    refine pz_aln (i := 35) rfl rfl ?_
    refine pz_get (i := 36) rfl (gf_54_32 ..) ?_
    rw [ui_n (by decide), J3 16 (by decide), u6]
    refine pz_put (i := 37) rfl (pf_54_31 ..) ⟨rfl, rfl⟩ ?_
    refine pz_aln (i := 38) rfl rfl ?_
    refine pz_cV0 (i := 39) rfl (gc_54 ..) rfl (Nat.le_of_ble_eq_true rfl) rfl ?_
    have G4 : frI jv3 (upd (upd jv3 14 (nI (V.2.2 5))) 15 (nI (V.2.2 6))) [14, 15] := frI_up (frI_up (frI_rfl _ _) (by decide)) (by decide)
    have J4 : frI jv1 (upd (upd jv3 14 (nI (V.2.2 5))) 15 (nI (V.2.2 6))) [0, 1, 14, 15, 20] := frI_tr J3 G4 (by decide) (by decide)
    have hn4 : nM (upd (upd jv3 14 (nI (V.2.2 5))) 15 (nI (V.2.2 6))) (vs (vs V.2.2 2 (V.2.2 5)) 3 (V.2.2 6)) := ⟨(J4 18 (by decide)).trans u1, (ui_n (by decide)).trans (ui_s _ _ _), ui_s _ _ _, (J4 13 (by decide)).trans u4, (J4 12 (by decide)).trans u5, (J4 16 (by decide)).trans u6, (J4 17 (by decide)).trans u7⟩
    have hda3 : (sy rm s).2.2.2.2.2 = false := by rw [sy_al]; exact hda
    have hpe : (sy rm s).2.1 = [] := sy_al' hda
    refine sm_writeRoot hr (V := (V.1, m0, vs (vs V.2.2 2 (V.2.2 5)) 3 (V.2.2 6))) (dM_fr k3 G4 (frA_rfl _ []) (by decide) (by decide)) hda3 (cp_sy (by decide) (by decide)) (uM_fr hu1 J4 B3 (by decide) (by decide)) hn4 (fun i i1 i2 => ?_) (fun jv5 bv5 o5 k5 => ?_)
    · have h5 := hb 5 (by decide) (by decide)
      have h6 := hb 6 (by decide) (by decide)
      have hi := hb i i1 i2
      show vs (vs V.2.2 2 (V.2.2 5)) 3 (V.2.2 6) i < _
      unfold vs
      split
      · omega
      · split <;> omega
    have O5 : oM rm jv bv jv5 bv5 (rtS rm (sy rm s) (ckF V)) [0, 1, 2, 14, 15, 17, 18, 19, 20] [2, 3, 4, 5, 6, 7, 8, 15, 16, 17, 20, 21, 22, 23] := oM_tr d2 d3 (oM_tr J4 B3 o5 (S := [0, 1, 2, 14, 15, 17, 18, 19, 20]) (A := [2, 3, 4, 5, 6, 7, 8, 15, 16, 17, 20, 21, 22, 23]) (by decide) (by decide) (by decide) (by decide) (by decide) (by decide)) (by decide) (by decide) (by decide) (by decide) (by decide) (by decide)
    have k5 : (rtS rm (sy rm s) (ckF V)).2.2.2.2.2 = false → jv5 18 = nI (V.2.2 1 + 1) := k5
    have o5 : oM rm (upd (upd jv3 14 (nI (V.2.2 5))) 15 (nI (V.2.2 6))) bv3 jv5 bv5 (rtS rm (sy rm s) (ckF V)) [0, 1, 2, 18] [2, 4, 5, 6, 7, 8, 23] := o5
    unfold ckE at hQ
    refine ⟨rfl, ?_⟩
    refine pz_aln (i := 40) rfl rfl ?_
    refine pz_get (i := 41) rfl (gf_54_15 ..) ?_
    rw [oM_5 O5]
    refine pz_if_ne (i := 42) rfl (fun c42 => ?_) (fun c42 => ?_)
    · refine pz_vr (i := 46) rfl rfl ?_
      first
        | (refine hQ jv6 bv6 ⟨fun _ => ⟨k6, frI_tr d2 J6 (by decide) (by decide), frA_tr d3 B6 (by decide) (by decide)⟩, fun w => by rw [sy_al, hdb] at w; cases w⟩ (fun _ => ⟨uM_fr hu1 J6 B6 (by decide) (by decide), eM_ext hm2 ?_ ?_ ?_ ?_, ⟨(f6 18 (by decide)).trans (k5 hdb), ?_, ?_, (J6 13 (by decide)).trans u4, (J6 12 (by decide)).trans u5, (J6 16 (by decide)).trans u6, (J6 17 (by decide)).trans u7⟩⟩)
           · rw [f6 20 (by decide), e2 20 (by decide), ui_n (by decide), ui_n (by decide), f3 20 (by decide)]
           · rw [a6 17 (by decide), e3 17 (by decide), a3 17 (by decide)]
           · rw [a6 18 (by decide), e3 18 (by decide), a3 18 (by decide)]
           · rw [a6 19 (by decide), e3 19 (by decide), a3 19 (by decide)]
           · rw [f6 14 (by decide), e2 14 (by decide), ui_n (by decide), ui_s]
             rfl
           · rw [f6 15 (by decide), e2 15 (by decide), ui_s]
             rfl)
        | (have hdd := bB_t c42
           rw [sy_dead hdd] at hQ
           exact hQ jv5 bv5 (oM_dead O5 hdd) (fun w => by rw [hdd] at w; cases w))
    · refine pz_aln (i := 43) rfl rfl ?_
      refine pz_cI0 (i := 44) rfl (gc_54 ..) rfl (Nat.le_of_ble_eq_true rfl) rfl ?_
      have hdb := bB_f c42
      obtain ⟨e1, e2, e3⟩ := o5.1 hdb
      refine sm_syncAll hr' e1 hdb (fun jv6 bv6 k6 f6 a6 => ?_)
      have J6 : frI jv1 jv6 [0, 1, 2, 14, 15, 18, 20] := frI_tr (frI_tr (S := [0, 1, 2, 14, 15, 18, 20]) J4 e2 (by decide) (by decide)) f6 (by decide) (by decide)
      have B6 : frA bv1 bv6 [2, 3, 4, 5, 6, 7, 8, 17, 23] := frA_tr (frA_tr (S := [2, 3, 4, 5, 6, 7, 8, 17, 23]) B3 e3 (by decide) (by decide)) a6 (by decide) (by decide)
      refine ⟨_, rfl, ?_⟩
      refine pz_isn (i := 45) rfl ⟨rfl, Nat.le_of_ble_eq_true rfl⟩ rfl ?_
      refine pz_vr (i := 46) rfl rfl ?_
      first
        | (refine hQ jv6 bv6 ⟨fun _ => ⟨k6, frI_tr d2 J6 (by decide) (by decide), frA_tr d3 B6 (by decide) (by decide)⟩, fun w => by rw [sy_al, hdb] at w; cases w⟩ (fun _ => ⟨uM_fr hu1 J6 B6 (by decide) (by decide), eM_ext hm2 ?_ ?_ ?_ ?_, ⟨(f6 18 (by decide)).trans (k5 hdb), ?_, ?_, (J6 13 (by decide)).trans u4, (J6 12 (by decide)).trans u5, (J6 16 (by decide)).trans u6, (J6 17 (by decide)).trans u7⟩⟩)
           · rw [f6 20 (by decide), e2 20 (by decide), ui_n (by decide), ui_n (by decide), f3 20 (by decide)]
           · rw [a6 17 (by decide), e3 17 (by decide), a3 17 (by decide)]
           · rw [a6 18 (by decide), e3 18 (by decide), a3 18 (by decide)]
           · rw [a6 19 (by decide), e3 19 (by decide), a3 19 (by decide)]
           · rw [f6 14 (by decide), e2 14 (by decide), ui_n (by decide), ui_s]
             rfl
           · rw [f6 15 (by decide), e2 15 (by decide), ui_s]
             rfl)
        | (have hdd := bB_t c42
           rw [sy_dead hdd] at hQ
           exact hQ jv5 bv5 (oM_dead O5 hdd) (fun w => by rw [hdd] at w; cases w))
  · refine pz_vr (i := 11) rfl rfl ?_
    have hdd := bB_t c10
    rw [ckE_dead hdd] at hQ
    exact hQ jv1 bv1 (oM_dead o hdd) (fun w => by rw [hdd] at w; cases w)
set_option maxRecDepth 20000 in
theorem sm_checkpointAll (hr : 512 ≤ rm ∧ rm ≤ 4096) {s : dS} {V : vW} (hd : dM rm jv bv s) (hdn : s.2.2.2.2.2 = false) (hv : vM jv bv V) (hI : ckI rm s V) (hb : ∀ i, 1 ≤ i → i ≤ 7 → V.2.2 i < 2 ^ 30 - 50) (hQ : ∀ jv' bv', oM rm jv bv jv' bv' (ck rm s V).1 [0, 1, 2, 14, 15, 17, 18, 19, 20] [2, 3, 4, 5, 6, 7, 8, 15, 16, 17, 20, 21, 22, 23] → ((ck rm s V).1.2.2.2.2.2 = false → vM jv' bv' (ck rm s V).2) → Q none (wX rm iv av (wM rm jv' bv'))) : rx_R Lx xs (d + 7) 118 [.ref 54] (wX rm iv av (wM rm jv bv)) Q := by
  refine pz_en (t := rt_118) ⟨Nat.le_of_ble_eq_true rfl, rfl⟩ rfl rfl ?_
  have hr' : 0 < rm ∧ rm ≤ 4096 := ⟨by omega, hr.2⟩
  have hkl := kS_len V.2.1
  obtain ⟨n1, n2⟩ := ckP_num (rm := rm) (s := s) (V := V)
  unfold ck at hQ
  have hdn2 : (sy rm s).2.2.2.2.2 = false := by rw [sy_al]; exact hdn
  have hb7 := hb 7 (by decide) (by decide)
  have hbP : ∀ i, 1 ≤ i → i ≤ 7 → (ckP rm s V).2.2.2 i < 2 ^ 30 - 20 := fun i i1 i2 => by
    by_cases e : i = 7
    · subst e
      omega
    · rw [n1 i e]
      have := hb i i1 i2
      omega
  refine pz_aln (i := 0) rfl rfl ?_
  refine pz_cI0 (i := 1) rfl (gc_54 ..) rfl (Nat.le_of_ble_eq_true rfl) rfl ?_
  refine sm_syncAll hr' hd hdn (fun jv1 bv1 k1 f1 a1 => ?_)
  have hv1 := vM_fr hv f1 a1 (by decide) (by decide)
  refine ⟨_, rfl, ?_⟩
  refine pz_isn (i := 2) rfl ⟨rfl, Nat.le_of_ble_eq_true rfl⟩ rfl ?_
  refine pz_aln (i := 3) rfl rfl ?_
  refine pz_get (i := 4) rfl (gf_54_41 ..) ?_
  rw [hv1.2.1.2.1]
  refine pz_if_le (i := 5) rfl (fun c5 => ?_) (fun c5 => ?_)
  · first
      | (refine lq_c8 hr (s := (ckP rm s V).1) (V := (ckP rm s V).2) (oM_tr f1 a1 o2 (by decide) (by decide) (by decide) (by decide) (by decide) (by decide)) (fun w => ⟨(k2 w).1, ?_⟩) hbP hQ
         obtain ⟨w1, w2, w3, w4, w5, w6, w7⟩ := hv1.2.2
         have f2 := (o2.1 w).2.1
         exact ⟨by rw [f2 18 (by decide), n1 1 (by decide)]; exact w1, by rw [f2 14 (by decide), n1 2 (by decide)]; exact w2, by rw [f2 15 (by decide), n1 3 (by decide)]; exact w3, by rw [f2 13 (by decide), n1 4 (by decide)]; exact w4, by rw [f2 12 (by decide), n1 5 (by decide)]; exact w5, by rw [f2 16 (by decide), n1 6 (by decide)]; exact w6, (k2 w).2⟩)
      | (have h0 : (kS V.2.1).length = 0 := by
           have := le_ofI (b := 0) c5
           omega
         have eP : ckP rm s V = (sy rm s, V) := by
           unfold ckP
           rw [if_pos h0]
         rw [eP] at hQ hbP
         exact lq_c8 hr (s := sy rm s) (V := V) ⟨fun _ => ⟨k1, frI_w f1 (by decide), frA_w a1 (by decide)⟩, fun w => by rw [hdn2] at w; cases w⟩ (fun _ => ⟨hv1.1, hv1.2.2⟩) hbP hQ)
  · refine pz_aln (i := 6) rfl rfl ?_
    refine pz_cV0 (i := 7) rfl (gc_54 ..) rfl (Nat.le_of_ble_eq_true rfl) rfl ?_
    have hne : ¬ (kS V.2.1).length = 0 := fun z => c5 (by rw [z]; exact Int32.le_refl _)
    have eP : ckP rm s V = st0 rm (sy rm s) V := by
      unfold ckP
      rw [if_neg hne]
    refine sm_makeTables hr k1 hdn2 (cp_sy (by decide) (by decide)) hv1.1 hv1.2.1 (V := V) ⟨fun t ht => by rw [cu_sy]; exact hI.1 t ht, hI.2⟩ hv1.2.2.2.2.2.2.2.2 (by omega) (fun jv2 bv2 o2 k2 => ?_)
    rw [← eP] at o2 k2
    refine ⟨rfl, ?_⟩
    first
      | (refine lq_c8 hr (s := (ckP rm s V).1) (V := (ckP rm s V).2) (oM_tr f1 a1 o2 (by decide) (by decide) (by decide) (by decide) (by decide) (by decide)) (fun w => ⟨(k2 w).1, ?_⟩) hbP hQ
         obtain ⟨w1, w2, w3, w4, w5, w6, w7⟩ := hv1.2.2
         have f2 := (o2.1 w).2.1
         exact ⟨by rw [f2 18 (by decide), n1 1 (by decide)]; exact w1, by rw [f2 14 (by decide), n1 2 (by decide)]; exact w2, by rw [f2 15 (by decide), n1 3 (by decide)]; exact w3, by rw [f2 13 (by decide), n1 4 (by decide)]; exact w4, by rw [f2 12 (by decide), n1 5 (by decide)]; exact w5, by rw [f2 16 (by decide), n1 6 (by decide)]; exact w6, (k2 w).2⟩)
      | (have h0 : (kS V.2.1).length = 0 := by
           have := le_ofI (b := 0) c5
           omega
         have eP : ckP rm s V = (sy rm s, V) := by
           unfold ckP
           rw [if_pos h0]
         rw [eP] at hQ hbP
         exact lq_c8 hr (s := sy rm s) (V := V) ⟨fun _ => ⟨k1, frI_w f1 (by decide), frA_w a1 (by decide)⟩, fun w => by rw [hdn2] at w; cases w⟩ (fun _ => ⟨hv1.1, hv1.2.2⟩) hbP hQ)
end SB6
