/-! PART 78: View.load, Keeper.startUp -/
section S78
variable {Lx : Nat} {xs : Nat → Int32} {d rm : Nat} {r : pW} {Q : rQ}
set_option maxRecDepth 20000 in
theorem lp_load (hr : 0 < rm ∧ rm ≤ 4096) {v fst tl : Nat} (hv : v < 2) {c : Nat → Int32} {iv0 : Nat → Int32} {av0 : Nat → Nat → Int32} (hc : av0 0 = c) (htl : iv0 (10 + 10 * v + 4) = nI tl) (htl2 : tl < 2 ^ 30) {h1 n1 : Nat} {m1 : mP} (hf1 : fst ≤ n1) (hn1 : n1 < 2 ^ 30) (hQ : ∀ iv av, eX (2 * v) iv av m1 → iv (10 + 10 * v + 5) = nI h1 → iv (10 + 10 * v + 6) = nI n1 → frI iv0 iv [10 + 10 * v + 5, 10 + 10 * v + 6, 30 + 2 * v] → frA av0 av [10 + 3 * (2 * v) + 0, 10 + 3 * (2 * v) + 1, 10 + 3 * (2 * v) + 2] → Q (some (.int (nI (n1 - fst)))) (wX rm iv av r)) :
    ∀ (l w : List lR) (ph nh j : Nat) (m : mP) (iv : Nat → Int32) (av : Nat → Nat → Int32) (x5 x6 : Option Value), (∀ y ∈ w ++ l, rcOK y) → atL rm c ph (lgB nh (w ++ l)) → qL rm c (ph + lgZ (w ++ l) + 8) ≠ nh + (w ++ l).length → ph + lgZ (w ++ l) + 12 ≤ tl + rm → tl ≤ ph → ph + lgZ (w ++ l) < 2 ^ 30 - 1000 → nh + (w ++ l).length < 2 ^ 30 → tl + 12 * j ≤ ph + lgZ w →
      h1 = ph + lgZ (tkn w l) → n1 = nh + (tkn w l).length → m1 = rpM ph nh m (tkn w l) → eX (2 * v) iv av m → iv (10 + 10 * v + 5) = nI ph → iv (10 + 10 * v + 6) = nI nh → frI iv0 iv [10 + 10 * v + 5, 10 + 10 * v + 6, 30 + 2 * v] → frA av0 av [10 + 3 * (2 * v) + 0, 10 + 3 * (2 * v) + 1, 10 + 3 * (2 * v) + 2] → pz Lx xs (d + 4) rt_42 (some .int) Q 24 [some (.ref (oV v)), some (.int (nI fst)), some (.int (nI (ph + lgZ w))), some (.int (nI (nh + w.length))), some (.int (nI (12 * j))), x5, x6] [] (wX rm iv av r) := by
  intro l
  induction l with
  | nil =>
    intro w ph nh j m iv av x5 x6 ho hA hstop hfit htp hph hnh hj e1 e2 e3 hx h5 h6 f1 f2
    rw [List.append_nil] at hstop hfit hph hnh
    have hc0 : av 0 = c := (f2 0 (by simp only [List.mem_cons, List.not_mem_nil, or_false, not_or]; omega)).trans hc
    have e1' : h1 = ph := e1
    have e2' : n1 = nh := e2
    have e3' : m1 = m := e3
    subst e1' e2' e3'
    refine pz_il (i := 24) rfl rfl ?_
    refine pz_aln (i := 25) rfl rfl ?_
    refine pz_get (i := 26) rfl (gV_0 hv ..) ?_
    refine pz_get (i := 27) rfl (gf_2_0 ..) ?_
    refine pz_ii_ge (i := 28) rfl (fun c28 => ?_) (fun c28 => ?_)
    · refine pz_aln (i := 73) rfl rfl ?_
      refine pz_get (i := 74) rfl (gV_9 hv ..) ?_
      rw [h6]
      refine pz_iln (i := 75) rfl rfl ?_
      refine pz_sub (i := 76) rfl ?_
      rw [pk_sub hf1]
      refine pz_ir (i := 77) rfl rfl rfl ?_
      exact hQ iv av hx h5 h6 f1 f2
    · refine pz_aln (i := 29) rfl rfl ?_
      refine pz_iln (i := 30) rfl rfl ?_
      refine pz_iln (i := 31) rfl rfl ?_
      refine pz_cI2 (i := 32) rfl (gV_c hv ..) rfl (Nat.le_of_ble_eq_true rfl) rfl ?_
      refine sx_isRecord hr hv (by omega) (by omega) ?_
      rw [hc0, isR_f hstop]
      refine ⟨_, rfl, ?_⟩
      refine pz_if_eq (i := 33) rfl (fun c33 => ?_) (fun c33 => ?_)
      · refine pz_aln (i := 73) rfl rfl ?_
        refine pz_get (i := 74) rfl (gV_9 hv ..) ?_
        rw [h6]
        refine pz_iln (i := 75) rfl rfl ?_
        refine pz_sub (i := 76) rfl ?_
        rw [pk_sub hf1]
        refine pz_ir (i := 77) rfl rfl rfl ?_
        exact hQ iv av hx h5 h6 f1 f2
      · exact absurd rfl c33
  | cons y l ih =>
    intro w ph nh j m iv av x5 x6 ho hA hstop hfit htp hph hnh hj e1 e2 e3 hx h5 h6 f1 f2
    have hc0 : av 0 = c := (f2 0 (by simp only [List.mem_cons, List.not_mem_nil, or_false, not_or]; omega)).trans hc
    have hy := ho y (List.mem_append_right _ List.mem_cons_self)
    obtain ⟨o1, o2, o3, o4, o5, o6, o7⟩ := id hy
    have hzy : rcZ y = 12 + y.2.2.2.length := rfl
    have hwl : w ++ y :: l = (w ++ [y]) ++ l := by simp
    have hz1 : lgZ (w ++ y :: l) = lgZ w + (rcZ y + lgZ l) := lgZ_app w (y :: l)
    have hz2 : lgZ (w ++ [y]) = lgZ w + rcZ y := lgZ_app w [y]
    have hl1 : (w ++ y :: l).length = w.length + (l.length + 1) := by simp
    have hl2 : (w ++ [y]).length = w.length + 1 := by simp
    have hA' := hA
    rw [lgB_app, atL_app, lgB_len] at hA'
    have hA2 : atL rm c (ph + lgZ w) (rcB y (nh + w.length) ++ lgB (nh + w.length + 1) l) := hA'.2
    rw [atL_app, rcB_len] at hA2
    have hrc : rcA rm c (ph + lgZ w) y (nh + w.length) := hA2.1
    have hk256 : y.1 + y.2.1 < 256 := by omega
    have htl1 : iv (10 + 10 * v + 4) = nI tl := (f1 _ (by simp only [List.mem_cons, List.not_mem_nil, or_false, not_or]; omega)).trans htl
    rw [hz1] at hfit hph
    rw [hl1] at hnh
    have hAw : atL rm c ph (lgB nh (w ++ [y])) := by
      rw [hwl, lgB_app, atL_app] at hA
      exact hA.1
    have how : ∀ z ∈ w ++ [y], rcOK z := fun z hz => ho z (by rw [hwl]; exact List.mem_append_left _ hz)
    refine pz_il (i := 24) rfl rfl ?_
    refine pz_aln (i := 25) rfl rfl ?_
    refine pz_get (i := 26) rfl (gV_0 hv ..) ?_
    refine pz_get (i := 27) rfl (gf_2_0 ..) ?_
    refine pz_ii_ge (i := 28) rfl (fun c28 => ?_) (fun c28 => ?_)
    · exact absurd (le_ofI c28) (by omega)
    · refine pz_aln (i := 29) rfl rfl ?_
      refine pz_iln (i := 30) rfl rfl ?_
      refine pz_iln (i := 31) rfl rfl ?_
      refine pz_cI2 (i := 32) rfl (gV_c hv ..) rfl (Nat.le_of_ble_eq_true rfl) rfl ?_
      refine sx_isRecord hr hv (by omega) (by omega) ?_
      rw [hc0, isR_t hrc hy (by omega)]
      refine ⟨_, rfl, ?_⟩
      refine pz_if_eq (i := 33) rfl (fun c33 => ?_) (fun c33 => ?_)
      · exact absurd c33 (by decide)
      · refine pz_iln (i := 34) rfl rfl ?_
        refine pz_aln (i := 35) rfl rfl ?_
        refine pz_get (i := 36) rfl (gV_0 hv ..) ?_
        refine pz_iln (i := 37) rfl rfl ?_
        refine pz_cI1 (i := 38) rfl (gc_2 ..) rfl (Nat.le_of_ble_eq_true rfl) rfl ?_
        refine sx_recordSize hr (by omega) ?_
        rw [hc0, bN_and, rcA_len hrc, show (12 : Int32) + nI y.2.2.2.length = nI (rcZ y) from nI_add 12 _]
        refine ⟨_, rfl, ?_⟩
        refine pz_add (i := 39) rfl ?_
        rw [nI_add]
        refine pz_is (i := 40) rfl ⟨rfl, Nat.le_of_ble_eq_true rfl⟩ rfl ?_
        refine pz_il (i := 41) rfl rfl ?_
        refine pz_aln (i := 42) rfl rfl ?_
        refine pz_get (i := 43) rfl (gV_7 hv ..) ?_
        rw [htl1]
        refine pz_sub (i := 44) rfl ?_
        rw [pk_sub (by omega)]
        refine pz_aln (i := 45) rfl rfl ?_
        refine pz_get (i := 46) rfl (gV_0 hv ..) ?_
        refine pz_get (i := 47) rfl (gf_2_0 ..) ?_
        refine pz_bi (i := 48) rfl ?_
        refine pz_sub (i := 49) rfl ?_
        rw [show nI rm - 12 = nI (rm - 12) from pk_sub (b := 12) (by omega)]
        refine pz_ii_le (i := 50) rfl (fun c50 => ?_) (fun c50 => ?_)
        · refine pz_aln (i := 52) rfl rfl ?_
          refine pz_get (i := 53) rfl (gV_0 hv ..) ?_
          refine pz_iln (i := 54) rfl rfl ?_
          refine pz_cI1 (i := 55) rfl (gc_2 ..) rfl (Nat.le_of_ble_eq_true rfl) rfl ?_
          refine sx_logByte hr (by omega) ?_
          rw [hc0, bN_and, rcA_kind hrc]
          refine ⟨_, rfl, ?_⟩
          refine pz_si (i := 56) rfl ?_
          refine pz_and (i := 57) rfl ?_
          refine pz_if_eq (i := 58) rfl (fun c58 => ?_) (fun c58 => ?_)
          · refine pz_ic (i := 61) rfl ?_
            refine pz_is (i := 62) rfl ⟨rfl, Nat.le_of_ble_eq_true rfl⟩ rfl ?_
            refine pz_il (i := 63) rfl rfl ?_
            refine pz_isn (i := 64) rfl ⟨rfl, Nat.le_of_ble_eq_true rfl⟩ rfl ?_
            refine pz_inc (i := 65) rfl rfl rfl rfl ?_
            refine pz_il (i := 66) rfl rfl ?_
            refine pz_if_ne (i := 67) rfl (fun c67 => ?_) (fun c67 => ?_)
            · first
                | exact absurd rfl c67
                | (skip
                   refine pz_inc (i := 71) rfl rfl rfl rfl ?_
                   refine pz_go (i := 72) rfl ?_
                   rw [show nI (12 * j) + 12 = nI (12 * (j + 1)) from nI_add (12 * j) 12, nI_1, show ph + lgZ w + rcZ y = ph + lgZ (w ++ [y]) by rw [hz2]; omega, show nh + w.length + 1 = nh + (w ++ [y]).length by rw [hl2]; omega]
                   have hfl : ¬ y.2.1 = 0 := by
                     intro z
                     exact absurd ((b_an2 _ hk256).mpr (by rw [z]; omega)) c58
                   have ht : tkn w (y :: l) = tkn (w ++ [y]) l := by
                     show (if y.2.1 = 0 then _ else _) = _
                     rw [if_neg hfl]
                   rw [ht] at e1 e2 e3
                   exact ih (w ++ [y]) ph nh (j + 1) m iv av _ _ (by rw [← hwl]; exact ho) (by rw [← hwl]; exact hA) (by rw [← hwl]; exact hstop) (by rw [← hwl, hz1]; exact hfit) htp (by rw [← hwl, hz1]; exact hph) (by rw [← hwl, hl1]; exact hnh) (by rw [hz2]; omega) e1 e2 e3 hx h5 h6 f1 f2)
            · first
                | exact absurd c67 (by decide)
                | (skip
                   refine pz_aln (i := 68) rfl rfl ?_
                   refine pz_iln (i := 69) rfl rfl ?_
                   refine pz_cV1 (i := 70) rfl (gV_c hv ..) rfl (Nat.le_of_ble_eq_true rfl) rfl ?_
                   rw [nI_1]
                   have hcall : ∀ QQ, (∀ iv' av', eX (2 * v) iv' av' (rpM ph nh m (w ++ [y])) → iv' (10 + 10 * v + 5) = nI (ph + lgZ (w ++ [y])) → iv' (10 + 10 * v + 6) = nI (nh + (w ++ [y]).length) → frI iv iv' [10 + 10 * v + 5, 10 + 10 * v + 6, 30 + 2 * v] → frA av av' [10 + 3 * (2 * v) + 0, 10 + 3 * (2 * v) + 1, 10 + 3 * (2 * v) + 2] → QQ none (wX rm iv' av' r)) → rx_R Lx xs (d + 4) 46 [.ref (oV v), .int (nI (nh + w.length + 1))] (wX rm iv av r) QQ := by
                     intro QQ hQQ
                     have := sx_takeRecords (Lx := Lx) (xs := xs) (d := d) (r := r) (Q := QQ) hr hv (m := m) (l := w ++ [y]) (n := nh) (p := ph) (by rw [hl2]; omega) (by rw [hz2]; omega) how (by rw [hc0]; exact hAw) hx h5 h6 hQQ
                     rw [hl2] at this
                     exact this
                   refine hcall _ (fun iv1 av1 k1 k2 k3 k4 k5 => ?_)
                   refine ⟨rfl, ?_⟩
                   refine pz_inc (i := 71) rfl rfl rfl rfl ?_
                   refine pz_go (i := 72) rfl ?_
                   rw [show nI (12 * j) + 12 = nI (12 * (j + 1)) from nI_add (12 * j) 12]
                   have hfl : y.2.1 = 0 := by
                     have := (b_an2 _ hk256).mp c58
                     omega
                   have ht : tkn w (y :: l) = (w ++ [y]) ++ tkn [] l := by
                     show (if y.2.1 = 0 then w ++ y :: tkn [] l else _) = _
                     rw [if_pos hfl]
                     simp
                   rw [ht] at e1 e2 e3
                   rw [lgZ_app] at e1
                   rw [List.length_append] at e2
                   rw [rpM_app] at e3
                   have hA3 : atL rm c (ph + lgZ (w ++ [y])) (lgB (nh + (w ++ [y]).length) l) := by
                     rw [hwl, lgB_app, atL_app, lgB_len] at hA
                     exact hA.2
                   have hz0 : lgZ [] = 0 := rfl
                   have hs2 : qL rm c (ph + lgZ (w ++ [y]) + lgZ l + 8) ≠ nh + (w ++ [y]).length + l.length := by
                     rw [hwl, lgZ_app, List.length_append] at hstop
                     rw [Nat.add_assoc ph, Nat.add_assoc nh]
                     exact hstop
                   rw [show ph + lgZ w + rcZ y = ph + lgZ (w ++ [y]) + lgZ [] by rw [hz2, hz0]; omega, show nh + w.length + 1 = nh + (w ++ [y]).length + ([] : List lR).length by rw [hl2]; rfl]
                   exact ih [] (ph + lgZ (w ++ [y])) (nh + (w ++ [y]).length) (j + 1) (rpM ph nh m (w ++ [y])) iv1 av1 _ _ (fun z hz => ho z (by rw [hwl]; exact List.mem_append_right _ hz)) hA3 hs2 (by show ph + lgZ (w ++ [y]) + lgZ l + 12 ≤ _; rw [hz2]; omega) (by omega) (by show ph + lgZ (w ++ [y]) + lgZ l < _; rw [hz2]; omega) (by show nh + (w ++ [y]).length + l.length < _; rw [hl2]; omega) (by show tl + 12 * (j + 1) ≤ ph + lgZ (w ++ [y]) + 0; rw [hz2]; omega) (by rw [e1]; omega) (by rw [e2]; omega) e3 k1 k2 k3 (frI_tr f1 k4 (fun _ h => h) (fun _ h => h)) (frA_tr f2 k5 (fun _ h => h) (fun _ h => h)))
          · refine pz_ic (i := 59) rfl ?_
            refine pz_go (i := 60) rfl ?_
            refine pz_is (i := 62) rfl ⟨rfl, Nat.le_of_ble_eq_true rfl⟩ rfl ?_
            refine pz_il (i := 63) rfl rfl ?_
            refine pz_isn (i := 64) rfl ⟨rfl, Nat.le_of_ble_eq_true rfl⟩ rfl ?_
            refine pz_inc (i := 65) rfl rfl rfl rfl ?_
            refine pz_il (i := 66) rfl rfl ?_
            refine pz_if_ne (i := 67) rfl (fun c67 => ?_) (fun c67 => ?_)
            · first
                | exact absurd rfl c67
                | (skip
                   refine pz_inc (i := 71) rfl rfl rfl rfl ?_
                   refine pz_go (i := 72) rfl ?_
                   rw [show nI (12 * j) + 12 = nI (12 * (j + 1)) from nI_add (12 * j) 12, nI_1, show ph + lgZ w + rcZ y = ph + lgZ (w ++ [y]) by rw [hz2]; omega, show nh + w.length + 1 = nh + (w ++ [y]).length by rw [hl2]; omega]
                   have hfl : ¬ y.2.1 = 0 := by
                     intro z
                     exact absurd ((b_an2 _ hk256).mpr (by rw [z]; omega)) c58
                   have ht : tkn w (y :: l) = tkn (w ++ [y]) l := by
                     show (if y.2.1 = 0 then _ else _) = _
                     rw [if_neg hfl]
                   rw [ht] at e1 e2 e3
                   exact ih (w ++ [y]) ph nh (j + 1) m iv av _ _ (by rw [← hwl]; exact ho) (by rw [← hwl]; exact hA) (by rw [← hwl]; exact hstop) (by rw [← hwl, hz1]; exact hfit) htp (by rw [← hwl, hz1]; exact hph) (by rw [← hwl, hl1]; exact hnh) (by rw [hz2]; omega) e1 e2 e3 hx h5 h6 f1 f2)
            · first
                | exact absurd c67 (by decide)
                | (skip
                   refine pz_aln (i := 68) rfl rfl ?_
                   refine pz_iln (i := 69) rfl rfl ?_
                   refine pz_cV1 (i := 70) rfl (gV_c hv ..) rfl (Nat.le_of_ble_eq_true rfl) rfl ?_
                   rw [nI_1]
                   have hcall : ∀ QQ, (∀ iv' av', eX (2 * v) iv' av' (rpM ph nh m (w ++ [y])) → iv' (10 + 10 * v + 5) = nI (ph + lgZ (w ++ [y])) → iv' (10 + 10 * v + 6) = nI (nh + (w ++ [y]).length) → frI iv iv' [10 + 10 * v + 5, 10 + 10 * v + 6, 30 + 2 * v] → frA av av' [10 + 3 * (2 * v) + 0, 10 + 3 * (2 * v) + 1, 10 + 3 * (2 * v) + 2] → QQ none (wX rm iv' av' r)) → rx_R Lx xs (d + 4) 46 [.ref (oV v), .int (nI (nh + w.length + 1))] (wX rm iv av r) QQ := by
                     intro QQ hQQ
                     have := sx_takeRecords (Lx := Lx) (xs := xs) (d := d) (r := r) (Q := QQ) hr hv (m := m) (l := w ++ [y]) (n := nh) (p := ph) (by rw [hl2]; omega) (by rw [hz2]; omega) how (by rw [hc0]; exact hAw) hx h5 h6 hQQ
                     rw [hl2] at this
                     exact this
                   refine hcall _ (fun iv1 av1 k1 k2 k3 k4 k5 => ?_)
                   refine ⟨rfl, ?_⟩
                   refine pz_inc (i := 71) rfl rfl rfl rfl ?_
                   refine pz_go (i := 72) rfl ?_
                   rw [show nI (12 * j) + 12 = nI (12 * (j + 1)) from nI_add (12 * j) 12]
                   have hfl : y.2.1 = 0 := by
                     have := (b_an2 _ hk256).mp c58
                     omega
                   have ht : tkn w (y :: l) = (w ++ [y]) ++ tkn [] l := by
                     show (if y.2.1 = 0 then w ++ y :: tkn [] l else _) = _
                     rw [if_pos hfl]
                     simp
                   rw [ht] at e1 e2 e3
                   rw [lgZ_app] at e1
                   rw [List.length_append] at e2
                   rw [rpM_app] at e3
                   have hA3 : atL rm c (ph + lgZ (w ++ [y])) (lgB (nh + (w ++ [y]).length) l) := by
                     rw [hwl, lgB_app, atL_app, lgB_len] at hA
                     exact hA.2
                   have hz0 : lgZ [] = 0 := rfl
                   have hs2 : qL rm c (ph + lgZ (w ++ [y]) + lgZ l + 8) ≠ nh + (w ++ [y]).length + l.length := by
                     rw [hwl, lgZ_app, List.length_append] at hstop
                     rw [Nat.add_assoc ph, Nat.add_assoc nh]
                     exact hstop
                   rw [show ph + lgZ w + rcZ y = ph + lgZ (w ++ [y]) + lgZ [] by rw [hz2, hz0]; omega, show nh + w.length + 1 = nh + (w ++ [y]).length + ([] : List lR).length by rw [hl2]; rfl]
                   exact ih [] (ph + lgZ (w ++ [y])) (nh + (w ++ [y]).length) (j + 1) (rpM ph nh m (w ++ [y])) iv1 av1 _ _ (fun z hz => ho z (by rw [hwl]; exact List.mem_append_right _ hz)) hA3 hs2 (by show ph + lgZ (w ++ [y]) + lgZ l + 12 ≤ _; rw [hz2]; omega) (by omega) (by show ph + lgZ (w ++ [y]) + lgZ l < _; rw [hz2]; omega) (by show nh + (w ++ [y]).length + l.length < _; rw [hl2]; omega) (by show tl + 12 * (j + 1) ≤ ph + lgZ (w ++ [y]) + 0; rw [hz2]; omega) (by rw [e1]; omega) (by rw [e2]; omega) e3 k1 k2 k3 (frI_tr f1 k4 (fun _ h => h) (fun _ h => h)) (frA_tr f2 k5 (fun _ h => h) (fun _ h => h)))
        · exact absurd (nI_le (by omega) (by omega)) c50
set_option maxRecDepth 20000 in
theorem sx_load (hr : 512 ≤ rm ∧ rm ≤ 4096) {v : Nat} (hv : v < 2) {iv : Nat → Int32} {av : Nat → Nat → Int32} {W : vW} {all : List lR} (hI : rtI rm (av 0) W) (hL : lgI rm (av 0) W all) (hQ : ∀ iv' av', vX v iv' av' W → frI iv iv' [10 + 10 * v + 0, 10 + 10 * v + 1, 10 + 10 * v + 2, 10 + 10 * v + 3, 10 + 10 * v + 4, 10 + 10 * v + 7, 10 + 10 * v + 5, 10 + 10 * v + 6, 30 + 2 * v] → frA av av' [4 + v, 10 + 3 * (2 * v) + 0, 10 + 3 * (2 * v) + 1, 10 + 3 * (2 * v) + 2] → Q (some (.int (nI (tkn [] all).length))) (wX rm iv' av' r)) : rx_R Lx xs (d + 5) 42 [.ref (oV v)] (wX rm iv av r) Q := by
  refine pz_en (t := rt_42) ⟨Nat.le_of_ble_eq_true rfl, rfl⟩ rfl rfl ?_
  have hr' : 0 < rm ∧ rm ≤ 4096 := ⟨by omega, hr.2⟩
  obtain ⟨q1, q2, q3, q4, q5, q6, q7, q8, q9, q10⟩ := hL
  have hbn := hI.2.2.1
  have b2 := hbn 2 (by decide) (by decide)
  have b3 := hbn 3 (by decide) (by decide)
  have b4 := hbn 4 (by decide) (by decide)
  have b6 := hbn 6 (by decide) (by decide)
  refine pz_aln (i := 0) rfl rfl ?_
  refine pz_cV0 (i := 1) rfl (gV_c hv ..) rfl (Nat.le_of_ble_eq_true rfl) rfl ?_
  refine sx_loadRoot hr' hv hI (fun iv1 av1 hR f1 f2 => ?_)
  refine ⟨rfl, ?_⟩
  refine pz_aln (i := 2) rfl rfl ?_
  refine pz_get (i := 3) rfl (gV_1 hv ..) ?_
  refine pz_cV0 (i := 4) rfl (gE_c (by omega) ..) rfl (Nat.le_of_ble_eq_true rfl) rfl ?_
  refine sx_Eclear (e := 2 * v) (by omega) ?_
  have g2 : upd iv1 (30 + 2 * v) 0 (10 + 10 * v + 2) = nI (W.2.2 2) := (ui_n (by omega)).trans (hR.2 2 (by simp))
  refine ⟨rfl, ?_⟩
  refine pz_aln (i := 5) rfl rfl ?_
  refine pz_aln (i := 6) rfl rfl ?_
  refine pz_get (i := 7) rfl (gV_5 hv ..) ?_
  rw [g2]
  refine pz_put (i := 8) rfl (pV_8 hv ..) ⟨rfl, rfl⟩ ?_
  refine pz_aln (i := 9) rfl rfl ?_
  refine pz_aln (i := 10) rfl rfl ?_
  refine pz_get (i := 11) rfl (gV_6 hv ..) ?_
  rw [show upd (upd iv1 (30 + 2 * v) 0) (10 + 10 * v + 5) (nI (W.2.2 2)) (10 + 10 * v + 3) = nI (W.2.2 3) from (ui_n (by omega)).trans ((ui_n (by omega)).trans (hR.2 3 (by simp)))]
  refine pz_put (i := 12) rfl (pV_9 hv ..) ⟨rfl, rfl⟩ ?_
  refine pz_aln (i := 13) rfl rfl ?_
  refine pz_get (i := 14) rfl (gV_9 hv ..) ?_
  rw [ui_s]
  refine pz_isn (i := 15) rfl ⟨rfl, Nat.le_of_ble_eq_true rfl⟩ rfl ?_
  refine pz_aln (i := 16) rfl rfl ?_
  refine pz_get (i := 17) rfl (gV_8 hv ..) ?_
  rw [ui_n (by omega), ui_s]
  refine pz_isn (i := 18) rfl ⟨rfl, Nat.le_of_ble_eq_true rfl⟩ rfl ?_
  refine pz_aln (i := 19) rfl rfl ?_
  refine pz_get (i := 20) rfl (gV_9 hv ..) ?_
  rw [ui_s]
  refine pz_isn (i := 21) rfl ⟨rfl, Nat.le_of_ble_eq_true rfl⟩ rfl ?_
  refine pz_ic (i := 22) rfl ?_
  refine pz_is (i := 23) rfl ⟨rfl, Nat.le_of_ble_eq_true rfl⟩ rfl ?_
  refine lp_load hr' hv (fst := W.2.2 3) (tl := W.2.2 4) (c := av 0) (iv0 := upd (upd (upd iv1 (30 + 2 * v) 0) (10 + 10 * v + 5) (nI (W.2.2 2))) (10 + 10 * v + 6) (nI (W.2.2 3))) (av0 := up_a av1 (10 + 3 * (2 * v) + 0) (zK (av1 (10 + 3 * (2 * v) + 0)))) ?_ ?_ b4 (h1 := W.2.2 5) (n1 := W.2.2 6) (m1 := W.2.1) (by omega) b6 (fun iv3 av3 k1 k2 k3 k4 k5 => ?_) all [] (W.2.2 2) (W.2.2 3) 0 m0 _ _ _ _ q1 q2 q3 q4 q5 (by show W.2.2 2 + lgZ all < _; omega) q6 (by show W.2.2 4 + 12 * 0 ≤ W.2.2 2 + 0; omega) q8 q9 q10 ?_ ?_ ?_ (frI_rfl _ _) (frA_rfl _ _)
  · rw [ua_n (by omega), f2 0 (by simp only [List.mem_cons, List.not_mem_nil, or_false]; omega)]
  · rw [ui_n (by omega), ui_n (by omega), ui_n (by omega)]
    exact hR.2 4 (by simp)
  · have e9 : W.2.2 6 - W.2.2 3 = (tkn [] all).length := by omega
    rw [e9]
    have hfi : frI iv1 iv3 [10 + 10 * v + 5, 10 + 10 * v + 6, 30 + 2 * v] := frI_tr (frI_up (frI_up (frI_up (frI_rfl iv1 [10 + 10 * v + 5, 10 + 10 * v + 6, 30 + 2 * v]) (by simp)) (by simp)) (by simp)) k4 (fun _ h => h) (fun _ h => h)
    have hfa : frA av1 av3 [10 + 3 * (2 * v) + 0, 10 + 3 * (2 * v) + 1, 10 + 3 * (2 * v) + 2] := frA_tr (frA_up (frA_rfl av1 [10 + 3 * (2 * v) + 0, 10 + 3 * (2 * v) + 1, 10 + 3 * (2 * v) + 2]) (by simp)) k5 (fun _ h => h) (fun _ h => h)
    refine hQ iv3 av3 ⟨⟨?_, hR.1.2.1, fun i t ht => ?_⟩, k1, fun i h1 h2 => ?_⟩ (frI_tr f1 hfi (by simp) (by simp)) (frA_tr f2 hfa (by simp) (by simp))
    · have := hfi (10 + 10 * v + 0) (by simp only [List.mem_cons, List.not_mem_nil, or_false, not_or]; omega)
      exact this.trans hR.1.1
    · rw [hfa (4 + v) (by simp only [List.mem_cons, List.not_mem_nil, or_false, not_or]; omega)]
      exact hR.1.2.2 i t ht
    · by_cases h5 : i = 5
      · subst h5
        exact k2
      · by_cases h6 : i = 6
        · subst h6
          exact k3
        · rw [hfi (10 + 10 * v + i) (by simp only [List.mem_cons, List.not_mem_nil, or_false, not_or]; omega)]
          exact hR.2 i (by omega)
  · exact eX_ext (eX_clear (2 * v) iv1 av1) (by rw [ui_n (by omega), ui_n (by omega)]) rfl rfl rfl
  · rw [ui_n (by omega), ui_s]
  · exact ui_s _ _ _
/-- the disk behind an opening: power is there again, zeros at the head, all lasting -/
def dUp (s : dS) : dS := (s.1, s.2.1, s.2.2.1, s.2.2.2.1, s.2.2.2.2.1, false)
def opS (rm : Nat) (s : dS) (h : Nat) : dS := sy rm (wr (dUp s) (wL (h % rm) z12))
theorem dX_up {iv : Nat → Int32} {av : Nat → Nat → Int32} {s : dS} (hd : dX rm iv av s) : dX rm (upd iv 5 0) av (dUp s) := by
  unfold dX at hd ⊢
  rw [ui_n (by decide), ui_n (by decide), ui_n (by decide), ui_n (by decide), ui_n (by decide), ui_s]
  obtain ⟨q0, q1, q2, q3, q4, q5, q6, q7, q8, q9, q10, q11, qb1, qb2, q12⟩ := hd
  exact ⟨q0, q1, q2, q3, q4, q5, q6, q7, rfl, q9, q10, q11, qb1, qb2, q12⟩
set_option maxRecDepth 20000 in
theorem sx_startUp (hr : 512 ≤ rm ∧ rm ≤ 4096) {iv : Nat → Int32} {av : Nat → Nat → Int32} {W : vW} {all : List lR} {s : dS} (hd : dX rm iv av s) (hp : s.2.1 = []) (hz : kz av) (hI : rtI rm (cu rm s) W) (hL : lgI rm (cu rm s) W all) (hQ : ∀ iv' av', dX rm iv' av' (opS rm s (W.2.2 5)) → vX 0 iv' av' W → kz av' → frI iv iv' [0, 1, 2, 5, 10, 11, 12, 13, 14, 15, 16, 17, 30] → frA av av' [0, 1, 2, 3, 4, 10, 11, 12] → Q (some (.int (nI (tkn [] all).length))) (wX rm iv' av' r)) : rx_R Lx xs (d + 6) 30 [.ref 13] (wX rm iv av r) Q := by
  refine pz_en (t := rt_30) ⟨Nat.le_of_ble_eq_true rfl, rfl⟩ rfl rfl ?_
  have hr' : 0 < rm ∧ rm ≤ 4096 := ⟨by omega, hr.2⟩
  have hc0 : av 0 = cu rm s := hd.1
  have b5 := hI.2.2.1 5 (by decide) (by decide)
  refine pz_aln (i := 0) rfl rfl ?_
  refine pz_get (i := 1) rfl (gf_13_0 ..) ?_
  refine pz_ic (i := 2) rfl ?_
  refine pz_put (i := 3) rfl (pf_2_10 ..) ⟨rfl, rfl⟩ ?_
  refine pz_aln (i := 4) rfl rfl ?_
  refine pz_get (i := 5) rfl (gf_13_1 ..) ?_
  refine pz_cI0 (i := 6) rfl (gc_7 ..) rfl (Nat.le_of_ble_eq_true rfl) rfl ?_
  refine sx_load (v := 0) hr (by decide) (W := W) (all := all) (by rw [hc0]; exact hI) (by rw [hc0]; exact hL) (fun iv1 av1 hV1 f1 f2 => ?_)
  have f1 : frI (upd iv 5 0) iv1 [10, 11, 12, 13, 14, 17, 15, 16, 30] := f1
  have f2 : frA av av1 [4, 10, 11, 12] := f2
  have e15 : iv1 15 = nI (W.2.2 5) := hV1.2.2 5 (by decide) (by decide)
  have hd1 : dX rm iv1 av1 (dUp s) := dX_ext (dX_up hd) (fun j hj => f1 j (by simp only [List.mem_cons, List.not_mem_nil, or_false, not_or]; omega)) (fun j hj => f2 j (by simp only [List.mem_cons, List.not_mem_nil, or_false, not_or]; omega))
  refine ⟨_, rfl, ?_⟩
  refine pz_isn (i := 7) rfl ⟨rfl, Nat.le_of_ble_eq_true rfl⟩ rfl ?_
  refine pz_aln (i := 8) rfl rfl ?_
  refine pz_get (i := 9) rfl (gf_13_0 ..) ?_
  refine pz_aln (i := 10) rfl rfl ?_
  refine pz_get (i := 11) rfl (gf_13_0 ..) ?_
  refine pz_aln (i := 12) rfl rfl ?_
  refine pz_get (i := 13) rfl (gf_13_1 ..) ?_
  refine pz_get (i := 14) rfl (gf_7_8 ..) ?_
  rw [e15]
  refine pz_cI1 (i := 15) rfl (gc_2 ..) rfl (Nat.le_of_ble_eq_true rfl) rfl ?_
  refine sx_logCell hr' (q := W.2.2 5) (by omega) ?_
  refine ⟨_, rfl, ?_⟩
  refine pz_aln (i := 16) rfl rfl ?_
  refine pz_get (i := 17) rfl (gf_13_4 ..) ?_
  refine pz_ic (i := 18) rfl ?_
  refine pz_bi (i := 19) rfl ?_
  refine pz_cV4 (i := 20) rfl (gc_2 ..) rfl (Nat.le_of_ble_eq_true rfl) rfl ?_
  refine sx_write hr' (ρ := 18) (a := 25) (na := 12) (from0 := 0) (n := 12) (g := lB z12) (fun _ _ => ga_19 ..) (by decide) (by decide) (by decide) (fun k hk => ?_) (lB_bt _) (wokL (l := z12) hr'.1 (by show 12 ≤ rm; omega)) (s := dUp s) hd1 (fun _ => ?_) (fun iv2 av2 hd2 fi2 fa2 => ?_)
  · rw [Nat.zero_add, f2 25 (by decide), hz.1 k hk]
    exact (lB_z 12 k).symm
  · show s.2.1.length < 1024 ∧ tot s.2.1 + 12 ≤ 8192
    rw [hp]
    decide
  refine ⟨rfl, ?_⟩
  refine pz_aln (i := 21) rfl rfl ?_
  refine pz_get (i := 22) rfl (gf_13_0 ..) ?_
  refine pz_cV0 (i := 23) rfl (gc_2 ..) rfl (Nat.le_of_ble_eq_true rfl) rfl ?_
  refine sx_sync hd2 (fun iv3 hd3 f3 => ?_)
  refine ⟨rfl, ?_⟩
  refine pz_iln (i := 24) rfl rfl ?_
  refine pz_ir (i := 25) rfl rfl rfl ?_
  have hfi : frI iv1 iv3 [0, 1, 2, 5] := frI_tr fi2 f3 (by decide) (by decide)
  refine hQ iv3 av2 hd3 (vX_ext hV1 hfi fa2 (by decide) (by decide)) (kz_ext hz (frA_tr f2 fa2 (S := [0, 1, 2, 3, 4, 10, 11, 12]) (by decide) (by decide)) (by decide)) (frI_tr (frI_up (frI_rfl iv [5]) (by decide)) (frI_tr f1 hfi (S := [0, 1, 2, 5, 10, 11, 12, 13, 14, 15, 16, 17, 30]) (by decide) (by decide)) (by decide) (by decide)) (frA_tr f2 fa2 (by decide) (by decide))
end S78
