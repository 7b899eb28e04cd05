/-! PART 45: the disk of the reference: power failure and write -/
theorem ap_out {rm : Nat} (hr : 0 < rm) {x : wR} (h : wok rm x) {f : Nat → Int32} {j m : Nat} (hm : m ≤ x.2.1) (hj : rm + 15728 ≤ j) : ap rm f (x.1, m, x.2.2) j = f j := ap_off m (fun i hi e => by
  have : nx rm x.1 i < rm + 15728 := by
    rcases h with h | h
    · exact nx_lt hr (n := x.2.1) (Or.inl h.1) (by omega)
    · exact nx_lt hr (n := x.2.1) (Or.inr h.2) (by omega)
  have e' : nx rm x.1 i = j := e
  omega)
theorem fold_out {rm : Nat} (hr : 0 < rm) {j : Nat} (hj : rm + 15728 ≤ j) : ∀ (l : List wR) (f : Nat → Int32), (∀ x ∈ l, wok rm x) → l.foldl (ap rm) f j = f j
  | [], _, _ => rfl
  | x :: l, f, h => by
    show l.foldl (ap rm) (ap rm f x) j = f j
    rw [fold_out hr hj l _ (fun y hy => h y (List.mem_cons_of_mem _ hy))]
    exact ap_out hr (h x List.mem_cons_self) (Nat.le_refl _) hj
theorem cr_out {rm : Nat} (hr : 0 < rm) {las : Nat → Int32} {l : List wR} (h : ∀ x ∈ l, wok rm x) {keep cut j : Nat} (hj : rm + 15728 ≤ j) : cr rm las l keep cut j = las j := by
  unfold cr
  cases hx : l[keep]? with
  | some x =>
    show ap rm ((l.take keep).foldl (ap rm) las) (x.1, min cut x.2.1, x.2.2) j = las j
    rw [ap_out hr (h x (List.mem_of_getElem? hx)) (Nat.min_le_right _ _) hj]
    exact fold_out hr hj _ _ (fun y hy => h y (List.mem_of_mem_take hy))
  | none => exact fold_out hr hj _ _ h
theorem bt_cr {rm : Nat} {las : Nat → Int32} {l : List wR} (h1 : bt las) (h2 : ∀ x ∈ l, bt x.2.2) (keep cut : Nat) : bt (cr rm las l keep cut) := by
  unfold cr
  split
  · rename_i x hx
    exact bt_apk (bt_fold _ h1 (fun y hy => h2 y (List.mem_of_mem_take hy))) (h2 x (List.mem_of_getElem? hx)) _
  · exact bt_fold _ h1 h2
section S45
variable {Lx : Nat} {xs : Nat → Int32} {d rm : Nat} {iv : Nat → Int32} {av : Nat → Nat → Int32} {jv : Nat → Int32} {bv : Nat → Nat → Int32} {Q : rQ}
theorem dM_wok (hr : 0 < rm ∧ rm ≤ 4096) {s : dS} (hd : dM rm jv bv s) : ∀ x ∈ s.2.1, wok rm x := by
  intro x hx
  obtain ⟨q0, q1, q2, q3, q4, q5, q6, q7, q8, q9, q10, q11, q12, qb1, qb2, qg, q13⟩ := id hd
  obtain ⟨w, hw⟩ := List.getElem?_of_mem hx
  obtain ⟨a, q, g1, g2, g3, g4, g5, -⟩ := q13 w x hw
  have := wgeo_ok (g := x.2.2) hr.1 g4 g3
  rw [← g5] at this
  exact this
theorem lp_pf3 {keep cut : Int32} : ∀ (m k : Nat) (bv : Nat → Nat → Int32), k ≤ 120 → 120 ≤ k + m → Q none (wX rm iv av (wM rm jv (up_a bv 17 (fun j => if k ≤ j ∧ j < 120 then 0 else bv 17 j)))) → pz Lx xs d rt_97 none Q 75 [some (.ref 54), some (.int keep), some (.int cut), some (.int (nI k))] [] (wX rm iv av (wM rm jv bv)) := by
  have hdone : ∀ (k : Nat) (bv : Nat → Nat → Int32), k = 120 → Q none (wX rm iv av (wM rm jv (up_a bv 17 (fun j => if k ≤ j ∧ j < 120 then 0 else bv 17 j)))) → pz Lx xs d rt_97 none Q 75 [some (.ref 54), some (.int keep), some (.int cut), some (.int (nI k))] [] (wX rm iv av (wM rm jv bv)) := by
    intro k bv hk hQ
    subst hk
    have e0 : up_a bv 17 (fun j => if 120 ≤ j ∧ j < 120 then 0 else bv 17 j) = bv := by
      rw [show (fun j => if 120 ≤ j ∧ j < 120 then 0 else bv 17 j) = bv 17 from funext fun j => if_neg (by omega)]
      exact ua_id bv _
    rw [e0] at hQ
    refine pz_iln (i := 75) rfl rfl ?_
    refine pz_bi (i := 76) rfl ?_
    refine pz_ii_ge (i := 77) rfl (fun c77 => ?_) (fun c77 => ?_)
    · refine pz_vr (i := 85) rfl rfl ?_
      exact hQ
    · exact absurd (show nI 120 ≤ nI 120 from Int32.le_refl _) c77
  intro m
  induction m with
  | zero =>
    intro k bv hk hm hQ
    exact hdone k bv (by omega) hQ
  | succ m ih =>
    intro k bv hk hm hQ
    by_cases hkn : k = 120
    · exact hdone k bv hkn hQ
    refine pz_iln (i := 75) rfl rfl ?_
    refine pz_bi (i := 76) rfl ?_
    refine pz_ii_ge (i := 77) rfl (fun c77 => ?_) (fun c77 => ?_)
    · exact absurd (le_ofI (a := 120) c77) (by omega)
    · refine pz_aln (i := 78) rfl rfl ?_
      refine pz_get (i := 79) rfl (gf_54_38 ..) ?_
      refine pz_iln (i := 80) rfl rfl ?_
      refine pz_ic (i := 81) rfl ?_
      refine pz_ias (i := 82) rfl (ga_72 ..) (in_ofI (by omega)) (pa_72 ..) ?_
      rw [cl_ofI (a := k)]
      refine pz_inc (i := 83) rfl rfl rfl rfl ?_
      refine pz_go (i := 84) rfl ?_
      rw [nI_1]
      refine ih (k + 1) _ (by omega) (by omega) ?_
      rw [ua_uu, ua_s]
      refine (congrArg (fun f => Q none (wX rm iv av (wM rm jv (up_a bv 17 f)))) (funext fun j => ?_)).mpr hQ
      by_cases hj : j = k
      · subst hj
        rw [if_neg (by omega), if_pos (by omega), ui_s]
      · rw [ui_n hj]
        by_cases h2 : k ≤ j ∧ j < 120
        · rw [if_pos (by omega), if_pos h2]
        · rw [if_neg (by omega), if_neg h2]
theorem lp_pf2 (hr : 0 < rm ∧ rm ≤ 4096) {keep cut : Int32} : ∀ (m k : Nat) (bv : Nat → Nat → Int32), geo rm bv → bt (bv 3) → k ≤ rm + 15728 → rm + 15728 ≤ k + m → Q none (wX rm iv av (wM rm (upd (upd (upd (upd (upd (upd (upd (upd jv 0 0) 1 0) 2 0) 5 1) 6 0) 10 0) 11 0) 20 0) (up_a (up_a bv 2 (fun j => if k ≤ j ∧ j < rm + 15728 then bv 3 j else bv 2 j)) 17 (zK (bv 17))))) → pz Lx xs d rt_97 none Q 31 [some (.ref 54), some (.int keep), some (.int cut), some (.int (nI k))] [] (wX rm iv av (wM rm jv bv)) := by
  have hdone : ∀ (k : Nat) (bv : Nat → Nat → Int32), geo rm bv → k = rm + 15728 → Q none (wX rm iv av (wM rm (upd (upd (upd (upd (upd (upd (upd (upd jv 0 0) 1 0) 2 0) 5 1) 6 0) 10 0) 11 0) 20 0) (up_a (up_a bv 2 (fun j => if k ≤ j ∧ j < rm + 15728 then bv 3 j else bv 2 j)) 17 (zK (bv 17))))) → pz Lx xs d rt_97 none Q 31 [some (.ref 54), some (.int keep), some (.int cut), some (.int (nI k))] [] (wX rm iv av (wM rm jv bv)) := by
    intro k bv hg hk hQ
    subst hk
    have e0 : up_a bv 2 (fun j => if rm + 15728 ≤ j ∧ j < rm + 15728 then bv 3 j else bv 2 j) = bv := by
      rw [show (fun j => if rm + 15728 ≤ j ∧ j < rm + 15728 then bv 3 j else bv 2 j) = bv 2 from funext fun j => if_neg (by omega)]
      exact ua_id bv _
    rw [e0] at hQ
    refine pz_iln (i := 31) rfl rfl ?_
    refine pz_aln (i := 32) rfl rfl ?_
    refine pz_get (i := 33) rfl (gf_54_1 ..) ?_
    refine pz_ic (i := 34) rfl ?_
    refine pz_ial (i := 35) rfl (ga_55 ..) (in_ofI (a := 2) (by omega)) ?_
    rw [show (2 : Int32) = nI 2 from rfl, cl_ofI (a := 2), (hg 2 (by omega)).1]
    refine pz_si (i := 36) rfl ?_
    refine pz_add (i := 37) rfl ?_
    rw [show nI (aA rm 2) + 128 = nI (rm + 15728) from nI_add (rm + 15600) 128]
    refine pz_ii_ge (i := 38) rfl (fun c38 => ?_) (fun c38 => ?_)
    · refine pz_aln (i := 49) rfl rfl ?_
      refine pz_ic (i := 50) rfl ?_
      refine pz_put (i := 51) rfl (pf_54_10 ..) ⟨rfl, rfl⟩ ?_
      refine pz_aln (i := 52) rfl rfl ?_
      refine pz_ic (i := 53) rfl ?_
      refine pz_put (i := 54) rfl (pf_54_11 ..) ⟨rfl, rfl⟩ ?_
      refine pz_aln (i := 55) rfl rfl ?_
      refine pz_ic (i := 56) rfl ?_
      refine pz_put (i := 57) rfl (pf_54_12 ..) ⟨rfl, rfl⟩ ?_
      refine pz_aln (i := 58) rfl rfl ?_
      refine pz_ic (i := 59) rfl ?_
      refine pz_put (i := 60) rfl (pf_54_15 ..) ⟨rfl, rfl⟩ ?_
      refine pz_aln (i := 61) rfl rfl ?_
      refine pz_ic (i := 62) rfl ?_
      refine pz_put (i := 63) rfl (pf_54_17 ..) ⟨rfl, rfl⟩ ?_
      refine pz_aln (i := 64) rfl rfl ?_
      refine pz_ic (i := 65) rfl ?_
      refine pz_put (i := 66) rfl (pf_54_22 ..) ⟨rfl, rfl⟩ ?_
      refine pz_aln (i := 67) rfl rfl ?_
      refine pz_ic (i := 68) rfl ?_
      refine pz_put (i := 69) rfl (pf_54_23 ..) ⟨rfl, rfl⟩ ?_
      refine pz_aln (i := 70) rfl rfl ?_
      refine pz_ic (i := 71) rfl ?_
      refine pz_put (i := 72) rfl (pf_54_41 ..) ⟨rfl, rfl⟩ ?_
      refine pz_ic (i := 73) rfl ?_
      refine pz_isn (i := 74) rfl ⟨rfl, Nat.le_of_ble_eq_true rfl⟩ rfl ?_
      refine lp_pf3 120 0 bv (by omega) (by omega) ?_
      refine (congrArg (fun f => Q none (wX rm iv av (wM rm (upd (upd (upd (upd (upd (upd (upd (upd jv 0 0) 1 0) 2 0) 5 1) 6 0) 10 0) 11 0) 20 0) (up_a bv 17 f)))) (funext fun j => ?_)).mpr hQ
      simp [zK]
    · exact absurd (Int32.le_refl _) c38
  intro m
  induction m with
  | zero =>
    intro k bv hg hb hk hm hQ
    exact hdone k bv hg (by omega) hQ
  | succ m ih =>
    intro k bv hg hb hk hm hQ
    by_cases hkn : k = rm + 15728
    · exact hdone k bv hg hkn hQ
    refine pz_iln (i := 31) rfl rfl ?_
    refine pz_aln (i := 32) rfl rfl ?_
    refine pz_get (i := 33) rfl (gf_54_1 ..) ?_
    refine pz_ic (i := 34) rfl ?_
    refine pz_ial (i := 35) rfl (ga_55 ..) (in_ofI (a := 2) (by omega)) ?_
    rw [show (2 : Int32) = nI 2 from rfl, cl_ofI (a := 2), (hg 2 (by omega)).1]
    refine pz_si (i := 36) rfl ?_
    refine pz_add (i := 37) rfl ?_
    rw [show nI (aA rm 2) + 128 = nI (rm + 15728) from nI_add (rm + 15600) 128]
    refine pz_ii_ge (i := 38) rfl (fun c38 => ?_) (fun c38 => ?_)
    · exact absurd (le_ofI c38) (by omega)
    · refine pz_aln (i := 39) rfl rfl ?_
      refine pz_get (i := 40) rfl (gf_54_3 ..) ?_
      refine pz_iln (i := 41) rfl rfl ?_
      refine pz_aln (i := 42) rfl rfl ?_
      refine pz_get (i := 43) rfl (gf_54_4 ..) ?_
      refine pz_iln (i := 44) rfl rfl ?_
      refine pz_bal (i := 45) rfl (ga_58 ..) rfl (in_ofI (by omega)) ?_
      rw [cl_ofI (a := k)]
      refine pz_bas (i := 46) rfl (ga_57 ..) rfl (in_ofI (by omega)) (pa_57 ..) ?_
      rw [cl_ofI (a := k)]
      have hv : vp_nar (rx_tg 1) (bv 3 k) = bv 3 k := hb k
      rw [hv]
      refine pz_inc (i := 47) rfl rfl rfl rfl ?_
      refine pz_go (i := 48) rfl ?_
      rw [nI_1]
      refine ih (k + 1) _ ?_ ?_ (by omega) (by omega) ?_
      · intro b hb2
        rw [ua_n (by decide), ua_n (by decide)]
        exact hg b hb2
      · rw [ua_n (by decide)]
        exact hb
      rw [ua_uu, ua_n (k := 2) (j := 17) (by decide), ua_n (k := 2) (j := 3) (by decide), ua_s]
      refine (congrArg (fun f => Q none (wX rm iv av (wM rm (upd (upd (upd (upd (upd (upd (upd (upd jv 0 0) 1 0) 2 0) 5 1) 6 0) 10 0) 11 0) 20 0) (up_a (up_a bv 2 f) 17 (zK (bv 17)))))) (funext fun j => ?_)).mpr hQ
      by_cases hj : j = k
      · subst hj
        rw [if_neg (by omega), if_pos (by omega), ui_s]
      · rw [ui_n hj]
        by_cases h2 : k ≤ j ∧ j < rm + 15728
        · rw [if_pos (by omega), if_pos h2]
        · rw [if_neg (by omega), if_neg h2]
theorem lp_pf1 (hr : 0 < rm ∧ rm ≤ 4096) {s : dS} (hd : dM rm jv bv s) {keep cut : Nat} (hk : keep < 2 ^ 31) (hcu : cut < 2 ^ 31)
    (hnext : ∀ k : Int32, pz Lx xs (d + 2) rt_97 none Q 29 [some (.ref 54), some (.int (nI keep)), some (.int (nI cut)), some (.int k)] [] (wX rm iv av (wM rm jv (up_a bv 3 (cr rm s.1 s.2.1 keep cut))))) :
    ∀ (m k : Nat), k ≤ s.2.1.length → s.2.1.length ≤ k + m → k ≤ keep → pz Lx xs (d + 2) rt_97 none Q 2 [some (.ref 54), some (.int (nI keep)), some (.int (nI cut)), some (.int (nI k))] [] (wX rm iv av (wM rm jv (up_a bv 3 ((s.2.1.take k).foldl (ap rm) s.1)))) := by
  obtain ⟨q0, q1, q2, q3, q4, q5, q6, q7, q8, q9, q10, q11, q12, qb1, qb2, qg, q13⟩ := id hd
  have hdone : ∀ k, k = s.2.1.length → k ≤ keep → pz Lx xs (d + 2) rt_97 none Q 2 [some (.ref 54), some (.int (nI keep)), some (.int (nI cut)), some (.int (nI k))] [] (wX rm iv av (wM rm jv (up_a bv 3 ((s.2.1.take k).foldl (ap rm) s.1)))) := by
    intro k hk hke
    subst hk
    have hcr : cr rm s.1 s.2.1 keep cut = (s.2.1.take s.2.1.length).foldl (ap rm) s.1 := by
      unfold cr
      rw [List.getElem?_eq_none hke, List.take_length]
    rw [← hcr]
    refine pz_iln (i := 2) rfl rfl ?_
    refine pz_aln (i := 3) rfl rfl ?_
    refine pz_get (i := 4) rfl (gf_54_10 ..) ?_
    rw [q2]
    refine pz_ii_ge (i := 5) rfl (fun c5 => ?_) (fun c5 => ?_)
    · exact hnext _
    · exact absurd (Int32.le_refl _) c5
  intro m
  induction m with
  | zero =>
    intro k hk hm hke
    exact hdone k (by omega) hke
  | succ m ih =>
    intro k hkl hm hke
    by_cases hkn : k = s.2.1.length
    · exact hdone k hkn hke
    have hlt : k < s.2.1.length := by omega
    obtain ⟨x, hx⟩ : ∃ x, s.2.1[k]? = some x := ⟨_, List.getElem?_eq_getElem hlt⟩
    obtain ⟨a, q, g1, g2, g3, g4, g5, g6, g7, g8, g9, g10⟩ := q13 k x hx
    have hxt := tot_take hx
    have hfull : k < keep → pz Lx xs (d + 2) rt_97 none Q 27 [some (.ref 54), some (.int (nI keep)), some (.int (nI cut)), some (.int (nI k))] [] (wX rm iv av (wM rm jv (up_a bv 3 (ap rm ((s.2.1.take k).foldl (ap rm) s.1) (x.1, x.2.1, x.2.2))))) := by
      intro hlk
      refine pz_inc (i := 27) rfl rfl rfl rfl ?_
      refine pz_go (i := 28) rfl ?_
      rw [nI_1]
      have key := ih (k + 1) (by omega) (by omega) (by omega)
      rw [fold_take hx] at key
      exact key
    have hlast : ∀ m0, keep = k → m0 = min cut x.2.1 → pz Lx xs (d + 2) rt_97 none Q 27 [some (.ref 54), some (.int (nI keep)), some (.int (nI cut)), some (.int (nI k))] [] (wX rm iv av (wM rm jv (up_a bv 3 (ap rm ((s.2.1.take k).foldl (ap rm) s.1) (x.1, m0, x.2.2))))) := by
      intro m0 hkk hm0
      have hcr : cr rm s.1 s.2.1 keep cut = ap rm ((s.2.1.take k).foldl (ap rm) s.1) (x.1, m0, x.2.2) := by
        unfold cr
        rw [hkk, hx, hm0]
      rw [← hcr]
      refine pz_inc (i := 27) rfl rfl rfl rfl ?_
      refine pz_go (i := 28) rfl ?_
      rw [nI_1]
      refine pz_iln (i := 2) rfl rfl ?_
      refine pz_aln (i := 3) rfl rfl ?_
      refine pz_get (i := 4) rfl (gf_54_10 ..) ?_
      rw [q2]
      refine pz_ii_ge (i := 5) rfl (fun c5b => ?_) (fun c5b => ?_)
      · exact hnext _
      · refine pz_iln (i := 6) rfl rfl ?_
        refine pz_iln (i := 7) rfl rfl ?_
        refine pz_ii_gt (i := 8) rfl (fun c8b => ?_) (fun c8b => ?_)
        · exact hnext _
        · exact absurd (nI_lt (by omega) (by omega)) c8b
    refine pz_iln (i := 2) rfl rfl ?_
    refine pz_aln (i := 3) rfl rfl ?_
    refine pz_get (i := 4) rfl (gf_54_10 ..) ?_
    rw [q2]
    refine pz_ii_ge (i := 5) rfl (fun c5 => ?_) (fun c5 => ?_)
    · exact absurd (le_ofI c5) (by omega)
    · refine pz_iln (i := 6) rfl rfl ?_
      refine pz_iln (i := 7) rfl rfl ?_
      refine pz_ii_gt (i := 8) rfl (fun c8 => ?_) (fun c8 => ?_)
      · exact absurd (lt_ofI c8) (by omega)
      · refine pz_aln (i := 9) rfl rfl ?_
        refine pz_iln (i := 10) rfl rfl ?_
        refine pz_iln (i := 11) rfl rfl ?_
        refine pz_iln (i := 12) rfl rfl ?_
        refine pz_ii_lt (i := 13) rfl (fun c13 => ?_) (fun c13 => ?_)
        · refine pz_aln (i := 20) rfl rfl ?_
          refine pz_get (i := 21) rfl (gf_54_7 ..) ?_
          refine pz_iln (i := 22) rfl rfl ?_
          refine pz_ial (i := 23) rfl (ga_61 ..) (in_ofI (by omega)) ?_
          rw [cl_ofI (a := k), ua_n (by decide), g8]
          refine pz_go (i := 24) rfl ?_
          refine pz_cV2 (i := 26) rfl (gc_54 ..) rfl (Nat.le_of_ble_eq_true rfl) rfl ?_
          first | refine sm_lw hr hd hx (Nat.le_refl _) ?_ | refine sm_lw hr hd hx (le_ofI c19) ?_
          refine ⟨rfl, ?_⟩
          first | exact hfull (lt_ofI c13) | exact hlast _ (by have := nlt_ofI c13; omega) (by have := nle_ofI c19; omega) | exact hlast _ (by have := nlt_ofI c13; omega) (by have := le_ofI c19; omega)
        · refine pz_iln (i := 14) rfl rfl ?_
          refine pz_aln (i := 15) rfl rfl ?_
          refine pz_get (i := 16) rfl (gf_54_7 ..) ?_
          refine pz_iln (i := 17) rfl rfl ?_
          refine pz_ial (i := 18) rfl (ga_61 ..) (in_ofI (by omega)) ?_
          rw [cl_ofI (a := k), ua_n (by decide), g8]
          refine pz_ii_le (i := 19) rfl (fun c19 => ?_) (fun c19 => ?_)
          · refine pz_iln (i := 25) rfl rfl ?_
            refine pz_cV2 (i := 26) rfl (gc_54 ..) rfl (Nat.le_of_ble_eq_true rfl) rfl ?_
            first | refine sm_lw hr hd hx (Nat.le_refl _) ?_ | refine sm_lw hr hd hx (le_ofI c19) ?_
            refine ⟨rfl, ?_⟩
            first | exact hfull (lt_ofI c13) | exact hlast _ (by have := nlt_ofI c13; omega) (by have := nle_ofI c19; omega) | exact hlast _ (by have := nlt_ofI c13; omega) (by have := le_ofI c19; omega)
          · refine pz_aln (i := 20) rfl rfl ?_
            refine pz_get (i := 21) rfl (gf_54_7 ..) ?_
            refine pz_iln (i := 22) rfl rfl ?_
            refine pz_ial (i := 23) rfl (ga_61 ..) (in_ofI (by omega)) ?_
            rw [cl_ofI (a := k), ua_n (by decide), g8]
            refine pz_go (i := 24) rfl ?_
            refine pz_cV2 (i := 26) rfl (gc_54 ..) rfl (Nat.le_of_ble_eq_true rfl) rfl ?_
            first | refine sm_lw hr hd hx (Nat.le_refl _) ?_ | refine sm_lw hr hd hx (le_ofI c19) ?_
            refine ⟨rfl, ?_⟩
            first | exact hfull (lt_ofI c13) | exact hlast _ (by have := nlt_ofI c13; omega) (by have := nle_ofI c19; omega) | exact hlast _ (by have := nlt_ofI c13; omega) (by have := le_ofI c19; omega)
set_option maxRecDepth 20000 in
theorem sm_powerFails (hr : 0 < rm ∧ rm ≤ 4096) {s : dS} (hd : dM rm jv bv s) {keep cut : Nat} (hk : keep < 2 ^ 31) (hcu : cut < 2 ^ 31) (hQ : ∀ jv' bv', dM rm jv' bv' (fl rm s keep cut) → jv' 6 = 0 → jv' 10 = 0 → jv' 11 = 0 → jv' 20 = 0 → bv' 17 = zK (bv 17) → frI jv jv' [0, 1, 2, 5, 6, 10, 11, 20] → frA bv bv' [2, 3, 17] → Q none (wX rm iv av (wM rm jv' bv'))) : rx_R Lx xs (d + 3) 97 [.ref 54, .int (nI keep), .int (nI cut)] (wX rm iv av (wM rm jv bv)) Q := by
  refine pz_en (t := rt_97) ⟨Nat.le_of_ble_eq_true rfl, rfl⟩ rfl rfl ?_
  obtain ⟨q0, q1, q2, q3, q4, q5, q6, q7, q8, q9, q10, q11, q12, qb1, qb2, qg, q13⟩ := id hd
  have hwk := dM_wok hr hd
  have key := lp_pf1 (Lx := Lx) (xs := xs) (d := d) (iv := iv) (av := av) (Q := Q) hr hd hk hcu (fun k0 => by
    refine pz_ic (i := 29) rfl ?_
    refine pz_isn (i := 30) rfl ⟨rfl, Nat.le_of_ble_eq_true rfl⟩ rfl ?_
    refine lp_pf2 hr (rm + 15728) 0 _ ?_ ?_ (by omega) (by omega) ?_
    · intro b hb
      rw [ua_n (by decide), ua_n (by decide)]
      exact qg b hb
    · rw [ua_s]
      exact bt_cr qb1 qb2 _ _
    rw [ua_s, ua_n (k := 3) (j := 2) (by decide), ua_n (k := 3) (j := 17) (by decide)]
    have e2 : (fun j => if 0 ≤ j ∧ j < rm + 15728 then cr rm s.1 s.2.1 keep cut j else bv 2 j) = cr rm s.1 s.2.1 keep cut := by
      funext j
      by_cases hj : j < rm + 15728
      · rw [if_pos ⟨Nat.zero_le _, hj⟩]
      · rw [if_neg (by omega), q0, cr_out hr.1 hwk (by omega)]
        exact fold_out hr.1 (by omega) _ _ hwk
    rw [e2]
    refine hQ _ _ ⟨?_, ?_, ?_, ?_, Nat.zero_le _, Nat.zero_le _, ?_, ?_, ?_, ?_, Nat.zero_le _, q11, q12, bt_cr qb1 qb2 _ _, fun x hx => absurd hx List.not_mem_nil, ?_, fun w x hx => by simp [fl] at hx⟩ ?_ ?_ ?_ ?_ ?_ ?_ ?_
    · rw [ua_n (by decide), ua_s]
      rfl
    · rw [ua_n (by decide), ua_n (by decide), ua_s]
      rfl
    · simp [upd]; rfl
    · simp [upd]; rfl
    · simp [upd, fl]; rfl
    · simp [upd, fl, q7]
    · simp [upd, fl, q8]
    · simp [upd, fl]; rfl
    · intro b hb
      rw [ua_n (by decide), ua_n (by decide), ua_n (by decide), ua_n (by decide), ua_n (by decide), ua_n (by decide)]
      exact qg b hb
    · simp [upd]
    · simp [upd]
    · simp [upd]
    · simp [upd]
    · rw [ua_s]
    · intro j hj
      simp only [List.mem_cons, List.not_mem_nil, or_false, not_or] at hj
      simp [upd, hj]
    · intro j hj
      simp only [List.mem_cons, List.not_mem_nil, or_false, not_or] at hj
      rw [ua_n hj.2.2, ua_n hj.1, ua_n hj.2.1]
    ) s.2.1.length 0 (by omega) (by omega) (by omega)
  have e1 : up_a bv 3 ((s.2.1.take 0).foldl (ap rm) s.1) = bv := by rw [show (s.2.1.take 0).foldl (ap rm) s.1 = bv 3 from q1.symm]; exact ua_id bv 3
  rw [e1] at key
  refine pz_ic (i := 0) rfl ?_
  refine pz_isn (i := 1) rfl ⟨rfl, Nat.le_of_ble_eq_true rfl⟩ rfl ?_
  exact key
end S45
