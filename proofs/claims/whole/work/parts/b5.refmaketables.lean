/-! PART B5: the reference: makeTables -/
theorem geo_fr {rm : Nat} {bv bv' : Nat → Nat → Int32} {A : List Nat} (h : geo rm bv) (f : frA bv bv' A) (hA : 0 ∉ A ∧ 1 ∉ A) : geo rm bv' := fun a ha => by
  rw [f 0 hA.1, f 1 hA.2]
  exact h a ha
theorem uM_fr {jv jv' : Nat → Int32} {bv bv' : Nat → Nat → Int32} {us : List tB} {S A : List Nat} (h : uM jv bv us) (f1 : frI jv jv' S) (f2 : frA bv bv' A) (h1 : 19 ∉ S) (h2 : 15 ∉ A) : uM jv' bv' us := ⟨(f1 19 h1).trans h.1, h.2.1, fun i t ht => by rw [f2 15 h2]; exact h.2.2 i t ht⟩
theorem dM_geo {rm : Nat} {jv : Nat → Int32} {bv : Nat → Nat → Int32} {s : dS} (h : dM rm jv bv s) : geo rm bv := h.2.2.2.2.2.2.2.2.2.2.2.2.2.2.2.1
theorem lvC_app (a b : List tB) (l : Nat) : lvC (a ++ b) l = lvC a l + lvC b l := by
  unfold lvC
  rw [List.filter_append, List.length_append]
theorem lvC_all {a : List tB} {l : Nat} (h : ∀ t ∈ a, t.2.1 = l) : lvC a l = a.length := by
  unfold lvC
  rw [List.filter_eq_self.mpr (fun t ht => decide_eq_true (h t ht))]
theorem lvC_none {a : List tB} {l : Nat} (h : ∀ t ∈ a, ¬ t.2.1 = l) : lvC a l = 0 := by
  unfold lvC
  rw [List.filter_eq_nil_iff.mpr (fun t ht => by rw [decide_eq_false (h t ht)]; decide)]
  rfl
section SB5
variable {Lx : Nat} {xs : Nat → Int32} {d rm : Nat} {iv : Nat → Int32} {av : Nat → Nat → Int32} {jv : Nat → Int32} {bv : Nat → Nat → Int32} {Q : rQ}
set_option maxRecDepth 20000 in
theorem lq_mt1 {bv0 : Nat → Nat → Int32} (hQ : ∀ bv', pA bv' [] → frA bv0 bv' [16] → pz Lx xs d rt_117 none Q 12 [some (.ref 54), some (.int (nI 12)), none, none, none] [] (wX rm iv av (wM rm jv bv'))) : ∀ (m k : Nat) (bv : Nat → Nat → Int32), k + m = 12 → frA bv0 bv [16] → (∀ j, j < k → bv 16 j = 0) → pz Lx xs d rt_117 none Q 2 [some (.ref 54), some (.int (nI k)), none, none, none] [] (wX rm iv av (wM rm jv bv))
  | 0, k, bv, hk, f, h1 => by
    obtain rfl : k = 12 := by omega
    refine pz_iln (i := 2) rfl rfl ?_
    refine pz_bi (i := 3) rfl ?_
    refine pz_ii_ge (i := 4) rfl (fun c4 => ?_) (fun c4 => ?_)
    · exact hQ bv (fun q hq => ⟨fun _ => List.not_mem_nil, fun _ => h1 q hq⟩) f
    · exact absurd (Int32.le_refl _) c4
  | m + 1, k, bv, hk, f, h1 => by
    have hk1 : k < 12 := by omega
    refine pz_iln (i := 2) rfl rfl ?_
    refine pz_bi (i := 3) rfl ?_
    refine pz_ii_ge (i := 4) rfl (fun c4 => ?_) (fun c4 => ?_)
    · exact absurd (le_ofI (a := 12) c4) (by omega)
    · refine pz_aln (i := 5) rfl rfl ?_
      refine pz_get (i := 6) rfl (gf_54_37 ..) ?_
      refine pz_iln (i := 7) rfl rfl ?_
      refine pz_ic (i := 8) rfl ?_
      refine pz_bas (i := 9) rfl (ga_71 ..) rfl (in_ofI hk1) (pa_71 ..) ?_
      rw [cl_ofI (a := k)]
      refine pz_inc (i := 10) rfl rfl rfl rfl ?_
      rw [show nI k + 1 = nI (k + 1) from nI_add k 1]
      refine pz_go (i := 11) rfl ?_
      refine lq_mt1 hQ m (k + 1) _ (by omega) (frA_tr f (frA_up (frA_rfl _ [16]) (by decide)) (by decide) (by decide)) (fun j hj => ?_)
      rw [ua_s]
      by_cases e : j = k
      · subst e
        rw [ui_s]
        rfl
      · rw [ui_n e]
        exact h1 j (by omega)
set_option maxRecDepth 20000 in
theorem lq_mt2 {bv0 : Nat → Nat → Int32} (hQ : ∀ bv', (∀ j, j < 120 → bv' 20 j = bv0 17 j ∧ bv' 21 j = bv0 18 j ∧ bv' 22 j = bv0 19 j) → frA bv0 bv' [20, 21, 22] → pz Lx xs d rt_117 none Q 43 [some (.ref 54), some (.int (nI 120)), none, none, none] [] (wX rm iv av (wM rm jv bv'))) : ∀ (m k : Nat) (bv : Nat → Nat → Int32), k + m = 120 → frA bv0 bv [20, 21, 22] → (∀ j, j < k → bv 20 j = bv0 17 j ∧ bv 21 j = bv0 18 j ∧ bv 22 j = bv0 19 j) → pz Lx xs d rt_117 none Q 14 [some (.ref 54), some (.int (nI k)), none, none, none] [] (wX rm iv av (wM rm jv bv))
  | 0, k, bv, hk, f, h1 => by
    obtain rfl : k = 120 := by omega
    refine pz_iln (i := 14) rfl rfl ?_
    refine pz_bi (i := 15) rfl ?_
    refine pz_ii_ge (i := 16) rfl (fun c16 => ?_) (fun c16 => ?_)
    · exact hQ bv h1 f
    · exact absurd (Int32.le_refl _) c16
  | m + 1, k, bv, hk, f, h1 => by
    have hk1 : k < 120 := by omega
    refine pz_iln (i := 14) rfl rfl ?_
    refine pz_bi (i := 15) rfl ?_
    refine pz_ii_ge (i := 16) rfl (fun c16 => ?_) (fun c16 => ?_)
    · exact absurd (le_ofI (a := 120) c16) (by omega)
    · refine pz_aln (i := 17) rfl rfl ?_
      refine pz_get (i := 18) rfl (gf_54_42 ..) ?_
      refine pz_iln (i := 19) rfl rfl ?_
      refine pz_aln (i := 20) rfl rfl ?_
      refine pz_get (i := 21) rfl (gf_54_38 ..) ?_
      refine pz_iln (i := 22) rfl rfl ?_
      refine pz_ial (i := 23) rfl (ga_72 ..) (in_ofI hk1) ?_
      rw [cl_ofI (a := k)]
      refine pz_ias (i := 24) rfl (ga_75 ..) (in_ofI hk1) (pa_75 ..) ?_
      rw [cl_ofI (a := k)]
      refine pz_aln (i := 25) rfl rfl ?_
      refine pz_get (i := 26) rfl (gf_54_43 ..) ?_
      refine pz_iln (i := 27) rfl rfl ?_
      refine pz_aln (i := 28) rfl rfl ?_
      refine pz_get (i := 29) rfl (gf_54_39 ..) ?_
      refine pz_iln (i := 30) rfl rfl ?_
      refine pz_ial (i := 31) rfl (ga_73 ..) (in_ofI hk1) ?_
      rw [cl_ofI (a := k)]
      refine pz_ias (i := 32) rfl (ga_76 ..) (in_ofI hk1) (pa_76 ..) ?_
      rw [cl_ofI (a := k)]
      refine pz_aln (i := 33) rfl rfl ?_
      refine pz_get (i := 34) rfl (gf_54_44 ..) ?_
      refine pz_iln (i := 35) rfl rfl ?_
      refine pz_aln (i := 36) rfl rfl ?_
      refine pz_get (i := 37) rfl (gf_54_40 ..) ?_
      refine pz_iln (i := 38) rfl rfl ?_
      refine pz_ial (i := 39) rfl (ga_74 ..) (in_ofI hk1) ?_
      rw [cl_ofI (a := k)]
      refine pz_ias (i := 40) rfl (ga_77 ..) (in_ofI hk1) (pa_77 ..) ?_
      rw [cl_ofI (a := k)]
      refine pz_inc (i := 41) rfl rfl rfl rfl ?_
      rw [show nI k + 1 = nI (k + 1) from nI_add k 1]
      refine pz_go (i := 42) rfl ?_
      refine lq_mt2 hQ m (k + 1) _ (by omega) (frA_tr f (frA_up (frA_up (frA_up (frA_rfl _ [20, 21, 22]) (by decide)) (by decide)) (by decide)) (by decide) (by decide)) (fun j hj => ?_)
      have q17 : bv 17 = bv0 17 := f 17 (by decide)
      have q18 : bv 18 = bv0 18 := f 18 (by decide)
      have q19 : bv 19 = bv0 19 := f 19 (by decide)
      refine ⟨?_, ?_, ?_⟩
      · rw [ua_n (by decide), ua_n (by decide), ua_s]
        by_cases e : j = k
        · subst e
          rw [ui_s, q17]
        · rw [ui_n e]
          exact (h1 j (by omega)).1
      · rw [ua_n (by decide), ua_s]
        by_cases e : j = k
        · subst e
          rw [ui_s, ua_n (by decide), q18]
        · rw [ui_n e, ua_n (by decide)]
          exact (h1 j (by omega)).2.1
      · rw [ua_s]
        by_cases e : j = k
        · subst e
          rw [ui_s, ua_n (by decide), ua_n (by decide), q19]
        · rw [ui_n e, ua_n (by decide), ua_n (by decide)]
          exact (h1 j (by omega)).2.2
set_option maxRecDepth 20000 in
theorem lq_mt3 (hr : 0 < rm ∧ rm ≤ 4096) {us : List tB} {n : Nat} {pl x3 : Int32} (hn : n ≤ us.length) {bv0 : Nat → Nat → Int32} (hg : geo rm bv0) (hu : uM jv bv0 us) (hE : ∀ t ∈ us, tE rm (bv0 2) t) (hQ : ∀ bv', wN bv' (fun k => fnd (us.take n) k) → frA bv0 bv' [20, 21, 22] → pz Lx xs (d + 5) rt_117 none Q 79 [some (.ref 54), some (.int pl), some (.int (nI n)), some (.int (nI n)), none] [] (wX rm iv av (wM rm jv bv'))) : ∀ (m k : Nat) (bv : Nat → Nat → Int32), k + m = n → frA bv0 bv [20, 21, 22] → wN bv (fun j => fnd (us.take k) j) → pz Lx xs (d + 5) rt_117 none Q 71 [some (.ref 54), some (.int pl), some (.int (nI n)), some (.int (nI k)), none] [] (wX rm iv av (wM rm jv bv))
  | 0, k, bv, hk, f, h1 => by
    obtain rfl : k = n := by omega
    have h6 := hu.2.1
    refine pz_iln (i := 71) rfl rfl ?_
    refine pz_iln (i := 72) rfl rfl ?_
    refine pz_ii_ge (i := 73) rfl (fun c73 => ?_) (fun c73 => ?_)
    · exact hQ bv h1 f
    · exact absurd (Int32.le_refl _) c73
  | m + 1, k, bv, hk, f, h1 => by
    have h6 := hu.2.1
    have hk1 : k < us.length := by omega
    have ht := List.getElem?_eq_getElem hk1
    have hEt : tE rm (bv 2) us[k] := by rw [f 2 (by decide)]; exact hE _ (List.mem_of_getElem? ht)
    have hgb := geo_fr hg f (by decide)
    have hub := uM_fr hu (frI_rfl jv []) f (by decide) (by decide)
    have et : (fun j => fnd (us.take (k + 1)) j) = fun j => match fnd (us.take k) j with | some e => some e | none => (us[k]).2.2.2 j := by
      rw [List.take_add_one, ht]
      exact fnd_snoc _ _
    refine pz_iln (i := 71) rfl rfl ?_
    refine pz_iln (i := 72) rfl rfl ?_
    refine pz_ii_ge (i := 73) rfl (fun c73 => ?_) (fun c73 => ?_)
    · exact absurd (le_ofI c73) (by omega)
    · refine pz_aln (i := 74) rfl rfl ?_
      refine pz_iln (i := 75) rfl rfl ?_
      refine pz_cV1 (i := 76) rfl (gc_54 ..) rfl (Nat.le_of_ble_eq_true rfl) rfl ?_
      refine sm_gather hr ht hgb hub hEt h1 (fun bv1 w1 f1 => ?_)
      refine ⟨rfl, ?_⟩
      refine pz_inc (i := 77) rfl rfl rfl rfl ?_
      rw [show nI k + 1 = nI (k + 1) from nI_add k 1]
      refine pz_go (i := 78) rfl ?_
      exact lq_mt3 (x3 := x3) hr hn hg hu hE hQ m (k + 1) bv1 (by omega) (frA_tr f f1 (by decide) (by decide)) (by rw [et]; exact w1)
set_option maxRecDepth 20000 in
theorem lq_mt5 (hr : 0 < rm ∧ rm ≤ 4096) {us : List tB} {n : Nat} {pl x3 : Int32} (hn : n ≤ us.length) {bv0 : Nat → Nat → Int32} (hg : geo rm bv0) (hu : uM jv bv0 us) (hE : ∀ t ∈ us, tE rm (bv0 2) t) (hQ : ∀ bv', wN bv' (fun k => fnd (us.take n) k) → frA bv0 bv' [20, 21, 22] → pz Lx xs (d + 5) rt_117 none Q 124 [some (.ref 54), some (.int pl), some (.int (nI n)), some (.int x3), some (.int (nI n))] [] (wX rm iv av (wM rm jv bv'))) : ∀ (m k : Nat) (bv : Nat → Nat → Int32), k + m = n → frA bv0 bv [20, 21, 22] → wN bv (fun j => fnd (us.take k) j) → pz Lx xs (d + 5) rt_117 none Q 116 [some (.ref 54), some (.int pl), some (.int (nI n)), some (.int x3), some (.int (nI k))] [] (wX rm iv av (wM rm jv bv))
  | 0, k, bv, hk, f, h1 => by
    obtain rfl : k = n := by omega
    have h6 := hu.2.1
    refine pz_il (i := 116) rfl rfl ?_
    refine pz_iln (i := 117) rfl rfl ?_
    refine pz_ii_ge (i := 118) rfl (fun c118 => ?_) (fun c118 => ?_)
    · exact hQ bv h1 f
    · exact absurd (Int32.le_refl _) c118
  | m + 1, k, bv, hk, f, h1 => by
    have h6 := hu.2.1
    have hk1 : k < us.length := by omega
    have ht := List.getElem?_eq_getElem hk1
    have hEt : tE rm (bv 2) us[k] := by rw [f 2 (by decide)]; exact hE _ (List.mem_of_getElem? ht)
    have hgb := geo_fr hg f (by decide)
    have hub := uM_fr hu (frI_rfl jv []) f (by decide) (by decide)
    have et : (fun j => fnd (us.take (k + 1)) j) = fun j => match fnd (us.take k) j with | some e => some e | none => (us[k]).2.2.2 j := by
      rw [List.take_add_one, ht]
      exact fnd_snoc _ _
    refine pz_il (i := 116) rfl rfl ?_
    refine pz_iln (i := 117) rfl rfl ?_
    refine pz_ii_ge (i := 118) rfl (fun c118 => ?_) (fun c118 => ?_)
    · exact absurd (le_ofI c118) (by omega)
    · refine pz_aln (i := 119) rfl rfl ?_
      refine pz_il (i := 120) rfl rfl ?_
      refine pz_cV1 (i := 121) rfl (gc_54 ..) rfl (Nat.le_of_ble_eq_true rfl) rfl ?_
      refine sm_gather hr ht hgb hub hEt h1 (fun bv1 w1 f1 => ?_)
      refine ⟨rfl, ?_⟩
      refine pz_inc (i := 122) rfl rfl rfl rfl ?_
      rw [show nI k + 1 = nI (k + 1) from nI_add k 1]
      refine pz_go (i := 123) rfl ?_
      exact lq_mt5 (x3 := x3) hr hn hg hu hE hQ m (k + 1) bv1 (by omega) (frA_tr f f1 (by decide) (by decide)) (by rw [et]; exact w1)
theorem drK_s {m : mP} {k j : Nat} : drK m (k + 1) j = if j = k then dr m k else drK m k j := by
  unfold drK
  by_cases e : j = k
  · subst e
    rw [if_pos (by omega), if_pos rfl]
  · rw [if_neg e]
    by_cases h : j < k
    · rw [if_pos (by omega), if_pos h]
    · rw [if_neg (by omega), if_neg h]
set_option maxRecDepth 20000 in
theorem lq_mt4 {m : mP} {pl x2 x3 : Int32} {bv0 : Nat → Nat → Int32} (hm : mOK m) (hQ : ∀ bv', wN bv' (dr m) → frA bv0 bv' [20] → pz Lx xs d rt_117 none Q 147 [some (.ref 54), some (.int pl), some (.int x2), some (.int x3), some (.int (nI 120))] [] (wX rm iv av (wM rm jv bv'))) : ∀ (f k : Nat) (bv : Nat → Nat → Int32), k + f = 120 → frA bv0 bv [20] → wN bv (drK m k) → pz Lx xs d rt_117 none Q 126 [some (.ref 54), some (.int pl), some (.int x2), some (.int x3), some (.int (nI k))] [] (wX rm iv av (wM rm jv bv))
  | 0, k, bv, hk, fr, h1 => by
    obtain rfl : k = 120 := by omega
    rw [drK_all hm] at h1
    refine pz_il (i := 126) rfl rfl ?_
    refine pz_bi (i := 127) rfl ?_
    refine pz_ii_ge (i := 128) rfl (fun c128 => ?_) (fun c128 => ?_)
    · exact hQ bv h1 fr
    · exact absurd (Int32.le_refl _) c128
  | f + 1, k, bv, hk, fr, h1 => by
    have hk1 : k < 120 := by omega
    have hmk : drK m k k = m k := by
      unfold drK
      rw [if_neg (by omega)]
    have key : ∀ y : Int32, (match dr m k with | none => y = 0 | some e => y = nI e.1 ∧ bv 21 k = nI e.2.1 ∧ bv 22 k = nI e.2.2) → wN (up_a bv 20 (upd (bv 20) k y)) (drK m (k + 1)) := by
      intro y hy
      refine ⟨mOK_dr hm, fun j hj => ?_⟩
      rw [drK_s, ua_s, ua_n (by decide), ua_n (by decide)]
      by_cases e : j = k
      · subst e
        rw [if_pos rfl, ui_s]
        exact hy
      · rw [if_neg e, ui_n e]
        exact h1.2 j hj
    have hold := h1.2 k hk1
    rw [hmk] at hold
    refine pz_il (i := 126) rfl rfl ?_
    refine pz_bi (i := 127) rfl ?_
    refine pz_ii_ge (i := 128) rfl (fun c128 => ?_) (fun c128 => ?_)
    · exact absurd (le_ofI (a := 120) c128) (by omega)
    · refine pz_aln (i := 129) rfl rfl ?_
      refine pz_get (i := 130) rfl (gf_54_42 ..) ?_
      refine pz_il (i := 131) rfl rfl ?_
      refine pz_aln (i := 132) rfl rfl ?_
      refine pz_get (i := 133) rfl (gf_54_42 ..) ?_
      refine pz_il (i := 134) rfl rfl ?_
      refine pz_ial (i := 135) rfl (ga_75 ..) (in_ofI hk1) ?_
      rw [cl_ofI (a := k)]
      refine pz_ic (i := 136) rfl ?_
      refine pz_ii_ne (i := 137) rfl (fun c137 => ?_) (fun c137 => ?_)
      · refine pz_aln (i := 140) rfl rfl ?_
        refine pz_get (i := 141) rfl (gf_54_42 ..) ?_
        refine pz_il (i := 142) rfl rfl ?_
        refine pz_ial (i := 143) rfl (ga_75 ..) (in_ofI hk1) ?_
        rw [cl_ofI (a := k)]
        refine pz_ias (i := 144) rfl (ga_75 ..) (in_ofI hk1) (pa_75 ..) ?_
        rw [cl_ofI (a := k)]
        refine pz_inc (i := 145) rfl rfl rfl rfl ?_
        rw [show nI k + 1 = nI (k + 1) from nI_add k 1]
        refine pz_go (i := 146) rfl ?_
        refine lq_mt4 hm hQ f (k + 1) _ (by omega) (frA_tr fr (frA_up (frA_rfl _ [20]) (by decide)) (by decide) (by decide)) (key _ ?_)
        unfold dr
        cases he : m k with
        | none =>
          simp only [he] at hold
          first
            | rfl
            | exact hold
        | some e =>
          simp only [he] at hold
          have h3 := hm.2 k e he
          by_cases e2 : e.1 = 2
          · first
              | exact absurd (hold.1.trans (congrArg nI e2)) c137
              | (simp only [if_pos e2])
          · simp only [if_neg e2]
            first
              | exact hold
              | exact absurd (eq_ofI (b := 2) (hold.1.symm.trans c137)) e2
      · refine pz_ic (i := 138) rfl ?_
        refine pz_go (i := 139) rfl ?_
        refine pz_ias (i := 144) rfl (ga_75 ..) (in_ofI hk1) (pa_75 ..) ?_
        rw [cl_ofI (a := k)]
        refine pz_inc (i := 145) rfl rfl rfl rfl ?_
        rw [show nI k + 1 = nI (k + 1) from nI_add k 1]
        refine pz_go (i := 146) rfl ?_
        refine lq_mt4 hm hQ f (k + 1) _ (by omega) (frA_tr fr (frA_up (frA_rfl _ [20]) (by decide)) (by decide) (by decide)) (key _ ?_)
        unfold dr
        cases he : m k with
        | none =>
          simp only [he] at hold
          first
            | rfl
            | exact hold
        | some e =>
          simp only [he] at hold
          have h3 := hm.2 k e he
          by_cases e2 : e.1 = 2
          · first
              | exact absurd (hold.1.trans (congrArg nI e2)) c137
              | (simp only [if_pos e2])
          · simp only [if_neg e2]
            first
              | exact hold
              | exact absurd (eq_ofI (b := 2) (hold.1.symm.trans c137)) e2
set_option maxRecDepth 20000 in
theorem lq_A (hr : 512 ≤ rm ∧ rm ≤ 4096) {s : dS} {W : vW} {pa tk : List Nat} {x3 : Int32} {jv4 : Nat → Int32} {bv3 bv4 : Nat → Nat → Int32} (hu : uM jv bv W.1) (hpa : pA bv pa) (h12 : ∀ t ∈ W.1, t.1 < 12) (hlv : lvN W.1 2 = W.1.length) (O4 : oM rm jv bv jv4 bv4 (wr s (tabW rm (lf tk, 2, W.2.2 7, m2A W))) [0, 1, 2, 17, 19] [2, 4, 5, 6, 7, 8, 15, 16, 20, 21, 22, 23]) (o4 : oM rm jv bv3 jv4 bv4 (wr s (tabW rm (lf tk, 2, W.2.2 7, m2A W))) [0, 1, 2, 17] [2, 4, 5, 6, 7, 8, 23]) (F3 : frA bv bv3 [20, 21, 22]) (k4 : (wr s (tabW rm (lf tk, 2, W.2.2 7, m2A W))).2.2.2.2.2 = false → jv4 17 = nI (W.2.2 7 + 1)) (hQ : ∀ jv' bv', oM rm jv bv jv' bv' (wr s (tabW rm (lf tk, 2, W.2.2 7, m2A W)), tbV W (lf tk, 2, W.2.2 7, m2A W) (lvN W.1 2)).1 [0, 1, 2, 17, 19] [2, 4, 5, 6, 7, 8, 15, 16, 20, 21, 22, 23] → ((wr s (tabW rm (lf tk, 2, W.2.2 7, m2A W)), tbV W (lf tk, 2, W.2.2 7, m2A W) (lvN W.1 2)).1.2.2.2.2.2 = false → uM jv' bv' (wr s (tabW rm (lf tk, 2, W.2.2 7, m2A W)), tbV W (lf tk, 2, W.2.2 7, m2A W) (lvN W.1 2)).2.1 ∧ jv' 17 = nI ((wr s (tabW rm (lf tk, 2, W.2.2 7, m2A W)), tbV W (lf tk, 2, W.2.2 7, m2A W) (lvN W.1 2)).2.2.2 7)) → Q none (wX rm iv av (wM rm jv' bv'))) : pz Lx xs (d + 5) rt_117 none Q 160 [some (.ref 54), some (.int (nI (lf tk))), some (.int (nI W.1.length)), some (.int x3), some (.int 1)] [] (wX rm iv av (wM rm jv4 bv4)) := by
  refine pz_aln (i := 160) rfl rfl ?_
  refine pz_get (i := 161) rfl (gf_54_15 ..) ?_
  rw [oM_5 O4]
  refine pz_if_eq (i := 162) rfl (fun c162 => ?_) (fun c162 => ?_)
  · have hda := bB_f c162
    obtain ⟨e1, e2, e3⟩ := o4.1 hda
    obtain ⟨g1, g2, g3⟩ := O4.1 hda
    refine pz_aln (i := 164) rfl rfl ?_
    refine pz_ic (i := 165) rfl ?_
    refine pz_iln (i := 166) rfl rfl ?_
    refine pz_cV2 (i := 167) rfl (gc_54 ..) rfl (Nat.le_of_ble_eq_true rfl) rfl ?_
    refine sm_drop (us := W.1) (n := W.1.length) (Nat.le_refl _) (uM_fr (uM_fr hu (frI_rfl jv []) F3 (by decide) (by decide)) e2 e3 (by decide) (by decide)) h12 (pA_ext (pA_ext hpa (F3 16 (by decide))) (e3 16 (by decide))) (fun jv5 bv5 u5 p5 f5 a5 => ?_)
    rw [List.drop_length] at u5
    refine ⟨rfl, ?_⟩
    refine pz_il (i := 168) rfl rfl ?_
    refine pz_if_eq (i := 169) rfl (fun c169 => ?_) (fun c169 => ?_)
    · exact absurd c169 (by decide)
    · refine pz_aln (i := 170) rfl rfl ?_
      refine pz_ic (i := 171) rfl ?_
      refine pz_iln (i := 172) rfl rfl ?_
      refine pz_cV2 (i := 173) rfl (gc_54 ..) rfl (Nat.le_of_ble_eq_true rfl) rfl ?_
      refine sm_insert (t := (lf tk, 2, W.2.2 7, m2A W)) (Nat.zero_le _) u5 (fun jv6 bv6 u6 f6 a6 => ?_)
      refine ⟨rfl, ?_⟩
      refine pz_vr (i := 174) rfl rfl ?_
      have G6 : frI jv jv6 [0, 1, 2, 17, 19] := frI_tr (frI_tr (S := [0, 1, 2, 17, 19]) g2 f5 (by decide) (by decide)) f6 (by decide) (by decide)
      have A6 : frA bv bv6 [2, 4, 5, 6, 7, 8, 15, 16, 20, 21, 22, 23] := frA_tr (frA_tr (S := [2, 4, 5, 6, 7, 8, 15, 16, 20, 21, 22, 23]) g3 a5 (by decide) (by decide)) a6 (by decide) (by decide)
      have hd6 := dM_fr (dM_fr g1 f5 a5 (by decide) (by decide)) f6 a6 (by decide) (by decide)
      refine hQ jv6 bv6 ⟨fun _ => ⟨hd6, G6, A6⟩, fun w => by rw [show (wr s (tabW rm (lf tk, 2, W.2.2 7, m2A W))).2.2.2.2.2 = false from hda] at w; cases w⟩ (fun _ => ⟨?_, ?_⟩)
      · show uM jv6 bv6 ((lf tk, 2, W.2.2 7, m2A W) :: W.1.drop (lvN W.1 2))
        rw [hlv, List.drop_length]
        exact u6
      · rw [f6 17 (by decide), f5 17 (by decide)]
        exact k4 hda
  · refine pz_vr (i := 163) rfl rfl ?_
    have hdd := bB_t c162
    exact hQ jv4 bv4 O4 (fun w => by rw [show (wr s (tabW rm (lf tk, 2, W.2.2 7, m2A W))).2.2.2.2.2 = true from hdd] at w; cases w)
set_option maxRecDepth 20000 in
theorem lq_B (hr : 512 ≤ rm ∧ rm ≤ 4096) {s : dS} {W : vW} {pa : List Nat} {pl x3 : Int32} {bv3 : Nat → Nat → Int32} (hd3 : dM rm jv bv3 s) (hdn : s.2.2.2.2.2 = false) (hu3 : uM jv bv3 W.1) (hpa3 : pA bv3 pa) (h12 : ∀ t ∈ W.1, t.1 < 12) (hlv : lvN W.1 2 = W.1.length) (F3 : frA bv bv3 [20, 21, 22]) (h17 : jv 17 = nI (W.2.2 7)) (hQ : ∀ jv' bv', oM rm jv bv jv' bv' (s, (W.1.drop (lvN W.1 2), W.2.1, W.2.2)).1 [0, 1, 2, 17, 19] [2, 4, 5, 6, 7, 8, 15, 16, 20, 21, 22, 23] → ((s, (W.1.drop (lvN W.1 2), W.2.1, W.2.2)).1.2.2.2.2.2 = false → uM jv' bv' (s, (W.1.drop (lvN W.1 2), W.2.1, W.2.2)).2.1 ∧ jv' 17 = nI ((s, (W.1.drop (lvN W.1 2), W.2.1, W.2.2)).2.2.2 7)) → Q none (wX rm iv av (wM rm jv' bv'))) : pz Lx xs (d + 5) rt_117 none Q 160 [some (.ref 54), some (.int pl), some (.int (nI W.1.length)), some (.int x3), some (.int 0)] [] (wX rm iv av (wM rm jv bv3)) := by
  have h5 : jv 5 = bB s.2.2.2.2.2 := hd3.2.2.2.2.2.2.2.2.2.1
  rw [hdn] at h5
  refine pz_aln (i := 160) rfl rfl ?_
  refine pz_get (i := 161) rfl (gf_54_15 ..) ?_
  rw [h5]
  refine pz_if_eq (i := 162) rfl (fun c162 => ?_) (fun c162 => ?_)
  · refine pz_aln (i := 164) rfl rfl ?_
    refine pz_ic (i := 165) rfl ?_
    refine pz_iln (i := 166) rfl rfl ?_
    refine pz_cV2 (i := 167) rfl (gc_54 ..) rfl (Nat.le_of_ble_eq_true rfl) rfl ?_
    refine sm_drop (us := W.1) (n := W.1.length) (Nat.le_refl _) hu3 h12 hpa3 (fun jv5 bv5 u5 p5 f5 a5 => ?_)
    refine ⟨rfl, ?_⟩
    refine pz_il (i := 168) rfl rfl ?_
    refine pz_if_eq (i := 169) rfl (fun c169 => ?_) (fun c169 => ?_)
    · refine pz_vr (i := 174) rfl rfl ?_
      refine hQ jv5 bv5 ⟨fun _ => ⟨dM_fr hd3 f5 a5 (by decide) (by decide), frI_tr (frI_rfl jv []) f5 (by decide) (by decide), frA_tr F3 a5 (by decide) (by decide)⟩, fun w => by rw [show s.2.2.2.2.2 = false from hdn] at w; cases w⟩ (fun _ => ⟨?_, (f5 17 (by decide)).trans h17⟩)
      show uM jv5 bv5 (W.1.drop (lvN W.1 2))
      rw [hlv]
      exact u5
    · exact absurd rfl c169
  · exact absurd rfl c162
set_option maxRecDepth 20000 in
theorem lq_m106 (hr : 512 ≤ rm ∧ rm ≤ 4096) {s : dS} {W : vW} {pa tk : List Nat} {pl x2 x3 : Int32} (hd : dM rm jv bv s) (hdn : s.2.2.2.2.2 = false) (hc : cp s 1 1216) (hu : uM jv bv W.1) (hpa : pA bv pa) (htk : ∀ q, q < 12 → (q ∈ tk ↔ q ∈ pa ∨ q ∈ pls W.1)) (hnew : lf tk ∉ tk) (hE : ∀ t ∈ W.1, tE rm (cu rm s) t) (hlv : lvN W.1 2 = W.1.length) (hlc : 1 + lvC W.1 2 = W.1.length) (h17 : jv 17 = nI (W.2.2 7)) (hnx : W.2.2 7 < 2 ^ 30 - 10) (hQ : ∀ jv' bv', oM rm jv bv jv' bv' (st2 rm s W tk).1 [0, 1, 2, 17, 19] [2, 4, 5, 6, 7, 8, 15, 16, 20, 21, 22, 23] → ((st2 rm s W tk).1.2.2.2.2.2 = false → uM jv' bv' (st2 rm s W tk).2.1 ∧ jv' 17 = nI ((st2 rm s W tk).2.2.2 7)) → Q none (wX rm iv av (wM rm jv' bv'))) : pz Lx xs (d + 5) rt_117 none Q 106 [some (.ref 54), some (.int pl), some (.int x2), some (.int x3), none] [] (wX rm iv av (wM rm jv bv)) := by
  have hr' : 0 < rm ∧ rm ≤ 4096 := ⟨by omega, hr.2⟩
  have hg := dM_geo hd
  have h2 : bv 2 = cu rm s := hd.1
  have h6 := hu.2.1
  have hmem : m2A W = dr (fun k => fnd W.1 k) := by
    unfold m2A
    rw [hlv, List.take_length]
  have hmok : mOK (fun k => fnd W.1 k) := mOK_fnd (fun t ht => (hE t ht).2.2.2.1)
  unfold st2 at hQ
  refine pz_aln (i := 106) rfl rfl ?_
  refine pz_cV0 (i := 107) rfl (gc_54 ..) rfl (Nat.le_of_ble_eq_true rfl) rfl ?_
  refine sm_clearNew (fun b1 w1 f1 => ?_)
  refine ⟨rfl, ?_⟩
  refine pz_ic (i := 108) rfl ?_
  refine pz_aln (i := 109) rfl rfl ?_
  refine pz_ic (i := 110) rfl ?_
  refine pz_cI1 (i := 111) rfl (gc_54 ..) rfl (Nat.le_of_ble_eq_true rfl) rfl ?_
  refine sm_countOf hr' (geo_fr hg f1 (by decide)) (l := 2) (by decide) (uM_fr hu (frI_rfl jv []) f1 (by decide) (by decide)) (fun t ht => by rw [f1 2 (by decide), h2]; exact hE t ht) ?_
  refine ⟨_, rfl, ?_⟩
  refine pz_add (i := 112) rfl ?_
  rw [show (1 : Int32) + nI (lvC W.1 2) = nI (1 + lvC W.1 2) from nI_add 1 _, hlc]
  refine pz_isn (i := 113) rfl ⟨rfl, Nat.le_of_ble_eq_true rfl⟩ rfl ?_
  refine pz_ic (i := 114) rfl ?_
  refine pz_is (i := 115) rfl ⟨rfl, Nat.le_of_ble_eq_true rfl⟩ rfl ?_
  refine lq_mt5 hr' (us := W.1) (n := W.1.length) (Nat.le_refl _) (geo_fr hg f1 (by decide)) (uM_fr hu (frI_rfl jv []) f1 (by decide) (by decide)) (fun t ht => by rw [f1 2 (by decide), h2]; exact hE t ht) (fun b2 w2 f2 => ?_) W.1.length 0 b1 (Nat.zero_add _) (frA_rfl _ _) w1
  rw [List.take_length] at w2
  refine pz_ic (i := 124) rfl ?_
  refine pz_is (i := 125) rfl ⟨rfl, Nat.le_of_ble_eq_true rfl⟩ rfl ?_
  refine lq_mt4 hmok (fun b3 w3 f3 => ?_) 120 0 b2 rfl (frA_rfl _ _) (by rw [show drK (fun k => fnd W.1 k) 0 = fun k => fnd W.1 k from funext (fun k => if_neg (Nat.not_lt_zero k))]; exact w2)
  rw [← hmem] at w3
  have F3 : frA bv b3 [20, 21, 22] := frA_tr (frA_tr (S := [20, 21, 22]) f1 f2 (by decide) (by decide)) f3 (by decide) (by decide)
  have hu3 := uM_fr hu (frI_rfl jv []) F3 (by decide) (by decide)
  have hd3 := dM_fr hd (frI_rfl jv []) F3 (by decide) (by decide)
  have hpa3 := pA_ext hpa (F3 16 (by decide))
  have hkl := kS_len (m2A W)
  refine pz_aln (i := 147) rfl rfl ?_
  refine pz_cI0 (i := 148) rfl (gc_54 ..) rfl (Nat.le_of_ble_eq_true rfl) rfl ?_
  refine sm_newCount w3 ?_
  refine ⟨_, rfl, ?_⟩
  refine pz_if_le (i := 149) rfl (fun c149 => ?_) (fun c149 => ?_)
  · refine pz_ic (i := 152) rfl ?_
    refine pz_is (i := 153) rfl ⟨rfl, Nat.le_of_ble_eq_true rfl⟩ rfl ?_
    refine pz_il (i := 154) rfl rfl ?_
    refine pz_if_eq (i := 155) rfl (fun c155 => ?_) (fun c155 => ?_)
    · first
        | exact lq_A hr hu hpa (fun t ht => (hE t ht).1) hlv O4 o4 F3 k4 hQ
        | exact absurd rfl c155
        | exact absurd c155 (by decide)
        | (have h0 : (kS (m2A W)).length = 0 := by
             have := le_ofI (b := 0) c149
             omega
           rw [if_pos h0] at hQ
           exact lq_B hr hd3 hdn hu3 hpa3 (fun t ht => (hE t ht).1) hlv F3 h17 hQ)
    · by_cases hne : (kS (m2A W)).length = 0
      · first | exact absurd rfl c155 | exact absurd (show nI (kS (m2A W)).length ≤ 0 by rw [hne]; exact Int32.le_refl _) c149
      rw [if_neg hne] at hQ
      refine pz_aln (i := 156) rfl rfl ?_
      refine pz_ic (i := 157) rfl ?_
      refine pz_cI1 (i := 158) rfl (gc_54 ..) rfl (Nat.le_of_ble_eq_true rfl) rfl ?_
      refine sm_writeTable hr hd3 hdn hc (l := 2) (by decide) hu3 hpa3 (fun t ht => (hE t ht).1) htk hnew w3 h17 hnx (fun jv4 bv4 o4 k4 => ?_)
      have O4 : oM rm jv bv jv4 bv4 (wr s (tabW rm (lf tk, 2, W.2.2 7, m2A W))) [0, 1, 2, 17, 19] [2, 4, 5, 6, 7, 8, 15, 16, 20, 21, 22, 23] := oM_tr (frI_rfl jv []) F3 o4 (by decide) (by decide) (by decide) (by decide) (by decide) (by decide)
      refine ⟨_, rfl, ?_⟩
      refine pz_isn (i := 159) rfl ⟨rfl, Nat.le_of_ble_eq_true rfl⟩ rfl ?_
      first
        | exact lq_A hr hu hpa (fun t ht => (hE t ht).1) hlv O4 o4 F3 k4 hQ
        | exact absurd rfl c155
        | exact absurd c155 (by decide)
        | (have h0 : (kS (m2A W)).length = 0 := by
             have := le_ofI (b := 0) c149
             omega
           rw [if_pos h0] at hQ
           exact lq_B hr hd3 hdn hu3 hpa3 (fun t ht => (hE t ht).1) hlv F3 h17 hQ)
  · refine pz_ic (i := 150) rfl ?_
    refine pz_go (i := 151) rfl ?_
    refine pz_is (i := 153) rfl ⟨rfl, Nat.le_of_ble_eq_true rfl⟩ rfl ?_
    refine pz_il (i := 154) rfl rfl ?_
    refine pz_if_eq (i := 155) rfl (fun c155 => ?_) (fun c155 => ?_)
    · first
        | exact lq_A hr hu hpa (fun t ht => (hE t ht).1) hlv O4 o4 F3 k4 hQ
        | exact absurd rfl c155
        | exact absurd c155 (by decide)
        | (have h0 : (kS (m2A W)).length = 0 := by
             have := le_ofI (b := 0) c149
             omega
           rw [if_pos h0] at hQ
           exact lq_B hr hd3 hdn hu3 hpa3 (fun t ht => (hE t ht).1) hlv F3 h17 hQ)
    · by_cases hne : (kS (m2A W)).length = 0
      · first | exact absurd rfl c155 | exact absurd (show nI (kS (m2A W)).length ≤ 0 by rw [hne]; exact Int32.le_refl _) c149
      rw [if_neg hne] at hQ
      refine pz_aln (i := 156) rfl rfl ?_
      refine pz_ic (i := 157) rfl ?_
      refine pz_cI1 (i := 158) rfl (gc_54 ..) rfl (Nat.le_of_ble_eq_true rfl) rfl ?_
      refine sm_writeTable hr hd3 hdn hc (l := 2) (by decide) hu3 hpa3 (fun t ht => (hE t ht).1) htk hnew w3 h17 hnx (fun jv4 bv4 o4 k4 => ?_)
      have O4 : oM rm jv bv jv4 bv4 (wr s (tabW rm (lf tk, 2, W.2.2 7, m2A W))) [0, 1, 2, 17, 19] [2, 4, 5, 6, 7, 8, 15, 16, 20, 21, 22, 23] := oM_tr (frI_rfl jv []) F3 o4 (by decide) (by decide) (by decide) (by decide) (by decide) (by decide)
      refine ⟨_, rfl, ?_⟩
      refine pz_isn (i := 159) rfl ⟨rfl, Nat.le_of_ble_eq_true rfl⟩ rfl ?_
      first
        | exact lq_A hr hu hpa (fun t ht => (hE t ht).1) hlv O4 o4 F3 k4 hQ
        | exact absurd rfl c155
        | exact absurd c155 (by decide)
        | (have h0 : (kS (m2A W)).length = 0 := by
             have := le_ofI (b := 0) c149
             omega
           rw [if_pos h0] at hQ
           exact lq_B hr hd3 hdn hu3 hpa3 (fun t ht => (hE t ht).1) hlv F3 h17 hQ)
end SB5
