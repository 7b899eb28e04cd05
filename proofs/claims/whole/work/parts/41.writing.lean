/-! PART 41: the disk of the class: writing -/
/-- what else stays -/
def frI (iv iv' : Nat → Int32) (S : List Nat) : Prop := ∀ j, j ∉ S → iv' j = iv j
def frA (av av' : Nat → Nat → Int32) (S : List Nat) : Prop := ∀ j, j ∉ S → av' j = av j
section S41
variable {Lx : Nat} {xs : Nat → Int32} {d rm : Nat} {iv : Nat → Int32} {av : Nat → Nat → Int32} {r : pW} {Q : rQ}
set_option maxRecDepth 20000 in
theorem sx_isInside (hr : 0 < rm ∧ rm ≤ 4096) {c n : Nat} (hc : c < 2 ^ 30) (hn : n < 2 ^ 30) (h : (c < rm) ∨ (rm ≤ c ∧ c + n ≤ rm + 15728)) (hQ : Q (some (.int 1)) (wX rm iv av r)) : rx_R Lx xs (d + 1) 19 [.ref 2, .int (nI c), .int (nI n)] (wX rm iv av r) Q := by
  refine pz_en (t := rt_19) ⟨Nat.le_of_ble_eq_true rfl, rfl⟩ rfl rfl ?_
  refine pz_iln (i := 0) rfl rfl ?_
  refine pz_if_lt (i := 1) rfl (fun c1 => ?_) (fun c1 => ?_)
  · exact absurd c1 (nI_pos (by omega))
  · refine pz_iln (i := 2) rfl rfl ?_
    refine pz_aln (i := 3) rfl rfl ?_
    refine pz_get (i := 4) rfl (gf_2_0 ..) ?_
    refine pz_ii_ge (i := 5) rfl (fun c5 => ?_) (fun c5 => ?_)
    · refine pz_ic (i := 8) rfl ?_
      refine pz_isn (i := 9) rfl ⟨rfl, Nat.le_of_ble_eq_true rfl⟩ rfl ?_
      refine pz_iln (i := 10) rfl rfl ?_
      refine pz_if_ne (i := 11) rfl (fun c11 => ?_) (fun c11 => ?_)
      · refine pz_ic (i := 23) rfl ?_
        refine pz_go (i := 24) rfl ?_
        refine pz_ir (i := 26) rfl rfl rfl ?_
        exact hQ
      · refine pz_iln (i := 12) rfl rfl ?_
        refine pz_aln (i := 13) rfl rfl ?_
        refine pz_get (i := 14) rfl (gf_2_0 ..) ?_
        refine pz_ii_lt (i := 15) rfl (fun c15 => ?_) (fun c15 => ?_)
        · first | (have h1 := lt_ofI c15; have h2 := le_ofI c5; omega) | exact absurd c11 (by decide)
        · refine pz_iln (i := 16) rfl rfl ?_
          refine pz_iln (i := 17) rfl rfl ?_
          refine pz_add (i := 18) rfl ?_
          rw [nI_add]
          refine pz_aln (i := 19) rfl rfl ?_
          refine pz_get (i := 20) rfl (gf_2_1 ..) ?_
          refine pz_len (i := 21) rfl (ga_3 ..) (by decide) ?_
          refine pz_ii_gt (i := 22) rfl (fun c22 => ?_) (fun c22 => ?_)
          · first | exact absurd c11 (by decide) | (have h1 := lt_ofI (a := rm + 15728) c22; have h2 := le_ofI c5; omega)
          · refine pz_ic (i := 23) rfl ?_
            refine pz_go (i := 24) rfl ?_
            refine pz_ir (i := 26) rfl rfl rfl ?_
            exact hQ
    · refine pz_ic (i := 6) rfl ?_
      refine pz_go (i := 7) rfl ?_
      refine pz_isn (i := 9) rfl ⟨rfl, Nat.le_of_ble_eq_true rfl⟩ rfl ?_
      refine pz_iln (i := 10) rfl rfl ?_
      refine pz_if_ne (i := 11) rfl (fun c11 => ?_) (fun c11 => ?_)
      · refine pz_ic (i := 23) rfl ?_
        refine pz_go (i := 24) rfl ?_
        refine pz_ir (i := 26) rfl rfl rfl ?_
        exact hQ
      · refine pz_iln (i := 12) rfl rfl ?_
        refine pz_aln (i := 13) rfl rfl ?_
        refine pz_get (i := 14) rfl (gf_2_0 ..) ?_
        refine pz_ii_lt (i := 15) rfl (fun c15 => ?_) (fun c15 => ?_)
        · first | (have h1 := lt_ofI c15; have h2 := le_ofI c5; omega) | exact absurd c11 (by decide)
        · refine pz_iln (i := 16) rfl rfl ?_
          refine pz_iln (i := 17) rfl rfl ?_
          refine pz_add (i := 18) rfl ?_
          rw [nI_add]
          refine pz_aln (i := 19) rfl rfl ?_
          refine pz_get (i := 20) rfl (gf_2_1 ..) ?_
          refine pz_len (i := 21) rfl (ga_3 ..) (by decide) ?_
          refine pz_ii_gt (i := 22) rfl (fun c22 => ?_) (fun c22 => ?_)
          · first | exact absurd c11 (by decide) | (have h1 := lt_ofI (a := rm + 15728) c22; have h2 := le_ofI c5; omega)
          · refine pz_ic (i := 23) rfl ?_
            refine pz_go (i := 24) rfl ?_
            refine pz_ir (i := 26) rfl rfl rfl ?_
            exact hQ
/-- the loop of a write: k bytes are there -/
theorem lp_write (hr : 0 < rm ∧ rm ≤ 4096) {ρ a na from0 c n cb : Nat} {g : Nat → Int32} (hrow : ∀ iv' av', gt_a (wX rm iv' av' r) (ρ + 1) = some (1, na, .inl (av' a))) (ha : 3 < a) (hfn : from0 + n ≤ na) (hna : na < 2 ^ 30) (hg : ∀ k, k < n → av a (from0 + k) = g k) (hgb : ∀ k, (vp_nar .byte (g k)) = g k) (hn : n < 2 ^ 30) (hok : wok rm (c, n, g)) (hc : c < 2 ^ 30) (hcb : cb + n ≤ 8192)
    (f cv : Nat → Int32) (hfb : ∀ j, vp_nar .byte (f j) = f j)
    (hQ : pz Lx xs (d + 1) rt_16 none Q 84 [some (.ref 2), some (.int (nI c)), some (.ref (ρ + 1)), some (.int (nI from0)), some (.int (nI n)), some (.int (nI (nx rm c n))), some (.int (nI n))] [] (wX rm (upd iv 0 (nI (cb + n))) (up_a (up_a av 3 (fun j => if cb ≤ j ∧ j < cb + n then f (nx rm c (j - cb)) else cv j)) 0 (ap_k rm g c n f)) r)) :
    ∀ m k : Nat, k ≤ n → n ≤ k + m → pz Lx xs (d + 1) rt_16 none Q 51 [some (.ref 2), some (.int (nI c)), some (.ref (ρ + 1)), some (.int (nI from0)), some (.int (nI n)), some (.int (nI (nx rm c k))), some (.int (nI k))] [] (wX rm (upd iv 0 (nI (cb + k))) (up_a (up_a av 3 (fun j => if cb ≤ j ∧ j < cb + k then f (nx rm c (j - cb)) else cv j)) 0 (ap_k rm g c k f)) r) := by
  have hdone : ∀ k, k = n → pz Lx xs (d + 1) rt_16 none Q 51 [some (.ref 2), some (.int (nI c)), some (.ref (ρ + 1)), some (.int (nI from0)), some (.int (nI n)), some (.int (nI (nx rm c k))), some (.int (nI k))] [] (wX rm (upd iv 0 (nI (cb + k))) (up_a (up_a av 3 (fun j => if cb ≤ j ∧ j < cb + k then f (nx rm c (j - cb)) else cv j)) 0 (ap_k rm g c k f)) r) := by
    intro k hk
    subst hk
    refine pz_il (i := 51) rfl rfl ?_
    refine pz_il (i := 52) rfl rfl ?_
    refine pz_ii_ge (i := 53) rfl (fun c53 => ?_) (fun c53 => ?_)
    · exact hQ
    · exact absurd (Int32.le_refl _) c53
  have hin : ∀ k, k < n → nx rm c k < rm + 15728 := fun k hk => by
    rcases hok with h | h
    · exact nx_lt hr.1 (n := n) (Or.inl h.1) hk
    · exact nx_lt hr.1 (n := n) (Or.inr h.2) hk
  have hnn : c < rm → n ≤ rm := fun z => by
    rcases hok with h | h
    · exact h.2
    · have := h.1
      dsimp only at this
      omega
  intro m
  induction m with
  | zero =>
    intro k hk hm
    exact hdone k (by omega)
  | succ m ih =>
    intro k hk hm
    by_cases hkn : k = n
    · exact hdone k hkn
    have hlt : k < n := by omega
    have hi := hin k hlt
    have hold : ap_k rm g c k f (nx rm c k) = f (nx rm c k) := ap_off k (fun i hi2 e => by
      have := nx_inj hnn (by omega) hlt e
      omega)
    refine pz_il (i := 51) rfl rfl ?_
    refine pz_il (i := 52) rfl rfl ?_
    refine pz_ii_ge (i := 53) rfl (fun c53 => ?_) (fun c53 => ?_)
    · exact absurd (le_ofI c53) (by omega)
    · refine pz_aln (i := 54) rfl rfl ?_
      refine pz_get (i := 55) rfl (gf_2_4 ..) ?_
      refine pz_aln (i := 56) rfl rfl ?_
      refine pz_get (i := 57) rfl (gf_2_5 ..) ?_
      refine pz_aln (i := 58) rfl rfl ?_
      refine pz_get (i := 59) rfl (gf_2_1 ..) ?_
      refine pz_il (i := 60) rfl rfl ?_
      refine pz_bal (i := 61) rfl (ga_3 ..) rfl (in_ofI hi) ?_
      rw [cl_ofI, ua_s, hold]
      rw [ui_s]
      refine pz_bas (i := 62) rfl (ga_6 ..) rfl (in_ofI (by omega)) (pa_6 ..) ?_
      refine pz_aln (i := 63) rfl rfl ?_
      refine pz_dup (i := 64) rfl rfl ?_
      refine pz_get (i := 65) rfl (gf_2_5 ..) ?_
      refine pz_ic (i := 66) rfl ?_
      rw [ui_s]
      refine pz_add (i := 67) rfl ?_
      rw [nI_1]
      refine pz_put (i := 68) rfl (pf_2_5 ..) ⟨rfl, rfl⟩ ?_
      refine pz_aln (i := 69) rfl rfl ?_
      refine pz_get (i := 70) rfl (gf_2_1 ..) ?_
      refine pz_il (i := 71) rfl rfl ?_
      refine pz_aln (i := 72) rfl rfl ?_
      refine pz_iln (i := 73) rfl rfl ?_
      refine pz_il (i := 74) rfl rfl ?_
      refine pz_add (i := 75) rfl ?_
      rw [nI_add]
      refine pz_bal (i := 76) rfl (hrow _ _) rfl (in_ofI (by omega)) ?_
      rw [cl_ofI (a := from0 + k), ua_n (by omega), ua_n (by omega), ua_n (by omega), hg k hlt]
      refine pz_bas (i := 77) rfl (ga_3 ..) rfl (in_ofI hi) (pa_3 ..) ?_
      refine pz_aln (i := 78) rfl rfl ?_
      refine pz_il (i := 79) rfl rfl ?_
      refine pz_cI1 (i := 80) rfl (gc_2 ..) rfl (Nat.le_of_ble_eq_true rfl) rfl ?_
      refine sx_cellBehind (c := nx rm c k) hr (by omega) ?_
      rw [← nx_s hr.1]
      refine ⟨_, rfl, ?_⟩
      refine pz_is (i := 81) rfl ⟨rfl, Nat.le_of_ble_eq_true rfl⟩ rfl ?_
      refine pz_inc (i := 82) rfl rfl rfl rfl ?_
      refine pz_go (i := 83) rfl ?_
      rw [nI_1]
      refine (congrArg (fun z => pz Lx xs (d + 1) rt_16 none Q 51 [some (.ref 2), some (.int (nI c)), some (.ref (ρ + 1)), some (.int (nI from0)), some (.int (nI n)), some (.int (nI (nx rm c (k + 1)))), some (.int (nI (k + 1)))] [] z) ?_).mpr (ih (k + 1) (by omega) (by omega))
      congr 1
      · rw [ui_uu, Nat.add_assoc]
      · funext j
        by_cases j0 : j = 0
        · subst j0
          rw [ua_s, ua_s, ua_n (by decide), ua_s, cl_ofI (a := nx rm c k)]
          show upd (ap_k rm g c k f) (nx rm c k) (vp_nar .byte (g k)) = upd (ap_k rm g c k f) (nx rm c k) (g k)
          rw [hgb]
        · rw [ua_n j0, ua_n (k := 0) j0]
          by_cases j3 : j = 3
          · subst j3
            rw [ua_s, ua_s, ua_n (by decide), ua_s, cl_ofI (a := cb + k)]
            funext q
            show upd _ (cb + k) (vp_nar .byte (f (nx rm c k))) q = _
            rw [hfb]
            by_cases hq : q = cb + k
            · subst hq
              rw [ui_s, if_pos (by omega), show cb + k - cb = k by omega]
            · rw [ui_n hq]
              by_cases h2 : cb ≤ q ∧ q < cb + k
              · rw [if_pos h2, if_pos (by omega)]
              · rw [if_neg h2, if_neg (by omega)]
          · rw [ua_n j3, ua_n j0, ua_n j3, ua_n j3]
theorem dX_wr {iv' : Nat → Int32} {av' : Nat → Nat → Int32} {s : dS} {c n : Nat} {g : Nat → Int32} (hd : dX rm iv av s) (hdn : s.2.2.2.2.2 = false) (hok : wok rm (c, n, g)) (hgb : bt g) (hcap : s.2.1.length < 1024 ∧ tot s.2.1 + n ≤ 8192)
    (h0 : av' 0 = ap_k rm g c n (av 0)) (h1 : av' 1 = upd (av 1) s.2.1.length (nI c)) (h2 : av' 2 = upd (av 2) s.2.1.length (nI n)) (h3 : av' 3 = fun j => if tot s.2.1 ≤ j ∧ j < tot s.2.1 + n then av 0 (nx rm c (j - tot s.2.1)) else av 3 j)
    (i0 : iv' 0 = nI (tot s.2.1 + n)) (i1 : iv' 1 = nI (s.2.1.length + 1)) (i2 : iv' 2 = nI (s.2.2.1 - 1)) (i3 : iv' 3 = iv 3) (i4 : iv' 4 = iv 4) (i5 : iv' 5 = bB (decide (s.2.2.1 = 1))) : dX rm iv' av' (wr s (c, n, g)) := by
  obtain ⟨q0, q1, q2, q3, q4, q5, q6, q7, q8, q9, q10, q11, qb1, qb2, q12⟩ := hd
  have hw : wr s (c, n, g) = (s.1, s.2.1 ++ [(c, n, g)], s.2.2.1 - 1, s.2.2.2.1, s.2.2.2.2.1, decide (s.2.2.1 = 1)) := by unfold wr; rw [hdn]; rfl
  rw [hw]
  refine ⟨?_, ?_, ?_, ?_, ?_, i2, i3.trans q6, i4.trans q7, i5, by show s.2.2.1 - 1 ≤ 1000; omega, q10, q11, qb1, ?_, ?_⟩
  · rw [h0, q0]
    show ap_k rm g c n (s.2.1.foldl (ap rm) s.1) = (s.2.1 ++ [(c, n, g)]).foldl (ap rm) s.1
    rw [List.foldl_append]
    rfl
  · show iv' 1 = nI (s.2.1 ++ [(c, n, g)]).length
    rw [i1, List.length_append]
    rfl
  · show iv' 0 = nI (tot (s.2.1 ++ [(c, n, g)]))
    rw [i0, tot_app]
  · show (s.2.1 ++ [(c, n, g)]).length ≤ 1024
    rw [List.length_append]
    show s.2.1.length + 1 ≤ 1024
    omega
  · show tot (s.2.1 ++ [(c, n, g)]) ≤ 8192
    rw [tot_app]
    exact hcap.2
  · intro x hx
    rcases List.mem_append.mp hx with hx | hx
    · exact qb2 x hx
    · rw [List.mem_singleton.mp hx]
      exact hgb
  · intro w x hx
    show wok rm x ∧ av' 1 w = nI x.1 ∧ av' 2 w = nI x.2.1 ∧ ∀ i, i < x.2.1 → av' 3 (tot ((s.2.1 ++ [(c, n, g)]).take w) + i) = ((s.2.1 ++ [(c, n, g)]).take w).foldl (ap rm) s.1 (nx rm x.1 i)
    by_cases hwl : w < s.2.1.length
    · have hx' : s.2.1[w]? = some x := by
        have : (s.2.1 ++ [(c, n, g)])[w]? = some x := hx
        rwa [List.getElem?_append_left hwl] at this
      obtain ⟨g1, g2, g3, g4⟩ := q12 w x hx'
      have ht : (s.2.1 ++ [(c, n, g)]).take w = s.2.1.take w := List.take_append_of_le_length (by omega)
      rw [ht, h1, h2, h3, ui_n (by omega), ui_n (by omega)]
      refine ⟨g1, g2, g3, fun i hi => ?_⟩
      have hlt : tot (s.2.1.take w) + x.2.1 ≤ tot s.2.1 := by
        have e1 : s.2.1 = s.2.1.take w ++ x :: s.2.1.drop (w + 1) := by
          have := List.getElem?_eq_some_iff.mp hx'
          obtain ⟨h5, h6⟩ := this
          rw [← h6, List.getElem_cons_drop, List.take_append_drop]
        have e2 : tot s.2.1 = tot (s.2.1.take w) + (x.2.1 + tot (s.2.1.drop (w + 1))) := by
          have := congrArg tot e1
          simpa [tot] using this
        omega
      show (if tot s.2.1 ≤ tot (s.2.1.take w) + i ∧ _ then _ else av 3 (tot (s.2.1.take w) + i)) = _
      rw [if_neg (by omega)]
      exact g4 i hi
    · have hwe : w = s.2.1.length := by
        have : w < (s.2.1 ++ [(c, n, g)]).length := (List.getElem?_eq_some_iff.mp hx).1
        rw [List.length_append] at this
        have h9 : w < s.2.1.length + 1 := this
        omega
      subst hwe
      have hx' : x = (c, n, g) := by
        have : (s.2.1 ++ [(c, n, g)])[s.2.1.length]? = some x := hx
        rw [List.getElem?_append_right (Nat.le_refl _), Nat.sub_self] at this
        exact (Option.some.inj this).symm
      subst hx'
      have ht : (s.2.1 ++ [(c, n, g)]).take s.2.1.length = s.2.1 := List.take_left' rfl
      rw [ht, h1, h2, h3, ui_s, ui_s]
      refine ⟨hok, rfl, rfl, fun i hi => ?_⟩
      have hi' : i < n := hi
      show (if tot s.2.1 ≤ tot s.2.1 + i ∧ tot s.2.1 + i < tot s.2.1 + n then av 0 (nx rm c (tot s.2.1 + i - tot s.2.1)) else _) = _
      rw [if_pos (by omega), Nat.add_sub_cancel_left, q0]
      rfl
set_option maxRecDepth 20000 in
theorem sx_write (hr : 0 < rm ∧ rm ≤ 4096) {ρ a na from0 c n : Nat} {g : Nat → Int32} (hrow : ∀ iv' av', gt_a (wX rm iv' av' r) (ρ + 1) = some (1, na, .inl (av' a))) (ha : 3 < a) (hfn : from0 + n ≤ na) (hna : na < 2 ^ 30) (hg : ∀ k, k < n → av a (from0 + k) = g k) (hgb : bt g) (hok : wok rm (c, n, g)) {s : dS} (hd : dX rm iv av s) (hcap : s.2.2.2.2.2 = false → s.2.1.length < 1024 ∧ tot s.2.1 + n ≤ 8192)
    (hQ : ∀ iv' av', dX rm iv' av' (wr s (c, n, g)) → frI iv iv' [0, 1, 2, 5] → frA av av' [0, 1, 2, 3] → Q none (wX rm iv' av' r)) : rx_R Lx xs (d + 2) 16 [.ref 2, .int (nI c), .ref (ρ + 1), .int (nI from0), .int (nI n)] (wX rm iv av r) Q := by
  refine pz_en (t := rt_16) ⟨Nat.le_of_ble_eq_true rfl, rfl⟩ rfl rfl ?_
  have hcn : c < 2 ^ 30 ∧ n < 2 ^ 30 := by
    rcases hok with h | h
    · exact ⟨by have := h.1; dsimp only at this; omega, by omega⟩
    · exact ⟨by have := h.2; dsimp only at this; omega, by omega⟩
  have hin0 : (c < rm) ∨ (rm ≤ c ∧ c + n ≤ rm + 15728) := hok.imp (fun h => h.1) (fun h => h)
  obtain ⟨q0, q1, q2, q3, q4, q5, q6, q7, q8, q9, q10, q11, qb1, qb2, q12⟩ := id hd
  have hbt := dX_bt hd
  cases hdn : s.2.2.2.2.2
  · rw [hdn] at q8
    have hsl : s.2.1.length < 1024 ∧ tot s.2.1 + n ≤ 8192 := hcap hdn
    refine pz_aln (i := 0) rfl rfl ?_
    refine pz_get (i := 1) rfl (gf_2_10 ..) ?_
    rw [q8]
    refine pz_if_ne (i := 2) rfl (fun c2 => ?_) (fun c2 => ?_)
    · exact absurd rfl c2
    · refine pz_aln (i := 3) rfl rfl ?_
      refine pz_iln (i := 4) rfl rfl ?_
      refine pz_il (i := 5) rfl rfl ?_
      refine pz_cI2 (i := 6) rfl (gc_2 ..) rfl (Nat.le_of_ble_eq_true rfl) rfl ?_
      refine sx_isInside (c := c) (n := n) hr hcn.1 hcn.2 hin0 ?_
      refine ⟨_, rfl, ?_⟩
      refine pz_if_eq (i := 7) rfl (fun c7 => ?_) (fun c7 => ?_)
      · exact absurd c7 (by decide)
      · refine pz_iln (i := 8) rfl rfl ?_
        refine pz_if_lt (i := 9) rfl (fun c9 => ?_) (fun c9 => ?_)
        · exact absurd c9 (nI_pos (by omega))
        · refine pz_iln (i := 10) rfl rfl ?_
          refine pz_il (i := 11) rfl rfl ?_
          refine pz_add (i := 12) rfl ?_
          refine pz_aln (i := 13) rfl rfl ?_
          refine pz_len (i := 14) rfl (hrow _ _) (by decide) ?_
          rw [nI_add]
          refine pz_ii_le (i := 15) rfl (fun c15 => ?_) (fun c15 => ?_)
          · refine pz_aln (i := 17) rfl rfl ?_
            refine pz_get (i := 18) rfl (gf_2_6 ..) ?_
            refine pz_si (i := 19) rfl ?_
            rw [q1]
            refine pz_ii_eq (i := 20) rfl (fun c20 => ?_) (fun c20 => ?_)
            · exact absurd (eq_ofI (b := 1024) c20) (by omega)
            · refine pz_aln (i := 21) rfl rfl ?_
              refine pz_get (i := 22) rfl (gf_2_5 ..) ?_
              refine pz_il (i := 23) rfl rfl ?_
              refine pz_add (i := 24) rfl ?_
              refine pz_si (i := 25) rfl ?_
              rw [q2, nI_add]
              refine pz_ii_le (i := 26) rfl (fun c26 => ?_) (fun c26 => ?_)
              · refine pz_aln (i := 29) rfl rfl ?_
                refine pz_get (i := 30) rfl (gf_2_2 ..) ?_
                refine pz_aln (i := 31) rfl rfl ?_
                refine pz_get (i := 32) rfl (gf_2_6 ..) ?_
                refine pz_iln (i := 33) rfl rfl ?_
                rw [q1]
                refine pz_ias (i := 34) rfl (ga_4 ..) (in_ofI hsl.1) (pa_4 ..) ?_
                refine pz_aln (i := 35) rfl rfl ?_
                refine pz_get (i := 36) rfl (gf_2_3 ..) ?_
                refine pz_aln (i := 37) rfl rfl ?_
                refine pz_get (i := 38) rfl (gf_2_6 ..) ?_
                refine pz_il (i := 39) rfl rfl ?_
                rw [q1]
                refine pz_ias (i := 40) rfl (ga_5 ..) (in_ofI hsl.1) (pa_5 ..) ?_
                refine pz_aln (i := 41) rfl rfl ?_
                refine pz_dup (i := 42) rfl rfl ?_
                refine pz_get (i := 43) rfl (gf_2_6 ..) ?_
                refine pz_ic (i := 44) rfl ?_
                rw [q1]
                refine pz_add (i := 45) rfl ?_
                rw [nI_1]
                refine pz_put (i := 46) rfl (pf_2_6 ..) ⟨rfl, rfl⟩ ?_
                refine pz_iln (i := 47) rfl rfl ?_
                refine pz_is (i := 48) rfl ⟨rfl, Nat.le_of_ble_eq_true rfl⟩ rfl ?_
                refine pz_ic (i := 49) rfl ?_
                refine pz_is (i := 50) rfl ⟨rfl, Nat.le_of_ble_eq_true rfl⟩ rfl ?_
                rw [cl_ofI (a := s.2.1.length)]
                have k84 : pz Lx xs (d + 1) rt_16 none Q 84 [some (.ref 2), some (.int (nI c)), some (.ref (ρ + 1)), some (.int (nI from0)), some (.int (nI n)), some (.int (nI (nx rm c n))), some (.int (nI n))] [] (wX rm (upd (upd iv 1 (nI (s.2.1.length + 1))) 0 (nI (tot s.2.1 + n))) (up_a (up_a (up_a (up_a av 1 (upd (av 1) s.2.1.length (nI c))) 2 (upd (up_a av 1 (upd (av 1) s.2.1.length (nI c)) 2) s.2.1.length (nI n))) 3 (fun j => if tot s.2.1 ≤ j ∧ j < tot s.2.1 + n then av 0 (nx rm c (j - tot s.2.1)) else av 3 j)) 0 (ap_k rm g c n (av 0))) r) := by
                  have hA : ∀ (x2 x5 : Int32), x2 = nI (s.2.2.1 - 1) → x5 = bB (decide (s.2.2.1 = 1)) → ∀ iv', iv' 0 = nI (tot s.2.1 + n) → iv' 1 = nI (s.2.1.length + 1) → iv' 2 = x2 → iv' 5 = x5 → frI iv iv' [0, 1, 2, 5] → Q none (wX rm iv' (up_a (up_a (up_a (up_a av 1 (upd (av 1) s.2.1.length (nI c))) 2 (upd (up_a av 1 (upd (av 1) s.2.1.length (nI c)) 2) s.2.1.length (nI n))) 3 (fun j => if tot s.2.1 ≤ j ∧ j < tot s.2.1 + n then av 0 (nx rm c (j - tot s.2.1)) else av 3 j)) 0 (ap_k rm g c n (av 0))) r) := by
                    intro x2 x5 e2 e5 iv' i0 i1 i2 i5 hf
                    refine hQ iv' _ (dX_wr hd hdn hok hgb hsl (ua_s _ _ _) ?_ ?_ ?_ i0 i1 (i2.trans e2) (hf 3 (by decide)) (hf 4 (by decide)) (i5.trans e5)) hf ?_
                    · rw [ua_n (by decide), ua_n (by decide), ua_n (by decide), ua_s]
                    · rw [ua_n (by decide), ua_n (by decide), ua_s, ua_n (by decide)]
                    · rw [ua_n (by decide), ua_s]
                    · intro j hj
                      simp only [List.mem_cons, List.not_mem_nil, or_false, not_or] at hj
                      rw [ua_n hj.1, ua_n hj.2.2.2, ua_n hj.2.2.1, ua_n hj.2.1]
                  refine pz_aln (i := 84) rfl rfl ?_
                  refine pz_get (i := 85) rfl (gf_2_7 ..) ?_
                  rw [ui_n (by decide), ui_n (by decide), q5]
                  refine pz_if_le (i := 86) rfl (fun c86 => ?_) (fun c86 => ?_)
                  · refine pz_vr (i := 101) rfl rfl ?_
                    refine hA _ _ rfl rfl _ ?_ ?_ ?_ ?_ ?_
                    · simp [upd]
                    · simp [upd]
                    · first | (have h0 : s.2.2.1 = 0 := (by have := le_ofI (b := 0) c86; omega); rw [ui_n (by decide), ui_n (by decide), q5, h0]; done) | (have h1 : 0 < s.2.2.1 := nle_ofI (b := 0) c86; rw [ui_n (by decide), ui_s]; exact pk_sub h1)
                    · first | (have h0 : s.2.2.1 = 0 := (by have := le_ofI (b := 0) c86; omega); rw [ui_n (by decide), ui_n (by decide), q8, h0]; rfl) | (have h1 : 0 < s.2.2.1 := nle_ofI (b := 0) c86; rw [ui_s]; have h2 : nI s.2.2.1 - 1 = nI (s.2.2.1 - 1) := pk_sub h1; rw [h2] at c96; first | (have h3 := eq_ofI (b := 0) c96; rw [decide_eq_true (show s.2.2.1 = 1 by omega)]; rfl) | (have h3 := ne_ofI (b := 0) c96; rw [decide_eq_false (show ¬ s.2.2.1 = 1 by omega)]; rfl))
                    · intro j hj
                      simp only [List.mem_cons, List.not_mem_nil, or_false, not_or] at hj
                      simp [upd, hj]
                  · refine pz_aln (i := 87) rfl rfl ?_
                    refine pz_dup (i := 88) rfl rfl ?_
                    refine pz_get (i := 89) rfl (gf_2_7 ..) ?_
                    refine pz_ic (i := 90) rfl ?_
                    rw [ui_n (by decide), ui_n (by decide), q5]
                    refine pz_sub (i := 91) rfl ?_
                    refine pz_put (i := 92) rfl (pf_2_7 ..) ⟨rfl, rfl⟩ ?_
                    refine pz_aln (i := 93) rfl rfl ?_
                    refine pz_aln (i := 94) rfl rfl ?_
                    refine pz_get (i := 95) rfl (gf_2_7 ..) ?_
                    rw [ui_s]
                    refine pz_if_ne (i := 96) rfl (fun c96 => ?_) (fun c96 => ?_)
                    · refine pz_ic (i := 99) rfl ?_
                      refine pz_put (i := 100) rfl (pf_2_10 ..) ⟨rfl, rfl⟩ ?_
                      refine pz_vr (i := 101) rfl rfl ?_
                      refine hA _ _ rfl rfl _ ?_ ?_ ?_ ?_ ?_
                      · simp [upd]
                      · simp [upd]
                      · first | (have h0 : s.2.2.1 = 0 := (by have := le_ofI (b := 0) c86; omega); rw [ui_n (by decide), ui_n (by decide), q5, h0]; done) | (have h1 : 0 < s.2.2.1 := nle_ofI (b := 0) c86; rw [ui_n (by decide), ui_s]; exact pk_sub h1)
                      · first | (have h0 : s.2.2.1 = 0 := (by have := le_ofI (b := 0) c86; omega); rw [ui_n (by decide), ui_n (by decide), q8, h0]; rfl) | (have h1 : 0 < s.2.2.1 := nle_ofI (b := 0) c86; rw [ui_s]; have h2 : nI s.2.2.1 - 1 = nI (s.2.2.1 - 1) := pk_sub h1; rw [h2] at c96; first | (have h3 := eq_ofI (b := 0) c96; rw [decide_eq_true (show s.2.2.1 = 1 by omega)]; rfl) | (have h3 := ne_ofI (b := 0) c96; rw [decide_eq_false (show ¬ s.2.2.1 = 1 by omega)]; rfl))
                      · intro j hj
                        simp only [List.mem_cons, List.not_mem_nil, or_false, not_or] at hj
                        simp [upd, hj]
                    · refine pz_ic (i := 97) rfl ?_
                      refine pz_go (i := 98) rfl ?_
                      refine pz_put (i := 100) rfl (pf_2_10 ..) ⟨rfl, rfl⟩ ?_
                      refine pz_vr (i := 101) rfl rfl ?_
                      refine hA _ _ rfl rfl _ ?_ ?_ ?_ ?_ ?_
                      · simp [upd]
                      · simp [upd]
                      · first | (have h0 : s.2.2.1 = 0 := (by have := le_ofI (b := 0) c86; omega); rw [ui_n (by decide), ui_n (by decide), q5, h0]; done) | (have h1 : 0 < s.2.2.1 := nle_ofI (b := 0) c86; rw [ui_n (by decide), ui_s]; exact pk_sub h1)
                      · first | (have h0 : s.2.2.1 = 0 := (by have := le_ofI (b := 0) c86; omega); rw [ui_n (by decide), ui_n (by decide), q8, h0]; rfl) | (have h1 : 0 < s.2.2.1 := nle_ofI (b := 0) c86; rw [ui_s]; have h2 : nI s.2.2.1 - 1 = nI (s.2.2.1 - 1) := pk_sub h1; rw [h2] at c96; first | (have h3 := eq_ofI (b := 0) c96; rw [decide_eq_true (show s.2.2.1 = 1 by omega)]; rfl) | (have h3 := ne_ofI (b := 0) c96; rw [decide_eq_false (show ¬ s.2.2.1 = 1 by omega)]; rfl))
                      · intro j hj
                        simp only [List.mem_cons, List.not_mem_nil, or_false, not_or] at hj
                        simp [upd, hj]
                have key := lp_write (Lx := Lx) (xs := xs) (d := d) (Q := Q) (iv := upd iv 1 (nI (s.2.1.length + 1))) (av := up_a (up_a av 1 (upd (av 1) s.2.1.length (nI c))) 2 (upd (up_a av 1 (upd (av 1) s.2.1.length (nI c)) 2) s.2.1.length (nI n))) (r := r) hr hrow ha hfn hna (fun k hk => by rw [ua_n (by omega), ua_n (by omega)]; exact hg k hk) hgb hcn.2 hok hcn.1 hsl.2 (av 0) (av 3) hbt k84 n 0 (by omega) (by omega)
                rw [nx_0] at key
                refine (congrArg (fun z => pz Lx xs (d + 1) rt_16 none Q 51 [some (.ref 2), some (.int (nI c)), some (.ref (ρ + 1)), some (.int (nI from0)), some (.int (nI n)), some (.int (nI c)), some (.int (nI 0))] [] z) ?_).mpr key
                congr 1
                · funext j
                  by_cases j0 : j = 0
                  · subst j0
                    rw [ui_s, ui_n (by decide), q2]
                    rfl
                  · rw [ui_n (k := 0) j0]
                · funext j
                  by_cases j0 : j = 0
                  · subst j0
                    rw [ua_s, ua_n (by decide), ua_n (by decide)]
                    rfl
                  · rw [ua_n (k := 0) j0]
                    by_cases j3 : j = 3
                    · subst j3
                      rw [ua_s, ua_n (by decide), ua_n (by decide)]
                      funext q
                      rw [if_neg (by omega)]
                    · rw [ua_n (k := 3) j3]
              · exact absurd (show nI (tot s.2.1 + n) ≤ nI 8192 from nI_le hsl.2 (by omega)) c26
          · exact absurd (nI_le hfn (by omega)) c15
  · have hw : wr s (c, n, g) = s := by unfold wr; rw [hdn]; rfl
    rw [hw] at hQ
    rw [hdn] at q8
    refine pz_aln (i := 0) rfl rfl ?_
    refine pz_get (i := 1) rfl (gf_2_10 ..) ?_
    rw [q8]
    refine pz_if_ne (i := 2) rfl (fun c2 => ?_) (fun c2 => ?_)
    · refine pz_vr (i := 16) rfl rfl ?_
      exact hQ iv av hd (fun _ _ => rfl) (fun _ _ => rfl)
    · exact absurd c2 (by decide)
end S41
