/-! PART 46: the disk of the reference: write -/
section S46
variable {Lx : Nat} {xs : Nat → Int32} {d rm : Nat} {iv : Nat → Int32} {av : Nat → Nat → Int32} {jv : Nat → Int32} {bv : Nat → Nat → Int32} {Q : rQ}
theorem lp_mw (hr : 0 < rm ∧ rm ≤ 4096) (hg : geo rm bv) {a q n tt : Nat} {g : Nat → Int32} (ha : a < 3) (hq : q < 2 ^ 30) (hn : n ≤ 1300) (hgeo : wgeo a q n rm) (htt : tt + n ≤ 8192) (hgb : bt g) (h23 : ∀ k, k < n → bv 23 k = g k) (hnext : pz Lx xs (d + 1) rt_94 none Q 66 [some (.ref 54), some (.int (nI a)), some (.int (nI q)), some (.int (nI n)), some (.int (nI n))] [] (wX rm iv av (wM rm (upd jv 1 (nI (tt + n))) (up_a (up_a bv 8 (fun j => if tt ≤ j ∧ j < tt + n then g (j - tt) else bv 8 j)) 2 (ap_k rm g (plM rm a q) n (bv 2)))))) :
    ∀ (m k : Nat), k ≤ n → n ≤ k + m → pz Lx xs (d + 1) rt_94 none Q 33 [some (.ref 54), some (.int (nI a)), some (.int (nI q)), some (.int (nI n)), some (.int (nI k))] [] (wX rm iv av (wM rm (upd jv 1 (nI (tt + k))) (up_a (up_a bv 8 (fun j => if tt ≤ j ∧ j < tt + k then g (j - tt) else bv 8 j)) 2 (ap_k rm g (plM rm a q) k (bv 2))))) := by
  have hdone : ∀ k, k = n → pz Lx xs (d + 1) rt_94 none Q 33 [some (.ref 54), some (.int (nI a)), some (.int (nI q)), some (.int (nI n)), some (.int (nI k))] [] (wX rm iv av (wM rm (upd jv 1 (nI (tt + k))) (up_a (up_a bv 8 (fun j => if tt ≤ j ∧ j < tt + k then g (j - tt) else bv 8 j)) 2 (ap_k rm g (plM rm a q) k (bv 2))))) := by
    intro k hk
    subst hk
    refine pz_il (i := 33) rfl rfl ?_
    refine pz_iln (i := 34) rfl rfl ?_
    refine pz_ii_ge (i := 35) rfl (fun c35 => ?_) (fun c35 => ?_)
    · exact hnext
    · exact absurd (Int32.le_refl _) c35
  intro m
  induction m with
  | zero =>
    intro k hk hm
    exact hdone k (by omega)
  | succ m ih =>
    intro k hk hm
    by_cases hkn : k = n
    · exact hdone k hkn
    have hlt : k < n := by omega
    have h9 := plM_lt (a := a) (q := q + k) hr.1 ha
    have hv : vp_nar (rx_tg 1) (g k) = g k := hgb k
    refine pz_il (i := 33) rfl rfl ?_
    refine pz_iln (i := 34) rfl rfl ?_
    refine pz_ii_ge (i := 35) rfl (fun c35 => ?_) (fun c35 => ?_)
    · exact absurd (le_ofI c35) (by omega)
    · refine pz_aln (i := 36) rfl rfl ?_
      refine pz_get (i := 37) rfl (gf_54_9 ..) ?_
      refine pz_aln (i := 38) rfl rfl ?_
      refine pz_get (i := 39) rfl (gf_54_11 ..) ?_
      refine pz_aln (i := 40) rfl rfl ?_
      refine pz_get (i := 41) rfl (gf_54_45 ..) ?_
      refine pz_il (i := 42) rfl rfl ?_
      refine pz_bal (i := 43) rfl (ga_78 ..) rfl (in_ofI (by omega)) ?_
      rw [cl_ofI (a := k), ua_n (by decide), ua_n (by decide), h23 k hlt]
      rw [ui_s]
      refine pz_bas (i := 44) rfl (ga_63 ..) rfl (in_ofI (by omega)) (pa_63 ..) ?_
      rw [cl_ofI (a := tt + k), hv]
      refine pz_aln (i := 45) rfl rfl ?_
      refine pz_dup (i := 46) rfl rfl ?_
      refine pz_get (i := 47) rfl (gf_54_11 ..) ?_
      refine pz_ic (i := 48) rfl ?_
      rw [ui_s]
      refine pz_add (i := 49) rfl ?_
      rw [nI_1]
      refine pz_put (i := 50) rfl (pf_54_11 ..) ⟨rfl, rfl⟩ ?_
      refine pz_aln (i := 51) rfl rfl ?_
      refine pz_get (i := 52) rfl (gf_54_3 ..) ?_
      refine pz_aln (i := 53) rfl rfl ?_
      refine pz_iln (i := 54) rfl rfl ?_
      refine pz_iln (i := 55) rfl rfl ?_
      refine pz_il (i := 56) rfl rfl ?_
      refine pz_add (i := 57) rfl ?_
      rw [nI_add]
      refine pz_cI2 (i := 58) rfl (gc_54 ..) rfl (Nat.le_of_ble_eq_true rfl) rfl ?_
      refine sm_placeOf hr ?_ ha (by omega) ?_
      · intro b hb
        rw [ua_n (by decide), ua_n (by decide), ua_n (by decide), ua_n (by decide), ua_n (by decide), ua_n (by decide)]
        exact hg b hb
      refine ⟨_, rfl, ?_⟩
      refine pz_aln (i := 59) rfl rfl ?_
      refine pz_get (i := 60) rfl (gf_54_45 ..) ?_
      refine pz_il (i := 61) rfl rfl ?_
      refine pz_bal (i := 62) rfl (ga_78 ..) rfl (in_ofI (by omega)) ?_
      rw [cl_ofI (a := k), ua_n (k := 8) (by decide), ua_n (k := 2) (by decide), ua_n (k := 8) (by decide), h23 k hlt]
      refine pz_bas (i := 63) rfl (ga_57 ..) rfl (in_ofI (by omega)) (pa_57 ..) ?_
      rw [cl_ofI (a := plM rm a (q + k)), hv, plM_nx hr.1 hgeo hlt]
      refine pz_inc (i := 64) rfl rfl rfl rfl ?_
      refine pz_go (i := 65) rfl ?_
      rw [nI_1]
      refine (congrArg (fun z => pz Lx xs (d + 1) rt_94 none Q 33 [some (.ref 54), some (.int (nI a)), some (.int (nI q)), some (.int (nI n)), some (.int (nI (k + 1)))] [] z) ?_).mpr (ih (k + 1) (by omega) (by omega))
      congr 2
      · rw [ui_uu, Nat.add_assoc]
      · funext j
        by_cases j2 : j = 2
        · subst j2
          rw [ua_s, ua_s, ua_n (by decide), ua_s]
          rfl
        · rw [ua_n j2, ua_n (k := 2) j2]
          by_cases j8 : j = 8
          · subst j8
            rw [ua_s, ua_s, ua_n (by decide), ua_s]
            funext z
            by_cases hz : z = tt + k
            · subst hz
              rw [ui_s, if_pos (by omega), Nat.add_sub_cancel_left]
            · rw [ui_n hz]
              by_cases h2 : tt ≤ z ∧ z < tt + k
              · rw [if_pos h2, if_pos (by omega)]
              · rw [if_neg h2, if_neg (by omega)]
          · rw [ua_n j8, ua_n j2, ua_n j8, ua_n j8]
theorem dM_dn {jv' : Nat → Int32} {s : dS} {b' : Bool} (hd : dM rm jv bv s) (h5 : jv' 5 = bB b') (h : ∀ j, j ≠ 5 → jv' j = jv j) : dM rm jv' bv (s.1, s.2.1, s.2.2.1, s.2.2.2.1, s.2.2.2.2.1, b') := by
  obtain ⟨q0, q1, q2, q3, q4, q5, q6, q7, q8, q9, q10, q11, q12, qb1, qb2, qg, q13⟩ := hd
  exact ⟨q0, q1, (h 0 (by decide)).trans q2, (h 1 (by decide)).trans q3, q4, q5, (h 2 (by decide)).trans q6, (h 3 (by decide)).trans q7, (h 4 (by decide)).trans q8, h5, q10, q11, q12, qb1, qb2, qg, q13⟩
theorem dM_wr {jv' : Nat → Int32} {bv' : Nat → Nat → Int32} {s : dS} {a q n : Nat} {g : Nat → Int32} (hd : dM rm jv bv s) (hdn : s.2.2.2.2.2 = false) (ha : a < 3) (hq : q < 2 ^ 30) (hn : 0 < n) (hgeo : wgeo a q n rm) (hgb : bt g) (hcap : s.2.1.length < 1024 ∧ tot s.2.1 + n ≤ 8192)
    (h0 : bv' 2 = ap_k rm g (plM rm a q) n (bv 2)) (h3 : bv' 3 = bv 3) (h4 : bv' 4 = upd (bv 4) s.2.1.length (nI a)) (h5 : bv' 5 = upd (bv 5) s.2.1.length (nI q)) (h6 : bv' 6 = upd (bv 6) s.2.1.length (nI n)) (h7 : bv' 7 = upd (bv 7) s.2.1.length (nI (tot s.2.1))) (h8 : bv' 8 = fun j => if tot s.2.1 ≤ j ∧ j < tot s.2.1 + n then g (j - tot s.2.1) else bv 8 j) (hge : geo rm bv')
    (i0 : jv' 0 = nI (s.2.1.length + 1)) (i1 : jv' 1 = nI (tot s.2.1 + n)) (i2 : jv' 2 = nI (s.2.2.1 - 1)) (i3 : jv' 3 = jv 3) (i4 : jv' 4 = jv 4) (i5 : jv' 5 = bB (decide (s.2.2.1 = 1))) : dM rm jv' bv' (wr s (plM rm a q, n, g)) := by
  obtain ⟨q0, q1, q2, q3, q4, q5, q6, q7, q8, q9, q10, q11, q12, qb1, qb2, qg, q13⟩ := id hd
  have hw : wr s (plM rm a q, n, g) = (s.1, s.2.1 ++ [(plM rm a q, n, g)], s.2.2.1 - 1, s.2.2.2.1, s.2.2.2.2.1, decide (s.2.2.1 = 1)) := by unfold wr; rw [hdn]; rfl
  rw [hw]
  refine ⟨?_, h3.trans q1, ?_, ?_, ?_, ?_, i2, i3.trans q7, i4.trans q8, i5, by show s.2.2.1 - 1 ≤ 1000; omega, q11, q12, qb1, ?_, hge, ?_⟩
  · rw [h0, q0]
    show ap_k rm g (plM rm a q) n (s.2.1.foldl (ap rm) s.1) = (s.2.1 ++ [(plM rm a q, n, g)]).foldl (ap rm) s.1
    rw [List.foldl_append]
    rfl
  · show jv' 0 = nI (s.2.1 ++ [(plM rm a q, n, g)]).length
    rw [i0, List.length_append]
    rfl
  · show jv' 1 = nI (tot (s.2.1 ++ [(plM rm a q, n, g)]))
    rw [i1, tot_app]
  · show (s.2.1 ++ [(plM rm a q, n, g)]).length ≤ 1024
    rw [List.length_append]
    show s.2.1.length + 1 ≤ 1024
    omega
  · show tot (s.2.1 ++ [(plM rm a q, n, g)]) ≤ 8192
    rw [tot_app]
    exact hcap.2
  · intro x hx
    rcases List.mem_append.mp hx with hx | hx
    · exact qb2 x hx
    · rw [List.mem_singleton.mp hx]
      exact hgb
  · intro w x hx
    show ∃ a' q' : Nat, a' < 3 ∧ q' < 2 ^ 30 ∧ 0 < x.2.1 ∧ wgeo a' q' x.2.1 rm ∧ x.1 = plM rm a' q' ∧ bv' 4 w = nI a' ∧ bv' 5 w = nI q' ∧ bv' 6 w = nI x.2.1 ∧ bv' 7 w = nI (tot ((s.2.1 ++ [(plM rm a q, n, g)]).take w)) ∧ ∀ i, i < x.2.1 → bv' 8 (tot ((s.2.1 ++ [(plM rm a q, n, g)]).take w) + i) = x.2.2 i
    by_cases hwl : w < s.2.1.length
    · have hx' : s.2.1[w]? = some x := by
        have : (s.2.1 ++ [(plM rm a q, n, g)])[w]? = some x := hx
        rwa [List.getElem?_append_left hwl] at this
      obtain ⟨a', q', g1, g2, g3, g4, g5, g6, g7, g8, g9, g10⟩ := q13 w x hx'
      have ht : (s.2.1 ++ [(plM rm a q, n, g)]).take w = s.2.1.take w := List.take_append_of_le_length (by omega)
      rw [ht, h4, h5, h6, h7, h8, ui_n (by omega), ui_n (by omega), ui_n (by omega), ui_n (by omega)]
      refine ⟨a', q', g1, g2, g3, g4, g5, g6, g7, g8, g9, fun i hi => ?_⟩
      have hlt := tot_take hx'
      show (if tot s.2.1 ≤ tot (s.2.1.take w) + i ∧ _ then _ else bv 8 (tot (s.2.1.take w) + i)) = _
      rw [if_neg (by omega)]
      exact g10 i hi
    · have hwe : w = s.2.1.length := by
        have : w < (s.2.1 ++ [(plM rm a q, n, g)]).length := (List.getElem?_eq_some_iff.mp hx).1
        rw [List.length_append] at this
        have h9 : w < s.2.1.length + 1 := this
        omega
      subst hwe
      have hx' : x = (plM rm a q, n, g) := by
        have : (s.2.1 ++ [(plM rm a q, n, g)])[s.2.1.length]? = some x := hx
        rw [List.getElem?_append_right (Nat.le_refl _), Nat.sub_self] at this
        exact (Option.some.inj this).symm
      subst hx'
      have ht : (s.2.1 ++ [(plM rm a q, n, g)]).take s.2.1.length = s.2.1 := List.take_left' rfl
      rw [ht, h4, h5, h6, h7, h8, ui_s, ui_s, ui_s, ui_s]
      refine ⟨a, q, ha, hq, hn, hgeo, rfl, rfl, rfl, rfl, rfl, fun i hi => ?_⟩
      have hi' : i < n := hi
      show (if tot s.2.1 ≤ tot s.2.1 + i ∧ tot s.2.1 + i < tot s.2.1 + n then g (tot s.2.1 + i - tot s.2.1) else _) = _
      rw [if_pos (by omega), Nat.add_sub_cancel_left]
set_option maxRecDepth 20000 in
theorem sm_write (hr : 0 < rm ∧ rm ≤ 4096) {s : dS} (hd : dM rm jv bv s) (hdn : s.2.2.2.2.2 = false) {a q n : Nat} {g : Nat → Int32} (ha : a < 3) (hq : q < 2 ^ 30) (hn : 0 < n) (hn2 : n ≤ 1300) (hgeo : wgeo a q n rm) (hgb : bt g) (h23 : ∀ k, k < n → bv 23 k = g k) (hcap : s.2.1.length < 1024 ∧ tot s.2.1 + n ≤ 8192)
    (hQ1 : s.2.2.1 ≠ 1 → ∀ jv' bv', dM rm jv' bv' (wr s (plM rm a q, n, g)) → frI jv jv' [0, 1, 2] → frA bv bv' [2, 4, 5, 6, 7, 8] → Q none (wX rm iv av (wM rm jv' bv')))
    (hQ2 : s.2.2.1 = 1 → ∀ jv' bv', dM rm jv' bv' (fl rm (wr s (plM rm a q, n, g)) s.2.2.2.1 s.2.2.2.2.1) → jv' 6 = 0 → jv' 10 = 0 → jv' 11 = 0 → jv' 20 = 0 → bv' 17 = zK (bv 17) → frI jv jv' [0, 1, 2, 5, 6, 10, 11, 20] → frA bv bv' [2, 3, 4, 5, 6, 7, 8, 17] → Q none (wX rm iv av (wM rm jv' bv'))) : rx_R Lx xs (d + 4) 94 [.ref 54, .int (nI a), .int (nI q), .int (nI n)] (wX rm iv av (wM rm jv bv)) Q := by
  refine pz_en (t := rt_94) ⟨Nat.le_of_ble_eq_true rfl, rfl⟩ rfl rfl ?_
  obtain ⟨q0, q1, q2, q3, q4, q5, q6, q7, q8, q9, q10, q11, q12, qb1, qb2, qg, q13⟩ := id hd
  rw [hdn] at q9
  have hge : geo rm (up_a (up_a (up_a (up_a (up_a (up_a bv 4 (upd (bv 4) s.2.1.length (nI a))) 5 (upd (bv 5) s.2.1.length (nI q))) 6 (upd (bv 6) s.2.1.length (nI n))) 7 (upd (bv 7) s.2.1.length (nI (tot s.2.1)))) 8 (fun j => if tot s.2.1 ≤ j ∧ j < tot s.2.1 + n then g (j - tot s.2.1) else bv 8 j)) 2 (ap_k rm g (plM rm a q) n (bv 2))) := by
    intro b hb
    rw [ua_n (by decide), ua_n (by decide), ua_n (by decide), ua_n (by decide), ua_n (by decide), ua_n (by decide), ua_n (by decide), ua_n (by decide), ua_n (by decide), ua_n (by decide), ua_n (by decide), ua_n (by decide)]
    exact qg b hb
  have hfr : frA bv (up_a (up_a (up_a (up_a (up_a (up_a bv 4 (upd (bv 4) s.2.1.length (nI a))) 5 (upd (bv 5) s.2.1.length (nI q))) 6 (upd (bv 6) s.2.1.length (nI n))) 7 (upd (bv 7) s.2.1.length (nI (tot s.2.1)))) 8 (fun j => if tot s.2.1 ≤ j ∧ j < tot s.2.1 + n then g (j - tot s.2.1) else bv 8 j)) 2 (ap_k rm g (plM rm a q) n (bv 2))) [2, 4, 5, 6, 7, 8] := by
    intro j hj
    simp only [List.mem_cons, List.not_mem_nil, or_false, not_or] at hj
    rw [ua_n hj.1, ua_n hj.2.2.2.2.2, ua_n hj.2.2.2.2.1, ua_n hj.2.2.2.1, ua_n hj.2.2.1, ua_n hj.2.1]
  have hA : ∀ jv', jv' 0 = nI (s.2.1.length + 1) → jv' 1 = nI (tot s.2.1 + n) → jv' 2 = nI (s.2.2.1 - 1) → jv' 3 = jv 3 → jv' 4 = jv 4 → ∀ b5, jv' 5 = bB b5 → b5 = decide (s.2.2.1 = 1) → dM rm jv' (up_a (up_a (up_a (up_a (up_a (up_a bv 4 (upd (bv 4) s.2.1.length (nI a))) 5 (upd (bv 5) s.2.1.length (nI q))) 6 (upd (bv 6) s.2.1.length (nI n))) 7 (upd (bv 7) s.2.1.length (nI (tot s.2.1)))) 8 (fun j => if tot s.2.1 ≤ j ∧ j < tot s.2.1 + n then g (j - tot s.2.1) else bv 8 j)) 2 (ap_k rm g (plM rm a q) n (bv 2))) (wr s (plM rm a q, n, g)) := by
    intro jv' i0 i1 i2 i3 i4 b5 i5 hb5
    subst hb5
    refine dM_wr hd hdn ha hq hn hgeo hgb hcap (ua_s _ _ _) ?_ ?_ ?_ ?_ ?_ ?_ hge i0 i1 i2 i3 i4 i5
    · rw [ua_n (by decide), ua_n (by decide), ua_n (by decide), ua_n (by decide), ua_n (by decide), ua_n (by decide)]
    · rw [ua_n (by decide), ua_n (by decide), ua_n (by decide), ua_n (by decide), ua_n (by decide), ua_s]
    · rw [ua_n (by decide), ua_n (by decide), ua_n (by decide), ua_n (by decide), ua_s]
    · rw [ua_n (by decide), ua_n (by decide), ua_n (by decide), ua_s]
    · rw [ua_n (by decide), ua_n (by decide), ua_s]
    · rw [ua_n (by decide), ua_s]
  have k66 : pz Lx xs (d + 3) rt_94 none Q 66 [some (.ref 54), some (.int (nI a)), some (.int (nI q)), some (.int (nI n)), some (.int (nI n))] [] (wX rm iv av (wM rm (upd (upd jv 0 (nI (s.2.1.length + 1))) 1 (nI (tot s.2.1 + n))) (up_a (up_a (up_a (up_a (up_a (up_a bv 4 (upd (bv 4) s.2.1.length (nI a))) 5 (upd (bv 5) s.2.1.length (nI q))) 6 (upd (bv 6) s.2.1.length (nI n))) 7 (upd (bv 7) s.2.1.length (nI (tot s.2.1)))) 8 (fun j => if tot s.2.1 ≤ j ∧ j < tot s.2.1 + n then g (j - tot s.2.1) else bv 8 j)) 2 (ap_k rm g (plM rm a q) n (bv 2))))) := by
    refine pz_aln (i := 66) rfl rfl ?_
    refine pz_get (i := 67) rfl (gf_54_12 ..) ?_
    rw [ui_n (by decide), ui_n (by decide), q6]
    refine pz_if_le (i := 68) rfl (fun c68 => ?_) (fun c68 => ?_)
    · refine pz_vr (i := 84) rfl rfl ?_
      first | (have h0 : s.2.2.1 = 0 := (by have := le_ofI (b := 0) c68; omega); refine hQ1 (by omega) _ _ (hA _ (by simp [upd]) (by simp [upd]) (by simp [upd, q6, h0]) (by simp [upd]) (by simp [upd]) false (by simp [upd, q9]) (by rw [h0]; rfl)) (fun j hj => by simp only [List.mem_cons, List.not_mem_nil, or_false, not_or] at hj; simp [upd, hj]) hfr) | (have h1 : 0 < s.2.2.1 := nle_ofI (b := 0) c68; have h2 : nI s.2.2.1 - 1 = nI (s.2.2.1 - 1) := pk_sub h1; rw [h2] at c77; have h3 := ne_ofI (b := 0) c77; refine hQ1 (by omega) _ _ (hA _ (by simp [upd]) (by simp [upd]) (by simp [upd, h2]) (by simp [upd]) (by simp [upd]) false (by simp [upd, q9]) (decide_eq_false (by omega)).symm) (fun j hj => by simp only [List.mem_cons, List.not_mem_nil, or_false, not_or] at hj; simp [upd, hj]) hfr)
    · refine pz_aln (i := 69) rfl rfl ?_
      refine pz_dup (i := 70) rfl rfl ?_
      refine pz_get (i := 71) rfl (gf_54_12 ..) ?_
      refine pz_ic (i := 72) rfl ?_
      rw [ui_n (by decide), ui_n (by decide), q6]
      refine pz_sub (i := 73) rfl ?_
      refine pz_put (i := 74) rfl (pf_54_12 ..) ⟨rfl, rfl⟩ ?_
      refine pz_aln (i := 75) rfl rfl ?_
      refine pz_get (i := 76) rfl (gf_54_12 ..) ?_
      rw [ui_s]
      refine pz_if_ne (i := 77) rfl (fun c77 => ?_) (fun c77 => ?_)
      · refine pz_vr (i := 84) rfl rfl ?_
        first | (have h0 : s.2.2.1 = 0 := (by have := le_ofI (b := 0) c68; omega); refine hQ1 (by omega) _ _ (hA _ (by simp [upd]) (by simp [upd]) (by simp [upd, q6, h0]) (by simp [upd]) (by simp [upd]) false (by simp [upd, q9]) (by rw [h0]; rfl)) (fun j hj => by simp only [List.mem_cons, List.not_mem_nil, or_false, not_or] at hj; simp [upd, hj]) hfr) | (have h1 : 0 < s.2.2.1 := nle_ofI (b := 0) c68; have h2 : nI s.2.2.1 - 1 = nI (s.2.2.1 - 1) := pk_sub h1; rw [h2] at c77; have h3 := ne_ofI (b := 0) c77; refine hQ1 (by omega) _ _ (hA _ (by simp [upd]) (by simp [upd]) (by simp [upd, h2]) (by simp [upd]) (by simp [upd]) false (by simp [upd, q9]) (decide_eq_false (by omega)).symm) (fun j hj => by simp only [List.mem_cons, List.not_mem_nil, or_false, not_or] at hj; simp [upd, hj]) hfr)
      · have h1 : 0 < s.2.2.1 := nle_ofI (b := 0) c68
        have h2 : nI s.2.2.1 - 1 = nI (s.2.2.1 - 1) := pk_sub h1
        rw [h2] at c77
        have h3 := eq_ofI (b := 0) c77
        have hone : s.2.2.1 = 1 := by omega
        refine pz_aln (i := 78) rfl rfl ?_
        refine pz_aln (i := 79) rfl rfl ?_
        refine pz_get (i := 80) rfl (gf_54_13 ..) ?_
        refine pz_aln (i := 81) rfl rfl ?_
        refine pz_get (i := 82) rfl (gf_54_14 ..) ?_
        rw [ui_n (by decide), ui_n (by decide), ui_n (by decide), ui_n (by decide), ui_n (by decide), ui_n (by decide), q7, q8]
        refine pz_cV2 (i := 83) rfl (gc_54 ..) rfl (Nat.le_of_ble_eq_true rfl) rfl ?_
        have hdw := hA (upd (upd (upd (upd jv 0 (nI (s.2.1.length + 1))) 1 (nI (tot s.2.1 + n))) 2 (nI (s.2.2.1 - 1))) 5 1) (by simp [upd]) (by simp [upd]) (by simp [upd]) (by simp [upd]) (by simp [upd]) true (by simp [upd]; rfl) (decide_eq_true hone).symm
        have hcur : dM rm (upd (upd (upd jv 0 (nI (s.2.1.length + 1))) 1 (nI (tot s.2.1 + n))) 2 (nI s.2.2.1 - 1)) (up_a (up_a (up_a (up_a (up_a (up_a bv 4 (upd (bv 4) s.2.1.length (nI a))) 5 (upd (bv 5) s.2.1.length (nI q))) 6 (upd (bv 6) s.2.1.length (nI n))) 7 (upd (bv 7) s.2.1.length (nI (tot s.2.1)))) 8 (fun j => if tot s.2.1 ≤ j ∧ j < tot s.2.1 + n then g (j - tot s.2.1) else bv 8 j)) 2 (ap_k rm g (plM rm a q) n (bv 2))) ((wr s (plM rm a q, n, g)).1, (wr s (plM rm a q, n, g)).2.1, (wr s (plM rm a q, n, g)).2.2.1, (wr s (plM rm a q, n, g)).2.2.2.1, (wr s (plM rm a q, n, g)).2.2.2.2.1, false) := dM_dn hdw (by simp [upd, q9]) (fun j hj => by rw [h2]; simp [upd, hj])
        have hfl : fl rm ((wr s (plM rm a q, n, g)).1, (wr s (plM rm a q, n, g)).2.1, (wr s (plM rm a q, n, g)).2.2.1, (wr s (plM rm a q, n, g)).2.2.2.1, (wr s (plM rm a q, n, g)).2.2.2.2.1, false) s.2.2.2.1 s.2.2.2.2.1 = fl rm (wr s (plM rm a q, n, g)) s.2.2.2.1 s.2.2.2.2.1 := rfl
        refine sm_powerFails hr hcur q11 q12 (fun jv1 bv1 k0 k6 k10 k11 k20 k17 kf kb => ⟨rfl, ?_⟩)
        refine pz_vr (i := 84) rfl rfl ?_
        rw [hfl] at k0
        refine hQ2 hone jv1 bv1 k0 k6 k10 k11 k20 ?_ ?_ ?_
        · rw [k17, ua_n (by decide), ua_n (by decide), ua_n (by decide), ua_n (by decide), ua_n (by decide), ua_n (by decide)]
        · intro j hj
          rw [kf j hj]
          simp only [List.mem_cons, List.not_mem_nil, or_false, not_or] at hj
          simp [upd, hj]
        · intro j hj
          simp only [List.mem_cons, List.not_mem_nil, or_false, not_or] at hj
          rw [kb j (by simp [hj])]
          exact hfr j (by simp [hj])
  have key := lp_mw (Lx := Lx) (xs := xs) (d := d + 2) (iv := iv) (av := av) (Q := Q) (jv := upd jv 0 (nI (s.2.1.length + 1))) (bv := (up_a (up_a (up_a (up_a bv 4 (upd (bv 4) s.2.1.length (nI a))) 5 (upd (bv 5) s.2.1.length (nI q))) 6 (upd (bv 6) s.2.1.length (nI n))) 7 (upd (bv 7) s.2.1.length (nI (tot s.2.1))))) hr (by
    intro b hb
    rw [ua_n (by decide), ua_n (by decide), ua_n (by decide), ua_n (by decide), ua_n (by decide), ua_n (by decide), ua_n (by decide), ua_n (by decide)]
    exact qg b hb) ha hq hn2 hgeo hcap.2 hgb (fun k hk => by rw [ua_n (by decide), ua_n (by decide), ua_n (by decide), ua_n (by decide)]; exact h23 k hk) (by
    refine (congrArg (fun z => pz Lx xs (d + 3) rt_94 none Q 66 [some (.ref 54), some (.int (nI a)), some (.int (nI q)), some (.int (nI n)), some (.int (nI n))] [] z) ?_).mpr k66
    congr 2) n 0 (by omega) (by omega)
  refine pz_aln (i := 0) rfl rfl ?_
  refine pz_get (i := 1) rfl (gf_54_5 ..) ?_
  refine pz_aln (i := 2) rfl rfl ?_
  refine pz_get (i := 3) rfl (gf_54_10 ..) ?_
  refine pz_iln (i := 4) rfl rfl ?_
  rw [q2]
  refine pz_ias (i := 5) rfl (ga_59 ..) (in_ofI (by omega)) (pa_59 ..) ?_
  rw [cl_ofI (a := s.2.1.length)]
  refine pz_aln (i := 6) rfl rfl ?_
  refine pz_get (i := 7) rfl (gf_54_6 ..) ?_
  refine pz_aln (i := 8) rfl rfl ?_
  refine pz_get (i := 9) rfl (gf_54_10 ..) ?_
  refine pz_iln (i := 10) rfl rfl ?_
  rw [q2]
  refine pz_ias (i := 11) rfl (ga_60 ..) (in_ofI (by omega)) (pa_60 ..) ?_
  rw [cl_ofI (a := s.2.1.length), ua_n (by decide)]
  refine pz_aln (i := 12) rfl rfl ?_
  refine pz_get (i := 13) rfl (gf_54_7 ..) ?_
  refine pz_aln (i := 14) rfl rfl ?_
  refine pz_get (i := 15) rfl (gf_54_10 ..) ?_
  refine pz_iln (i := 16) rfl rfl ?_
  rw [q2]
  refine pz_ias (i := 17) rfl (ga_61 ..) (in_ofI (by omega)) (pa_61 ..) ?_
  rw [cl_ofI (a := s.2.1.length), ua_n (k := 5) (by decide), ua_n (k := 4) (by decide)]
  refine pz_aln (i := 18) rfl rfl ?_
  refine pz_get (i := 19) rfl (gf_54_8 ..) ?_
  refine pz_aln (i := 20) rfl rfl ?_
  refine pz_get (i := 21) rfl (gf_54_10 ..) ?_
  refine pz_aln (i := 22) rfl rfl ?_
  refine pz_get (i := 23) rfl (gf_54_11 ..) ?_
  rw [q2, q3]
  refine pz_ias (i := 24) rfl (ga_62 ..) (in_ofI (by omega)) (pa_62 ..) ?_
  rw [cl_ofI (a := s.2.1.length), ua_n (k := 6) (by decide), ua_n (k := 5) (by decide), ua_n (k := 4) (by decide)]
  refine pz_aln (i := 25) rfl rfl ?_
  refine pz_dup (i := 26) rfl rfl ?_
  refine pz_get (i := 27) rfl (gf_54_10 ..) ?_
  refine pz_ic (i := 28) rfl ?_
  rw [q2]
  refine pz_add (i := 29) rfl ?_
  rw [nI_1]
  refine pz_put (i := 30) rfl (pf_54_10 ..) ⟨rfl, rfl⟩ ?_
  refine pz_ic (i := 31) rfl ?_
  refine pz_is (i := 32) rfl ⟨rfl, Nat.le_of_ble_eq_true rfl⟩ rfl ?_
  refine (congrArg (fun z => pz Lx xs (d + 3) rt_94 none Q 33 [some (.ref 54), some (.int (nI a)), some (.int (nI q)), some (.int (nI n)), some (.int (nI 0))] [] z) ?_).mpr key
  congr 2
  · funext j
    by_cases j1 : j = 1
    · subst j1
      rw [ui_s, ui_n (by decide), q3]
      rfl
    · rw [ui_n (k := 1) j1]
  · funext j
    by_cases j2 : j = 2
    · subst j2
      rw [ua_s, ua_n (by decide), ua_n (by decide), ua_n (by decide), ua_n (by decide)]
      rfl
    · rw [ua_n (k := 2) j2]
      by_cases j8 : j = 8
      · subst j8
        rw [ua_s, ua_n (by decide), ua_n (by decide), ua_n (by decide), ua_n (by decide)]
        funext z
        rw [if_neg (by omega)]
      · rw [ua_n (k := 8) j8]
end S46
