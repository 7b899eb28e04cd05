/-! PART 42: the disk of the class: sync and power failure -/
/-- i bytes of a write are looked at, those from cut on are taken back to D -/
def un (rm c cut : Nat) (D F : Nat → Int32) : Nat → Nat → Int32
  | 0 => F
  | i + 1 => if cut ≤ i then upd (un rm c cut D F i) (nx rm c i) (D (nx rm c i)) else un rm c cut D F i
theorem un_pos {rm c cut i : Nat} {D F : Nat → Int32} (h : cut ≤ i) : un rm c cut D F (i + 1) = upd (un rm c cut D F i) (nx rm c i) (D (nx rm c i)) := by
  show (if cut ≤ i then _ else _) = _
  rw [if_pos h]
theorem un_neg {rm c cut i : Nat} {D F : Nat → Int32} (h : ¬ cut ≤ i) : un rm c cut D F (i + 1) = un rm c cut D F i := by
  show (if cut ≤ i then _ else _) = _
  rw [if_neg h]
theorem un_off {rm c cut : Nat} {D F : Nat → Int32} {j : Nat} : ∀ k, (∀ i, i < k → nx rm c i ≠ j) → un rm c cut D F k j = F j
  | 0, _ => rfl
  | k + 1, h => by
    unfold un
    split
    · rw [ui_n (fun z => h k (by omega) z.symm)]
      exact un_off k (fun i hi => h i (by omega))
    · exact un_off k (fun i hi => h i (by omega))
theorem un_on {rm c cut : Nat} {D F : Nat → Int32} : ∀ (k i : Nat), i < k → (c < rm → k ≤ rm) → un rm c cut D F k (nx rm c i) = if cut ≤ i then D (nx rm c i) else F (nx rm c i)
  | 0, i, h, _ => absurd h (by omega)
  | k + 1, i, h, hn => by
    unfold un
    by_cases e : i = k
    · subst e
      have hoff : un rm c cut D F i (nx rm c i) = F (nx rm c i) := un_off i (fun a ha z => by have := nx_inj (n := i + 1) hn (by omega) (by omega) z; omega)
      by_cases hc : cut ≤ i
      · rw [if_pos hc, if_pos hc, ui_s]
      · rw [if_neg hc, if_neg hc, hoff]
    · have ih := un_on (cut := cut) (D := D) (F := F) k i (by omega) (fun z => by have := hn z; omega)
      split
      · rw [ui_n (fun z => e (nx_inj (n := k + 1) hn (by omega) (by omega) z))]
        exact ih
      · exact ih
theorem un_all {rm c cut n : Nat} {D g : Nat → Int32} (hn : c < rm → n ≤ rm) : un rm c cut D (ap_k rm g c n D) n = ap_k rm g c (min cut n) D := by
  funext j
  by_cases h : ∃ i, i < n ∧ nx rm c i = j
  · obtain ⟨i, hi, rfl⟩ := h
    rw [un_on n i hi hn]
    by_cases hc : cut ≤ i
    · rw [if_pos hc, ap_off (min cut n) (fun a ha z => by have := nx_inj hn (by omega) hi z; omega)]
    · rw [if_neg hc, ap_on n i hi hn, ap_on (min cut n) i (by omega) (fun z => by have := hn z; omega)]
  · have h2 : ∀ i, i < n → nx rm c i ≠ j := fun i hi z => h ⟨i, hi, z⟩
    rw [un_off n h2, ap_off n h2, ap_off (min cut n) (fun i hi => h2 i (by omega))]
theorem bt_un {rm c cut : Nat} {D F : Nat → Int32} (hD : bt D) (hF : bt F) : ∀ k, bt (un rm c cut D F k)
  | 0 => hF
  | k + 1 => by
    unfold un
    split
    · exact bt_upd (bt_un hD hF k) (hD _)
    · exact bt_un hD hF k
def wv (m : Nat) : Int32 := if m = 0 then -1 else nI (m - 1)
theorem wv_s (m : Nat) : wv (m + 1) = nI m := rfl
theorem wv_dec (m : Nat) : nI m + (-1) = wv m := by
  cases m with
  | zero => rfl
  | succ m => exact pk_m1 m
theorem wv_sub (m : Nat) : nI m - 1 = wv m := by
  cases m with
  | zero => rfl
  | succ m => exact pk_sub (b := 1) (by omega)
section S42
variable {Lx : Nat} {xs : Nat → Int32} {d rm : Nat} {iv : Nat → Int32} {av : Nat → Nat → Int32} {r : pW} {Q : rQ}
theorem dX_sy {s : dS} (hd : dX rm iv av s) : dX rm (if iv 5 = 0 then upd (upd iv 1 0) 0 0 else iv) av (sy rm s) := by
  obtain ⟨q0, q1, q2, q3, q4, q5, q6, q7, q8, q9, q10, q11, qb1, qb2, q12⟩ := id hd
  cases hdn : s.2.2.2.2.2
  · rw [hdn] at q8
    rw [if_pos (by rw [q8]; rfl)]
    have hs : sy rm s = (cu rm s, [], s.2.2) := by unfold sy; rw [hdn]; rfl
    rw [hs]
    have hbt := dX_bt hd
    rw [q0] at hbt
    refine ⟨q0, ?_, ?_, Nat.zero_le _, Nat.zero_le _, ?_, ?_, ?_, ?_, q9, q10, q11, hbt, fun x hx => absurd hx List.not_mem_nil, fun w x hx => by simp at hx⟩
    · rw [ui_n (by decide), ui_s]
      rfl
    · rw [ui_s]
      rfl
    · rw [ui_n (by decide), ui_n (by decide)]
      exact q5
    · rw [ui_n (by decide), ui_n (by decide)]
      exact q6
    · rw [ui_n (by decide), ui_n (by decide)]
      exact q7
    · rw [ui_n (by decide), ui_n (by decide)]
      show iv 5 = bB s.2.2.2.2.2
      rw [hdn]
      exact q8
  · rw [hdn] at q8
    rw [if_neg (by rw [q8]; decide)]
    have hs : sy rm s = s := by unfold sy; rw [hdn]; rfl
    rw [hs]
    exact hd
theorem sx_sync {s : dS} (hd : dX rm iv av s) (hQ : ∀ iv', dX rm iv' av (sy rm s) → frI iv iv' [0, 1] → Q none (wX rm iv' av r)) : rx_R Lx xs (d + 1) 17 [.ref 2] (wX rm iv av r) Q := by
  refine sx_makeLasting (hQ _ (dX_sy hd) ?_)
  intro j hj
  simp only [List.mem_cons, List.not_mem_nil, or_false, not_or] at hj
  split
  · rw [ui_n hj.1, ui_n hj.2]
  · rfl
theorem lp_tbE (k5 : Int32) {x4 x5 : Option Value} (C : Nat → Int32) (z0 keep cut : Int32) (hQ : Q none (wX rm (upd (upd (upd (upd (upd iv 0 z0) 1 0) 0 0) 2 0) 5 1) (up_a av 0 C) r)) : pz Lx xs d rt_18 none Q 57 [some (.ref 2), some (.int keep), some (.int cut), some (.int k5), x4, x5] [] (wX rm (upd iv 0 z0) (up_a av 0 C) r) := by
  refine pz_aln (i := 57) rfl rfl ?_
  refine pz_ic (i := 58) rfl ?_
  refine pz_put (i := 59) rfl (pf_2_6 ..) ⟨rfl, rfl⟩ ?_
  refine pz_aln (i := 60) rfl rfl ?_
  refine pz_ic (i := 61) rfl ?_
  refine pz_put (i := 62) rfl (pf_2_5 ..) ⟨rfl, rfl⟩ ?_
  refine pz_aln (i := 63) rfl rfl ?_
  refine pz_ic (i := 64) rfl ?_
  refine pz_put (i := 65) rfl (pf_2_7 ..) ⟨rfl, rfl⟩ ?_
  refine pz_aln (i := 66) rfl rfl ?_
  refine pz_ic (i := 67) rfl ?_
  refine pz_put (i := 68) rfl (pf_2_10 ..) ⟨rfl, rfl⟩ ?_
  refine pz_vr (i := 69) rfl rfl ?_
  exact hQ
/-- the inner loop -/
theorem lp_tbI (hr : 0 < rm ∧ rm ≤ 4096) {s : dS} (hd : dX rm iv av s) {w keep cut : Nat} {x : wR} (hx : s.2.1[w]? = some x) (hk : keep < 2 ^ 31) (hcu : cut < 2 ^ 31) (hkw : keep ≤ w)
    (hnext : pz Lx xs (d + 1) rt_18 none Q 55 [some (.ref 2), some (.int (nI keep)), some (.int (nI cut)), some (.int (nI w)), some (.int (nI (nx rm x.1 x.2.1))), some (.int (nI x.2.1))] [] (wX rm (upd iv 0 (nI (tot (s.2.1.take w)))) (up_a av 0 (ap rm ((s.2.1.take w).foldl (ap rm) s.1) (x.1, min (if keep = w then cut else 0) x.2.1, x.2.2))) r)) :
    ∀ m k : Nat, k ≤ x.2.1 → x.2.1 ≤ k + m → pz Lx xs (d + 1) rt_18 none Q 26 [some (.ref 2), some (.int (nI keep)), some (.int (nI cut)), some (.int (nI w)), some (.int (nI (nx rm x.1 k))), some (.int (nI k))] [] (wX rm (upd iv 0 (nI (tot (s.2.1.take w)))) (up_a av 0 (un rm x.1 (if keep = w then cut else 0) ((s.2.1.take w).foldl (ap rm) s.1) (ap rm ((s.2.1.take w).foldl (ap rm) s.1) x) k)) r) := by
  obtain ⟨q0, q1, q2, q3, q4, q5, q6, q7, q8, q9, q10, q11, qb1, qb2, q12⟩ := id hd
  obtain ⟨hok, g1, g2, g3⟩ := q12 w x hx
  have hwl : w < s.2.1.length := (List.getElem?_eq_some_iff.mp hx).1
  have hlen : x.2.1 < 2 ^ 30 ∧ x.1 < 2 ^ 30 := by
    rcases hok with h | h
    · exact ⟨by omega, by omega⟩
    · exact ⟨by omega, by omega⟩
  have hnn : x.1 < rm → x.2.1 ≤ rm := fun z => by
    rcases hok with h | h
    · exact h.2
    · omega
  have hin : ∀ k, k < x.2.1 → nx rm x.1 k < rm + 15728 := fun k hk => by
    rcases hok with h | h
    · exact nx_lt hr.1 (n := x.2.1) (Or.inl h.1) hk
    · exact nx_lt hr.1 (n := x.2.1) (Or.inr h.2) hk
  have htot : tot (s.2.1.take w) + x.2.1 ≤ 8192 := by
    have e1 : s.2.1 = s.2.1.take w ++ x :: s.2.1.drop (w + 1) := by
      obtain ⟨h5, h6⟩ := List.getElem?_eq_some_iff.mp hx
      rw [← h6, List.getElem_cons_drop, List.take_append_drop]
    have e2 : tot s.2.1 = tot (s.2.1.take w) + (x.2.1 + tot (s.2.1.drop (w + 1))) := by
      have := congrArg tot e1
      simpa [tot] using this
    omega
  have hbD : bt ((s.2.1.take w).foldl (ap rm) s.1) := bt_fold _ qb1 (fun y hy => qb2 y (List.mem_of_mem_take hy))
  have hdone : ∀ k, k = x.2.1 → pz Lx xs (d + 1) rt_18 none Q 26 [some (.ref 2), some (.int (nI keep)), some (.int (nI cut)), some (.int (nI w)), some (.int (nI (nx rm x.1 k))), some (.int (nI k))] [] (wX rm (upd iv 0 (nI (tot (s.2.1.take w)))) (up_a av 0 (un rm x.1 (if keep = w then cut else 0) ((s.2.1.take w).foldl (ap rm) s.1) (ap rm ((s.2.1.take w).foldl (ap rm) s.1) x) k)) r) := by
    intro k hk
    subst hk
    refine pz_il (i := 26) rfl rfl ?_
    refine pz_aln (i := 27) rfl rfl ?_
    refine pz_get (i := 28) rfl (gf_2_3 ..) ?_
    refine pz_iln (i := 29) rfl rfl ?_
    refine pz_ial (i := 30) rfl (ga_5 ..) (in_ofI (by omega)) ?_
    rw [cl_ofI (a := w), ua_n (by decide), g2]
    refine pz_ii_ge (i := 31) rfl (fun c31 => ?_) (fun c31 => ?_)
    · have e := un_all (rm := rm) (c := x.1) (cut := if keep = w then cut else 0) (n := x.2.1) (D := (s.2.1.take w).foldl (ap rm) s.1) (g := x.2.2) hnn
      refine (congrArg (fun z => pz Lx xs (d + 1) rt_18 none Q 55 [some (.ref 2), some (.int (nI keep)), some (.int (nI cut)), some (.int (nI w)), some (.int (nI (nx rm x.1 x.2.1))), some (.int (nI x.2.1))] [] (wX rm (upd iv 0 (nI (tot (s.2.1.take w)))) (up_a av 0 z) r)) ?_).mpr hnext
      exact e
    · exact absurd (Int32.le_refl _) c31
  intro m
  induction m with
  | zero =>
    intro k hk hm
    exact hdone k (by omega)
  | succ m ih =>
    intro k hk hm
    by_cases hkn : k = x.2.1
    · exact hdone k hkn
    have hlt : k < x.2.1 := by omega
    have hi := hin k hlt
    have hnext2 : ∀ C : Nat → Int32, C = un rm x.1 (if keep = w then cut else 0) ((s.2.1.take w).foldl (ap rm) s.1) (ap rm ((s.2.1.take w).foldl (ap rm) s.1) x) (k + 1) → pz Lx xs (d + 1) rt_18 none Q 49 [some (.ref 2), some (.int (nI keep)), some (.int (nI cut)), some (.int (nI w)), some (.int (nI (nx rm x.1 k))), some (.int (nI k))] [] (wX rm (upd iv 0 (nI (tot (s.2.1.take w)))) (up_a av 0 C) r) := by
      intro C hC
      refine pz_aln (i := 49) rfl rfl ?_
      refine pz_il (i := 50) rfl rfl ?_
      refine pz_cI1 (i := 51) rfl (gc_2 ..) rfl (Nat.le_of_ble_eq_true rfl) rfl ?_
      refine sx_cellBehind (c := nx rm x.1 k) hr (by omega) ?_
      rw [← nx_s hr.1]
      refine ⟨_, rfl, ?_⟩
      refine pz_is (i := 52) rfl ⟨rfl, Nat.le_of_ble_eq_true rfl⟩ rfl ?_
      refine pz_inc (i := 53) rfl rfl rfl rfl ?_
      refine pz_go (i := 54) rfl ?_
      rw [nI_1, hC]
      exact ih (k + 1) (by omega) (by omega)
    refine pz_il (i := 26) rfl rfl ?_
    refine pz_aln (i := 27) rfl rfl ?_
    refine pz_get (i := 28) rfl (gf_2_3 ..) ?_
    refine pz_iln (i := 29) rfl rfl ?_
    refine pz_ial (i := 30) rfl (ga_5 ..) (in_ofI (by omega)) ?_
    rw [cl_ofI (a := w), ua_n (by decide), g2]
    refine pz_ii_ge (i := 31) rfl (fun c31 => ?_) (fun c31 => ?_)
    · exact absurd (le_ofI c31) (by omega)
    · refine pz_iln (i := 32) rfl rfl ?_
      refine pz_iln (i := 33) rfl rfl ?_
      refine pz_ii_gt (i := 34) rfl (fun c34 => ?_) (fun c34 => ?_)
      · refine pz_aln (i := 38) rfl rfl ?_
        refine pz_get (i := 39) rfl (gf_2_1 ..) ?_
        refine pz_il (i := 40) rfl rfl ?_
        refine pz_aln (i := 41) rfl rfl ?_
        refine pz_get (i := 42) rfl (gf_2_4 ..) ?_
        refine pz_aln (i := 43) rfl rfl ?_
        refine pz_get (i := 44) rfl (gf_2_5 ..) ?_
        refine pz_il (i := 45) rfl rfl ?_
        refine pz_add (i := 46) rfl ?_
        rw [ui_s, nI_add]
        refine pz_bal (i := 47) rfl (ga_6 ..) rfl (in_ofI (by omega)) ?_
        rw [cl_ofI (a := tot (s.2.1.take w) + k), ua_n (by decide), g3 k hlt]
        refine pz_bas (i := 48) rfl (ga_3 ..) rfl (in_ofI hi) (pa_3 ..) ?_
        rw [ua_uu, ua_s, cl_ofI (a := nx rm x.1 k)]
        refine hnext2 _ ?_
        show upd _ _ (vp_nar .byte _) = _
        rw [hbD]
        refine (un_pos ?_).symm
        rcases Nat.lt_or_ge keep w with h | h
        · rw [if_neg (by omega)]
          exact Nat.zero_le _
        · rw [if_pos (by omega)]
          first | exact nlt_ofI c37 | exact absurd (lt_ofI c34) (by omega)
      · refine pz_il (i := 35) rfl rfl ?_
        refine pz_iln (i := 36) rfl rfl ?_
        refine pz_ii_lt (i := 37) rfl (fun c37 => ?_) (fun c37 => ?_)
        · have h34 := nlt_ofI c34
          have h37 := lt_ofI c37
          refine hnext2 _ ?_
          rw [if_pos (show keep = w by omega)]
          exact (un_neg (by omega)).symm
        · refine pz_aln (i := 38) rfl rfl ?_
          refine pz_get (i := 39) rfl (gf_2_1 ..) ?_
          refine pz_il (i := 40) rfl rfl ?_
          refine pz_aln (i := 41) rfl rfl ?_
          refine pz_get (i := 42) rfl (gf_2_4 ..) ?_
          refine pz_aln (i := 43) rfl rfl ?_
          refine pz_get (i := 44) rfl (gf_2_5 ..) ?_
          refine pz_il (i := 45) rfl rfl ?_
          refine pz_add (i := 46) rfl ?_
          rw [ui_s, nI_add]
          refine pz_bal (i := 47) rfl (ga_6 ..) rfl (in_ofI (by omega)) ?_
          rw [cl_ofI (a := tot (s.2.1.take w) + k), ua_n (by decide), g3 k hlt]
          refine pz_bas (i := 48) rfl (ga_3 ..) rfl (in_ofI hi) (pa_3 ..) ?_
          rw [ua_uu, ua_s, cl_ofI (a := nx rm x.1 k)]
          refine hnext2 _ ?_
          show upd _ _ (vp_nar .byte _) = _
          rw [hbD]
          refine (un_pos ?_).symm
          rcases Nat.lt_or_ge keep w with h | h
          · rw [if_neg (by omega)]
            exact Nat.zero_le _
          · rw [if_pos (by omega)]
            first | exact nlt_ofI c37 | exact absurd (lt_ofI c34) (by omega)
/-- the outer loop: the first m writes are still there -/
theorem lp_tbO (hr : 0 < rm ∧ rm ≤ 4096) {s : dS} (hd : dX rm iv av s) {keep cut : Nat} (hk : keep < 2 ^ 31) (hcu : cut < 2 ^ 31) (hQ : ∀ z0, Q none (wX rm (upd (upd (upd (upd (upd iv 0 z0) 1 0) 0 0) 2 0) 5 1) (up_a av 0 (cr rm s.1 s.2.1 keep cut)) r)) :
    ∀ (m : Nat) (x4 x5 : Option Value), m ≤ s.2.1.length → (keep < m ∨ (keep ≥ s.2.1.length ∧ m = s.2.1.length)) → pz Lx xs (d + 1) rt_18 none Q 5 [some (.ref 2), some (.int (nI keep)), some (.int (nI cut)), some (.int (wv m)), x4, x5] [] (wX rm (upd iv 0 (nI (tot (s.2.1.take m)))) (up_a av 0 ((s.2.1.take m).foldl (ap rm) s.1)) r) := by
  obtain ⟨q0, q1, q2, q3, q4, q5, q6, q7, q8, q9, q10, q11, qb1, qb2, q12⟩ := id hd
  have hexit : ∀ (m : Nat) (x4 x5 : Option Value) (z0 : Int32), m ≤ 1024 → m ≤ keep → pz Lx xs (d + 1) rt_18 none Q 5 [some (.ref 2), some (.int (nI keep)), some (.int (nI cut)), some (.int (wv m)), x4, x5] [] (wX rm (upd iv 0 z0) (up_a av 0 (cr rm s.1 s.2.1 keep cut)) r) := by
    intro m x4 x5 z0 hm hmk
    cases m with
    | zero =>
      refine pz_iln (i := 5) rfl rfl ?_
      refine pz_if_lt (i := 6) rfl (fun c6 => ?_) (fun c6 => ?_)
      · exact lp_tbE _ _ _ _ _ (hQ _)
      · exact absurd (by decide) c6
    | succ m =>
      rw [wv_s]
      refine pz_iln (i := 5) rfl rfl ?_
      refine pz_if_lt (i := 6) rfl (fun c6 => ?_) (fun c6 => ?_)
      · exact absurd c6 (nI_pos (by omega))
      · refine pz_iln (i := 7) rfl rfl ?_
        refine pz_iln (i := 8) rfl rfl ?_
        refine pz_ii_lt (i := 9) rfl (fun c9 => ?_) (fun c9 => ?_)
        · exact lp_tbE _ _ _ _ _ (hQ _)
        · exact absurd (nI_lt (by omega) (by omega)) c9
  intro m
  induction m with
  | zero =>
    intro x4 x5 hm hor
    have h0 : keep ≥ s.2.1.length ∧ 0 = s.2.1.length := by
      rcases hor with h | h
      · omega
      · exact h
    have hl : s.2.1 = [] := List.length_eq_zero_iff.mp h0.2.symm
    have hcr : cr rm s.1 s.2.1 keep cut = (s.2.1.take 0).foldl (ap rm) s.1 := by
      unfold cr
      rw [hl]
      simp
    rw [← hcr]
    exact hexit 0 x4 x5 _ (by omega) (by omega)
  | succ m ih =>
    intro x4 x5 hm hor
    by_cases hkm : keep < m + 1
    · have hlt : m < s.2.1.length := by omega
      obtain ⟨x, hx⟩ : ∃ x, s.2.1[m]? = some x := ⟨_, List.getElem?_eq_getElem hlt⟩
      obtain ⟨hok, g1, g2, g3⟩ := q12 m x hx
      have htk : s.2.1.take (m + 1) = s.2.1.take m ++ [x] := by rw [List.take_add_one, hx]; rfl
      have hD : (s.2.1.take (m + 1)).foldl (ap rm) s.1 = ap rm ((s.2.1.take m).foldl (ap rm) s.1) x := by rw [htk, List.foldl_append]; rfl
      have htt : tot (s.2.1.take (m + 1)) = tot (s.2.1.take m) + x.2.1 := by rw [htk, tot_app]
      rw [hD, htt, wv_s]
      have hin : pz Lx xs (d + 1) rt_18 none Q 26 [some (.ref 2), some (.int (nI keep)), some (.int (nI cut)), some (.int (nI m)), some (.int (nI (nx rm x.1 0))), some (.int (nI 0))] [] (wX rm (upd iv 0 (nI (tot (s.2.1.take m)))) (up_a av 0 (un rm x.1 (if keep = m then cut else 0) ((s.2.1.take m).foldl (ap rm) s.1) (ap rm ((s.2.1.take m).foldl (ap rm) s.1) x) 0)) r) := by
        refine lp_tbI hr hd hx hk hcu (by omega) ?_ x.2.1 0 (by omega) (by omega)
        refine pz_inc (i := 55) rfl rfl rfl rfl ?_
        refine pz_go (i := 56) rfl ?_
        rw [wv_dec]
        by_cases hke : keep = m
        · rw [if_pos hke]
          have hcr : cr rm s.1 s.2.1 keep cut = ap rm ((s.2.1.take m).foldl (ap rm) s.1) (x.1, min cut x.2.1, x.2.2) := by
            unfold cr
            rw [hke, hx]
          rw [← hcr]
          exact hexit m _ _ _ (by omega) (by omega)
        · rw [if_neg hke, Nat.zero_min]
          exact ih _ _ (by omega) (Or.inl (by omega))
      rw [nx_0] at hin
      refine pz_iln (i := 5) rfl rfl ?_
      refine pz_if_lt (i := 6) rfl (fun c6 => ?_) (fun c6 => ?_)
      · exact absurd c6 (nI_pos (by omega))
      · refine pz_iln (i := 7) rfl rfl ?_
        refine pz_iln (i := 8) rfl rfl ?_
        refine pz_ii_lt (i := 9) rfl (fun c9 => ?_) (fun c9 => ?_)
        · exact absurd (lt_ofI c9) (by omega)
        · refine pz_aln (i := 10) rfl rfl ?_
          refine pz_dup (i := 11) rfl rfl ?_
          refine pz_get (i := 12) rfl (gf_2_5 ..) ?_
          refine pz_aln (i := 13) rfl rfl ?_
          refine pz_get (i := 14) rfl (gf_2_3 ..) ?_
          refine pz_iln (i := 15) rfl rfl ?_
          refine pz_ial (i := 16) rfl (ga_5 ..) (in_ofI (by omega)) ?_
          rw [ui_s, cl_ofI (a := m), ua_n (by decide), g2]
          refine pz_sub (i := 17) rfl ?_
          rw [show nI (tot (s.2.1.take m) + x.2.1) - nI x.2.1 = nI (tot (s.2.1.take m)) by rw [pk_sub (by omega), Nat.add_sub_cancel]]
          refine pz_put (i := 18) rfl (pf_2_5 ..) ⟨rfl, rfl⟩ ?_
          rw [ui_uu]
          refine pz_aln (i := 19) rfl rfl ?_
          refine pz_get (i := 20) rfl (gf_2_2 ..) ?_
          refine pz_iln (i := 21) rfl rfl ?_
          refine pz_ial (i := 22) rfl (ga_4 ..) (in_ofI (by omega)) ?_
          rw [cl_ofI (a := m), ua_n (by decide), g1]
          refine pz_is (i := 23) rfl ⟨rfl, Nat.le_of_ble_eq_true rfl⟩ rfl ?_
          refine pz_ic (i := 24) rfl ?_
          refine pz_is (i := 25) rfl ⟨rfl, Nat.le_of_ble_eq_true rfl⟩ rfl ?_
          exact hin
    · have hml : keep ≥ s.2.1.length ∧ m + 1 = s.2.1.length := by
        rcases hor with h | h
        · omega
        · exact h
      have hcr : cr rm s.1 s.2.1 keep cut = (s.2.1.take (m + 1)).foldl (ap rm) s.1 := by
        unfold cr
        rw [List.getElem?_eq_none hml.1, hml.2, List.take_length]
      rw [← hcr]
      exact hexit (m + 1) x4 x5 _ (by omega) (by omega)
set_option maxRecDepth 20000 in
theorem sx_takeBack (hr : 0 < rm ∧ rm ≤ 4096) {s : dS} (hd : dX rm iv av s) {keep cut : Nat} (hk : keep < 2 ^ 31) (hcu : cut < 2 ^ 31) (hQ : ∀ iv' av', dX rm iv' av' (fl rm s keep cut) → frI iv iv' [0, 1, 2, 5] → frA av av' [0] → Q none (wX rm iv' av' r)) : rx_R Lx xs (d + 2) 18 [.ref 2, .int (nI keep), .int (nI cut)] (wX rm iv av r) Q := by
  refine pz_en (t := rt_18) ⟨Nat.le_of_ble_eq_true rfl, rfl⟩ rfl rfl ?_
  obtain ⟨q0, q1, q2, q3, q4, q5, q6, q7, q8, q9, q10, q11, qb1, qb2, q12⟩ := id hd
  have hbt : bt (cr rm s.1 s.2.1 keep cut) := by
    unfold cr
    split
    · rename_i x hx
      exact bt_apk (bt_fold _ qb1 (fun y hy => qb2 y (List.mem_of_mem_take hy))) (qb2 x (List.mem_of_getElem? hx)) _
    · exact bt_fold _ qb1 qb2
  have key := lp_tbO (Lx := Lx) (xs := xs) (d := d) (Q := Q) (r := r) hr hd hk hcu (fun z0 => hQ _ _ ⟨by rw [ua_s]; rfl, by simp [upd]; rfl, by simp [upd]; rfl, Nat.zero_le _, Nat.zero_le _, by simp [upd, fl]; rfl, by simp [upd, fl, q6], by simp [upd, fl, q7], by simp [upd, fl]; rfl, Nat.zero_le _, q10, q11, hbt, fun x hx => absurd hx List.not_mem_nil, fun w x hx => by simp [fl] at hx⟩ (fun j hj => by simp only [List.mem_cons, List.not_mem_nil, or_false, not_or] at hj; simp [upd, hj]) (fun j hj => by simp only [List.mem_cons, List.not_mem_nil, or_false] at hj; exact ua_n hj)) s.2.1.length none none (Nat.le_refl _) (by omega)
  rw [List.take_length, ← q2] at key
  have e0 : upd iv 0 (iv 0) = iv := funext fun j => by by_cases h : j = 0 <;> simp [upd, h]
  have e1 : up_a av 0 (s.2.1.foldl (ap rm) s.1) = av := by rw [show s.2.1.foldl (ap rm) s.1 = av 0 from q0.symm]; exact ua_id av 0
  rw [e0, e1] at key
  refine pz_aln (i := 0) rfl rfl ?_
  refine pz_get (i := 1) rfl (gf_2_6 ..) ?_
  refine pz_ic (i := 2) rfl ?_
  rw [q1]
  refine pz_sub (i := 3) rfl ?_
  rw [wv_sub]
  refine pz_isn (i := 4) rfl ⟨rfl, Nat.le_of_ble_eq_true rfl⟩ rfl ?_
  exact key
end S42
