/-! PART 44: the disk of the reference: sync, power failure, write -/
theorem tot_take {l : List wR} {w : Nat} {x : wR} (hx : l[w]? = some x) : tot (l.take w) + x.2.1 ≤ tot l := by
  have e1 : l = l.take w ++ x :: l.drop (w + 1) := by
    obtain ⟨h5, h6⟩ := List.getElem?_eq_some_iff.mp hx
    rw [← h6, List.getElem_cons_drop, List.take_append_drop]
  have e2 : tot l = tot (l.take w) + (x.2.1 + tot (l.drop (w + 1))) := by
    have := congrArg tot e1
    simpa [tot] using this
  omega
theorem fold_take {rm : Nat} {l : List wR} {w : Nat} {x : wR} (hx : l[w]? = some x) (f : Nat → Int32) : (l.take (w + 1)).foldl (ap rm) f = ap rm ((l.take w).foldl (ap rm) f) x := by
  rw [List.take_add_one, hx, List.foldl_append]
  rfl
theorem bB_pos (b : Bool) : bB b = 0 ↔ b = false := by cases b <;> decide
section S44
variable {Lx : Nat} {xs : Nat → Int32} {d rm : Nat} {iv : Nat → Int32} {av : Nat → Nat → Int32} {jv : Nat → Int32} {bv : Nat → Nat → Int32} {Q : rQ}
/-- the bytes of write w that are asked for -/
theorem sm_lw (hr : 0 < rm ∧ rm ≤ 4096) {s : dS} (hd : dM rm jv bv s) {w m0 : Nat} {x : wR} (hx : s.2.1[w]? = some x) (hm0 : m0 ≤ x.2.1) {C : Nat → Int32} {jv' : Nat → Int32} (hQ : Q none (wX rm iv av (wM rm jv' (up_a bv 3 (ap rm C (x.1, m0, x.2.2)))))) : rx_R Lx xs (d + 2) 95 [.ref 54, .int (nI w), .int (nI m0)] (wX rm iv av (wM rm jv' (up_a bv 3 C))) Q := by
  obtain ⟨q0, q1, q2, q3, q4, q5, q6, q7, q8, q9, q10, q11, q12, qb1, qb2, qg, q13⟩ := id hd
  obtain ⟨a, q, g1, g2, g3, g4, g5, g6, g7, g8, g9, g10⟩ := q13 w x hx
  have ht := tot_take hx
  have hwl : w < s.2.1.length := (List.getElem?_eq_some_iff.mp hx).1
  refine sm_lastWrite (bv := up_a bv 3 C) (a := a) (q := q) (off := tot (s.2.1.take w)) (n := x.2.1) (g := x.2.2) hr (by omega) g1 g2 g4 (by omega) (qb2 x (List.mem_of_getElem? hx)) hm0 ?_ ?_ ?_ ?_ ?_ ?_
  · intro b hb
    rw [ua_n (by decide), ua_n (by decide)]
    exact qg b hb
  · rw [ua_n (by decide)]; exact g6
  · rw [ua_n (by decide)]; exact g7
  · rw [ua_n (by decide)]; exact g9
  · intro i hi
    rw [ua_n (by decide)]
    exact g10 i hi
  · rw [ua_uu, ua_s]
    unfold ap at hQ
    rw [g5] at hQ
    exact hQ
theorem lp_sync (hr : 0 < rm ∧ rm ≤ 4096) {s : dS} (hd : dM rm jv bv s) (hQ : Q (some (.int (nI s.2.1.length))) (wX rm iv av (wM rm (upd (upd jv 0 0) 1 0) (up_a bv 3 (cu rm s))))) : ∀ (m k : Nat), k ≤ s.2.1.length → s.2.1.length ≤ k + m → pz Lx xs (d + 2) rt_96 (some .int) Q 5 [some (.ref 54), some (.int (nI s.2.1.length)), some (.int (nI k))] [] (wX rm iv av (wM rm jv (up_a bv 3 ((s.2.1.take k).foldl (ap rm) s.1)))) := by
  obtain ⟨q0, q1, q2, q3, q4, q5, q6, q7, q8, q9, q10, q11, q12, qb1, qb2, qg, q13⟩ := id hd
  have hdone : ∀ k, k = s.2.1.length → pz Lx xs (d + 2) rt_96 (some .int) Q 5 [some (.ref 54), some (.int (nI s.2.1.length)), some (.int (nI k))] [] (wX rm iv av (wM rm jv (up_a bv 3 ((s.2.1.take k).foldl (ap rm) s.1)))) := by
    intro k hk
    subst hk
    rw [List.take_length]
    refine pz_iln (i := 5) rfl rfl ?_
    refine pz_iln (i := 6) rfl rfl ?_
    refine pz_ii_ge (i := 7) rfl (fun c7 => ?_) (fun c7 => ?_)
    · refine pz_aln (i := 17) rfl rfl ?_
      refine pz_ic (i := 18) rfl ?_
      refine pz_put (i := 19) rfl (pf_54_10 ..) ⟨rfl, rfl⟩ ?_
      refine pz_aln (i := 20) rfl rfl ?_
      refine pz_ic (i := 21) rfl ?_
      refine pz_put (i := 22) rfl (pf_54_11 ..) ⟨rfl, rfl⟩ ?_
      refine pz_iln (i := 23) rfl rfl ?_
      refine pz_ir (i := 24) rfl rfl rfl ?_
      exact hQ
    · exact absurd (Int32.le_refl _) c7
  intro m
  induction m with
  | zero =>
    intro k hk hm
    exact hdone k (by omega)
  | succ m ih =>
    intro k hk hm
    by_cases hkn : k = s.2.1.length
    · exact hdone k hkn
    have hlt : k < s.2.1.length := by omega
    obtain ⟨x, hx⟩ : ∃ x, s.2.1[k]? = some x := ⟨_, List.getElem?_eq_getElem hlt⟩
    obtain ⟨a, q, g1, g2, g3, g4, g5, g6, g7, g8, g9, g10⟩ := q13 k x hx
    refine pz_iln (i := 5) rfl rfl ?_
    refine pz_iln (i := 6) rfl rfl ?_
    refine pz_ii_ge (i := 7) rfl (fun c7 => ?_) (fun c7 => ?_)
    · exact absurd (le_ofI c7) (by omega)
    · refine pz_aln (i := 8) rfl rfl ?_
      refine pz_iln (i := 9) rfl rfl ?_
      refine pz_aln (i := 10) rfl rfl ?_
      refine pz_get (i := 11) rfl (gf_54_7 ..) ?_
      refine pz_iln (i := 12) rfl rfl ?_
      refine pz_ial (i := 13) rfl (ga_61 ..) (in_ofI (by omega)) ?_
      rw [cl_ofI (a := k), ua_n (by decide), g8]
      refine pz_cV2 (i := 14) rfl (gc_54 ..) rfl (Nat.le_of_ble_eq_true rfl) rfl ?_
      refine sm_lw hr hd hx (Nat.le_refl _) ?_
      refine ⟨rfl, ?_⟩
      refine pz_inc (i := 15) rfl rfl rfl rfl ?_
      refine pz_go (i := 16) rfl ?_
      rw [nI_1]
      have key := ih (k + 1) (by omega) (by omega)
      rw [fold_take hx] at key
      exact key
set_option maxRecDepth 20000 in
theorem sm_syncAll (hr : 0 < rm ∧ rm ≤ 4096) {s : dS} (hd : dM rm jv bv s) (hdn : s.2.2.2.2.2 = false) (hQ : ∀ jv' bv', dM rm jv' bv' (sy rm s) → frI jv jv' [0, 1] → frA bv bv' [3] → Q (some (.int (nI s.2.1.length))) (wX rm iv av (wM rm jv' bv'))) : rx_R Lx xs (d + 3) 96 [.ref 54] (wX rm iv av (wM rm jv bv)) Q := by
  refine pz_en (t := rt_96) ⟨Nat.le_of_ble_eq_true rfl, rfl⟩ rfl rfl ?_
  obtain ⟨q0, q1, q2, q3, q4, q5, q6, q7, q8, q9, q10, q11, q12, qb1, qb2, qg, q13⟩ := id hd
  have hs : sy rm s = (cu rm s, [], s.2.2) := by unfold sy; rw [hdn]; rfl
  have key := lp_sync (Lx := Lx) (xs := xs) (d := d) (iv := iv) (av := av) (Q := Q) hr hd (hQ _ _ (by
    rw [hs]
    refine ⟨by rw [ua_n (by decide)]; exact q0, by rw [ua_s], by simp [upd]; rfl, by simp [upd]; rfl, Nat.zero_le _, Nat.zero_le _, by simp [upd]; exact q6, by simp [upd]; exact q7, by simp [upd]; exact q8, by simp [upd]; exact q9, q10, q11, q12, bt_fold _ qb1 qb2, fun x hx => absurd hx List.not_mem_nil, ?_, fun w x hx => by simp at hx⟩
    intro b hb
    rw [ua_n (by decide), ua_n (by decide)]
    exact qg b hb) (fun j hj => by simp only [List.mem_cons, List.not_mem_nil, or_false, not_or] at hj; simp [upd, hj]) (fun j hj => by simp only [List.mem_cons, List.not_mem_nil, or_false] at hj; exact ua_n hj)) s.2.1.length 0 (by omega) (by omega)
  have e1 : up_a bv 3 ((s.2.1.take 0).foldl (ap rm) s.1) = bv := by rw [show (s.2.1.take 0).foldl (ap rm) s.1 = bv 3 from q1.symm]; exact ua_id bv 3
  rw [e1] at key
  refine pz_aln (i := 0) rfl rfl ?_
  refine pz_get (i := 1) rfl (gf_54_10 ..) ?_
  rw [q2]
  refine pz_isn (i := 2) rfl ⟨rfl, Nat.le_of_ble_eq_true rfl⟩ rfl ?_
  refine pz_ic (i := 3) rfl ?_
  refine pz_isn (i := 4) rfl ⟨rfl, Nat.le_of_ble_eq_true rfl⟩ rfl ?_
  exact key
end S44
