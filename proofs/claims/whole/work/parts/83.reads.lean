/-! PART 83: the class: get, next, told, table, entry, check -/
/-- every key's value has its record -/
def wE (rm : Nat) (a : aS) : Prop := dwn a = false → ∀ k e, ent a.1.2.1.2.1 a.1.2.1.1 k = some e → e.1 = 1 → ∃ r, rcA rm (cu rm a.1.1) e.2.2 r e.2.1 ∧ rcOK r ∧ r.1 = 1 ∧ r.2.2.1 = k ∧ a.1.2.1.2.2 4 ≤ e.2.2 ∧ e.2.2 + rcZ r ≤ a.1.2.1.2.2 5
theorem lkA_1 (V : vW) (k : Nat) : (lkA V k).1 = if (V.2.1 k).isSome then 0 else (lkN V.1 k).1 := by
  unfold lkA
  split <;> rfl
theorem lkA_2 (V : vW) (k : Nat) : (lkA V k).2 = if (V.2.1 k).isSome then 0 else (lkN V.1 k).2 := by
  unfold lkA
  split <;> rfl
theorem sw_n {x : Int32} {n : Nat} (hn : n < 2 ^ 31) (h1 : ¬ x.toInt < 0) (h2 : ¬ (n : Int) < x.toInt) : ∃ k : Nat, k ≤ n ∧ x = nI k := ⟨x.toInt.toNat, by omega, toInt_in (by omega) (by omega)⟩
theorem eX_thr {e : Nat} {iv : Nat → Int32} {av : Nat → Nat → Int32} {V : vW} (h : eX e iv av (fun k => ent V.2.1 V.1 k)) {k : Nat} (hk : k < 120) : (av (10 + 3 * e + 0) k = 1 ↔ thr V k = true) := by
  have h1 := h.2.2 k hk
  unfold thr
  cases he : ent V.2.1 V.1 k with
  | none =>
    simp only [he] at h1
    rw [h1]
    exact ⟨fun z => absurd z (by decide), fun z => absurd z (by decide)⟩
  | some x =>
    simp only [he] at h1
    have h2 := h.1.2 k x he
    rw [h1.1]
    show nI x.1 = nI 1 ↔ decide (x.1 = 1) = true
    exact ⟨fun z => decide_eq_true (eq_ofI z), fun z => by rw [of_decide_eq_true z]⟩
theorem eX_where {e : Nat} {iv : Nat → Int32} {av : Nat → Nat → Int32} {m : mP} (h : eX e iv av m) {k : Nat} (hk : k < 120) {x : eN} (he : m k = some x) : av (10 + 3 * e + 0) k = nI x.1 ∧ av (10 + 3 * e + 1) k = nI x.2.1 ∧ av (10 + 3 * e + 2) k = nI x.2.2 := by
  have h1 := h.2.2 k hk
  simp only [he] at h1
  exact h1
theorem thr_ex {V : vW} {k : Nat} (h : thr V k = true) : ∃ e, ent V.2.1 V.1 k = some e ∧ e.1 = 1 := by
  unfold thr at h
  cases he : ent V.2.1 V.1 k with
  | none => rw [he] at h; cases h
  | some e => rw [he] at h; exact ⟨e, rfl, of_decide_eq_true h⟩
section S83
variable {Lx : Nat} {xs : Nat → Int32} {d rm : Nat} {iv : Nat → Int32} {av : Nat → Nat → Int32} {r : pW} {Q : rQ}
set_option maxRecDepth 20000 in
theorem sx_get (hr : 512 ≤ rm ∧ rm ≤ 4096) {a : aS} {key : Int32} (hx : xS rm iv av a) (hI : wB rm a) (hE : wE rm a) (hQ : ∀ iv' av', xS rm iv' av' (aGet rm key a).2 → Q (some (.int (aGet rm key a).1)) (wX rm iv' av' r)) : rx_R Lx xs (d + 5) 64 [.ref 1, .int key] (wX rm iv av r) Q := by
  refine pz_en (t := rt_64) ⟨Nat.le_of_ble_eq_true rfl, rfl⟩ rfl rfl ?_
  unfold aGet at hQ
  obtain ⟨hd, hz, hT, hG, hV⟩ := id hx
  have h5 : iv 5 = bB (dwn a) := hd.2.2.2.2.2.2.2.2.1
  have hr' : 0 < rm ∧ rm ≤ 4096 := ⟨by omega, hr.2⟩
  refine pz_aln (i := 0) rfl rfl ?_
  refine pz_get (i := 1) rfl (gf_1_0 ..) ?_
  refine pz_get (i := 2) rfl (gf_2_10 ..) ?_
  rw [h5]
  refine pz_if_eq (i := 3) rfl (fun c3 => ?_) (fun c3 => ?_)
  · have hl := bB_f c3
    have hal : a.1.1.2.2.2.2.2 = false := hl
    rw [if_neg (show ¬ dwn a = true by rw [hl]; decide)] at hQ
    have hVl := hV hl
    have hc0 : av 0 = cu rm a.1.1 := hd.1
    refine pz_aln (i := 6) rfl rfl ?_
    refine pz_ic (i := 7) rfl ?_
    refine pz_put (i := 8) rfl (pf_1_11 ..) ⟨rfl, rfl⟩ ?_
    have g1 : frI iv (upd iv 70 0) [70] := frI_up (frI_rfl _ _) (by decide)
    have hck := (hI hl [] (Nat.zero_le _) (fun x hx => (by cases hx))).1
    have hV1 := vX_ext hVl g1 (frA_rfl av []) (by decide) (by decide)
    have htE : ∀ t ∈ a.1.2.1.1, tE rm (av 0) t := fun t ht => by rw [hc0]; exact hck.1 t ht
    refine pz_aln (i := 9) rfl rfl ?_
    refine pz_get (i := 10) rfl (gf_1_1 ..) ?_
    refine pz_iln (i := 11) rfl rfl ?_
    refine pz_aln (i := 12) rfl rfl ?_
    refine pz_get (i := 13) rfl (gf_1_12 ..) ?_
    refine pz_cV2 (i := 14) rfl (gc_7 ..) rfl (Nat.le_of_ble_eq_true rfl) rfl ?_
    refine sx_find hr' (v := 0) (f := 1) (by decide) (by decide) hV1.1 htE hV1.2.1 (fun iv2 hf f2 => ?_)
    have g2 : frI iv iv2 [50, 51, 52, 53, 54, 55, 70] := frI_tr g1 f2 (by decide) (by decide)
    have h70 : iv2 70 = nI 0 := (f2 70 (by decide)).trans (ui_s _ _ _)
    unfold fAll at hf
    refine ⟨rfl, ?_⟩
    refine pz_aln (i := 15) rfl rfl ?_
    refine pz_get (i := 16) rfl (gf_1_12 ..) ?_
    refine pz_get (i := 17) rfl (gf_52_0 ..) ?_
    refine pz_ic (i := 18) rfl ?_
    refine pz_ii_eq (i := 19) rfl (fun c19 => ?_) (fun c19 => ?_)
    · obtain ⟨k, hk1, rfl, e, he, h1, hf2⟩ : ∃ k, k < 120 ∧ key = nI k ∧ ∃ e, ent a.1.2.1.2.1 a.1.2.1.1 k = some e ∧ e.1 = 1 ∧ (iv2 52 = nI e.2.2 ∧ iv2 54 = nI (lkA a.1.2.1 k).1 ∧ iv2 55 = nI (lkA a.1.2.1 k).2) := by
        cases hk : kx_is key with
        | false =>
          rw [if_neg (by rw [hk]; decide)] at hf
          rw [show iv2 50 = 0 from hf.1] at c19
          exact absurd c19 (by decide)
        | true =>
          obtain ⟨k, hk1, rfl⟩ := kx_nat hk
          rw [if_pos hk, cl_ofI (a := k), ← lkA_1, ← lkA_2] at hf
          cases he : ent a.1.2.1.2.1 a.1.2.1.1 k with
          | none =>
            rw [he] at hf
            rw [show iv2 50 = 0 from hf.1] at c19
            exact absurd c19 (by decide)
          | some e =>
            rw [he] at hf
            have h3 := (ent_ok hVl.2.1.1 (fun t ht => (htE t ht).2.2.2.1) he).2.1
            refine ⟨k, hk1, rfl, e, he, ?_, hf.1.2.2, hf.2.2.1, hf.2.2.2⟩
            rw [show iv2 50 = nI e.1 from hf.1.1] at c19
            exact eq_ofI (b := 1) c19
      rw [if_neg (by rw [kx_of hk1]; decide), cl_ofI (a := k), he] at hQ
      simp only [if_pos h1] at hQ
      obtain ⟨rc, hrc, hro, _, _, _, _⟩ := hE hl k e he h1
      have hlen : (vlD rm (cu rm a.1.1) e.2.2).length ≤ 64 := by
        rw [vlD_len, rcA_len hrc]
        exact hro.2.2.2.2.1
      have hq30 := (ent_ok hVl.2.1.1 (fun t ht => (htE t ht).2.2.2.1) he).2.2.2
      refine pz_aln (i := 22) rfl rfl ?_
      refine pz_aln (i := 23) rfl rfl ?_
      refine pz_get (i := 24) rfl (gf_1_0 ..) ?_
      refine pz_aln (i := 25) rfl rfl ?_
      refine pz_get (i := 26) rfl (gf_1_12 ..) ?_
      refine pz_get (i := 27) rfl (gf_52_2 ..) ?_
      rw [hf2.1]
      refine pz_aln (i := 28) rfl rfl ?_
      refine pz_get (i := 29) rfl (gf_1_10 ..) ?_
      refine pz_cI2 (i := 30) rfl (gc_2 ..) rfl (Nat.le_of_ble_eq_true rfl) rfl ?_
      refine sx_copy hr' (ρ := 50) (a := 41) (val := vlD rm (cu rm a.1.1) e.2.2) (fun iv' av' => ga_51 ..) (fun iv' av' f => pa_51 ..) (by decide) hlen hq30 (by rw [hc0, vlD_len]) (fun i hi => by rw [vlD_len] at hi; rw [hc0, vlD_get hi]) (fun av3 f3 h3 => ?_)
      refine ⟨_, rfl, ?_⟩
      refine pz_put (i := 31) rfl (pf_1_11 ..) ⟨rfl, rfl⟩ ?_
      have g3 : frI iv (upd iv2 70 (nI (vlD rm (cu rm a.1.1) e.2.2).length)) [50, 51, 52, 53, 54, 55, 70] := frI_up g2 (by decide)
      refine pz_aln (i := 32) rfl rfl ?_
      refine pz_get (i := 33) rfl (gf_1_11 ..) ?_
      rw [ui_s]
      refine pz_ir (i := 34) rfl rfl rfl ?_
      refine hQ _ av3 ⟨dX_fr hd g3 f3 (by decide) (by decide), kz_ext hz f3 (by decide), tX_fr hT g3 f3 (by decide) (by decide), ⟨ui_s _ _ _, hlen, vlD_by _ _ _, h3, ?_, ?_⟩, fun _ => vX_ext hVl g3 f3 (by decide) (by decide)⟩
      · rw [ui_n (by decide)]; exact hf2.2.1
      · rw [ui_n (by decide)]; exact hf2.2.2
    · refine pz_ic (i := 20) rfl ?_
      refine pz_ir (i := 21) rfl rfl rfl ?_
      cases hk : kx_is key with
      | false =>
        rw [if_pos hk] at hQ
        rw [if_neg (by rw [hk]; decide)] at hf
        exact hQ iv2 av ⟨dX_fr hd g2 (frA_rfl av []) (by decide) (by decide), hz, tX_fr hT g2 (frA_rfl av []) (by decide) (by decide), ⟨h70, Nat.zero_le _, fun x hx => (by cases hx), fun k hk => absurd hk (Nat.not_lt_zero k), hf.2.2.1, hf.2.2.2⟩, fun _ => vX_ext hVl g2 (frA_rfl av []) (by decide) (by decide)⟩
      | true =>
        obtain ⟨k, hk1, rfl⟩ := kx_nat hk
        rw [if_neg (by rw [hk]; decide), cl_ofI (a := k)] at hQ
        rw [if_pos hk, cl_ofI (a := k), ← lkA_1, ← lkA_2] at hf
        have hG2 : gX iv2 av ([], lkA a.1.2.1 k) := ⟨h70, Nat.zero_le _, fun x hx => (by cases hx), fun k hk => absurd hk (Nat.not_lt_zero k), hf.2.2.1, hf.2.2.2⟩
        cases he : ent a.1.2.1.2.1 a.1.2.1.1 k with
        | none =>
          rw [he] at hQ
          exact hQ iv2 av ⟨dX_fr hd g2 (frA_rfl av []) (by decide) (by decide), hz, tX_fr hT g2 (frA_rfl av []) (by decide) (by decide), hG2, fun _ => vX_ext hVl g2 (frA_rfl av []) (by decide) (by decide)⟩
        | some e =>
          rw [he] at hQ hf
          have hne : ¬ e.1 = 1 := fun z => c19 (by rw [show iv2 50 = nI e.1 from hf.1.1, z]; rfl)
          simp only [if_neg hne] at hQ
          exact hQ iv2 av ⟨dX_fr hd g2 (frA_rfl av []) (by decide) (by decide), hz, tX_fr hT g2 (frA_rfl av []) (by decide) (by decide), hG2, fun _ => vX_ext hVl g2 (frA_rfl av []) (by decide) (by decide)⟩
  · refine pz_bi (i := 4) rfl ?_
    refine pz_ir (i := 5) rfl rfl rfl ?_
    rw [if_pos (bB_t c3)] at hQ
    exact hQ iv av hx
set_option maxRecDepth 20000 in
theorem lp_nx {V : vW} {key : Int32} (hE : eX 3 iv av (fun k => ent V.2.1 V.1 k)) : ∀ m k, k + m = 120 → Q (some (.int (nxK V m k))) (wX rm iv av r) → pz Lx xs d rt_66 (some .int) Q 15 [some (.ref 1), some (.int key), some (.int (nI k))] [] (wX rm iv av r)
  | 0, k, hk, hQ => by
    obtain rfl : k = 120 := by omega
    refine pz_iln (i := 15) rfl rfl ?_
    refine pz_bi (i := 16) rfl ?_
    refine pz_ii_ge (i := 17) rfl (fun c17 => ?_) (fun c17 => ?_)
    · refine pz_ic (i := 29) rfl ?_
      refine pz_ir (i := 30) rfl rfl rfl ?_
      exact hQ
    · exact absurd (Int32.le_refl _) c17
  | m + 1, k, hk, hQ => by
    have hk1 : k < 120 := by omega
    have ht := eX_thr hE hk1
    refine pz_iln (i := 15) rfl rfl ?_
    refine pz_bi (i := 16) rfl ?_
    refine pz_ii_ge (i := 17) rfl (fun c17 => ?_) (fun c17 => ?_)
    · exact absurd (le_ofI (a := 120) c17) (by omega)
    · refine pz_aln (i := 18) rfl rfl ?_
      refine pz_get (i := 19) rfl (gf_1_4 ..) ?_
      refine pz_get (i := 20) rfl (gf_29_0 ..) ?_
      refine pz_iln (i := 21) rfl rfl ?_
      refine pz_ial (i := 22) rfl (ga_30 ..) (in_ofI hk1) ?_
      rw [cl_ofI (a := k)]
      refine pz_ic (i := 23) rfl ?_
      refine pz_ii_ne (i := 24) rfl (fun c24 => ?_) (fun c24 => ?_)
      · refine pz_inc (i := 27) rfl rfl rfl rfl ?_
        rw [show nI k + 1 = nI (k + 1) from nI_add k 1]
        refine pz_go (i := 28) rfl ?_
        rw [show nxK V (m + 1) k = nxK V m (k + 1) from if_neg (fun z => c24 (ht.mpr z))] at hQ
        exact lp_nx hE m (k + 1) (by omega) hQ
      · refine pz_iln (i := 25) rfl rfl ?_
        refine pz_ir (i := 26) rfl rfl rfl ?_
        rw [show nxK V (m + 1) k = nI k from if_pos (ht.mp c24)] at hQ
        exact hQ
set_option maxRecDepth 20000 in
theorem lp_nx9 {key : Int32} (h : 120 ≤ key) (hQ : Q (some (.int (-1))) (wX rm iv av r)) : pz Lx xs d rt_66 (some .int) Q 15 [some (.ref 1), some (.int key), some (.int key)] [] (wX rm iv av r) := by
  refine pz_iln (i := 15) rfl rfl ?_
  refine pz_bi (i := 16) rfl ?_
  refine pz_ii_ge (i := 17) rfl (fun c17 => ?_) (fun c17 => ?_)
  · refine pz_ic (i := 29) rfl ?_
    refine pz_ir (i := 30) rfl rfl rfl ?_
    exact hQ
  · exact absurd h c17
set_option maxRecDepth 20000 in
theorem sx_next (hr : 512 ≤ rm ∧ rm ≤ 4096) {a : aS} {key : Int32} (hx : xS rm iv av a) (hI : wB rm a) (hQ : ∀ iv' av', xS rm iv' av' (aNext key a).2 → Q (some (.int (aNext key a).1)) (wX rm iv' av' r)) : rx_R Lx xs (d + 6) 66 [.ref 1, .int key] (wX rm iv av r) Q := by
  refine pz_en (t := rt_66) ⟨Nat.le_of_ble_eq_true rfl, rfl⟩ rfl rfl ?_
  unfold aNext at hQ
  obtain ⟨hd, hz, hT, hG, hV⟩ := id hx
  have h5 : iv 5 = bB (dwn a) := hd.2.2.2.2.2.2.2.2.1
  have hr' : 0 < rm ∧ rm ≤ 4096 := ⟨by omega, hr.2⟩
  refine pz_aln (i := 0) rfl rfl ?_
  refine pz_get (i := 1) rfl (gf_1_0 ..) ?_
  refine pz_get (i := 2) rfl (gf_2_10 ..) ?_
  rw [h5]
  refine pz_if_eq (i := 3) rfl (fun c3 => ?_) (fun c3 => ?_)
  · have hl := bB_f c3
    have hal : a.1.1.2.2.2.2.2 = false := hl
    rw [if_neg (show ¬ dwn a = true by rw [hl]; decide)] at hQ
    have hVl := hV hl
    have hc0 : av 0 = cu rm a.1.1 := hd.1
    refine pz_aln (i := 6) rfl rfl ?_
    refine pz_get (i := 7) rfl (gf_1_1 ..) ?_
    refine pz_aln (i := 8) rfl rfl ?_
    refine pz_get (i := 9) rfl (gf_1_4 ..) ?_
    refine pz_cV1 (i := 10) rfl (gc_7 ..) rfl (Nat.le_of_ble_eq_true rfl) rfl ?_
    have hck := (hI hl [] (Nat.zero_le _) (fun x hx => (by cases hx))).1
    refine sx_gatherAll hr' (v := 0) (e := 3) (by decide) (by decide) (by decide) hVl.1 (fun t ht => by rw [hc0]; exact hck.1 t ht) hVl.2.1 (fun iv1 av1 k1 f1 f2 => ?_)
    have hx1 : xS rm iv1 av1 a := ⟨dX_fr hd f1 f2 (by decide) (by decide), kz_ext hz f2 (by decide), tX_fr hT f1 f2 (by decide) (by decide), gX_fr hG f1 f2 (by decide) (by decide), fun _ => vX_ext hVl f1 f2 (by decide) (by decide)⟩
    have hQ1 := hQ iv1 av1 hx1
    refine ⟨rfl, ?_⟩
    refine pz_iln (i := 11) rfl rfl ?_
    refine pz_ic (i := 12) rfl ?_
    refine pz_mx (i := 13) rfl (Nat.le_of_ble_eq_true rfl) ?_
    refine pz_isn (i := 14) rfl ⟨rfl, Nat.le_of_ble_eq_true rfl⟩ rfl ?_
    by_cases h0 : key < 0
    · rw [if_pos h0] at hQ1
      rw [if_pos h0]
      exact lp_nx (V := a.1.2.1) k1 120 0 rfl hQ1
    · rw [if_neg h0] at hQ1
      rw [if_neg h0]
      by_cases h120 : 120 ≤ key
      · rw [if_pos h120] at hQ1
        exact lp_nx9 h120 hQ1
      · rw [if_neg h120] at hQ1
        obtain ⟨k, hk, rfl⟩ := kx_nat (kx_t h0 h120)
        rw [cl_ofI (a := k)] at hQ1
        exact lp_nx (V := a.1.2.1) k1 (120 - k) k (by omega) hQ1
  · refine pz_bi (i := 4) rfl ?_
    refine pz_ir (i := 5) rfl rfl rfl ?_
    rw [if_pos (bB_t c3)] at hQ
    exact hQ iv av hx
theorem kyN_le (V : vW) : ∀ n, kyN V n ≤ n
  | 0 => Nat.le_refl _
  | n + 1 => by
    have := kyN_le V n
    show kyN V n + (if thr V n then 1 else 0) ≤ _
    split <;> omega
set_option maxRecDepth 20000 in
theorem lp_ky {V : vW} (hE : eX 3 iv av (fun k => ent V.2.1 V.1 k)) : ∀ m k, k + m = 120 → Q (some (.int (nI (kyN V 120)))) (wX rm iv av r) → pz Lx xs d rt_81 (some .int) Q 9 [some (.ref 1), some (.int (nI (kyN V k))), some (.int (nI k))] [] (wX rm iv av r)
  | 0, k, hk, hQ => by
    obtain rfl : k = 120 := by omega
    refine pz_iln (i := 9) rfl rfl ?_
    refine pz_bi (i := 10) rfl ?_
    refine pz_ii_ge (i := 11) rfl (fun c11 => ?_) (fun c11 => ?_)
    · refine pz_iln (i := 22) rfl rfl ?_
      refine pz_ir (i := 23) rfl rfl rfl ?_
      exact hQ
    · exact absurd (Int32.le_refl _) c11
  | m + 1, k, hk, hQ => by
    have hk1 : k < 120 := by omega
    have ht := eX_thr hE hk1
    refine pz_iln (i := 9) rfl rfl ?_
    refine pz_bi (i := 10) rfl ?_
    refine pz_ii_ge (i := 11) rfl (fun c11 => ?_) (fun c11 => ?_)
    · exact absurd (le_ofI (a := 120) c11) (by omega)
    · refine pz_aln (i := 12) rfl rfl ?_
      refine pz_get (i := 13) rfl (gf_1_4 ..) ?_
      refine pz_get (i := 14) rfl (gf_29_0 ..) ?_
      refine pz_iln (i := 15) rfl rfl ?_
      refine pz_ial (i := 16) rfl (ga_30 ..) (in_ofI hk1) ?_
      rw [cl_ofI (a := k)]
      refine pz_ic (i := 17) rfl ?_
      refine pz_ii_ne (i := 18) rfl (fun c18 => ?_) (fun c18 => ?_)
      · refine pz_inc (i := 20) rfl rfl rfl rfl ?_
        rw [show nI k + 1 = nI (k + 1) from nI_add k 1]
        refine pz_go (i := 21) rfl ?_
        have h := lp_ky hE m (k + 1) (by omega) hQ
        first
          | (rw [show kyN V (k + 1) = kyN V k + 1 from congrArg (kyN V k + ·) (if_pos (ht.mp c18))] at h
             exact h)
          | (rw [show kyN V (k + 1) = kyN V k from congrArg (kyN V k + ·) (if_neg (fun z => c18 (ht.mpr z)))] at h
             exact h)
      · refine pz_inc (i := 19) rfl rfl rfl rfl ?_
        rw [show nI (kyN V k) + 1 = nI (kyN V k + 1) from nI_add _ 1]
        refine pz_inc (i := 20) rfl rfl rfl rfl ?_
        rw [show nI k + 1 = nI (k + 1) from nI_add k 1]
        refine pz_go (i := 21) rfl ?_
        have h := lp_ky hE m (k + 1) (by omega) hQ
        first
          | (rw [show kyN V (k + 1) = kyN V k + 1 from congrArg (kyN V k + ·) (if_pos (ht.mp c18))] at h
             exact h)
          | (rw [show kyN V (k + 1) = kyN V k from congrArg (kyN V k + ·) (if_neg (fun z => c18 (ht.mpr z)))] at h
             exact h)
set_option maxRecDepth 20000 in
theorem sx_keysThere (hr' : 0 < rm ∧ rm ≤ 4096) {V : vW} (hV : vX 0 iv av V) (htE : ∀ t ∈ V.1, tE rm (av 0) t) (hQ : ∀ iv' av', frI iv iv' [33] → frA av av' [19, 20, 21] → Q (some (.int (nI (kyN V 120)))) (wX rm iv' av' r)) : rx_R Lx xs (d + 5) 81 [.ref 1] (wX rm iv av r) Q := by
  refine pz_en (t := rt_81) ⟨Nat.le_of_ble_eq_true rfl, rfl⟩ rfl rfl ?_
  refine pz_aln (i := 0) rfl rfl ?_
  refine pz_get (i := 1) rfl (gf_1_1 ..) ?_
  refine pz_aln (i := 2) rfl rfl ?_
  refine pz_get (i := 3) rfl (gf_1_4 ..) ?_
  refine pz_cV1 (i := 4) rfl (gc_7 ..) rfl (Nat.le_of_ble_eq_true rfl) rfl ?_
  refine sx_gatherAll hr' (v := 0) (e := 3) (by decide) (by decide) (by decide) hV.1 htE hV.2.1 (fun iv1 av1 k1 f1 f2 => ?_)
  refine ⟨rfl, ?_⟩
  refine pz_ic (i := 5) rfl ?_
  refine pz_isn (i := 6) rfl ⟨rfl, Nat.le_of_ble_eq_true rfl⟩ rfl ?_
  refine pz_ic (i := 7) rfl ?_
  refine pz_isn (i := 8) rfl ⟨rfl, Nat.le_of_ble_eq_true rfl⟩ rfl ?_
  exact lp_ky (V := V) k1 120 0 rfl (hQ iv1 av1 f1 f2)
theorem byN_s {rm : Nat} {c : Nat → Int32} {V : vW} {k : Nat} {e : eN} (he : ent V.2.1 V.1 k = some e) (h1 : e.1 = 1) : byN rm c V (k + 1) = byN rm c V k + (12 + bN c ((e.2.2 + 2) % rm)) := by
  show byN rm c V k + _ = _
  rw [he]
  simp only [if_pos h1]
theorem byN_n {rm : Nat} {c : Nat → Int32} {V : vW} {k : Nat} (h : ¬ thr V k = true) : byN rm c V (k + 1) = byN rm c V k := by
  show byN rm c V k + _ = _
  unfold thr at h
  cases he : ent V.2.1 V.1 k with
  | none => rfl
  | some e =>
    rw [he] at h
    have : ¬ e.1 = 1 := fun z => h (decide_eq_true z)
    simp only [if_neg this]
    rfl
set_option maxRecDepth 20000 in
theorem lp_by (hr' : 0 < rm ∧ rm ≤ 4096) {V : vW} (hE : eX 3 iv av (fun k => ent V.2.1 V.1 k)) : ∀ m k, k + m = 120 → Q (some (.int (nI (byN rm (av 0) V 120)))) (wX rm iv av r) → pz Lx xs (d + 3) rt_82 (some .int) Q 9 [some (.ref 1), some (.int (nI (byN rm (av 0) V k))), some (.int (nI k))] [] (wX rm iv av r)
  | 0, k, hk, hQ => by
    obtain rfl : k = 120 := by omega
    refine pz_iln (i := 9) rfl rfl ?_
    refine pz_bi (i := 10) rfl ?_
    refine pz_ii_ge (i := 11) rfl (fun c11 => ?_) (fun c11 => ?_)
    · refine pz_iln (i := 32) rfl rfl ?_
      refine pz_ir (i := 33) rfl rfl rfl ?_
      exact hQ
    · exact absurd (Int32.le_refl _) c11
  | m + 1, k, hk, hQ => by
    have hk1 : k < 120 := by omega
    have ht := eX_thr hE hk1
    refine pz_iln (i := 9) rfl rfl ?_
    refine pz_bi (i := 10) rfl ?_
    refine pz_ii_ge (i := 11) rfl (fun c11 => ?_) (fun c11 => ?_)
    · exact absurd (le_ofI (a := 120) c11) (by omega)
    · refine pz_aln (i := 12) rfl rfl ?_
      refine pz_get (i := 13) rfl (gf_1_4 ..) ?_
      refine pz_get (i := 14) rfl (gf_29_0 ..) ?_
      refine pz_iln (i := 15) rfl rfl ?_
      refine pz_ial (i := 16) rfl (ga_30 ..) (in_ofI hk1) ?_
      rw [cl_ofI (a := k)]
      refine pz_ic (i := 17) rfl ?_
      refine pz_ii_ne (i := 18) rfl (fun c18 => ?_) (fun c18 => ?_)
      · refine pz_inc (i := 30) rfl rfl rfl rfl ?_
        rw [show nI k + 1 = nI (k + 1) from nI_add k 1]
        refine pz_go (i := 31) rfl ?_
        have h := lp_by hr' hE m (k + 1) (by omega) hQ
        first
          | (rw [byN_s he h1] at h
             exact h)
          | (rw [byN_n (fun z => c18 (ht.mpr z))] at h
             exact h)
      · obtain ⟨e, he, h1⟩ := thr_ex (ht.mp c18)
        have h30 := (hE.1.2 k e he).2.2.2
        have hw := (eX_where hE hk1 he).2.2
        refine pz_iln (i := 19) rfl rfl ?_
        refine pz_aln (i := 20) rfl rfl ?_
        refine pz_get (i := 21) rfl (gf_1_0 ..) ?_
        refine pz_aln (i := 22) rfl rfl ?_
        refine pz_get (i := 23) rfl (gf_1_4 ..) ?_
        refine pz_get (i := 24) rfl (gf_29_2 ..) ?_
        refine pz_iln (i := 25) rfl rfl ?_
        refine pz_ial (i := 26) rfl (ga_32 ..) (in_ofI hk1) ?_
        rw [cl_ofI (a := k), show av 21 k = nI e.2.2 from hw]
        refine pz_cI1 (i := 27) rfl (gc_2 ..) rfl (Nat.le_of_ble_eq_true rfl) rfl ?_
        refine sx_recordSize hr' (by omega) ?_
        rw [bN_and, show (12 : Int32) + nI (bN (av 0) ((e.2.2 + 2) % rm)) = nI (12 + bN (av 0) ((e.2.2 + 2) % rm)) from nI_add 12 _]
        refine ⟨_, rfl, ?_⟩
        refine pz_add (i := 28) rfl ?_
        rw [nI_add]
        refine pz_isn (i := 29) rfl ⟨rfl, Nat.le_of_ble_eq_true rfl⟩ rfl ?_
        refine pz_inc (i := 30) rfl rfl rfl rfl ?_
        rw [show nI k + 1 = nI (k + 1) from nI_add k 1]
        refine pz_go (i := 31) rfl ?_
        have h := lp_by hr' hE m (k + 1) (by omega) hQ
        first
          | (rw [byN_s he h1] at h
             exact h)
          | (rw [byN_n (fun z => c18 (ht.mpr z))] at h
             exact h)
set_option maxRecDepth 20000 in
theorem sx_bytesThere (hr' : 0 < rm ∧ rm ≤ 4096) {V : vW} (hV : vX 0 iv av V) (htE : ∀ t ∈ V.1, tE rm (av 0) t) (hQ : ∀ iv' av', frI iv iv' [33] → frA av av' [19, 20, 21] → Q (some (.int (nI (byN rm (av 0) V 120)))) (wX rm iv' av' r)) : rx_R Lx xs (d + 5) 82 [.ref 1] (wX rm iv av r) Q := by
  refine pz_en (t := rt_82) ⟨Nat.le_of_ble_eq_true rfl, rfl⟩ rfl rfl ?_
  refine pz_aln (i := 0) rfl rfl ?_
  refine pz_get (i := 1) rfl (gf_1_1 ..) ?_
  refine pz_aln (i := 2) rfl rfl ?_
  refine pz_get (i := 3) rfl (gf_1_4 ..) ?_
  refine pz_cV1 (i := 4) rfl (gc_7 ..) rfl (Nat.le_of_ble_eq_true rfl) rfl ?_
  refine sx_gatherAll hr' (v := 0) (e := 3) (by decide) (by decide) (by decide) hV.1 htE hV.2.1 (fun iv1 av1 k1 f1 f2 => ?_)
  have h0 := f2 0 (by decide)
  refine ⟨rfl, ?_⟩
  refine pz_ic (i := 5) rfl ?_
  refine pz_isn (i := 6) rfl ⟨rfl, Nat.le_of_ble_eq_true rfl⟩ rfl ?_
  refine pz_ic (i := 7) rfl ?_
  refine pz_isn (i := 8) rfl ⟨rfl, Nat.le_of_ble_eq_true rfl⟩ rfl ?_
  exact lp_by hr' (V := V) k1 120 0 rfl (by rw [h0]; exact hQ iv1 av1 f1 f2)
set_option maxRecDepth 20000 in
theorem sx_told (hr : 512 ≤ rm ∧ rm ≤ 4096) {a : aS} {w : Int32} (hx : xS rm iv av a) (hI : wB rm a) (hQ : ∀ iv' av', xS rm iv' av' (aTold rm w a).2 → Q (some (.int (aTold rm w a).1)) (wX rm iv' av' r)) : rx_R Lx xs (d + 6) 74 [.ref 1, .int w] (wX rm iv av r) Q := by
  refine pz_en (t := rt_74) ⟨Nat.le_of_ble_eq_true rfl, rfl⟩ rfl rfl ?_
  unfold aTold at hQ
  obtain ⟨hd, hz, hT, hG, hV⟩ := id hx
  have h5 : iv 5 = bB (dwn a) := hd.2.2.2.2.2.2.2.2.1
  have hr' : 0 < rm ∧ rm ≤ 4096 := ⟨by omega, hr.2⟩
  refine pz_iln (i := 0) rfl rfl ?_
  refine pz_bi (i := 1) rfl ?_
  refine pz_ii_ne (i := 2) rfl (fun c2 => ?_) (fun c2 => ?_)
  · refine pz_iln (i := 7) rfl rfl ?_
    refine pz_bi (i := 8) rfl ?_
    refine pz_ii_ne (i := 9) rfl (fun c9 => ?_) (fun c9 => ?_)
    · refine pz_aln (i := 14) rfl rfl ?_
      refine pz_get (i := 15) rfl (gf_1_0 ..) ?_
      refine pz_get (i := 16) rfl (gf_2_10 ..) ?_
      rw [h5]
      refine pz_if_eq (i := 17) rfl (fun c17 => ?_) (fun c17 => ?_)
      · have hl := bB_f c17
        have hlt : ¬ dwn a = true := by rw [hl]; decide
        have hVl := hV hl
        have hc0 : av 0 = cu rm a.1.1 := hd.1
        have hck := (hI hl [] (Nat.zero_le _) (fun x hx => (by cases hx))).1
        have htE : ∀ t ∈ a.1.2.1.1, tE rm (av 0) t := fun t ht => by rw [hc0]; exact hck.1 t ht
        refine pz_iln (i := 20) rfl rfl ?_
        refine pz_tsw (i := 21) rfl (fun h => ?_) (fun h1 h2 => ?_)
        · rw [if_neg c2, if_neg c9, if_neg hlt, if_neg (fun z => by rw [z] at h; exact absurd h (by decide)), if_neg (fun z => by rw [z] at h; exact absurd h (by decide)), if_neg (fun z => by rw [z] at h; exact absurd h (by decide)), if_neg (fun z => by rw [z] at h; exact absurd h (by decide)), if_neg (fun z => by rw [z] at h; exact absurd h (by decide)), if_neg (fun z => by rw [z] at h; exact absurd h (by decide)), if_neg (fun z => by rw [z] at h; exact absurd h (by decide)), if_neg (fun z => by rw [z] at h; exact absurd h (by decide)), if_neg (fun z => by rw [z] at h; exact absurd h (by decide)), if_neg (fun z => by rw [z] at h; exact absurd h (by decide)), if_neg (fun z => by rw [z] at h; exact absurd h (by decide)), if_neg (fun z => by rw [z] at h; exact absurd h (by decide)), if_neg (fun z => by rw [z] at h; exact absurd h (by decide))] at hQ
          refine pz_ic (i := 77) rfl ?_
          refine pz_ir (i := 78) rfl rfl rfl ?_
          exact hQ iv av hx
        · obtain ⟨k, hk, rfl⟩ := sw_n (n := 14) (by decide) h1 h2
          have hc : k = 0 ∨ k = 1 ∨ k = 2 ∨ k = 3 ∨ k = 4 ∨ k = 5 ∨ k = 6 ∨ k = 7 ∨ k = 8 ∨ k = 9 ∨ k = 10 ∨ k = 11 ∨ k = 12 ∨ k = 13 ∨ k = 14 := by omega
          rcases hc with rfl | rfl | rfl | rfl | rfl | rfl | rfl | rfl | rfl | rfl | rfl | rfl | rfl | rfl | rfl
          · rw [if_neg (by decide), if_neg (by decide), if_neg hlt, if_pos (by decide)] at hQ
            show pz Lx xs (d + 5) rt_74 (some .int) Q 22 _ [] _
            refine pz_aln (i := 22) rfl rfl ?_
            refine pz_get (i := 23) rfl (gf_1_1 ..) ?_
            refine pz_get (i := 24) rfl (gf_7_8 ..) ?_
            rw [show iv 15 = nI (a.1.2.1.2.2 5) from hVl.2.2 5 (by decide) (by decide)]
            refine pz_ir (i := 25) rfl rfl rfl ?_
            exact hQ iv av hx
          · rw [if_neg (by decide), if_neg (by decide), if_neg hlt, if_neg (by decide), if_pos (by decide)] at hQ
            show pz Lx xs (d + 5) rt_74 (some .int) Q 26 _ [] _
            refine pz_aln (i := 26) rfl rfl ?_
            refine pz_get (i := 27) rfl (gf_1_1 ..) ?_
            refine pz_get (i := 28) rfl (gf_7_7 ..) ?_
            rw [show iv 14 = nI (a.1.2.1.2.2 4) from hVl.2.2 4 (by decide) (by decide)]
            refine pz_ir (i := 29) rfl rfl rfl ?_
            exact hQ iv av hx
          · rw [if_neg (by decide), if_neg (by decide), if_neg hlt, if_neg (by decide), if_neg (by decide), if_pos (by decide)] at hQ
            show pz Lx xs (d + 5) rt_74 (some .int) Q 30 _ [] _
            refine pz_aln (i := 30) rfl rfl ?_
            refine pz_get (i := 31) rfl (gf_1_1 ..) ?_
            refine pz_get (i := 32) rfl (gf_7_5 ..) ?_
            rw [show iv 12 = nI (a.1.2.1.2.2 2) from hVl.2.2 2 (by decide) (by decide)]
            refine pz_ir (i := 33) rfl rfl rfl ?_
            exact hQ iv av hx
          · rw [if_neg (by decide), if_neg (by decide), if_neg hlt, if_neg (by decide), if_neg (by decide), if_neg (by decide), if_pos (by decide)] at hQ
            show pz Lx xs (d + 5) rt_74 (some .int) Q 34 _ [] _
            refine pz_aln (i := 34) rfl rfl ?_
            refine pz_get (i := 35) rfl (gf_1_1 ..) ?_
            refine pz_get (i := 36) rfl (gf_7_9 ..) ?_
            rw [show iv 16 = nI (a.1.2.1.2.2 6) from hVl.2.2 6 (by decide) (by decide)]
            refine pz_ir (i := 37) rfl rfl rfl ?_
            exact hQ iv av hx
          · rw [if_neg (by decide), if_neg (by decide), if_neg hlt, if_neg (by decide), if_neg (by decide), if_neg (by decide), if_neg (by decide), if_pos (by decide)] at hQ
            show pz Lx xs (d + 5) rt_74 (some .int) Q 38 _ [] _
            refine pz_aln (i := 38) rfl rfl ?_
            refine pz_get (i := 39) rfl (gf_1_1 ..) ?_
            refine pz_get (i := 40) rfl (gf_7_4 ..) ?_
            rw [show iv 11 = nI (a.1.2.1.2.2 1) from hVl.2.2 1 (by decide) (by decide)]
            refine pz_ir (i := 41) rfl rfl rfl ?_
            exact hQ iv av hx
          · rw [if_neg (by decide), if_neg (by decide), if_neg hlt, if_neg (by decide), if_neg (by decide), if_neg (by decide), if_neg (by decide), if_neg (by decide), if_pos (by decide)] at hQ
            show pz Lx xs (d + 5) rt_74 (some .int) Q 42 _ [] _
            refine pz_aln (i := 42) rfl rfl ?_
            refine pz_get (i := 43) rfl (gf_1_1 ..) ?_
            refine pz_get (i := 44) rfl (gf_7_1 ..) ?_
            refine pz_get (i := 45) rfl (gf_8_3 ..) ?_
            rw [show iv 30 = nI (kS a.1.2.1.2.1).length from hVl.2.1.2.1]
            refine pz_ir (i := 46) rfl rfl rfl ?_
            exact hQ iv av hx
          · rw [if_neg (by decide), if_neg (by decide), if_neg hlt, if_neg (by decide), if_neg (by decide), if_neg (by decide), if_neg (by decide), if_neg (by decide), if_neg (by decide), if_pos (by decide)] at hQ
            show pz Lx xs (d + 5) rt_74 (some .int) Q 47 _ [] _
            refine pz_aln (i := 47) rfl rfl ?_
            refine pz_get (i := 48) rfl (gf_1_1 ..) ?_
            refine pz_get (i := 49) rfl (gf_7_3 ..) ?_
            rw [show iv 10 = nI a.1.2.1.1.length from hVl.1.1]
            refine pz_ir (i := 50) rfl rfl rfl ?_
            exact hQ iv av hx
          · rw [if_neg (by decide), if_neg (by decide), if_neg hlt, if_neg (by decide), if_neg (by decide), if_neg (by decide), if_neg (by decide), if_neg (by decide), if_neg (by decide), if_neg (by decide), if_pos (by decide)] at hQ
            show pz Lx xs (d + 5) rt_74 (some .int) Q 51 _ [] _
            refine pz_aln (i := 51) rfl rfl ?_
            refine pz_get (i := 52) rfl (gf_1_0 ..) ?_
            refine pz_get (i := 53) rfl (gf_2_6 ..) ?_
            rw [show iv 1 = nI a.1.1.2.1.length from hd.2.1]
            refine pz_ir (i := 54) rfl rfl rfl ?_
            exact hQ iv av hx
          · rw [if_neg (by decide), if_neg (by decide), if_neg hlt, if_neg (by decide), if_neg (by decide), if_neg (by decide), if_neg (by decide), if_neg (by decide), if_neg (by decide), if_neg (by decide), if_neg (by decide), if_pos (by decide)] at hQ
            show pz Lx xs (d + 5) rt_74 (some .int) Q 55 _ [] _
            refine pz_aln (i := 55) rfl rfl ?_
            refine pz_cI0 (i := 56) rfl (gc_1 ..) rfl (Nat.le_of_ble_eq_true rfl) rfl ?_
            refine sx_keysThere hr' hVl htE (fun iv1 av1 f1 f2 => ?_)
            refine ⟨_, rfl, ?_⟩
            refine pz_ir (i := 57) rfl rfl rfl ?_
            exact hQ iv1 av1 ⟨dX_fr hd f1 f2 (by decide) (by decide), kz_ext hz f2 (by decide), tX_fr hT f1 f2 (by decide) (by decide), gX_fr hG f1 f2 (by decide) (by decide), fun _ => vX_ext hVl f1 f2 (by decide) (by decide)⟩
          · rw [if_neg (by decide), if_neg (by decide), if_neg hlt, if_neg (by decide), if_neg (by decide), if_neg (by decide), if_neg (by decide), if_neg (by decide), if_neg (by decide), if_neg (by decide), if_neg (by decide), if_neg (by decide), if_pos (by decide)] at hQ
            show pz Lx xs (d + 5) rt_74 (some .int) Q 58 _ [] _
            refine pz_aln (i := 58) rfl rfl ?_
            refine pz_cI0 (i := 59) rfl (gc_1 ..) rfl (Nat.le_of_ble_eq_true rfl) rfl ?_
            refine sx_bytesThere hr' hVl htE (fun iv1 av1 f1 f2 => ?_)
            rw [hc0]
            refine ⟨_, rfl, ?_⟩
            refine pz_ir (i := 60) rfl rfl rfl ?_
            exact hQ iv1 av1 ⟨dX_fr hd f1 f2 (by decide) (by decide), kz_ext hz f2 (by decide), tX_fr hT f1 f2 (by decide) (by decide), gX_fr hG f1 f2 (by decide) (by decide), fun _ => vX_ext hVl f1 f2 (by decide) (by decide)⟩
          · exact absurd rfl c2
          · exact absurd rfl c9
          · rw [if_neg (by decide), if_neg (by decide), if_neg hlt, if_neg (by decide), if_neg (by decide), if_neg (by decide), if_neg (by decide), if_neg (by decide), if_neg (by decide), if_neg (by decide), if_neg (by decide), if_neg (by decide), if_neg (by decide), if_pos (by decide)] at hQ
            show pz Lx xs (d + 5) rt_74 (some .int) Q 61 _ [] _
            refine pz_aln (i := 61) rfl rfl ?_
            refine pz_get (i := 62) rfl (gf_1_9 ..) ?_
            rw [hT.2.2.2.1]
            refine pz_ir (i := 63) rfl rfl rfl ?_
            exact hQ iv av hx
          · rw [if_neg (by decide), if_neg (by decide), if_neg hlt, if_neg (by decide), if_neg (by decide), if_neg (by decide), if_neg (by decide), if_neg (by decide), if_neg (by decide), if_neg (by decide), if_neg (by decide), if_neg (by decide), if_neg (by decide), if_neg (by decide), if_pos (by decide)] at hQ
            show pz Lx xs (d + 5) rt_74 (some .int) Q 64 _ [] _
            refine pz_aln (i := 64) rfl rfl ?_
            refine pz_get (i := 65) rfl (gf_1_7 ..) ?_
            rw [hT.2.1]
            refine pz_if_eq (i := 66) rfl (fun c66 => ?_) (fun c66 => ?_)
            · refine pz_ic (i := 71) rfl ?_
              refine pz_ir (i := 72) rfl rfl rfl ?_
              first
                | (rw [if_pos (bB_t c66)] at hQ
                   exact hQ iv av hx)
                | (rw [if_neg (show ¬ a.2.1.2.1 = true by rw [bB_f c66]; decide)] at hQ
                   exact hQ iv av hx)
            · refine pz_aln (i := 67) rfl rfl ?_
              refine pz_get (i := 68) rfl (gf_1_6 ..) ?_
              refine pz_get (i := 69) rfl (gf_37_4 ..) ?_
              rw [hT.1.1]
              refine pz_go (i := 70) rfl ?_
              refine pz_ir (i := 72) rfl rfl rfl ?_
              first
                | (rw [if_pos (bB_t c66)] at hQ
                   exact hQ iv av hx)
                | (rw [if_neg (show ¬ a.2.1.2.1 = true by rw [bB_f c66]; decide)] at hQ
                   exact hQ iv av hx)
          · rw [if_neg (by decide), if_neg (by decide), if_neg hlt, if_neg (by decide), if_neg (by decide), if_neg (by decide), if_neg (by decide), if_neg (by decide), if_neg (by decide), if_neg (by decide), if_neg (by decide), if_neg (by decide), if_neg (by decide), if_neg (by decide), if_neg (by decide), if_pos (by decide)] at hQ
            show pz Lx xs (d + 5) rt_74 (some .int) Q 73 _ [] _
            refine pz_aln (i := 73) rfl rfl ?_
            refine pz_get (i := 74) rfl (gf_1_1 ..) ?_
            refine pz_get (i := 75) rfl (gf_7_10 ..) ?_
            rw [show iv 17 = nI (a.1.2.1.2.2 7) from hVl.2.2 7 (by decide) (by decide)]
            refine pz_ir (i := 76) rfl rfl rfl ?_
            exact hQ iv av hx
      · refine pz_bi (i := 18) rfl ?_
        refine pz_ir (i := 19) rfl rfl rfl ?_
        rw [if_neg c2, if_neg c9, if_pos (bB_t c17)] at hQ
        exact hQ iv av hx
    · refine pz_aln (i := 10) rfl rfl ?_
      refine pz_get (i := 11) rfl (gf_1_12 ..) ?_
      refine pz_get (i := 12) rfl (gf_52_5 ..) ?_
      rw [hG.2.2.2.2.2]
      refine pz_ir (i := 13) rfl rfl rfl ?_
      rw [if_neg c2, if_pos c9] at hQ
      exact hQ iv av hx
  · refine pz_aln (i := 3) rfl rfl ?_
    refine pz_get (i := 4) rfl (gf_1_12 ..) ?_
    refine pz_get (i := 5) rfl (gf_52_4 ..) ?_
    rw [hG.2.2.2.2.1]
    refine pz_ir (i := 6) rfl rfl rfl ?_
    rw [if_pos c2] at hQ
    exact hQ iv av hx
set_option maxRecDepth 20000 in
theorem sx_entry (hr : 512 ≤ rm ∧ rm ≤ 4096) {a : aS} {key w : Int32} (hx : xS rm iv av a) (hI : wB rm a) (hQ : ∀ iv' av', xS rm iv' av' (aEntry key w a).2 → Q (some (.int (aEntry key w a).1)) (wX rm iv' av' r)) : rx_R Lx xs (d + 6) 76 [.ref 1, .int key, .int w] (wX rm iv av r) Q := by
  refine pz_en (t := rt_76) ⟨Nat.le_of_ble_eq_true rfl, rfl⟩ rfl rfl ?_
  unfold aEntry at hQ
  obtain ⟨hd, hz, hT, hG, hV⟩ := id hx
  have h5 : iv 5 = bB (dwn a) := hd.2.2.2.2.2.2.2.2.1
  have hr' : 0 < rm ∧ rm ≤ 4096 := ⟨by omega, hr.2⟩
  refine pz_aln (i := 0) rfl rfl ?_
  refine pz_get (i := 1) rfl (gf_1_0 ..) ?_
  refine pz_get (i := 2) rfl (gf_2_10 ..) ?_
  rw [h5]
  refine pz_if_eq (i := 3) rfl (fun c3 => ?_) (fun c3 => ?_)
  · have hl := bB_f c3
    have hal : a.1.1.2.2.2.2.2 = false := hl
    rw [if_neg (show ¬ dwn a = true by rw [hl]; decide)] at hQ
    have hVl := hV hl
    have hc0 : av 0 = cu rm a.1.1 := hd.1
    refine pz_aln (i := 6) rfl rfl ?_
    refine pz_get (i := 7) rfl (gf_1_1 ..) ?_
    refine pz_iln (i := 8) rfl rfl ?_
    refine pz_aln (i := 9) rfl rfl ?_
    refine pz_get (i := 10) rfl (gf_1_13 ..) ?_
    refine pz_cV2 (i := 11) rfl (gc_7 ..) rfl (Nat.le_of_ble_eq_true rfl) rfl ?_
    have hck := (hI hl [] (Nat.zero_le _) (fun x hx => (by cases hx))).1
    refine sx_find hr' (v := 0) (f := 2) (by decide) (by decide) hVl.1 (fun t ht => by rw [hc0]; exact hck.1 t ht) hVl.2.1 (fun iv2 hf f2 => ?_)
    have hQ1 := hQ iv2 av ⟨dX_fr hd f2 (frA_rfl av []) (by decide) (by decide), hz, tX_fr hT f2 (frA_rfl av []) (by decide) (by decide), gX_fr hG f2 (frA_rfl av []) (by decide) (by decide), fun _ => vX_ext hVl f2 (frA_rfl av []) (by decide) (by decide)⟩
    unfold fAll at hf
    refine ⟨rfl, ?_⟩
    refine pz_aln (i := 12) rfl rfl ?_
    refine pz_get (i := 13) rfl (gf_1_13 ..) ?_
    refine pz_get (i := 14) rfl (gf_53_0 ..) ?_
    refine pz_if_ne (i := 15) rfl (fun c15 => ?_) (fun c15 => ?_)
    · obtain ⟨k, hk1, rfl, e, he, hf⟩ : ∃ k, k < 120 ∧ key = nI k ∧ ∃ e, ent a.1.2.1.2.1 a.1.2.1.1 k = some e ∧ ((iv2 60 = nI e.1 ∧ iv2 61 = nI e.2.1 ∧ iv2 62 = nI e.2.2) ∧ iv2 63 = bB (a.1.2.1.2.1 k).isSome) := by
        cases hk : kx_is key with
        | false =>
          rw [if_neg (by rw [hk]; decide)] at hf
          exact absurd hf.1 c15
        | true =>
          obtain ⟨k, hk1, rfl⟩ := kx_nat hk
          rw [if_pos hk, cl_ofI (a := k)] at hf
          cases he : ent a.1.2.1.2.1 a.1.2.1.1 k with
          | none =>
            rw [he] at hf
            exact absurd hf.1 c15
          | some e =>
            rw [he] at hf
            exact ⟨k, hk1, rfl, e, he, hf.1, hf.2.1⟩
      rw [if_neg (by rw [kx_of hk1]; decide), cl_ofI (a := k), he] at hQ1
      refine pz_iln (i := 18) rfl rfl ?_
      refine pz_tsw (i := 19) rfl (fun h => ?_) (fun h1 h2 => ?_)
      · simp only [if_neg (show ¬ w = 0 from fun z => by rw [z] at h; exact absurd h (by decide)), if_neg (show ¬ w = 1 from fun z => by rw [z] at h; exact absurd h (by decide)), if_neg (show ¬ w = 2 from fun z => by rw [z] at h; exact absurd h (by decide)), if_neg (show ¬ w = 3 from fun z => by rw [z] at h; exact absurd h (by decide))] at hQ1
        refine pz_ic (i := 40) rfl ?_
        refine pz_ir (i := 41) rfl rfl rfl ?_
        exact hQ1
      · obtain ⟨k, hk, rfl⟩ := sw_n (n := 3) (by decide) h1 h2
        have hc : k = 0 ∨ k = 1 ∨ k = 2 ∨ k = 3 := by omega
        rcases hc with rfl | rfl | rfl | rfl
        · simp only [show (nI 0 = 0) = True from propext ⟨fun _ => trivial, fun _ => rfl⟩, if_true, if_false] at hQ1
          show pz Lx xs (d + 5) rt_76 (some .int) Q 20 _ [] _
          refine pz_aln (i := 20) rfl rfl ?_
          refine pz_get (i := 21) rfl (gf_1_13 ..) ?_
          refine pz_get (i := 22) rfl (gf_53_0 ..) ?_
          rw [hf.1.1]
          refine pz_ir (i := 23) rfl rfl rfl ?_
          exact hQ1
        · simp only [show (nI 1 = 0) = False from propext ⟨fun z => absurd z (by decide), False.elim⟩, show (nI 1 = 1) = True from propext ⟨fun _ => trivial, fun _ => rfl⟩, if_true, if_false] at hQ1
          show pz Lx xs (d + 5) rt_76 (some .int) Q 24 _ [] _
          refine pz_aln (i := 24) rfl rfl ?_
          refine pz_get (i := 25) rfl (gf_1_13 ..) ?_
          refine pz_get (i := 26) rfl (gf_53_1 ..) ?_
          rw [hf.1.2.1]
          refine pz_ir (i := 27) rfl rfl rfl ?_
          exact hQ1
        · simp only [show (nI 2 = 0) = False from propext ⟨fun z => absurd z (by decide), False.elim⟩, show (nI 2 = 1) = False from propext ⟨fun z => absurd z (by decide), False.elim⟩, show (nI 2 = 2) = True from propext ⟨fun _ => trivial, fun _ => rfl⟩, if_true, if_false] at hQ1
          show pz Lx xs (d + 5) rt_76 (some .int) Q 28 _ [] _
          refine pz_aln (i := 28) rfl rfl ?_
          refine pz_get (i := 29) rfl (gf_1_13 ..) ?_
          refine pz_get (i := 30) rfl (gf_53_2 ..) ?_
          rw [hf.1.2.2]
          refine pz_ir (i := 31) rfl rfl rfl ?_
          exact hQ1
        · simp only [show (nI 3 = 0) = False from propext ⟨fun z => absurd z (by decide), False.elim⟩, show (nI 3 = 1) = False from propext ⟨fun z => absurd z (by decide), False.elim⟩, show (nI 3 = 2) = False from propext ⟨fun z => absurd z (by decide), False.elim⟩, show (nI 3 = 3) = True from propext ⟨fun _ => trivial, fun _ => rfl⟩, if_true, if_false] at hQ1
          show pz Lx xs (d + 5) rt_76 (some .int) Q 32 _ [] _
          refine pz_aln (i := 32) rfl rfl ?_
          refine pz_get (i := 33) rfl (gf_1_13 ..) ?_
          refine pz_get (i := 34) rfl (gf_53_3 ..) ?_
          rw [hf.2]
          refine pz_if_eq (i := 35) rfl (fun c35 => ?_) (fun c35 => ?_)
          · refine pz_ic (i := 38) rfl ?_
            refine pz_ir (i := 39) rfl rfl rfl ?_
            first
              | (rw [bB_t c35] at hQ1
                 exact hQ1)
              | (rw [bB_f c35] at hQ1
                 exact hQ1)
          · refine pz_ic (i := 36) rfl ?_
            refine pz_go (i := 37) rfl ?_
            refine pz_ir (i := 39) rfl rfl rfl ?_
            first
              | (rw [bB_t c35] at hQ1
                 exact hQ1)
              | (rw [bB_f c35] at hQ1
                 exact hQ1)
    · refine pz_ic (i := 16) rfl ?_
      refine pz_ir (i := 17) rfl rfl rfl ?_
      cases hk : kx_is key with
      | false =>
        rw [if_pos hk] at hQ1
        exact hQ1
      | true =>
        obtain ⟨k, hk1, rfl⟩ := kx_nat hk
        rw [if_neg (by rw [hk]; decide), cl_ofI (a := k)] at hQ1
        rw [if_pos hk, cl_ofI (a := k)] at hf
        cases he : ent a.1.2.1.2.1 a.1.2.1.1 k with
        | none =>
          rw [he] at hQ1
          exact hQ1
        | some e =>
          rw [he] at hf
          have h3 := ent_ok hVl.2.1.1 (fun t ht => (hck.1 t ht).2.2.2.1) he
          exact absurd (c15) (by rw [show iv2 60 = nI e.1 from hf.1.1]; exact fun z => absurd (eq_ofI (b := 0) z) (by omega))
  · refine pz_bi (i := 4) rfl ?_
    refine pz_ir (i := 5) rfl rfl rfl ?_
    rw [if_pos (bB_t c3)] at hQ
    exact hQ iv av hx
end S83
