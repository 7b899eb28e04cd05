/-! PART BE: the reference: get, next, told, table, entry, cell -/
section SBE
variable {Lx : Nat} {xs : Nat → Int32} {d rm : Nat} {iv : Nat → Int32} {av : Nat → Nat → Int32} {jv : Nat → Int32} {bv : Nat → Nat → Int32} {Q : rQ}
set_option maxRecDepth 20000 in
theorem lq_ge (hr : 0 < rm ∧ rm ≤ 4096) (hg : geo rm bv) {us0 : List tB} {k : Nat} (hk : k < 120) (hE : ∀ t ∈ us0, tE rm (bv 2) t) (hpl : ∀ i t, us0[i]? = some t → bv 15 i = nI t.1) (h6 : us0.length ≤ 6) {jv0 : Nat → Int32} {lA pA0 : Nat} (hb : lA < 2 ^ 20 ∧ pA0 < 2 ^ 20) (hQ : ∀ jv' x2 x3, jv' 8 = nI lA → jv' 9 = nI pA0 → frI jv0 jv' [8, 9] → pz Lx xs (d + 4) rt_134 (some .int) Q 70 [some (.ref 54), some (.int (nI k)), some (.int x2), some (.int x3)] [] (wX rm iv av (wM rm jv' bv))) : ∀ (us : List tB) (i l q : Nat) (jv : Nat → Int32), us0.drop i = us → i ≤ us0.length → lA = l + (lkN us k).1 → pA0 = q + (lkN us k).2 → jv 19 = nI us0.length → jv 8 = nI l → jv 9 = nI q → frI jv0 jv [8, 9] → pz Lx xs (d + 4) rt_134 (some .int) Q 30 [some (.ref 54), some (.int (nI k)), some (.int 0), some (.int (nI i))] [] (wX rm iv av (wM rm jv bv)) := by
  intro us
  induction us with
  | nil =>
    intro i l q jv hdr hil e1 e2 h19 h8 h9 f1
    have hi : i = us0.length := by
      have := congrArg List.length hdr
      rw [List.length_drop] at this
      simp only [List.length_nil] at this
      omega
    subst hi
    have e1' : lA = l := e1
    have e2' : pA0 = q := e2
    refine pz_iln (i := 30) rfl rfl ?_
    refine pz_aln (i := 31) rfl rfl ?_
    refine pz_get (i := 32) rfl (gf_54_36 ..) ?_
    rw [h19]
    refine pz_ii_ge (i := 33) rfl (fun c33 => ?_) (fun c33 => ?_)
    · exact hQ jv _ _ (by rw [e1']; exact h8) (by rw [e2']; exact h9) f1
    · exact absurd (Int32.le_refl _) c33
  | cons t us ih =>
    intro i l q jv hdr hil e1 e2 h19 h8 h9 f1
    have hlt : i < us0.length := by
      have := congrArg List.length hdr
      rw [List.length_drop] at this
      simp only [List.length_cons] at this
      omega
    have hti : us0[i]? = some t := by
      have : (us0.drop i)[0]? = some t := by rw [hdr]; rfl
      rw [List.getElem?_drop, Nat.add_zero] at this
      exact this
    have hdr' : us0.drop (i + 1) = us := by
      rw [← List.tail_drop, hdr]
      rfl
    have hEt := hE t (List.mem_of_getElem? hti)
    have hu : uM jv bv us0 := ⟨h19, h6, hpl⟩
    have elk : lkN (t :: us) k = if fI t.2.2.2 &&& fB (nI k) = fB (nI k) then (match t.2.2.2 k with | some _ => (1, 0) | none => ((lkN us k).1 + 1, (lkN us k).2)) else ((lkN us k).1, (lkN us k).2 + 1) := rfl
    rw [elk] at e1 e2
    have G : frI jv (upd jv 8 (nI (l + 1))) [8] := frI_up (frI_rfl _ _) (by decide)
    have k30 : ∀ (jv1 : Nat → Int32) (x2 : Int32), ¬ x2 = 0 → jv1 8 = nI lA → jv1 9 = nI pA0 → jv1 19 = nI us0.length → frI jv0 jv1 [8, 9] → pz Lx xs (d + 4) rt_134 (some .int) Q 30 [some (.ref 54), some (.int (nI k)), some (.int x2), some (.int (nI (i + 1)))] [] (wX rm iv av (wM rm jv1 bv)) := by
      intro jv1 x2 hx2 j8 j9 j19 g1
      refine pz_iln (i := 30) rfl rfl ?_
      refine pz_aln (i := 31) rfl rfl ?_
      refine pz_get (i := 32) rfl (gf_54_36 ..) ?_
      rw [j19]
      refine pz_ii_ge (i := 33) rfl (fun c33 => ?_) (fun c33 => ?_)
      · exact hQ jv1 _ _ j8 j9 g1
      · refine pz_iln (i := 34) rfl rfl ?_
        refine pz_if_ne (i := 35) rfl (fun c35 => ?_) (fun c35 => ?_)
        · exact hQ jv1 _ _ j8 j9 g1
        · exact absurd c35 hx2
    have k56 : fI t.2.2.2 &&& fB (nI k) = fB (nI k) → ∀ z : Int32, ((z = 0 ∧ t.2.2.2 k = none) ∨ (0 < z ∧ (t.2.2.2 k).isSome = true)) → pz Lx xs (d + 4) rt_134 (some .int) Q 56 [some (.ref 54), some (.int (nI k)), some (.int 0), some (.int (nI i))] [.int z] (wX rm iv av (wM rm (upd jv 8 (nI (l + 1))) bv)) := by
      intro hc z hz
      rw [if_pos hc] at e1 e2
      refine pz_if_le (i := 56) rfl (fun c56 => ?_) (fun c56 => ?_)
      · refine pz_ic (i := 59) rfl ?_
        refine pz_isn (i := 60) rfl ⟨rfl, Nat.le_of_ble_eq_true rfl⟩ rfl ?_
        refine pz_go (i := 61) rfl ?_
        refine pz_inc (i := 68) rfl rfl rfl rfl ?_
        rw [show nI i + 1 = nI (i + 1) from nI_add i 1]
        refine pz_go (i := 69) rfl ?_
        first
          | (have hn : t.2.2.2 k = none := by
               rcases hz with w | w
               · exact w.2
               · exact absurd w.1 (Int32.not_lt.mpr c56)
             rw [hn] at e1 e2
             exact ih (i + 1) (l + 1) q _ hdr' (by omega) (by rw [e1]; show l + ((lkN us k).1 + 1) = _; omega) e2 ((ui_n (by decide)).trans h19) (ui_s _ _ _) ((ui_n (by decide)).trans h9) (frI_tr f1 G (by decide) (by decide)))
          | (have hn : (t.2.2.2 k).isSome = true := by
               rcases hz with w | w
               · exact absurd (show z ≤ 0 by rw [w.1]; exact Int32.le_refl _) c56
               · exact w.2
             obtain ⟨y, hy⟩ := Option.isSome_iff_exists.mp hn
             rw [hy] at e1 e2
             have e1' : lA = l + 1 := e1
             have e2' : pA0 = q := e2
             exact k30 _ _ (by decide) (by rw [e1']; exact ui_s _ _ _) (by rw [e2']; exact (ui_n (by decide)).trans h9) ((ui_n (by decide)).trans h19) (frI_tr f1 G (by decide) (by decide)))
      · refine pz_ic (i := 57) rfl ?_
        refine pz_go (i := 58) rfl ?_
        refine pz_isn (i := 60) rfl ⟨rfl, Nat.le_of_ble_eq_true rfl⟩ rfl ?_
        refine pz_go (i := 61) rfl ?_
        refine pz_inc (i := 68) rfl rfl rfl rfl ?_
        rw [show nI i + 1 = nI (i + 1) from nI_add i 1]
        refine pz_go (i := 69) rfl ?_
        first
          | (have hn : t.2.2.2 k = none := by
               rcases hz with w | w
               · exact w.2
               · exact absurd w.1 (Int32.not_lt.mpr c56)
             rw [hn] at e1 e2
             exact ih (i + 1) (l + 1) q _ hdr' (by omega) (by rw [e1]; show l + ((lkN us k).1 + 1) = _; omega) e2 ((ui_n (by decide)).trans h19) (ui_s _ _ _) ((ui_n (by decide)).trans h9) (frI_tr f1 G (by decide) (by decide)))
          | (have hn : (t.2.2.2 k).isSome = true := by
               rcases hz with w | w
               · exact absurd (show z ≤ 0 by rw [w.1]; exact Int32.le_refl _) c56
               · exact w.2
             obtain ⟨y, hy⟩ := Option.isSome_iff_exists.mp hn
             rw [hy] at e1 e2
             have e1' : lA = l + 1 := e1
             have e2' : pA0 = q := e2
             exact k30 _ _ (by decide) (by rw [e1']; exact ui_s _ _ _) (by rw [e2']; exact (ui_n (by decide)).trans h9) ((ui_n (by decide)).trans h19) (frI_tr f1 G (by decide) (by decide)))
    refine pz_iln (i := 30) rfl rfl ?_
    refine pz_aln (i := 31) rfl rfl ?_
    refine pz_get (i := 32) rfl (gf_54_36 ..) ?_
    rw [h19]
    refine pz_ii_ge (i := 33) rfl (fun c33 => ?_) (fun c33 => ?_)
    · exact absurd (le_ofI c33) (by omega)
    · refine pz_iln (i := 34) rfl rfl ?_
      refine pz_if_ne (i := 35) rfl (fun c35 => ?_) (fun c35 => ?_)
      · exact absurd rfl c35
      · refine pz_aln (i := 36) rfl rfl ?_
        refine pz_iln (i := 37) rfl rfl ?_
        refine pz_bi (i := 38) rfl ?_
        refine pz_cI2 (i := 39) rfl (gc_54 ..) rfl (Nat.le_of_ble_eq_true rfl) rfl ?_
        refine sm_tableFour hr hg hu hti hEt.1 (q := 8) (by decide) ?_
        rw [hEt.2.2.2.2.2.2.2.1]
        refine ⟨_, rfl, ?_⟩
        refine pz_iln (i := 40) rfl rfl ?_
        refine pz_sI1 (i := 41) rfl (by decide) (Nat.le_of_ble_eq_true rfl) rfl ?_
        refine sm_bitsOf hk ?_
        refine ⟨_, rfl, ?_⟩
        refine pz_and (i := 42) rfl ?_
        refine pz_iln (i := 43) rfl rfl ?_
        refine pz_sI1 (i := 44) rfl (by decide) (Nat.le_of_ble_eq_true rfl) rfl ?_
        refine sm_bitsOf hk ?_
        refine ⟨_, rfl, ?_⟩
        refine pz_ii_ne (i := 45) rfl (fun c45 => ?_) (fun c45 => ?_)
        · refine pz_aln (i := 62) rfl rfl ?_
          refine pz_dup (i := 63) rfl rfl ?_
          refine pz_get (i := 64) rfl (gf_54_21 ..) ?_
          rw [h9]
          refine pz_ic (i := 65) rfl ?_
          refine pz_add (i := 66) rfl ?_
          rw [show nI q + 1 = nI (q + 1) from nI_add _ 1]
          refine pz_put (i := 67) rfl (pf_54_21 ..) ⟨rfl, rfl⟩ ?_
          refine pz_inc (i := 68) rfl rfl rfl rfl ?_
          rw [show nI i + 1 = nI (i + 1) from nI_add i 1]
          refine pz_go (i := 69) rfl ?_
          rw [if_neg c45] at e1 e2
          exact ih (i + 1) l (q + 1) _ hdr' (by omega) e1 (by rw [e2]; show q + ((lkN us k).2 + 1) = _; omega) ((ui_n (by decide)).trans h19) ((ui_n (by decide)).trans h8) (ui_s _ _ _) (frI_tr f1 (frI_up (frI_rfl _ [9]) (by decide)) (by decide) (by decide))
        · refine pz_aln (i := 46) rfl rfl ?_
          refine pz_dup (i := 47) rfl rfl ?_
          refine pz_get (i := 48) rfl (gf_54_20 ..) ?_
          rw [h8]
          refine pz_ic (i := 49) rfl ?_
          refine pz_add (i := 50) rfl ?_
          rw [show nI l + 1 = nI (l + 1) from nI_add _ 1]
          refine pz_put (i := 51) rfl (pf_54_20 ..) ⟨rfl, rfl⟩ ?_
          refine pz_aln (i := 52) rfl rfl ?_
          refine pz_iln (i := 53) rfl rfl ?_
          refine pz_iln (i := 54) rfl rfl ?_
          refine pz_cI2 (i := 55) rfl (gc_54 ..) rfl (Nat.le_of_ble_eq_true rfl) rfl ?_
          refine sm_placeIn hr hg (jv := upd jv 8 (nI (l + 1))) (us := us0) ⟨(ui_n (by decide)).trans h19, h6, hpl⟩ hti hEt.1 hEt hk (fun hz => ⟨_, rfl, k56 c45 0 (Or.inl ⟨rfl, hz⟩)⟩) (fun x hx hxk => ⟨_, rfl, k56 c45 _ (Or.inr ⟨?_, ?_⟩)⟩)
          · exact (nI_ltI (a := 0) (by decide) (by have := kS_len t.2.2.2; omega)).mpr (by omega)
          · have := (ksA_mem hx).2
            rw [hxk] at this
            exact this
set_option maxRecDepth 20000 in
theorem lq_gc (hr : 0 < rm ∧ rm ≤ 4096) {x1 x2 : Int32} {q : Nat} {val : List Nat} (hq : q < 2 ^ 30) (hlen : val.length ≤ 64) {bv0 : Nat → Nat → Int32} (hg : geo rm bv0) (h23 : jv 23 = nI q) (h7 : jv 7 = nI val.length) (hv : ∀ i, i < val.length → bN (bv0 2) ((q + 12 + i) % rm) = val.getD i 0) (hQ : ∀ bv', frA bv0 bv' [10] → (∀ i, i < val.length → bv' 10 i = lB val i) → pz Lx xs (d + 2) rt_134 (some .int) Q 107 [some (.ref 54), some (.int x1), some (.int x2), some (.int (nI val.length))] [] (wX rm iv av (wM rm jv bv'))) : ∀ (m k : Nat) (bv : Nat → Nat → Int32), k + m = val.length → frA bv0 bv [10] → (∀ i, i < k → bv 10 i = lB val i) → pz Lx xs (d + 2) rt_134 (some .int) Q 87 [some (.ref 54), some (.int x1), some (.int x2), some (.int (nI k))] [] (wX rm iv av (wM rm jv bv))
  | 0, k, bv, hk, f, h1 => by
    obtain rfl : k = val.length := by omega
    refine pz_iln (i := 87) rfl rfl ?_
    refine pz_aln (i := 88) rfl rfl ?_
    refine pz_get (i := 89) rfl (gf_54_19 ..) ?_
    rw [h7]
    refine pz_ii_ge (i := 90) rfl (fun c90 => ?_) (fun c90 => ?_)
    · exact hQ bv f h1
    · exact absurd (Int32.le_refl _) c90
  | m + 1, k, bv, hk, f, h1 => by
    have hk1 : k < val.length := by omega
    refine pz_iln (i := 87) rfl rfl ?_
    refine pz_aln (i := 88) rfl rfl ?_
    refine pz_get (i := 89) rfl (gf_54_19 ..) ?_
    rw [h7]
    refine pz_ii_ge (i := 90) rfl (fun c90 => ?_) (fun c90 => ?_)
    · exact absurd (le_ofI c90) (by omega)
    · refine pz_aln (i := 91) rfl rfl ?_
      refine pz_get (i := 92) rfl (gf_54_18 ..) ?_
      refine pz_iln (i := 93) rfl rfl ?_
      refine pz_aln (i := 94) rfl rfl ?_
      refine pz_ic (i := 95) rfl ?_
      refine pz_aln (i := 96) rfl rfl ?_
      refine pz_get (i := 97) rfl (gf_54_48 ..) ?_
      rw [h23]
      refine pz_bi (i := 98) rfl ?_
      refine pz_add (i := 99) rfl ?_
      rw [show nI q + 12 = nI (q + 12) from nI_add q 12]
      refine pz_iln (i := 100) rfl rfl ?_
      refine pz_add (i := 101) rfl ?_
      rw [nI_add]
      refine pz_cI2 (i := 102) rfl (gc_54 ..) rfl (Nat.le_of_ble_eq_true rfl) rfl ?_
      refine sm_byteAt hr (geo_fr hg f (by decide)) (a := 0) (by decide) (by omega) ?_
      rw [show plM rm 0 (q + 12 + k) = (q + 12 + k) % rm from Nat.zero_add _, bN_and, f 2 (by decide), hv k hk1]
      refine ⟨_, rfl, ?_⟩
      refine pz_i2b (i := 103) rfl ?_
      rw [show (nI (val.getD k 0)).toInt8.toInt32 = lB val k from rfl]
      refine pz_bas (i := 104) rfl (ga_65 ..) rfl (in_ofI (by omega)) (pa_65 ..) ?_
      rw [cl_ofI (a := k)]
      refine pz_inc (i := 105) rfl rfl rfl rfl ?_
      rw [show nI k + 1 = nI (k + 1) from nI_add k 1]
      refine pz_go (i := 106) rfl ?_
      refine lq_gc hr hq hlen hg h23 h7 hv hQ m (k + 1) _ (by omega) (frA_tr f (frA_up (frA_rfl _ [10]) (by decide)) (by decide) (by decide)) (fun j hj => ?_)
      rw [ua_s]
      by_cases e : j = k
      · subst e
        rw [ui_s]
        exact lB_bt val j
      · rw [ui_n e]
        exact h1 j (by omega)
set_option maxRecDepth 20000 in
theorem sm_get (hr : 512 ≤ rm ∧ rm ≤ 4096) {a : aS} {key : Int32} (hx : mS rm jv bv a) (hI : wB rm a) (hE : wE rm a) (hQ : ∀ jv' bv', mS rm jv' bv' (aGet rm key a).2 → Q (some (.int (aGet rm key a).1)) (wX rm iv av (wM rm jv' bv'))) : rx_R Lx xs (d + 8) 134 [.ref 54, .int key] (wX rm iv av (wM rm jv bv)) Q := by
  refine pz_en (t := rt_134) ⟨Nat.le_of_ble_eq_true rfl, rfl⟩ rfl rfl ?_
  unfold aGet at hQ
  obtain ⟨hd, hT, hG, hV⟩ := id hx
  have h5 : jv 5 = bB (dwn a) := hd.2.2.2.2.2.2.2.2.2.1
  have hr' : 0 < rm ∧ rm ≤ 4096 := ⟨by omega, hr.2⟩
  have h2 : bv 2 = cu rm a.1.1 := hd.1
  refine pz_aln (i := 0) rfl rfl ?_
  refine pz_get (i := 1) rfl (gf_54_15 ..) ?_
  rw [h5]
  refine pz_if_eq (i := 2) rfl (fun c2 => ?_) (fun c2 => ?_)
  · have hl := bB_f c2
    have hal : a.1.1.2.2.2.2.2 = false := hl
    rw [if_neg (show ¬ dwn a = true by rw [hl]; decide)] at hQ
    have hVl := hV hl
    refine pz_aln (i := 5) rfl rfl ?_
    refine pz_ic (i := 6) rfl ?_
    refine pz_put (i := 7) rfl (pf_54_19 ..) ⟨rfl, rfl⟩ ?_
    refine pz_aln (i := 8) rfl rfl ?_
    refine pz_ic (i := 9) rfl ?_
    refine pz_put (i := 10) rfl (pf_54_20 ..) ⟨rfl, rfl⟩ ?_
    refine pz_aln (i := 11) rfl rfl ?_
    refine pz_ic (i := 12) rfl ?_
    refine pz_put (i := 13) rfl (pf_54_21 ..) ⟨rfl, rfl⟩ ?_
    have g1 : frI jv (upd (upd (upd jv 7 0) 8 0) 9 0) [7, 8, 9] := frI_up (frI_up (frI_up (frI_rfl _ _) (by decide)) (by decide)) (by decide)
    have j7 : (upd (upd (upd jv 7 0) 8 0) 9 0) 7 = nI 0 := (ui_n (by decide)).trans ((ui_n (by decide)).trans (ui_s _ _ _))
    have j8 : (upd (upd (upd jv 7 0) 8 0) 9 0) 8 = nI 0 := (ui_n (by decide)).trans (ui_s _ _ _)
    have j9 : (upd (upd (upd jv 7 0) 8 0) 9 0) 9 = nI 0 := ui_s _ _ _
    refine pz_iln (i := 14) rfl rfl ?_
    refine pz_sI1 (i := 15) rfl (by decide) (Nat.le_of_ble_eq_true rfl) rfl ?_
    refine sm_isKey ?_
    refine ⟨_, rfl, ?_⟩
    refine pz_if_ne (i := 16) rfl (fun c16 => ?_) (fun c16 => ?_)
    · have hk1 := bB_t c16
      rw [if_neg (by rw [hk1]; decide)] at hQ
      obtain ⟨k, hk, rfl⟩ := kx_nat hk1
      rw [cl_ofI (a := k)] at hQ
      have hck := (hI hl [] (Nat.zero_le _) (fun x hx => (by cases hx))).1
      have htE : ∀ t ∈ a.1.2.1.1, tE rm (bv 2) t := fun t ht => by rw [h2]; exact hck.1 t ht
      have h0 := eM_0 hVl.2.1 hk
      have hlk := lkN_le a.1.2.1.1 k
      have h6 := hVl.1.2.1
      have k70 : ∀ (jv1 : Nat → Int32) (x2 x3 : Int32), jv1 7 = nI 0 → jv1 8 = nI (lkA a.1.2.1 k).1 → jv1 9 = nI (lkA a.1.2.1 k).2 → frI jv jv1 [7, 8, 9] → pz Lx xs (d + 7) rt_134 (some .int) Q 70 [some (.ref 54), some (.int (nI k)), some (.int x2), some (.int x3)] [] (wX rm iv av (wM rm jv1 bv)) := by
        intro jv1 x2 x3 q7 q8 q9 f1
        refine pz_aln (i := 70) rfl rfl ?_
        refine pz_iln (i := 71) rfl rfl ?_
        refine pz_cI1 (i := 72) rfl (gc_54 ..) rfl (Nat.le_of_ble_eq_true rfl) rfl ?_
        refine sm_isThere hr' (dM_geo hd) (us := a.1.2.1.1) (m := a.1.2.1.2.1) (n := a.1.2.1.2.2) hk htE (uM_fr hVl.1 f1 (frA_rfl _ []) (by decide) (by decide)) (eM_ext hVl.2.1 (f1 20 (by decide)) rfl rfl rfl) (fun jv2 hw f2 => ?_)
        have F2 : frI jv jv2 [7, 8, 9, 21, 22, 23, 24] := frI_tr f1 f2 (by decide) (by decide)
        refine ⟨_, rfl, ?_⟩
        refine pz_if_ne (i := 73) rfl (fun c73 => ?_) (fun c73 => ?_)
        · obtain ⟨e, he, h1⟩ := thr_ex (V := a.1.2.1) (bB_t c73)
          rw [he] at hQ
          simp only [if_pos h1] at hQ
          obtain ⟨rc, hrc, hro, _, _, _, _⟩ := hE hl k e he h1
          have hlen : (vlD rm (cu rm a.1.1) e.2.2).length ≤ 64 := by
            rw [vlD_len, rcA_len hrc]
            exact hro.2.2.2.2.1
          have hq30 := (ent_ok hVl.2.1.1 (fun t ht => (htE t ht).2.2.2.1) he).2.2.2
          have hw1 := hw e he h1
          refine pz_aln (i := 76) rfl rfl ?_
          refine pz_aln (i := 77) rfl rfl ?_
          refine pz_ic (i := 78) rfl ?_
          refine pz_aln (i := 79) rfl rfl ?_
          refine pz_get (i := 80) rfl (gf_54_48 ..) ?_
          rw [hw1]
          refine pz_ic (i := 81) rfl ?_
          refine pz_add (i := 82) rfl ?_
          rw [show nI e.2.2 + 2 = nI (e.2.2 + 2) from nI_add _ 2]
          refine pz_cI2 (i := 83) rfl (gc_54 ..) rfl (Nat.le_of_ble_eq_true rfl) rfl ?_
          refine sm_byteAt hr' (dM_geo hd) (a := 0) (by decide) (by omega) ?_
          rw [show plM rm 0 (e.2.2 + 2) = (e.2.2 + 2) % rm from Nat.zero_add _, bN_and, h2, ← vlD_len]
          refine ⟨_, rfl, ?_⟩
          refine pz_put (i := 84) rfl (pf_54_19 ..) ⟨rfl, rfl⟩ ?_
          have F3 : frI jv (upd jv2 7 (nI (vlD rm (cu rm a.1.1) e.2.2).length)) [7, 8, 9, 21, 22, 23, 24] := frI_up F2 (by decide)
          refine pz_ic (i := 85) rfl ?_
          refine pz_isn (i := 86) rfl ⟨rfl, Nat.le_of_ble_eq_true rfl⟩ rfl ?_
          refine lq_gc hr' (q := e.2.2) (val := vlD rm (cu rm a.1.1) e.2.2) hq30 hlen (dM_geo hd) ((ui_n (by decide)).trans hw1) (ui_s _ _ _) (fun i hi => by rw [vlD_len] at hi; rw [h2, vlD_get hi]) (fun bv3 f3 v3 => ?_) (vlD rm (cu rm a.1.1) e.2.2).length 0 bv (Nat.zero_add _) (frA_rfl _ _) (fun i hi => absurd hi (Nat.not_lt_zero i))
          refine pz_aln (i := 107) rfl rfl ?_
          refine pz_get (i := 108) rfl (gf_54_19 ..) ?_
          rw [ui_s]
          refine pz_ir (i := 109) rfl rfl rfl ?_
          refine hQ _ bv3 ⟨dM_fr hd F3 f3 (by decide) (by decide), tM_fr hT F3 f3 (by decide) (by decide), ⟨ui_s _ _ _, hlen, vlD_by _ _ _, v3, ?_, ?_⟩, fun _ => vM_fr hVl F3 f3 (by decide) (by decide)⟩
          · rw [ui_n (by decide), f2 8 (by decide)]
            exact q8
          · rw [ui_n (by decide), f2 9 (by decide)]
            exact q9
        · refine pz_ic (i := 74) rfl ?_
          refine pz_ir (i := 75) rfl rfl rfl ?_
          have hnt := bB_f c73
          have hG2 : gM jv2 bv ([], lkA a.1.2.1 k) := ⟨(f2 7 (by decide)).trans q7, Nat.zero_le _, fun x hx => (by cases hx), fun k hk => absurd hk (Nat.not_lt_zero k), (f2 8 (by decide)).trans q8, (f2 9 (by decide)).trans q9⟩
          cases he : ent a.1.2.1.2.1 a.1.2.1.1 k with
          | none =>
            rw [he] at hQ
            exact hQ jv2 bv ⟨dM_fr hd F2 (frA_rfl _ []) (by decide) (by decide), tM_fr hT F2 (frA_rfl _ []) (by decide) (by decide), hG2, fun _ => vM_fr hVl F2 (frA_rfl _ []) (by decide) (by decide)⟩
          | some e =>
            rw [he] at hQ
            have hne : ¬ e.1 = 1 := fun z => by
              have h9 : thr a.1.2.1 k = true := by
                unfold thr
                rw [he]
                exact decide_eq_true z
              rw [show thr (a.1.2.1.1, a.1.2.1.2.1, a.1.2.1.2.2) k = thr a.1.2.1 k from rfl, h9] at hnt
              cases hnt
            simp only [if_neg hne] at hQ
            exact hQ jv2 bv ⟨dM_fr hd F2 (frA_rfl _ []) (by decide) (by decide), tM_fr hT F2 (frA_rfl _ []) (by decide) (by decide), hG2, fun _ => vM_fr hVl F2 (frA_rfl _ []) (by decide) (by decide)⟩
      have kF : (a.1.2.1.2.1 k).isSome = true → pz Lx xs (d + 7) rt_134 (some .int) Q 30 [some (.ref 54), some (.int (nI k)), some (.int 1), some (.int (nI 0))] [] (wX rm iv av (wM rm (upd (upd (upd jv 7 0) 8 0) 9 0) bv)) := by
        intro hsm
        have hlA : lkA a.1.2.1 k = (0, 0) := if_pos hsm
        rw [hlA] at k70
        refine pz_iln (i := 30) rfl rfl ?_
        refine pz_aln (i := 31) rfl rfl ?_
        refine pz_get (i := 32) rfl (gf_54_36 ..) ?_
        rw [g1 19 (by decide), hVl.1.1]
        refine pz_ii_ge (i := 33) rfl (fun c33 => ?_) (fun c33 => ?_)
        · exact k70 _ _ _ j7 j8 j9 g1
        · refine pz_iln (i := 34) rfl rfl ?_
          refine pz_if_ne (i := 35) rfl (fun c35 => ?_) (fun c35 => ?_)
          · exact k70 _ _ _ j7 j8 j9 g1
          · exact absurd c35 (by decide)
      refine pz_aln (i := 19) rfl rfl ?_
      refine pz_get (i := 20) rfl (gf_54_38 ..) ?_
      refine pz_iln (i := 21) rfl rfl ?_
      refine pz_ial (i := 22) rfl (ga_72 ..) (in_ofI hk) ?_
      rw [cl_ofI (a := k)]
      refine pz_if_le (i := 23) rfl (fun c23 => ?_) (fun c23 => ?_)
      · refine pz_ic (i := 26) rfl ?_
        refine pz_isn (i := 27) rfl ⟨rfl, Nat.le_of_ble_eq_true rfl⟩ rfl ?_
        refine pz_ic (i := 28) rfl ?_
        refine pz_isn (i := 29) rfl ⟨rfl, Nat.le_of_ble_eq_true rfl⟩ rfl ?_
        by_cases hsm : (a.1.2.1.2.1 k).isSome = true
        · first | exact absurd (h0.mpr hsm) (Int32.not_lt.mpr c23) | exact kF hsm
        · have hlA : lkA a.1.2.1 k = lkN a.1.2.1.1 k := if_neg hsm
          have hmn : a.1.2.1.2.1 k = none := Option.not_isSome_iff_eq_none.mp hsm
          first
            | (exact absurd (h0.mp (Int32.not_le.mp c23)) hsm)
            | (rw [hlA] at k70
               exact lq_ge hr' (dM_geo hd) hk htE hVl.1.2.2 h6 (lA := (lkN a.1.2.1.1 k).1) (pA0 := (lkN a.1.2.1.1 k).2) ⟨by omega, by omega⟩ (fun jv1 y2 y3 t8 t9 tf => k70 jv1 y2 y3 ((tf 7 (by decide)).trans j7) t8 t9 (frI_tr g1 tf (by decide) (by decide))) a.1.2.1.1 0 0 0 _ rfl (Nat.zero_le _) (Nat.zero_add _).symm (Nat.zero_add _).symm ((g1 19 (by decide)).trans hVl.1.1) j8 j9 (frI_rfl _ _))
      · refine pz_ic (i := 24) rfl ?_
        refine pz_go (i := 25) rfl ?_
        refine pz_isn (i := 27) rfl ⟨rfl, Nat.le_of_ble_eq_true rfl⟩ rfl ?_
        refine pz_ic (i := 28) rfl ?_
        refine pz_isn (i := 29) rfl ⟨rfl, Nat.le_of_ble_eq_true rfl⟩ rfl ?_
        by_cases hsm : (a.1.2.1.2.1 k).isSome = true
        · first | exact absurd (h0.mpr hsm) (Int32.not_lt.mpr c23) | exact kF hsm
        · have hlA : lkA a.1.2.1 k = lkN a.1.2.1.1 k := if_neg hsm
          have hmn : a.1.2.1.2.1 k = none := Option.not_isSome_iff_eq_none.mp hsm
          first
            | (exact absurd (h0.mp (Int32.not_le.mp c23)) hsm)
            | (rw [hlA] at k70
               exact lq_ge hr' (dM_geo hd) hk htE hVl.1.2.2 h6 (lA := (lkN a.1.2.1.1 k).1) (pA0 := (lkN a.1.2.1.1 k).2) ⟨by omega, by omega⟩ (fun jv1 y2 y3 t8 t9 tf => k70 jv1 y2 y3 ((tf 7 (by decide)).trans j7) t8 t9 (frI_tr g1 tf (by decide) (by decide))) a.1.2.1.1 0 0 0 _ rfl (Nat.zero_le _) (Nat.zero_add _).symm (Nat.zero_add _).symm ((g1 19 (by decide)).trans hVl.1.1) j8 j9 (frI_rfl _ _))
    · refine pz_ic (i := 17) rfl ?_
      refine pz_ir (i := 18) rfl rfl rfl ?_
      rw [if_pos (bB_f c16)] at hQ
      exact hQ _ bv ⟨dM_fr hd g1 (frA_rfl _ []) (by decide) (by decide), tM_fr hT g1 (frA_rfl _ []) (by decide) (by decide), ⟨j7, Nat.zero_le _, fun x hx => (by cases hx), fun k hk => absurd hk (Nat.not_lt_zero k), j8, j9⟩, fun _ => vM_fr hVl g1 (frA_rfl _ []) (by decide) (by decide)⟩
  · refine pz_bi (i := 3) rfl ?_
    refine pz_ir (i := 4) rfl rfl rfl ?_
    rw [if_pos (bB_t c2)] at hQ
    exact hQ jv bv hx
end SBE
