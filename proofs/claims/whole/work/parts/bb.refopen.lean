/-! PART BB: the reference: openDisk -/
theorem nI_qN {c : Nat → Int32} {q q' : Nat} : nI (qN c q) = nI (qN c q') ↔ qN c q = qN c q' := by
  have h : ∀ q, qN c q < 4294967296 := fun q => q4_lt (bN_lt _ _) (bN_lt _ _) (bN_lt _ _) (bN_lt _ _)
  constructor
  · intro e
    have e1 : uN (nI (qN c q)) = uN (nI (qN c q')) := by rw [e]
    rw [uN_nI (h q), uN_nI (h q')] at e1
    exact e1
  · intro e
    rw [e]
theorem nI_q0 {c : Nat → Int32} {q : Nat} : nI (qN c q) = 0 ↔ qN c q = 0 := by
  have h : qN c q < 4294967296 := q4_lt (bN_lt _ _) (bN_lt _ _) (bN_lt _ _) (bN_lt _ _)
  constructor
  · intro e
    have e1 : uN (nI (qN c q)) = uN (nI 0) := by rw [e]; rfl
    rw [uN_nI h, uN_nI (by decide)] at e1
    exact e1
  · intro e
    rw [e]
    rfl
theorem kd_127 {kd gg : Nat} (h : kd < 3) (hg : gg = 0 ∨ gg = 128) : nI (kd + gg) &&& 127 = nI kd := by
  have : kd = 0 ∨ kd = 1 ∨ kd = 2 := by omega
  rcases this with e | e | e <;> subst e <;> rcases hg with g | g <;> subst g <;> decide
section SBB
variable {Lx : Nat} {xs : Nat → Int32} {d rm : Nat} {iv : Nat → Int32} {av : Nat → Nat → Int32} {jv : Nat → Int32} {bv : Nat → Nat → Int32} {Q : rQ}
set_option maxRecDepth 20000 in
theorem lq_o1 (hr : 0 < rm ∧ rm ≤ 4096) (hg : geo rm bv) {r : Nat} {bst : Int32} {x3 : Option Value} (hr2 : r < 2) (hQ1 : qN (bv 2) (slC rm r) ≠ 0 → qN (bv 2) (slC rm r) = qN (bv 2) (slC rm r + 60) → (bst < 0 ∨ jv 18 < nI (qN (bv 2) (slC rm r))) → pz Lx xs (d + 3) rt_125 (some .int) Q 7 [some (.ref 54), some (.int (nI r)), some (.int (nI (r + 1))), some (.int (nI (qN (bv 2) (slC rm r)))), none, none, none] [] (wX rm iv av (wM rm (upd jv 18 (nI (qN (bv 2) (slC rm r)))) bv))) (hQ2 : ¬ (qN (bv 2) (slC rm r) ≠ 0 ∧ qN (bv 2) (slC rm r) = qN (bv 2) (slC rm r + 60) ∧ (bst < 0 ∨ jv 18 < nI (qN (bv 2) (slC rm r)))) → pz Lx xs (d + 3) rt_125 (some .int) Q 7 [some (.ref 54), some (.int bst), some (.int (nI (r + 1))), some (.int (nI (qN (bv 2) (slC rm r)))), none, none, none] [] (wX rm iv av (wM rm jv bv))) : pz Lx xs (d + 3) rt_125 (some .int) Q 7 [some (.ref 54), some (.int bst), some (.int (nI r)), x3, none, none, none] [] (wX rm iv av (wM rm jv bv)) := by
  refine pz_iln (i := 7) rfl rfl ?_
  refine pz_ic (i := 8) rfl ?_
  refine pz_ii_ge (i := 9) rfl (fun c9 => ?_) (fun c9 => ?_)
  · exact absurd (le_ofI (a := 2) c9) (by omega)
  · refine pz_aln (i := 10) rfl rfl ?_
    refine pz_ic (i := 11) rfl ?_
    refine pz_bi (i := 12) rfl ?_
    refine pz_iln (i := 13) rfl rfl ?_
    refine pz_mul (i := 14) rfl ?_
    rw [show (64 : Int32) * nI r = nI (64 * r) from pk_mul 64 r]
    refine pz_cI2 (i := 15) rfl (gc_54 ..) rfl (Nat.le_of_ble_eq_true rfl) rfl ?_
    refine sm_four hr hg (a := 2) (by decide) (by omega) ?_
    rw [b4_qN2 (by omega), show rm + 15600 + (64 * r) = slC rm r by unfold slC; omega]
    refine ⟨_, rfl, ?_⟩
    refine pz_isn (i := 16) rfl ⟨rfl, Nat.le_of_ble_eq_true rfl⟩ rfl ?_
    refine pz_iln (i := 17) rfl rfl ?_
    refine pz_if_eq (i := 18) rfl (fun c18 => ?_) (fun c18 => ?_)
    · refine pz_inc (i := 40) rfl rfl rfl rfl ?_
      rw [show nI r + 1 = nI (r + 1) from nI_add r 1]
      refine pz_go (i := 41) rfl ?_
      first
        | (have e1 := nI_qN.mp c28
           have e0 : qN (bv 2) (slC rm r) ≠ 0 := fun z => c18 (nI_q0.mpr z)
           exact hQ1 e0 e1 (Or.inl c30))
        | (have e1 := nI_qN.mp c28
           have e0 : qN (bv 2) (slC rm r) ≠ 0 := fun z => c18 (nI_q0.mpr z)
           exact hQ1 e0 e1 (Or.inr (Int32.not_le.mp c34)))
        | exact hQ2 (fun w => w.2.2.elim c30 (fun w2 => Int32.not_le.mpr w2 c34))
        | exact hQ2 (fun w => c28 (nI_qN.mpr w.2.1))
        | exact hQ2 (fun w => w.1 (nI_q0.mp c18))
    · refine pz_iln (i := 19) rfl rfl ?_
      refine pz_aln (i := 20) rfl rfl ?_
      refine pz_ic (i := 21) rfl ?_
      refine pz_bi (i := 22) rfl ?_
      refine pz_iln (i := 23) rfl rfl ?_
      refine pz_mul (i := 24) rfl ?_
      rw [show (64 : Int32) * nI r = nI (64 * r) from pk_mul 64 r]
      refine pz_bi (i := 25) rfl ?_
      refine pz_add (i := 26) rfl ?_
      rw [show nI (64 * r) + 60 = nI (64 * r + 60) from nI_add _ 60]
      refine pz_cI2 (i := 27) rfl (gc_54 ..) rfl (Nat.le_of_ble_eq_true rfl) rfl ?_
      refine sm_four hr hg (a := 2) (by decide) (by omega) ?_
      rw [b4_qN2 (by omega), show rm + 15600 + (64 * r + 60) = slC rm r + 60 by unfold slC; omega]
      refine ⟨_, rfl, ?_⟩
      refine pz_ii_ne (i := 28) rfl (fun c28 => ?_) (fun c28 => ?_)
      · refine pz_inc (i := 40) rfl rfl rfl rfl ?_
        rw [show nI r + 1 = nI (r + 1) from nI_add r 1]
        refine pz_go (i := 41) rfl ?_
        first
          | (have e1 := nI_qN.mp c28
             have e0 : qN (bv 2) (slC rm r) ≠ 0 := fun z => c18 (nI_q0.mpr z)
             exact hQ1 e0 e1 (Or.inl c30))
          | (have e1 := nI_qN.mp c28
             have e0 : qN (bv 2) (slC rm r) ≠ 0 := fun z => c18 (nI_q0.mpr z)
             exact hQ1 e0 e1 (Or.inr (Int32.not_le.mp c34)))
          | exact hQ2 (fun w => w.2.2.elim c30 (fun w2 => Int32.not_le.mpr w2 c34))
          | exact hQ2 (fun w => c28 (nI_qN.mpr w.2.1))
          | exact hQ2 (fun w => w.1 (nI_q0.mp c18))
      · refine pz_iln (i := 29) rfl rfl ?_
        refine pz_if_lt (i := 30) rfl (fun c30 => ?_) (fun c30 => ?_)
        · refine pz_iln (i := 35) rfl rfl ?_
          refine pz_isn (i := 36) rfl ⟨rfl, Nat.le_of_ble_eq_true rfl⟩ rfl ?_
          refine pz_aln (i := 37) rfl rfl ?_
          refine pz_iln (i := 38) rfl rfl ?_
          refine pz_put (i := 39) rfl (pf_54_34 ..) ⟨rfl, rfl⟩ ?_
          refine pz_inc (i := 40) rfl rfl rfl rfl ?_
          rw [show nI r + 1 = nI (r + 1) from nI_add r 1]
          refine pz_go (i := 41) rfl ?_
          first
            | (have e1 := nI_qN.mp c28
               have e0 : qN (bv 2) (slC rm r) ≠ 0 := fun z => c18 (nI_q0.mpr z)
               exact hQ1 e0 e1 (Or.inl c30))
            | (have e1 := nI_qN.mp c28
               have e0 : qN (bv 2) (slC rm r) ≠ 0 := fun z => c18 (nI_q0.mpr z)
               exact hQ1 e0 e1 (Or.inr (Int32.not_le.mp c34)))
            | exact hQ2 (fun w => w.2.2.elim c30 (fun w2 => Int32.not_le.mpr w2 c34))
            | exact hQ2 (fun w => c28 (nI_qN.mpr w.2.1))
            | exact hQ2 (fun w => w.1 (nI_q0.mp c18))
        · refine pz_iln (i := 31) rfl rfl ?_
          refine pz_aln (i := 32) rfl rfl ?_
          refine pz_get (i := 33) rfl (gf_54_34 ..) ?_
          refine pz_ii_le (i := 34) rfl (fun c34 => ?_) (fun c34 => ?_)
          · refine pz_inc (i := 40) rfl rfl rfl rfl ?_
            rw [show nI r + 1 = nI (r + 1) from nI_add r 1]
            refine pz_go (i := 41) rfl ?_
            first
              | (have e1 := nI_qN.mp c28
                 have e0 : qN (bv 2) (slC rm r) ≠ 0 := fun z => c18 (nI_q0.mpr z)
                 exact hQ1 e0 e1 (Or.inl c30))
              | (have e1 := nI_qN.mp c28
                 have e0 : qN (bv 2) (slC rm r) ≠ 0 := fun z => c18 (nI_q0.mpr z)
                 exact hQ1 e0 e1 (Or.inr (Int32.not_le.mp c34)))
              | exact hQ2 (fun w => w.2.2.elim c30 (fun w2 => Int32.not_le.mpr w2 c34))
              | exact hQ2 (fun w => c28 (nI_qN.mpr w.2.1))
              | exact hQ2 (fun w => w.1 (nI_q0.mp c18))
          · refine pz_iln (i := 35) rfl rfl ?_
            refine pz_isn (i := 36) rfl ⟨rfl, Nat.le_of_ble_eq_true rfl⟩ rfl ?_
            refine pz_aln (i := 37) rfl rfl ?_
            refine pz_iln (i := 38) rfl rfl ?_
            refine pz_put (i := 39) rfl (pf_54_34 ..) ⟨rfl, rfl⟩ ?_
            refine pz_inc (i := 40) rfl rfl rfl rfl ?_
            rw [show nI r + 1 = nI (r + 1) from nI_add r 1]
            refine pz_go (i := 41) rfl ?_
            first
              | (have e1 := nI_qN.mp c28
                 have e0 : qN (bv 2) (slC rm r) ≠ 0 := fun z => c18 (nI_q0.mpr z)
                 exact hQ1 e0 e1 (Or.inl c30))
              | (have e1 := nI_qN.mp c28
                 have e0 : qN (bv 2) (slC rm r) ≠ 0 := fun z => c18 (nI_q0.mpr z)
                 exact hQ1 e0 e1 (Or.inr (Int32.not_le.mp c34)))
              | exact hQ2 (fun w => w.2.2.elim c30 (fun w2 => Int32.not_le.mpr w2 c34))
              | exact hQ2 (fun w => c28 (nI_qN.mpr w.2.1))
              | exact hQ2 (fun w => w.1 (nI_q0.mp c18))
set_option maxRecDepth 20000 in
theorem lq_o7 (hr : 0 < rm ∧ rm ≤ 4096) (hg : geo rm bv) {V : vW} (hI : rtI rm (bv 2) V) (h18 : jv 18 = 0) (hA : V.2.2 1 = 0 → ∀ jv' x3, jv' 18 = nI 0 → frI jv jv' [18] → pz Lx xs (d + 3) rt_125 (some .int) Q 42 [some (.ref 54), some (.int (-1)), some (.int (nI 2)), some (.int x3), none, none, none] [] (wX rm iv av (wM rm jv' bv))) (hB : 0 < V.2.2 1 → ∀ jv' x3, jv' 18 = nI (V.2.2 1) → frI jv jv' [18] → pz Lx xs (d + 3) rt_125 (some .int) Q 42 [some (.ref 54), some (.int (nI (V.2.2 1 % 2))), some (.int (nI 2)), some (.int x3), none, none, none] [] (wX rm iv av (wM rm jv' bv))) : pz Lx xs (d + 3) rt_125 (some .int) Q 7 [some (.ref 54), some (.int (-1)), some (.int (nI 0)), none, none, none, none] [] (wX rm iv av (wM rm jv bv)) := by
  have k9 : ∀ (jv' : Nat → Int32) (b x3 : Int32), pz Lx xs (d + 3) rt_125 (some .int) Q 42 [some (.ref 54), some (.int b), some (.int (nI 2)), some (.int x3), none, none, none] [] (wX rm iv av (wM rm jv' bv)) → pz Lx xs (d + 3) rt_125 (some .int) Q 7 [some (.ref 54), some (.int b), some (.int (nI 2)), some (.int x3), none, none, none] [] (wX rm iv av (wM rm jv' bv)) := by
    intro jv' b x3 h
    refine pz_iln (i := 7) rfl rfl ?_
    refine pz_ic (i := 8) rfl ?_
    refine pz_ii_ge (i := 9) rfl (fun c9 => ?_) (fun c9 => ?_)
    · exact h
    · exact absurd (Int32.le_refl _) c9
  have G : ∀ x, frI jv (upd jv 18 x) [18] := fun x => frI_up (frI_rfl _ _) (by decide)
  obtain ⟨i1, i2, i3, i4⟩ := hI
  have hv30 := i3 1 (by decide) (by decide)
  rcases i4 with ⟨v0, s0, s1, _⟩ | ⟨v0, hat, he, so⟩
  · have none0 : ∀ k, sOld rm (bv 2) k 0 → ¬ (qN (bv 2) (slC rm k) ≠ 0 ∧ qN (bv 2) (slC rm k) = qN (bv 2) (slC rm k + 60)) := fun k hs w => by
      rcases hs with z | z
      · exact w.1 (w.2.trans z)
      · exact absurd (z.2 w.2.symm) (Nat.not_lt_zero _)
    refine lq_o1 hr hg (r := 0) (by decide) (fun a1 a2 _ => absurd ⟨a1, a2⟩ (none0 0 s0)) (fun _ => ?_)
    refine lq_o1 hr hg (r := 1) (by decide) (fun a1 a2 _ => absurd ⟨a1, a2⟩ (none0 1 s1)) (fun _ => ?_)
    exact k9 jv _ _ (hA v0 jv _ h18 (frI_rfl _ _))
  · have ha : qN (bv 2) (slC rm (V.2.2 1 % 2)) = V.2.2 1 := (rt_num (by omega) i3 hat).1
    have hother : qN (bv 2) (slC rm ((V.2.2 1 + 1) % 2)) ≠ 0 → qN (bv 2) (slC rm ((V.2.2 1 + 1) % 2)) = qN (bv 2) (slC rm ((V.2.2 1 + 1) % 2) + 60) → qN (bv 2) (slC rm ((V.2.2 1 + 1) % 2)) < V.2.2 1 := fun w1 w2 => by
      rcases so with z | z
      · exact absurd (w2.trans z) w1
      · exact z.2 w2.symm
    have hpar : V.2.2 1 % 2 = 0 ∨ V.2.2 1 % 2 = 1 := by omega
    rcases hpar with e | e
    · have e2 : (V.2.2 1 + 1) % 2 = 1 := by omega
      rw [e] at ha he
      rw [e2] at hother
      refine lq_o1 hr hg (r := 0) (by decide) (fun a1 a2 _ => ?_) (fun w => absurd ⟨by omega, by rw [ha, he], Or.inl (by decide)⟩ w)
      rw [ha]
      refine lq_o1 hr hg (jv := upd jv 18 (nI (V.2.2 1))) (r := 1) (by decide) (fun a1 a2 a3 => ?_) (fun _ => ?_)
      · have h9 := hother a1 a2
        rcases a3 with w | w
        · exact absurd w (by decide)
        · rw [ui_s] at w
          exact absurd (lt_ofI w) (by omega)
      · have h := hB v0 (upd jv 18 (nI (V.2.2 1))) (nI (qN (bv 2) (slC rm 1))) (ui_s _ _ _) (G _)
        rw [e] at h
        exact k9 _ _ _ h
    · have e2 : (V.2.2 1 + 1) % 2 = 0 := by omega
      rw [e] at ha he
      rw [e2] at hother
      have last : ∀ (jv1 : Nat → Int32) (b : Int32) (x3 : Option Value), frI jv jv1 [18] → (b < 0 ∨ ∃ v, v < V.2.2 1 ∧ jv1 18 = nI v) → pz Lx xs (d + 3) rt_125 (some .int) Q 7 [some (.ref 54), some (.int b), some (.int (nI 1)), x3, none, none, none] [] (wX rm iv av (wM rm jv1 bv)) := by
        intro jv1 b x3 f1 hb
        refine lq_o1 hr hg (jv := jv1) (r := 1) (by decide) (fun a1 a2 a3 => ?_) (fun w => absurd ⟨by omega, by rw [ha, he], ?_⟩ w)
        · rw [ha]
          have h := hB v0 (upd jv1 18 (nI (V.2.2 1))) (nI (V.2.2 1)) (ui_s _ _ _) (frI_tr f1 (frI_up (frI_rfl _ [18]) (by decide)) (by decide) (by decide))
          rw [e] at h
          exact k9 _ _ _ h
        · rcases hb with z | ⟨v, z1, z2⟩
          · exact Or.inl z
          · refine Or.inr ?_
            rw [z2, ha]
            exact (nI_ltI (by omega) (by omega)).mpr z1
      refine lq_o1 hr hg (r := 0) (by decide) (fun a1 a2 _ => ?_) (fun _ => ?_)
      · exact last _ _ _ (G _) (Or.inr ⟨_, hother a1 a2, ui_s _ _ _⟩)
      · exact last jv _ _ (frI_rfl _ _) (Or.inl (by decide))
set_option maxRecDepth 20000 in
theorem lq_op (hr : 0 < rm ∧ rm ≤ 4096) {us : List tB} {x1 : Int32} {k : Nat} {bv0 : Nat → Nat → Int32} (hg : geo rm bv0) (hk : k < 2) (h6 : us.length ≤ 5) (h12 : ∀ t ∈ us, t.1 < 12) (hpl : ∀ i t, us[i]? = some t → bN (bv0 2) (slC rm k + 21 + i) = t.1) (h19 : jv 19 = nI us.length) (hQ : ∀ bv', uM jv bv' us → frA bv0 bv' [15] → pz Lx xs (d + 3) rt_125 (some .int) Q 126 [some (.ref 54), some (.int x1), some (.int (nI (64 * k))), some (.int (nI us.length)), none, none, none] [] (wX rm iv av (wM rm jv bv'))) : ∀ (m i : Nat) (bv : Nat → Nat → Int32), i + m = us.length → frA bv0 bv [15] → (∀ j, j < i → ∀ t, us[j]? = some t → bv 15 j = nI t.1) → pz Lx xs (d + 3) rt_125 (some .int) Q 108 [some (.ref 54), some (.int x1), some (.int (nI (64 * k))), some (.int (nI i)), none, none, none] [] (wX rm iv av (wM rm jv bv))
  | 0, i, bv, hi, f, h1 => by
    obtain rfl : i = us.length := by omega
    refine pz_iln (i := 108) rfl rfl ?_
    refine pz_aln (i := 109) rfl rfl ?_
    refine pz_get (i := 110) rfl (gf_54_36 ..) ?_
    rw [h19]
    refine pz_ii_ge (i := 111) rfl (fun c111 => ?_) (fun c111 => ?_)
    · exact hQ bv ⟨h19, by omega, fun j t ht => h1 j (List.getElem?_eq_some_iff.mp ht).1 t ht⟩ f
    · exact absurd (Int32.le_refl _) c111
  | m + 1, i, bv, hi, f, h1 => by
    have hi1 : i < us.length := by omega
    have ht := List.getElem?_eq_getElem hi1
    have hp := hpl i _ ht
    refine pz_iln (i := 108) rfl rfl ?_
    refine pz_aln (i := 109) rfl rfl ?_
    refine pz_get (i := 110) rfl (gf_54_36 ..) ?_
    rw [h19]
    refine pz_ii_ge (i := 111) rfl (fun c111 => ?_) (fun c111 => ?_)
    · exact absurd (le_ofI c111) (by omega)
    · refine pz_aln (i := 112) rfl rfl ?_
      refine pz_get (i := 113) rfl (gf_54_35 ..) ?_
      refine pz_iln (i := 114) rfl rfl ?_
      refine pz_aln (i := 115) rfl rfl ?_
      refine pz_ic (i := 116) rfl ?_
      refine pz_iln (i := 117) rfl rfl ?_
      refine pz_bi (i := 118) rfl ?_
      refine pz_add (i := 119) rfl ?_
      rw [show nI (64 * k) + 21 = nI (64 * k + 21) from nI_add _ 21]
      refine pz_iln (i := 120) rfl rfl ?_
      refine pz_add (i := 121) rfl ?_
      rw [nI_add]
      refine pz_cI2 (i := 122) rfl (gc_54 ..) rfl (Nat.le_of_ble_eq_true rfl) rfl ?_
      refine sm_byteAt hr (geo_fr hg f (by decide)) (a := 2) (by decide) (by omega) ?_
      rw [pl_2 (by omega), bN_and, f 2 (by decide), show rm + 15600 + (64 * k + 21 + i) = slC rm k + 21 + i by unfold slC; omega, hp]
      refine ⟨_, rfl, ?_⟩
      refine pz_ias (i := 123) rfl (ga_70 ..) (in_ofI (by omega)) (pa_70 ..) ?_
      rw [cl_ofI (a := i)]
      refine pz_inc (i := 124) rfl rfl rfl rfl ?_
      rw [show nI i + 1 = nI (i + 1) from nI_add i 1]
      refine pz_go (i := 125) rfl ?_
      refine lq_op hr hg hk h6 h12 hpl h19 hQ m (i + 1) _ (by omega) (frA_tr f (frA_up (frA_rfl _ [15]) (by decide)) (by decide) (by decide)) (fun j hj t htj => ?_)
      rw [ua_s]
      by_cases e : j = i
      · subst e
        rw [ui_s]
        rw [ht] at htj
        rw [Option.some.inj htj]
      · rw [ui_n e]
        exact h1 j (by omega) t htj
set_option maxRecDepth 20000 in
theorem lq_oz {x1 x2 : Int32} {bv0 : Nat → Nat → Int32} (hQ : ∀ bv', (∀ j, j < 120 → bv' 17 j = 0) → frA bv0 bv' [17] → pz Lx xs d rt_125 (some .int) Q 141 [some (.ref 54), some (.int x1), some (.int x2), some (.int (nI 120)), none, none, none] [] (wX rm iv av (wM rm jv bv'))) : ∀ (m k : Nat) (bv : Nat → Nat → Int32), k + m = 120 → frA bv0 bv [17] → (∀ j, j < k → bv 17 j = 0) → pz Lx xs d rt_125 (some .int) Q 131 [some (.ref 54), some (.int x1), some (.int x2), some (.int (nI k)), none, none, none] [] (wX rm iv av (wM rm jv bv))
  | 0, k, bv, hk, f, h1 => by
    obtain rfl : k = 120 := by omega
    refine pz_iln (i := 131) rfl rfl ?_
    refine pz_bi (i := 132) rfl ?_
    refine pz_ii_ge (i := 133) rfl (fun c133 => ?_) (fun c133 => ?_)
    · exact hQ bv h1 f
    · exact absurd (Int32.le_refl _) c133
  | m + 1, k, bv, hk, f, h1 => by
    have hk1 : k < 120 := by omega
    refine pz_iln (i := 131) rfl rfl ?_
    refine pz_bi (i := 132) rfl ?_
    refine pz_ii_ge (i := 133) rfl (fun c133 => ?_) (fun c133 => ?_)
    · exact absurd (le_ofI (a := 120) c133) (by omega)
    · refine pz_aln (i := 134) rfl rfl ?_
      refine pz_get (i := 135) rfl (gf_54_38 ..) ?_
      refine pz_iln (i := 136) rfl rfl ?_
      refine pz_ic (i := 137) rfl ?_
      refine pz_ias (i := 138) rfl (ga_72 ..) (in_ofI hk1) (pa_72 ..) ?_
      rw [cl_ofI (a := k)]
      refine pz_inc (i := 139) rfl rfl rfl rfl ?_
      rw [show nI k + 1 = nI (k + 1) from nI_add k 1]
      refine pz_go (i := 140) rfl ?_
      refine lq_oz hQ m (k + 1) _ (by omega) (frA_tr f (frA_up (frA_rfl _ [17]) (by decide)) (by decide) (by decide)) (fun j hj => ?_)
      rw [ua_s]
      by_cases e : j = k
      · subst e
        exact ui_s _ _ _
      · rw [ui_n e]
        exact h1 j (by omega)
set_option maxRecDepth 20000 in
theorem lq_oi (hr : 0 < rm ∧ rm ≤ 4096) {x1 x2 : Int32} {p due : Nat} {jv0 : Nat → Int32} {bv0 : Nat → Nat → Int32} (hg : geo rm bv0) (hp : p < 2 ^ 30) (hdu : due < 2 ^ 30) : ∀ (v : List lR) (h n cm : Nat) (m : mP) (jv : Nat → Int32) (bv : Nat → Nat → Int32), p = h + lgZ v → due = n + v.length → cm + v.length < 2 ^ 30 → atL rm (bv0 2) h (lgB n v) → (∀ r ∈ v, rcOK r) → jv 12 = nI h → jv 16 = nI n → eM jv bv m → frI jv0 jv [12, 16, 20] → frA bv0 bv [17, 18, 19] → (∀ jv' bv', jv' 12 = nI p → jv' 16 = nI due → eM jv' bv' (rpM h n m v) → frI jv0 jv' [12, 16, 20] → frA bv0 bv' [17, 18, 19] → pz Lx xs (d + 3) rt_125 (some .int) Q 222 [some (.ref 54), some (.int x1), some (.int x2), some (.int (nI p)), some (.int (nI due)), some (.int (nI (cm + v.length))), some (.int 1)] [] (wX rm iv av (wM rm jv' bv'))) → pz Lx xs (d + 3) rt_125 (some .int) Q 181 [some (.ref 54), some (.int x1), some (.int x2), some (.int (nI p)), some (.int (nI due)), some (.int (nI cm)), some (.int 1)] [] (wX rm iv av (wM rm jv bv)) := by
  intro v
  induction v with
  | nil =>
    intro h n cm m jv bv hph hdn hcm hat hro h12 h16 hm f1 f2 hQ
    have e0 : lgZ ([] : List lR) = 0 := rfl
    have e1 : p = h := by omega
    have e2 : due = n := by rw [hdn]; rfl
    subst e1 e2
    refine pz_aln (i := 181) rfl rfl ?_
    refine pz_get (i := 182) rfl (gf_54_28 ..) ?_
    rw [h12]
    refine pz_iln (i := 183) rfl rfl ?_
    refine pz_ii_ge (i := 184) rfl (fun c184 => ?_) (fun c184 => ?_)
    · exact hQ jv bv h12 h16 hm f1 f2
    · exact absurd (Int32.le_refl _) c184
  | cons r v ih =>
    intro h n cm m jv bv hph hdn hcm hat hro h12 h16 hm f1 f2 hQ
    have eZ : lgZ (r :: v) = rcZ r + lgZ v := rfl
    have eL : (r :: v).length = v.length + 1 := rfl
    have hpos := rcZ_pos r
    have ho := hro r List.mem_cons_self
    have hlen := ho.2.2.2.2.1
    have hkey := ho.2.2.2.1
    have eZr : rcZ r = 12 + r.2.2.2.length := rfl
    have hat' := atL_app.mp (show atL rm (bv0 2) h (rcB r n ++ lgB (n + 1) v) from hat)
    have hrc : rcA rm (bv0 2) h r n := hat'.1
    have hat2 : atL rm (bv0 2) (h + rcZ r) (lgB (n + 1) v) := by
      have := hat'.2
      rw [rcB_len] at this
      exact this
    have h2 : bv 2 = bv0 2 := f2 2 (by decide)
    have hgb := geo_fr hg f2 (by decide)
    refine pz_aln (i := 181) rfl rfl ?_
    refine pz_get (i := 182) rfl (gf_54_28 ..) ?_
    rw [h12]
    refine pz_iln (i := 183) rfl rfl ?_
    refine pz_ii_ge (i := 184) rfl (fun c184 => ?_) (fun c184 => ?_)
    · exact absurd (le_ofI c184) (by omega)
    · refine pz_aln (i := 185) rfl rfl ?_
      refine pz_aln (i := 186) rfl rfl ?_
      refine pz_ic (i := 187) rfl ?_
      refine pz_aln (i := 188) rfl rfl ?_
      refine pz_get (i := 189) rfl (gf_54_28 ..) ?_
      rw [h12]
      refine pz_ic (i := 190) rfl ?_
      refine pz_add (i := 191) rfl ?_
      rw [show nI h + 1 = nI (h + 1) from nI_add _ 1]
      refine pz_cI2 (i := 192) rfl (gc_54 ..) rfl (Nat.le_of_ble_eq_true rfl) rfl ?_
      refine sm_byteAt hr hgb (a := 0) (by decide) (by omega) ?_
      rw [show plM rm 0 (h + 1) = (h + 1) % rm from Nat.zero_add _, bN_and, h2, rcA_key hrc]
      refine ⟨_, rfl, ?_⟩
      refine pz_aln (i := 193) rfl rfl ?_
      refine pz_ic (i := 194) rfl ?_
      refine pz_aln (i := 195) rfl rfl ?_
      refine pz_get (i := 196) rfl (gf_54_28 ..) ?_
      rw [h12]
      refine pz_cI2 (i := 197) rfl (gc_54 ..) rfl (Nat.le_of_ble_eq_true rfl) rfl ?_
      refine sm_byteAt hr hgb (a := 0) (by decide) (by omega) ?_
      rw [show plM rm 0 h = h % rm from Nat.zero_add _, bN_and, h2, rcA_kind hrc]
      refine ⟨_, rfl, ?_⟩
      refine pz_bi (i := 198) rfl ?_
      refine pz_and (i := 199) rfl ?_
      rw [kd_127 ho.2.1 ho.2.2.1]
      refine pz_aln (i := 200) rfl rfl ?_
      refine pz_get (i := 201) rfl (gf_54_32 ..) ?_
      rw [h16]
      refine pz_aln (i := 202) rfl rfl ?_
      refine pz_get (i := 203) rfl (gf_54_28 ..) ?_
      rw [h12]
      refine pz_cV4 (i := 204) rfl (gc_54 ..) rfl (Nat.le_of_ble_eq_true rfl) rfl ?_
      refine sm_remember hm hkey (x := (r.1, n, h)) ⟨ho.1, ho.2.1, (by show n < 2 ^ 30; omega), (by show h < 2 ^ 30; omega)⟩ (fun jv4 bv4 e4 f4 a4 => ?_)
      refine ⟨rfl, ?_⟩
      refine pz_aln (i := 205) rfl rfl ?_
      refine pz_dup (i := 206) rfl rfl ?_
      refine pz_get (i := 207) rfl (gf_54_28 ..) ?_
      rw [f4 12 (by decide), h12]
      refine pz_aln (i := 208) rfl rfl ?_
      refine pz_aln (i := 209) rfl rfl ?_
      refine pz_get (i := 210) rfl (gf_54_28 ..) ?_
      rw [f4 12 (by decide), h12]
      refine pz_cI1 (i := 211) rfl (gc_54 ..) rfl (Nat.le_of_ble_eq_true rfl) rfl ?_
      refine sm_sizeAt hr (geo_fr hgb a4 (by decide)) (by omega) ?_
      rw [a4 2 (by decide), h2, rcA_len hrc, ← eZr]
      refine ⟨_, rfl, ?_⟩
      refine pz_add (i := 212) rfl ?_
      rw [nI_add]
      refine pz_put (i := 213) rfl (pf_54_28 ..) ⟨rfl, rfl⟩ ?_
      refine pz_aln (i := 214) rfl rfl ?_
      refine pz_dup (i := 215) rfl rfl ?_
      refine pz_get (i := 216) rfl (gf_54_32 ..) ?_
      rw [ui_n (by decide), f4 16 (by decide), h16]
      refine pz_ic (i := 217) rfl ?_
      refine pz_add (i := 218) rfl ?_
      rw [show nI n + 1 = nI (n + 1) from nI_add _ 1]
      refine pz_put (i := 219) rfl (pf_54_32 ..) ⟨rfl, rfl⟩ ?_
      refine pz_inc (i := 220) rfl rfl rfl rfl ?_
      rw [show nI cm + 1 = nI (cm + 1) from nI_add _ 1]
      refine pz_go (i := 221) rfl ?_
      have G : frI jv4 (upd (upd jv4 12 (nI (h + rcZ r))) 16 (nI (n + 1))) [12, 16] := frI_up (frI_up (frI_rfl _ _) (by decide)) (by decide)
      refine ih (h + rcZ r) (n + 1) (cm + 1) (upM m r.2.2.1 (r.1, n, h)) _ bv4 (by omega) (by omega) (by omega) hat2 (fun y hy => hro y (List.mem_cons_of_mem _ hy)) ((ui_n (by decide)).trans (ui_s _ _ _)) (ui_s _ _ _) (eM_ext e4 (G 20 (by decide)) rfl rfl rfl) (frI_tr (frI_tr f1 f4 (S := [12, 16, 20]) (by decide) (by decide)) G (by decide) (by decide)) (frA_tr f2 a4 (by decide) (by decide)) (fun jv5 bv5 q1 q2 q3 q4 q5 => ?_)
      have := hQ jv5 bv5 q1 q2 q3 q4 q5
      rw [eL, show cm + (v.length + 1) = cm + 1 + v.length by omega] at this
      exact this
set_option maxRecDepth 20000 in
theorem lq_ol (hr : 512 ≤ rm ∧ rm ≤ 4096) {x1 x2 : Int32} {tl : Nat} {jv0 : Nat → Int32} {bv0 : Nat → Nat → Int32} (hg : geo rm bv0) (h13 : jv0 13 = nI tl) (htl : tl < 2 ^ 30) : ∀ (l w : List lR) (h n cm : Nat) (m : mP) (jv : Nat → Int32) (bv : Nat → Nat → Int32) (x6 : Option Value), h + lgZ w + lgZ l < 2 ^ 30 - 5000 → n + w.length + l.length < 2 ^ 30 → cm + w.length + l.length < 2 ^ 30 → atL rm (bv0 2) h (lgB n (w ++ l)) → (∀ r ∈ w ++ l, rcOK r) → h + lgZ w + lgZ l + 12 ≤ tl + rm → qL rm (bv0 2) (h + lgZ w + lgZ l + 8) ≠ n + w.length + l.length → jv 12 = nI h → jv 16 = nI n → eM jv bv m → frI jv0 jv [12, 16, 20] → frA bv0 bv [17, 18, 19] → (∀ jv' bv' y3 y4 x6, jv' 12 = nI (h + lgZ (tkn w l)) → jv' 16 = nI (n + (tkn w l).length) → eM jv' bv' (rpM h n m (tkn w l)) → frI jv0 jv' [12, 16, 20] → frA bv0 bv' [17, 18, 19] → pz Lx xs (d + 4) rt_125 (some .int) Q 223 [some (.ref 54), some (.int x1), some (.int x2), some (.int y3), some (.int y4), some (.int (nI (cm + (tkn w l).length))), x6] [] (wX rm iv av (wM rm jv' bv'))) → pz Lx xs (d + 4) rt_125 (some .int) Q 157 [some (.ref 54), some (.int x1), some (.int x2), some (.int (nI (h + lgZ w))), some (.int (nI (n + w.length))), some (.int (nI cm)), x6] [] (wX rm iv av (wM rm jv bv)) := by
  have hr' : 0 < rm ∧ rm ≤ 4096 := ⟨by omega, hr.2⟩
  intro l
  induction l with
  | nil =>
    intro w h n cm m jv bv x6 hb1 hb2 hb3 hat hro hrm hq h12 h16 hm f1 f2 hQ
    have e0 : lgZ ([] : List lR) = 0 := rfl
    have e1 : ([] : List lR).length = 0 := rfl
    have eT : tkn w [] = [] := rfl
    rw [eT] at hQ
    rw [e0, e1] at hq
    have h2 : bv 2 = bv0 2 := f2 2 (by decide)
    have hnr : isR rm (bv 2) (h + lgZ w) (n + w.length) = false := isR_f (by rw [h2]; exact hq)
    refine pz_aln (i := 157) rfl rfl ?_
    refine pz_iln (i := 158) rfl rfl ?_
    refine pz_il (i := 159) rfl rfl ?_
    refine pz_cI2 (i := 160) rfl (gc_54 ..) rfl (Nat.le_of_ble_eq_true rfl) rfl ?_
    refine sm_isRecord hr' (geo_fr hg f2 (by decide)) (tl := tl) (by omega) (by omega) ((f1 13 (by decide)).trans h13) htl hr.1 ?_
    rw [if_neg (fun z => by rw [hnr] at z; cases z.1)]
    refine ⟨_, rfl, ?_⟩
    refine pz_if_eq (i := 161) rfl (fun c161 => ?_) (fun c161 => ?_)
    · exact hQ jv bv _ _ x6 h12 h16 hm f1 f2
    · exact absurd rfl c161
  | cons r l ih =>
    intro w h n cm m jv bv x6 hb1 hb2 hb3 hat hro hrm hq h12 h16 hm f1 f2 hQ
    have eZ : lgZ (r :: l) = rcZ r + lgZ l := rfl
    have eL : (r :: l).length = l.length + 1 := rfl
    have eZr : rcZ r = 12 + r.2.2.2.length := rfl
    have ho := hro r (List.mem_append_right _ List.mem_cons_self)
    have hlen := ho.2.2.2.2.1
    have ewr : w ++ r :: l = (w ++ [r]) ++ l := by rw [List.append_assoc]; rfl
    have h2 : bv 2 = bv0 2 := f2 2 (by decide)
    have hgb := geo_fr hg f2 (by decide)
    have hrc : rcA rm (bv0 2) (h + lgZ w) r (n + w.length) := by
      have hh := hat
      rw [lgB_app, atL_app, lgB_len] at hh
      exact (atL_app.mp hh.2).1
    have hir : isR rm (bv 2) (h + lgZ w) (n + w.length) = true := isR_t (by rw [h2]; exact hrc) ho (by omega)
    have lZ : lgZ (w ++ [r]) = lgZ w + rcZ r := by
      rw [lgZ_app]
      rfl
    have lL : (w ++ [r]).length = w.length + 1 := by rw [List.length_append]; rfl
    have hrb : bN (bv 2) ((h + lgZ w + 2) % rm) = r.2.2.2.length := by rw [h2]; exact rcA_len hrc
    have k171f : ¬ r.2.1 = 0 → pz Lx xs (d + 4) rt_125 (some .int) Q 171 [some (.ref 54), some (.int x1), some (.int x2), some (.int (nI (h + lgZ w))), some (.int (nI (n + w.length))), some (.int (nI cm)), x6] [.int 0] (wX rm iv av (wM rm jv bv)) := by
      intro hf
      have eT : tkn w (r :: l) = tkn (w ++ [r]) l := if_neg hf
      rw [eT] at hQ
      refine pz_is (i := 171) rfl ⟨rfl, Nat.le_of_ble_eq_true rfl⟩ rfl ?_
      refine pz_iln (i := 172) rfl rfl ?_
      refine pz_aln (i := 173) rfl rfl ?_
      refine pz_iln (i := 174) rfl rfl ?_
      refine pz_cI1 (i := 175) rfl (gc_54 ..) rfl (Nat.le_of_ble_eq_true rfl) rfl ?_
      refine sm_sizeAt hr' hgb (by omega) ?_
      rw [hrb, ← eZr]
      refine ⟨_, rfl, ?_⟩
      refine pz_add (i := 176) rfl ?_
      rw [nI_add]
      refine pz_isn (i := 177) rfl ⟨rfl, Nat.le_of_ble_eq_true rfl⟩ rfl ?_
      refine pz_inc (i := 178) rfl rfl rfl rfl ?_
      rw [show nI (n + w.length) + 1 = nI (n + w.length + 1) from nI_add _ 1]
      refine pz_il (i := 179) rfl rfl ?_
      refine pz_if_eq (i := 180) rfl (fun c180 => ?_) (fun c180 => ?_)
      · refine pz_go (i := 222) rfl ?_
        have hi := ih (w ++ [r]) h n cm m jv bv (some (.int 0)) (by omega) (by omega) (by omega) (by rw [← ewr]; exact hat) (by rw [← ewr]; exact hro) (by omega) (by rw [lZ, lL, show h + (lgZ w + rcZ r) + lgZ l + 8 = h + lgZ w + lgZ (r :: l) + 8 by omega]; rw [eL] at hq; omega) h12 h16 hm f1 f2 hQ
        rw [lZ, lL, ← Nat.add_assoc, ← Nat.add_assoc] at hi
        exact hi
      · exact absurd rfl c180
    have k171t : r.2.1 = 0 → pz Lx xs (d + 4) rt_125 (some .int) Q 171 [some (.ref 54), some (.int x1), some (.int x2), some (.int (nI (h + lgZ w))), some (.int (nI (n + w.length))), some (.int (nI cm)), x6] [.int 1] (wX rm iv av (wM rm jv bv)) := by
      intro hf
      have eT : tkn w (r :: l) = (w ++ [r]) ++ tkn [] l := by
        rw [List.append_assoc]
        exact if_pos hf
      have hat1 := hat
      rw [ewr, lgB_app, atL_app, lgB_len] at hat1
      have eZT : lgZ (tkn w (r :: l)) = lgZ w + rcZ r + lgZ (tkn [] l) := by rw [eT, lgZ_app, lZ]
      have eLT : (tkn w (r :: l)).length = w.length + 1 + (tkn [] l).length := by rw [eT, List.length_append, lL]
      have eRT : rpM h n m (tkn w (r :: l)) = rpM (h + (lgZ w + rcZ r)) (n + (w.length + 1)) (rpM h n m (w ++ [r])) (tkn [] l) := by rw [eT, rpM_app, lZ, lL]
      rw [eZT, eLT, eRT] at hQ
      refine pz_is (i := 171) rfl ⟨rfl, Nat.le_of_ble_eq_true rfl⟩ rfl ?_
      refine pz_iln (i := 172) rfl rfl ?_
      refine pz_aln (i := 173) rfl rfl ?_
      refine pz_iln (i := 174) rfl rfl ?_
      refine pz_cI1 (i := 175) rfl (gc_54 ..) rfl (Nat.le_of_ble_eq_true rfl) rfl ?_
      refine sm_sizeAt hr' hgb (by omega) ?_
      rw [hrb, ← eZr]
      refine ⟨_, rfl, ?_⟩
      refine pz_add (i := 176) rfl ?_
      rw [nI_add]
      refine pz_isn (i := 177) rfl ⟨rfl, Nat.le_of_ble_eq_true rfl⟩ rfl ?_
      refine pz_inc (i := 178) rfl rfl rfl rfl ?_
      rw [show nI (n + w.length) + 1 = nI (n + w.length + 1) from nI_add _ 1]
      refine pz_il (i := 179) rfl rfl ?_
      refine pz_if_eq (i := 180) rfl (fun c180 => ?_) (fun c180 => ?_)
      · exact absurd c180 (by decide)
      · refine lq_oi hr' (p := h + lgZ w + rcZ r) (due := n + w.length + 1) hg (by omega) (by omega) (w ++ [r]) h n cm m jv bv (by rw [lZ]; omega) (by rw [lL]; omega) (by rw [lL]; omega) hat1.1 (fun y hy => hro y (by rw [ewr]; exact List.mem_append_left _ hy)) h12 h16 hm f1 f2 (fun jv5 bv5 q1 q2 q3 q4 q5 => ?_)
        refine pz_go (i := 222) rfl ?_
        have hat2 := hat1.2
        rw [lZ, lL] at hat2
        have hi := ih [] (h + (lgZ w + rcZ r)) (n + (w.length + 1)) (cm + (w.length + 1)) (rpM h n m (w ++ [r])) jv5 bv5 (some (.int 1)) (by show h + (lgZ w + rcZ r) + 0 + lgZ l < _; omega) (by show n + (w.length + 1) + 0 + l.length < _; omega) (by show cm + (w.length + 1) + 0 + l.length < _; omega) hat2 (fun y hy => hro y (by rw [ewr]; exact List.mem_append_right _ hy)) (by show h + (lgZ w + rcZ r) + 0 + lgZ l + 12 ≤ _; omega) ?_ (q1.trans (by rw [Nat.add_assoc])) (q2.trans (by rw [Nat.add_assoc])) q3 q4 q5 (fun jv6 bv6 y3 y4 y6 t1 t2 t3 t4 t5 => ?_)
        · rw [lL]
          have e5 : h + (lgZ w + rcZ r) + lgZ [] = h + lgZ w + rcZ r := by
            show h + (lgZ w + rcZ r) + 0 = _
            omega
          have e6 : n + (w.length + 1) + ([] : List lR).length = n + w.length + 1 := by
            show n + (w.length + 1) + 0 = _
            omega
          rw [e5, e6] at hi
          exact hi
        · show qL rm (bv0 2) (h + (lgZ w + rcZ r) + 0 + lgZ l + 8) ≠ n + (w.length + 1) + 0 + l.length
          rw [show h + (lgZ w + rcZ r) + 0 + lgZ l + 8 = h + lgZ w + lgZ (r :: l) + 8 by omega]
          rw [eL] at hq
          omega
        · have := hQ jv6 bv6 y3 y4 y6 (by rw [t1]; congr 1; omega) (by rw [t2]; congr 1; omega) t3 t4 t5
          rw [show cm + (w.length + 1 + (tkn [] l).length) = cm + (w.length + 1) + (tkn [] l).length by omega] at this
          exact this
    refine pz_aln (i := 157) rfl rfl ?_
    refine pz_iln (i := 158) rfl rfl ?_
    refine pz_il (i := 159) rfl rfl ?_
    refine pz_cI2 (i := 160) rfl (gc_54 ..) rfl (Nat.le_of_ble_eq_true rfl) rfl ?_
    refine sm_isRecord hr' hgb (tl := tl) (by omega) (by omega) ((f1 13 (by decide)).trans h13) htl hr.1 ?_
    rw [if_pos ⟨hir, by rw [hrb]; omega⟩]
    refine ⟨_, rfl, ?_⟩
    refine pz_if_eq (i := 161) rfl (fun c161 => ?_) (fun c161 => ?_)
    · exact absurd c161 (by decide)
    · refine pz_aln (i := 162) rfl rfl ?_
      refine pz_ic (i := 163) rfl ?_
      refine pz_iln (i := 164) rfl rfl ?_
      refine pz_cI2 (i := 165) rfl (gc_54 ..) rfl (Nat.le_of_ble_eq_true rfl) rfl ?_
      refine sm_byteAt hr' hgb (a := 0) (by decide) (by omega) ?_
      rw [show plM rm 0 (h + lgZ w) = (h + lgZ w) % rm from Nat.zero_add _, bN_and, h2, rcA_kind hrc]
      refine ⟨_, rfl, ?_⟩
      refine pz_si (i := 166) rfl ?_
      refine pz_ii_ge (i := 167) rfl (fun c167 => ?_) (fun c167 => ?_)
      · refine pz_ic (i := 170) rfl ?_
        first
          | (have hf : ¬ r.2.1 = 0 := by
               have := le_ofI (a := 128) c167 (by decide) (by have := ho.2.1; have := ho.2.2.1; omega)
               have := ho.2.1
               omega
             exact k171f hf)
          | (have hf : r.2.1 = 0 := by
               have := nle_ofI (a := 128) c167 (by decide) (by have := ho.2.1; have := ho.2.2.1; omega)
               have := ho.2.2.1
               omega
             exact k171t hf)
      · refine pz_ic (i := 168) rfl ?_
        refine pz_go (i := 169) rfl ?_
        first
          | (have hf : ¬ r.2.1 = 0 := by
               have := le_ofI (a := 128) c167 (by decide) (by have := ho.2.1; have := ho.2.2.1; omega)
               have := ho.2.1
               omega
             exact k171f hf)
          | (have hf : r.2.1 = 0 := by
               have := nle_ofI (a := 128) c167 (by decide) (by have := ho.2.1; have := ho.2.2.1; omega)
               have := ho.2.2.1
               omega
             exact k171t hf)
end SBB
