/-! PART BF: the reference: next, told, table, entry, cell -/
section SBF
variable {Lx : Nat} {xs : Nat → Int32} {d rm : Nat} {iv : Nat → Int32} {av : Nat → Nat → Int32} {jv : Nat → Int32} {bv : Nat → Nat → Int32} {Q : rQ}
set_option maxRecDepth 20000 in
theorem lq_nx (hr : 0 < rm ∧ rm ≤ 4096) (hg : geo rm bv) {V : vW} {key : Int32} (hE : ∀ t ∈ V.1, tE rm (bv 2) t) {jv0 : Nat → Int32} (hv : vM jv0 bv V) (hQ : ∀ jv' m k, frI jv0 jv' [21, 22, 23, 24] → True → Q (some (.int (nxK V m k))) (wX rm iv av (wM rm jv' bv)) ∨ True) : ∀ (m k : Nat) (jv : Nat → Int32), k + m = 120 → frI jv0 jv [21, 22, 23, 24] → (∀ jv', frI jv0 jv' [21, 22, 23, 24] → Q (some (.int (nxK V m k))) (wX rm iv av (wM rm jv' bv))) → pz Lx xs (d + 7) rt_136 (some .int) Q 11 [some (.ref 54), some (.int key), some (.int (nI k))] [] (wX rm iv av (wM rm jv bv))
  | 0, k, jv, hk, f, hQ' => by
    obtain rfl : k = 120 := by omega
    refine pz_iln (i := 11) rfl rfl ?_
    refine pz_bi (i := 12) rfl ?_
    refine pz_ii_ge (i := 13) rfl (fun c13 => ?_) (fun c13 => ?_)
    · refine pz_ic (i := 22) rfl ?_
      refine pz_ir (i := 23) rfl rfl rfl ?_
      exact hQ' jv f
    · exact absurd (Int32.le_refl _) c13
  | m + 1, k, jv, hk, f, hQ' => by
    have hk1 : k < 120 := by omega
    refine pz_iln (i := 11) rfl rfl ?_
    refine pz_bi (i := 12) rfl ?_
    refine pz_ii_ge (i := 13) rfl (fun c13 => ?_) (fun c13 => ?_)
    · exact absurd (le_ofI (a := 120) c13) (by omega)
    · refine pz_aln (i := 14) rfl rfl ?_
      refine pz_iln (i := 15) rfl rfl ?_
      refine pz_cI1 (i := 16) rfl (gc_54 ..) rfl (Nat.le_of_ble_eq_true rfl) rfl ?_
      refine sm_isThere hr hg (us := V.1) (m := V.2.1) (n := V.2.2) hk1 hE (uM_fr hv.1 f (frA_rfl _ []) (by decide) (by decide)) (eM_ext hv.2.1 (f 20 (by decide)) rfl rfl rfl) (fun jv1 _ f1 => ?_)
      have F1 : frI jv0 jv1 [21, 22, 23, 24] := frI_tr f f1 (by decide) (by decide)
      refine ⟨_, rfl, ?_⟩
      refine pz_if_eq (i := 17) rfl (fun c17 => ?_) (fun c17 => ?_)
      · refine pz_inc (i := 20) rfl rfl rfl rfl ?_
        rw [show nI k + 1 = nI (k + 1) from nI_add k 1]
        refine pz_go (i := 21) rfl ?_
        rw [show nxK V (m + 1) k = nxK V m (k + 1) from if_neg (show ¬ thr V k = true by rw [show thr V k = false from bB_f c17]; decide)] at hQ'
        exact lq_nx hr hg hE hv hQ m (k + 1) jv1 (by omega) F1 hQ'
      · refine pz_iln (i := 18) rfl rfl ?_
        refine pz_ir (i := 19) rfl rfl rfl ?_
        have h := hQ' jv1 F1
        rw [show nxK V (m + 1) k = nI k from if_pos (bB_t c17)] at h
        exact h
set_option maxRecDepth 20000 in
theorem lq_nx9 {key : Int32} (h : 120 ≤ key) (hQ : Q (some (.int (-1))) (wX rm iv av (wM rm jv bv))) : pz Lx xs d rt_136 (some .int) Q 11 [some (.ref 54), some (.int key), some (.int key)] [] (wX rm iv av (wM rm jv bv)) := by
  refine pz_iln (i := 11) rfl rfl ?_
  refine pz_bi (i := 12) rfl ?_
  refine pz_ii_ge (i := 13) rfl (fun c13 => ?_) (fun c13 => ?_)
  · refine pz_ic (i := 22) rfl ?_
    refine pz_ir (i := 23) rfl rfl rfl ?_
    exact hQ
  · exact absurd h c13
set_option maxRecDepth 20000 in
theorem sm_next (hr : 512 ≤ rm ∧ rm ≤ 4096) {a : aS} {key : Int32} (hx : mS rm jv bv a) (hI : wB rm a) (hQ : ∀ jv' bv', mS rm jv' bv' (aNext key a).2 → Q (some (.int (aNext key a).1)) (wX rm iv av (wM rm jv' bv'))) : rx_R Lx xs (d + 8) 136 [.ref 54, .int key] (wX rm iv av (wM rm jv bv)) Q := by
  refine pz_en (t := rt_136) ⟨Nat.le_of_ble_eq_true rfl, rfl⟩ rfl rfl ?_
  unfold aNext at hQ
  obtain ⟨hd, hT, hG, hV⟩ := id hx
  have h5 : jv 5 = bB (dwn a) := hd.2.2.2.2.2.2.2.2.2.1
  have hr' : 0 < rm ∧ rm ≤ 4096 := ⟨by omega, hr.2⟩
  have h2 : bv 2 = cu rm a.1.1 := hd.1
  refine pz_aln (i := 0) rfl rfl ?_
  refine pz_get (i := 1) rfl (gf_54_15 ..) ?_
  rw [h5]
  refine pz_if_eq (i := 2) rfl (fun c2 => ?_) (fun c2 => ?_)
  · have hl := bB_f c2
    have hal : a.1.1.2.2.2.2.2 = false := hl
    rw [if_neg (show ¬ dwn a = true by rw [hl]; decide)] at hQ
    have hVl := hV hl
    refine pz_iln (i := 5) rfl rfl ?_
    refine pz_if_ge (i := 6) rfl (fun c6 => ?_) (fun c6 => ?_)
    · refine pz_iln (i := 9) rfl rfl ?_
      refine pz_isn (i := 10) rfl ⟨rfl, Nat.le_of_ble_eq_true rfl⟩ rfl ?_
      have hck := (hI hl [] (Nat.zero_le _) (fun x hx => (by cases hx))).1
      have htE : ∀ t ∈ a.1.2.1.1, tE rm (bv 2) t := fun t ht => by rw [h2]; exact hck.1 t ht
      have hQ1 := fun (jv' : Nat → Int32) (f1 : frI jv jv' [21, 22, 23, 24]) => hQ jv' bv ⟨dM_fr hd f1 (frA_rfl _ []) (by decide) (by decide), tM_fr hT f1 (frA_rfl _ []) (by decide) (by decide), gM_fr hG f1 (frA_rfl _ []) (by decide) (by decide), fun _ => vM_fr hVl f1 (frA_rfl _ []) (by decide) (by decide)⟩
      first
        | (rw [if_neg (Int32.not_lt.mpr c6)] at hQ1
           by_cases h120 : 120 ≤ key
           · rw [if_pos h120] at hQ1
             exact lq_nx9 h120 (hQ1 jv (frI_rfl _ _))
           · rw [if_neg h120] at hQ1
             obtain ⟨k, hk, rfl⟩ := kx_nat (kx_t (Int32.not_lt.mpr c6) h120)
             rw [cl_ofI (a := k)] at hQ1
             exact lq_nx hr' (dM_geo hd) (V := a.1.2.1) htE hVl (fun _ _ _ _ _ => Or.inr trivial) (120 - k) k jv (by omega) (frI_rfl _ _) hQ1)
        | (rw [if_pos (Int32.not_le.mp c6)] at hQ1
           exact lq_nx hr' (dM_geo hd) (V := a.1.2.1) htE hVl (fun _ _ _ _ _ => Or.inr trivial) 120 0 jv rfl (frI_rfl _ _) hQ1)
    · refine pz_ic (i := 7) rfl ?_
      refine pz_go (i := 8) rfl ?_
      refine pz_isn (i := 10) rfl ⟨rfl, Nat.le_of_ble_eq_true rfl⟩ rfl ?_
      have hck := (hI hl [] (Nat.zero_le _) (fun x hx => (by cases hx))).1
      have htE : ∀ t ∈ a.1.2.1.1, tE rm (bv 2) t := fun t ht => by rw [h2]; exact hck.1 t ht
      have hQ1 := fun (jv' : Nat → Int32) (f1 : frI jv jv' [21, 22, 23, 24]) => hQ jv' bv ⟨dM_fr hd f1 (frA_rfl _ []) (by decide) (by decide), tM_fr hT f1 (frA_rfl _ []) (by decide) (by decide), gM_fr hG f1 (frA_rfl _ []) (by decide) (by decide), fun _ => vM_fr hVl f1 (frA_rfl _ []) (by decide) (by decide)⟩
      first
        | (rw [if_neg (Int32.not_lt.mpr c6)] at hQ1
           by_cases h120 : 120 ≤ key
           · rw [if_pos h120] at hQ1
             exact lq_nx9 h120 (hQ1 jv (frI_rfl _ _))
           · rw [if_neg h120] at hQ1
             obtain ⟨k, hk, rfl⟩ := kx_nat (kx_t (Int32.not_lt.mpr c6) h120)
             rw [cl_ofI (a := k)] at hQ1
             exact lq_nx hr' (dM_geo hd) (V := a.1.2.1) htE hVl (fun _ _ _ _ _ => Or.inr trivial) (120 - k) k jv (by omega) (frI_rfl _ _) hQ1)
        | (rw [if_pos (Int32.not_le.mp c6)] at hQ1
           exact lq_nx hr' (dM_geo hd) (V := a.1.2.1) htE hVl (fun _ _ _ _ _ => Or.inr trivial) 120 0 jv rfl (frI_rfl _ _) hQ1)
  · refine pz_bi (i := 3) rfl ?_
    refine pz_ir (i := 4) rfl rfl rfl ?_
    rw [if_pos (bB_t c2)] at hQ
    exact hQ jv bv hx
set_option maxRecDepth 20000 in
theorem lq_tl (hr : 0 < rm ∧ rm ≤ 4096) (hg : geo rm bv) {V : vW} {w : Nat} (hw : w = 8 ∨ w = 9) (hE : ∀ t ∈ V.1, tE rm (bv 2) t) {jv0 : Nat → Int32} (hv : vM jv0 bv V) (hQ : ∀ jv', frI jv0 jv' [21, 22, 23, 24] → pz Lx xs (d + 7) rt_143 (some .int) Q 55 [some (.ref 54), some (.int (nI w)), some (.int (nI (kyN V 120))), some (.int (nI (byN rm (bv 2) V 120))), some (.int (nI 120))] [] (wX rm iv av (wM rm jv' bv))) : ∀ (m k : Nat) (jv : Nat → Int32), k + m = 120 → frI jv0 jv [21, 22, 23, 24] → pz Lx xs (d + 7) rt_143 (some .int) Q 33 [some (.ref 54), some (.int (nI w)), some (.int (nI (kyN V k))), some (.int (nI (byN rm (bv 2) V k))), some (.int (nI k))] [] (wX rm iv av (wM rm jv bv))
  | 0, k, jv, hk, f => by
    obtain rfl : k = 120 := by omega
    refine pz_il (i := 33) rfl rfl ?_
    refine pz_bi (i := 34) rfl ?_
    refine pz_ii_ge (i := 35) rfl (fun c35 => ?_) (fun c35 => ?_)
    · exact hQ jv f
    · exact absurd (Int32.le_refl _) c35
  | m + 1, k, jv, hk, f => by
    have hk1 : k < 120 := by omega
    have hw4 : nI w / 2 = 4 := by rcases hw with e | e <;> subst e <;> decide
    refine pz_il (i := 33) rfl rfl ?_
    refine pz_bi (i := 34) rfl ?_
    refine pz_ii_ge (i := 35) rfl (fun c35 => ?_) (fun c35 => ?_)
    · exact absurd (le_ofI (a := 120) c35) (by omega)
    · refine pz_iln (i := 36) rfl rfl ?_
      refine pz_ic (i := 37) rfl ?_
      refine pz_div (i := 38) rfl (by decide) ?_
      refine pz_ic (i := 39) rfl ?_
      refine pz_ii_ne (i := 40) rfl (fun c40 => ?_) (fun c40 => ?_)
      · exact absurd hw4 c40
      · refine pz_aln (i := 41) rfl rfl ?_
        refine pz_il (i := 42) rfl rfl ?_
        refine pz_cI1 (i := 43) rfl (gc_54 ..) rfl (Nat.le_of_ble_eq_true rfl) rfl ?_
        refine sm_isThere hr hg (us := V.1) (m := V.2.1) (n := V.2.2) hk1 hE (uM_fr hv.1 f (frA_rfl _ []) (by decide) (by decide)) (eM_ext hv.2.1 (f 20 (by decide)) rfl rfl rfl) (fun jv1 hw1 f1 => ?_)
        have F1 : frI jv0 jv1 [21, 22, 23, 24] := frI_tr f f1 (by decide) (by decide)
        refine ⟨_, rfl, ?_⟩
        refine pz_if_eq (i := 44) rfl (fun c44 => ?_) (fun c44 => ?_)
        · refine pz_inc (i := 53) rfl rfl rfl rfl ?_
          rw [show nI k + 1 = nI (k + 1) from nI_add k 1]
          refine pz_go (i := 54) rfl ?_
          have h := lq_tl hr hg hw hE hv hQ m (k + 1) jv1 (by omega) F1
          first
            | (have hth : ¬ thr V k = true := by rw [show thr V k = false from bB_f c44]; decide
               rw [show kyN V (k + 1) = kyN V k from congrArg (kyN V k + ·) (if_neg hth), byN_n hth] at h
               exact h)
            | (rw [show kyN V (k + 1) = kyN V k + 1 from congrArg (kyN V k + ·) (if_pos hth), byN_s he h1] at h
               exact h)
        · have hth : thr V k = true := bB_t c44
          obtain ⟨e, he, h1⟩ := thr_ex hth
          have h30 := (ent_ok hv.2.1.1 (fun t ht => (hE t ht).2.2.2.1) he).2.2.2
          have hk23 := hw1 e he h1
          refine pz_inc (i := 45) rfl rfl rfl rfl ?_
          rw [show nI (kyN V k) + 1 = nI (kyN V k + 1) from nI_add _ 1]
          refine pz_iln (i := 46) rfl rfl ?_
          refine pz_aln (i := 47) rfl rfl ?_
          refine pz_aln (i := 48) rfl rfl ?_
          refine pz_get (i := 49) rfl (gf_54_48 ..) ?_
          rw [hk23]
          refine pz_cI1 (i := 50) rfl (gc_54 ..) rfl (Nat.le_of_ble_eq_true rfl) rfl ?_
          refine sm_sizeAt hr hg (by omega) ?_
          refine ⟨_, rfl, ?_⟩
          refine pz_add (i := 51) rfl ?_
          rw [nI_add]
          refine pz_isn (i := 52) rfl ⟨rfl, Nat.le_of_ble_eq_true rfl⟩ rfl ?_
          refine pz_inc (i := 53) rfl rfl rfl rfl ?_
          rw [show nI k + 1 = nI (k + 1) from nI_add k 1]
          refine pz_go (i := 54) rfl ?_
          have h := lq_tl hr hg hw hE hv hQ m (k + 1) jv1 (by omega) F1
          first
            | (have hth : ¬ thr V k = true := by rw [show thr V k = false from bB_f c44]; decide
               rw [show kyN V (k + 1) = kyN V k from congrArg (kyN V k + ·) (if_neg hth), byN_n hth] at h
               exact h)
            | (rw [show kyN V (k + 1) = kyN V k + 1 from congrArg (kyN V k + ·) (if_pos hth), byN_s he h1] at h
               exact h)
set_option maxRecDepth 20000 in
theorem sm_told (hr : 512 ≤ rm ∧ rm ≤ 4096) {a : aS} {w : Int32} (hx : mS rm jv bv a) (hI : wB rm a) (hQ : ∀ jv' bv', mS rm jv' bv' (aTold rm w a).2 → Q (some (.int (aTold rm w a).1)) (wX rm iv av (wM rm jv' bv'))) : rx_R Lx xs (d + 8) 143 [.ref 54, .int w] (wX rm iv av (wM rm jv bv)) Q := by
  refine pz_en (t := rt_143) ⟨Nat.le_of_ble_eq_true rfl, rfl⟩ rfl rfl ?_
  unfold aTold at hQ
  obtain ⟨hd, hT, hG, hV⟩ := id hx
  have h5 : jv 5 = bB (dwn a) := hd.2.2.2.2.2.2.2.2.2.1
  have hr' : 0 < rm ∧ rm ≤ 4096 := ⟨by omega, hr.2⟩
  have h2 : bv 2 = cu rm a.1.1 := hd.1
  refine pz_iln (i := 0) rfl rfl ?_
  refine pz_bi (i := 1) rfl ?_
  refine pz_ii_eq (i := 2) rfl (fun c2 => ?_) (fun c2 => ?_)
  · refine pz_iln (i := 6) rfl rfl ?_
    refine pz_bi (i := 7) rfl ?_
    refine pz_ii_ne (i := 8) rfl (fun c8 => ?_) (fun c8 => ?_)
    · exact absurd c2 c8
    · refine pz_aln (i := 9) rfl rfl ?_
      refine pz_get (i := 10) rfl (gf_54_20 ..) ?_
      rw [hG.2.2.2.2.1]
      refine pz_go (i := 11) rfl ?_
      refine pz_ir (i := 14) rfl rfl rfl ?_
      rw [if_pos c2] at hQ
      exact hQ jv bv hx
  · refine pz_iln (i := 3) rfl rfl ?_
    refine pz_bi (i := 4) rfl ?_
    refine pz_ii_ne (i := 5) rfl (fun c5 => ?_) (fun c5 => ?_)
    · refine pz_aln (i := 15) rfl rfl ?_
      refine pz_get (i := 16) rfl (gf_54_15 ..) ?_
      rw [h5]
      refine pz_if_eq (i := 17) rfl (fun c17 => ?_) (fun c17 => ?_)
      · have hl := bB_f c17
        have hlt : ¬ dwn a = true := by rw [hl]; decide
        have hVl := hV hl
        have hck := (hI hl [] (Nat.zero_le _) (fun x hx => (by cases hx))).1
        have htE : ∀ t ∈ a.1.2.1.1, tE rm (bv 2) t := fun t ht => by rw [h2]; exact hck.1 t ht
        refine pz_iln (i := 20) rfl rfl ?_
        refine pz_if_lt (i := 21) rfl (fun c21 => ?_) (fun c21 => ?_)
        · refine pz_ic (i := 25) rfl ?_
          refine pz_ir (i := 26) rfl rfl rfl ?_
          have hno : ∀ k : Nat, k ≤ 14 → ¬ w = nI k := fun k hk z => by
            first
              | (rw [z] at c21
                 exact absurd c21 (nI_pos (by omega)))
              | (rw [z] at c24
                 exact c24 ((nI_leI (b := 14) (by omega) (by decide)).mpr hk))
          rw [if_neg c2, if_neg c5, if_neg hlt, if_neg (show ¬ w = 0 from hno 0 (by decide)), if_neg (show ¬ w = 1 from hno 1 (by decide)), if_neg (show ¬ w = 2 from hno 2 (by decide)), if_neg (show ¬ w = 3 from hno 3 (by decide)), if_neg (show ¬ w = 4 from hno 4 (by decide)), if_neg (show ¬ w = 5 from hno 5 (by decide)), if_neg (show ¬ w = 6 from hno 6 (by decide)), if_neg (show ¬ w = 7 from hno 7 (by decide)), if_neg (show ¬ w = 8 from hno 8 (by decide)), if_neg (show ¬ w = 9 from hno 9 (by decide)), if_neg (show ¬ w = 12 from hno 12 (by decide)), if_neg (show ¬ w = 13 from hno 13 (by decide)), if_neg (show ¬ w = 14 from hno 14 (by decide))] at hQ
          exact hQ jv bv hx
        · refine pz_iln (i := 22) rfl rfl ?_
          refine pz_bi (i := 23) rfl ?_
          refine pz_ii_le (i := 24) rfl (fun c24 => ?_) (fun c24 => ?_)
          · obtain ⟨k, hk, rfl⟩ := nI_of2 (M := 14) (n := 14) (by decide) c21 c24
            have hc : k = 0 ∨ k = 1 ∨ k = 2 ∨ k = 3 ∨ k = 4 ∨ k = 5 ∨ k = 6 ∨ k = 7 ∨ k = 8 ∨ k = 9 ∨ k = 10 ∨ k = 11 ∨ k = 12 ∨ k = 13 ∨ k = 14 := by omega
            rcases hc with rfl | rfl | rfl | rfl | rfl | rfl | rfl | rfl | rfl | rfl | rfl | rfl | rfl | rfl | rfl
            · rw [if_neg (by decide), if_neg (by decide), if_neg hlt, if_pos (by decide)] at hQ
              refine pz_ic (i := 27) rfl ?_
              refine pz_isn (i := 28) rfl ⟨rfl, Nat.le_of_ble_eq_true rfl⟩ rfl ?_
              refine pz_ic (i := 29) rfl ?_
              refine pz_isn (i := 30) rfl ⟨rfl, Nat.le_of_ble_eq_true rfl⟩ rfl ?_
              refine pz_ic (i := 31) rfl ?_
              refine pz_is (i := 32) rfl ⟨rfl, Nat.le_of_ble_eq_true rfl⟩ rfl ?_
              refine pz_il (i := 33) rfl rfl ?_
              refine pz_bi (i := 34) rfl ?_
              refine pz_ii_ge (i := 35) rfl (fun c35 => ?_) (fun c35 => ?_)
              · exact absurd c35 (by decide)
              · refine pz_iln (i := 36) rfl rfl ?_
                refine pz_ic (i := 37) rfl ?_
                refine pz_div (i := 38) rfl (by decide) ?_
                refine pz_ic (i := 39) rfl ?_
                refine pz_ii_ne (i := 40) rfl (fun c40 => ?_) (fun c40 => ?_)
                · refine pz_iln (i := 55) rfl rfl ?_
                  refine pz_tsw (i := 56) rfl (fun h => absurd h (by decide)) (fun _ _ => ?_)
                  show pz Lx xs (d + 7) rt_143 (some .int) Q 57 _ [] _
                  refine pz_aln (i := 57) rfl rfl ?_
                  refine pz_get (i := 58) rfl (gf_54_28 ..) ?_
                  rw [hVl.2.2.2.2.2.2.1]
                  refine pz_ir (i := 59) rfl rfl rfl ?_
                  exact hQ jv bv hx
                · exact absurd c40 (by decide)
            · rw [if_neg (by decide), if_neg (by decide), if_neg hlt, if_neg (by decide), if_pos (by decide)] at hQ
              refine pz_ic (i := 27) rfl ?_
              refine pz_isn (i := 28) rfl ⟨rfl, Nat.le_of_ble_eq_true rfl⟩ rfl ?_
              refine pz_ic (i := 29) rfl ?_
              refine pz_isn (i := 30) rfl ⟨rfl, Nat.le_of_ble_eq_true rfl⟩ rfl ?_
              refine pz_ic (i := 31) rfl ?_
              refine pz_is (i := 32) rfl ⟨rfl, Nat.le_of_ble_eq_true rfl⟩ rfl ?_
              refine pz_il (i := 33) rfl rfl ?_
              refine pz_bi (i := 34) rfl ?_
              refine pz_ii_ge (i := 35) rfl (fun c35 => ?_) (fun c35 => ?_)
              · exact absurd c35 (by decide)
              · refine pz_iln (i := 36) rfl rfl ?_
                refine pz_ic (i := 37) rfl ?_
                refine pz_div (i := 38) rfl (by decide) ?_
                refine pz_ic (i := 39) rfl ?_
                refine pz_ii_ne (i := 40) rfl (fun c40 => ?_) (fun c40 => ?_)
                · refine pz_iln (i := 55) rfl rfl ?_
                  refine pz_tsw (i := 56) rfl (fun h => absurd h (by decide)) (fun _ _ => ?_)
                  show pz Lx xs (d + 7) rt_143 (some .int) Q 60 _ [] _
                  refine pz_aln (i := 60) rfl rfl ?_
                  refine pz_get (i := 61) rfl (gf_54_29 ..) ?_
                  rw [hVl.2.2.2.2.2.1]
                  refine pz_ir (i := 62) rfl rfl rfl ?_
                  exact hQ jv bv hx
                · exact absurd c40 (by decide)
            · rw [if_neg (by decide), if_neg (by decide), if_neg hlt, if_neg (by decide), if_neg (by decide), if_pos (by decide)] at hQ
              refine pz_ic (i := 27) rfl ?_
              refine pz_isn (i := 28) rfl ⟨rfl, Nat.le_of_ble_eq_true rfl⟩ rfl ?_
              refine pz_ic (i := 29) rfl ?_
              refine pz_isn (i := 30) rfl ⟨rfl, Nat.le_of_ble_eq_true rfl⟩ rfl ?_
              refine pz_ic (i := 31) rfl ?_
              refine pz_is (i := 32) rfl ⟨rfl, Nat.le_of_ble_eq_true rfl⟩ rfl ?_
              refine pz_il (i := 33) rfl rfl ?_
              refine pz_bi (i := 34) rfl ?_
              refine pz_ii_ge (i := 35) rfl (fun c35 => ?_) (fun c35 => ?_)
              · exact absurd c35 (by decide)
              · refine pz_iln (i := 36) rfl rfl ?_
                refine pz_ic (i := 37) rfl ?_
                refine pz_div (i := 38) rfl (by decide) ?_
                refine pz_ic (i := 39) rfl ?_
                refine pz_ii_ne (i := 40) rfl (fun c40 => ?_) (fun c40 => ?_)
                · refine pz_iln (i := 55) rfl rfl ?_
                  refine pz_tsw (i := 56) rfl (fun h => absurd h (by decide)) (fun _ _ => ?_)
                  show pz Lx xs (d + 7) rt_143 (some .int) Q 63 _ [] _
                  refine pz_aln (i := 63) rfl rfl ?_
                  refine pz_get (i := 64) rfl (gf_54_30 ..) ?_
                  rw [hVl.2.2.2.1]
                  refine pz_ir (i := 65) rfl rfl rfl ?_
                  exact hQ jv bv hx
                · exact absurd c40 (by decide)
            · rw [if_neg (by decide), if_neg (by decide), if_neg hlt, if_neg (by decide), if_neg (by decide), if_neg (by decide), if_pos (by decide)] at hQ
              refine pz_ic (i := 27) rfl ?_
              refine pz_isn (i := 28) rfl ⟨rfl, Nat.le_of_ble_eq_true rfl⟩ rfl ?_
              refine pz_ic (i := 29) rfl ?_
              refine pz_isn (i := 30) rfl ⟨rfl, Nat.le_of_ble_eq_true rfl⟩ rfl ?_
              refine pz_ic (i := 31) rfl ?_
              refine pz_is (i := 32) rfl ⟨rfl, Nat.le_of_ble_eq_true rfl⟩ rfl ?_
              refine pz_il (i := 33) rfl rfl ?_
              refine pz_bi (i := 34) rfl ?_
              refine pz_ii_ge (i := 35) rfl (fun c35 => ?_) (fun c35 => ?_)
              · exact absurd c35 (by decide)
              · refine pz_iln (i := 36) rfl rfl ?_
                refine pz_ic (i := 37) rfl ?_
                refine pz_div (i := 38) rfl (by decide) ?_
                refine pz_ic (i := 39) rfl ?_
                refine pz_ii_ne (i := 40) rfl (fun c40 => ?_) (fun c40 => ?_)
                · refine pz_iln (i := 55) rfl rfl ?_
                  refine pz_tsw (i := 56) rfl (fun h => absurd h (by decide)) (fun _ _ => ?_)
                  show pz Lx xs (d + 7) rt_143 (some .int) Q 66 _ [] _
                  refine pz_aln (i := 66) rfl rfl ?_
                  refine pz_get (i := 67) rfl (gf_54_32 ..) ?_
                  rw [hVl.2.2.2.2.2.2.2.1]
                  refine pz_ir (i := 68) rfl rfl rfl ?_
                  exact hQ jv bv hx
                · exact absurd c40 (by decide)
            · rw [if_neg (by decide), if_neg (by decide), if_neg hlt, if_neg (by decide), if_neg (by decide), if_neg (by decide), if_neg (by decide), if_pos (by decide)] at hQ
              refine pz_ic (i := 27) rfl ?_
              refine pz_isn (i := 28) rfl ⟨rfl, Nat.le_of_ble_eq_true rfl⟩ rfl ?_
              refine pz_ic (i := 29) rfl ?_
              refine pz_isn (i := 30) rfl ⟨rfl, Nat.le_of_ble_eq_true rfl⟩ rfl ?_
              refine pz_ic (i := 31) rfl ?_
              refine pz_is (i := 32) rfl ⟨rfl, Nat.le_of_ble_eq_true rfl⟩ rfl ?_
              refine pz_il (i := 33) rfl rfl ?_
              refine pz_bi (i := 34) rfl ?_
              refine pz_ii_ge (i := 35) rfl (fun c35 => ?_) (fun c35 => ?_)
              · exact absurd c35 (by decide)
              · refine pz_iln (i := 36) rfl rfl ?_
                refine pz_ic (i := 37) rfl ?_
                refine pz_div (i := 38) rfl (by decide) ?_
                refine pz_ic (i := 39) rfl ?_
                refine pz_ii_ne (i := 40) rfl (fun c40 => ?_) (fun c40 => ?_)
                · refine pz_iln (i := 55) rfl rfl ?_
                  refine pz_tsw (i := 56) rfl (fun h => absurd h (by decide)) (fun _ _ => ?_)
                  show pz Lx xs (d + 7) rt_143 (some .int) Q 69 _ [] _
                  refine pz_aln (i := 69) rfl rfl ?_
                  refine pz_get (i := 70) rfl (gf_54_34 ..) ?_
                  rw [hVl.2.2.1]
                  refine pz_ir (i := 71) rfl rfl rfl ?_
                  exact hQ jv bv hx
                · exact absurd c40 (by decide)
            · rw [if_neg (by decide), if_neg (by decide), if_neg hlt, if_neg (by decide), if_neg (by decide), if_neg (by decide), if_neg (by decide), if_neg (by decide), if_pos (by decide)] at hQ
              refine pz_ic (i := 27) rfl ?_
              refine pz_isn (i := 28) rfl ⟨rfl, Nat.le_of_ble_eq_true rfl⟩ rfl ?_
              refine pz_ic (i := 29) rfl ?_
              refine pz_isn (i := 30) rfl ⟨rfl, Nat.le_of_ble_eq_true rfl⟩ rfl ?_
              refine pz_ic (i := 31) rfl ?_
              refine pz_is (i := 32) rfl ⟨rfl, Nat.le_of_ble_eq_true rfl⟩ rfl ?_
              refine pz_il (i := 33) rfl rfl ?_
              refine pz_bi (i := 34) rfl ?_
              refine pz_ii_ge (i := 35) rfl (fun c35 => ?_) (fun c35 => ?_)
              · exact absurd c35 (by decide)
              · refine pz_iln (i := 36) rfl rfl ?_
                refine pz_ic (i := 37) rfl ?_
                refine pz_div (i := 38) rfl (by decide) ?_
                refine pz_ic (i := 39) rfl ?_
                refine pz_ii_ne (i := 40) rfl (fun c40 => ?_) (fun c40 => ?_)
                · refine pz_iln (i := 55) rfl rfl ?_
                  refine pz_tsw (i := 56) rfl (fun h => absurd h (by decide)) (fun _ _ => ?_)
                  show pz Lx xs (d + 7) rt_143 (some .int) Q 72 _ [] _
                  refine pz_aln (i := 72) rfl rfl ?_
                  refine pz_get (i := 73) rfl (gf_54_41 ..) ?_
                  rw [hVl.2.1.2.1]
                  refine pz_ir (i := 74) rfl rfl rfl ?_
                  exact hQ jv bv hx
                · exact absurd c40 (by decide)
            · rw [if_neg (by decide), if_neg (by decide), if_neg hlt, if_neg (by decide), if_neg (by decide), if_neg (by decide), if_neg (by decide), if_neg (by decide), if_neg (by decide), if_pos (by decide)] at hQ
              refine pz_ic (i := 27) rfl ?_
              refine pz_isn (i := 28) rfl ⟨rfl, Nat.le_of_ble_eq_true rfl⟩ rfl ?_
              refine pz_ic (i := 29) rfl ?_
              refine pz_isn (i := 30) rfl ⟨rfl, Nat.le_of_ble_eq_true rfl⟩ rfl ?_
              refine pz_ic (i := 31) rfl ?_
              refine pz_is (i := 32) rfl ⟨rfl, Nat.le_of_ble_eq_true rfl⟩ rfl ?_
              refine pz_il (i := 33) rfl rfl ?_
              refine pz_bi (i := 34) rfl ?_
              refine pz_ii_ge (i := 35) rfl (fun c35 => ?_) (fun c35 => ?_)
              · exact absurd c35 (by decide)
              · refine pz_iln (i := 36) rfl rfl ?_
                refine pz_ic (i := 37) rfl ?_
                refine pz_div (i := 38) rfl (by decide) ?_
                refine pz_ic (i := 39) rfl ?_
                refine pz_ii_ne (i := 40) rfl (fun c40 => ?_) (fun c40 => ?_)
                · refine pz_iln (i := 55) rfl rfl ?_
                  refine pz_tsw (i := 56) rfl (fun h => absurd h (by decide)) (fun _ _ => ?_)
                  show pz Lx xs (d + 7) rt_143 (some .int) Q 75 _ [] _
                  refine pz_aln (i := 75) rfl rfl ?_
                  refine pz_get (i := 76) rfl (gf_54_36 ..) ?_
                  rw [hVl.1.1]
                  refine pz_ir (i := 77) rfl rfl rfl ?_
                  exact hQ jv bv hx
                · exact absurd c40 (by decide)
            · rw [if_neg (by decide), if_neg (by decide), if_neg hlt, if_neg (by decide), if_neg (by decide), if_neg (by decide), if_neg (by decide), if_neg (by decide), if_neg (by decide), if_neg (by decide), if_pos (by decide)] at hQ
              refine pz_ic (i := 27) rfl ?_
              refine pz_isn (i := 28) rfl ⟨rfl, Nat.le_of_ble_eq_true rfl⟩ rfl ?_
              refine pz_ic (i := 29) rfl ?_
              refine pz_isn (i := 30) rfl ⟨rfl, Nat.le_of_ble_eq_true rfl⟩ rfl ?_
              refine pz_ic (i := 31) rfl ?_
              refine pz_is (i := 32) rfl ⟨rfl, Nat.le_of_ble_eq_true rfl⟩ rfl ?_
              refine pz_il (i := 33) rfl rfl ?_
              refine pz_bi (i := 34) rfl ?_
              refine pz_ii_ge (i := 35) rfl (fun c35 => ?_) (fun c35 => ?_)
              · exact absurd c35 (by decide)
              · refine pz_iln (i := 36) rfl rfl ?_
                refine pz_ic (i := 37) rfl ?_
                refine pz_div (i := 38) rfl (by decide) ?_
                refine pz_ic (i := 39) rfl ?_
                refine pz_ii_ne (i := 40) rfl (fun c40 => ?_) (fun c40 => ?_)
                · refine pz_iln (i := 55) rfl rfl ?_
                  refine pz_tsw (i := 56) rfl (fun h => absurd h (by decide)) (fun _ _ => ?_)
                  show pz Lx xs (d + 7) rt_143 (some .int) Q 78 _ [] _
                  refine pz_aln (i := 78) rfl rfl ?_
                  refine pz_get (i := 79) rfl (gf_54_10 ..) ?_
                  rw [show jv 0 = nI a.1.1.2.1.length from hd.2.2.1]
                  refine pz_ir (i := 80) rfl rfl rfl ?_
                  exact hQ jv bv hx
                · exact absurd c40 (by decide)
            · rw [if_neg (by decide), if_neg (by decide), if_neg hlt, if_neg (by decide), if_neg (by decide), if_neg (by decide), if_neg (by decide), if_neg (by decide), if_neg (by decide), if_neg (by decide), if_neg (by decide), if_pos (by decide)] at hQ
              refine pz_ic (i := 27) rfl ?_
              refine pz_isn (i := 28) rfl ⟨rfl, Nat.le_of_ble_eq_true rfl⟩ rfl ?_
              refine pz_ic (i := 29) rfl ?_
              refine pz_isn (i := 30) rfl ⟨rfl, Nat.le_of_ble_eq_true rfl⟩ rfl ?_
              refine pz_ic (i := 31) rfl ?_
              refine pz_is (i := 32) rfl ⟨rfl, Nat.le_of_ble_eq_true rfl⟩ rfl ?_
              refine lq_tl hr' (dM_geo hd) (V := a.1.2.1) (w := 8) (by decide) htE hVl (fun jv1 f1 => ?_) 120 0 jv rfl (frI_rfl _ _)
              refine pz_iln (i := 55) rfl rfl ?_
              refine pz_tsw (i := 56) rfl (fun h => absurd h (by decide)) (fun _ _ => ?_)
              show pz Lx xs (d + 7) rt_143 (some .int) Q 81 _ [] _
              refine pz_iln (i := 81) rfl rfl ?_
              refine pz_ir (i := 82) rfl rfl rfl ?_
              exact hQ jv1 bv ⟨dM_fr hd f1 (frA_rfl _ []) (by decide) (by decide), tM_fr hT f1 (frA_rfl _ []) (by decide) (by decide), gM_fr hG f1 (frA_rfl _ []) (by decide) (by decide), fun _ => vM_fr hVl f1 (frA_rfl _ []) (by decide) (by decide)⟩
            · rw [if_neg (by decide), if_neg (by decide), if_neg hlt, if_neg (by decide), if_neg (by decide), if_neg (by decide), if_neg (by decide), if_neg (by decide), if_neg (by decide), if_neg (by decide), if_neg (by decide), if_neg (by decide), if_pos (by decide)] at hQ
              refine pz_ic (i := 27) rfl ?_
              refine pz_isn (i := 28) rfl ⟨rfl, Nat.le_of_ble_eq_true rfl⟩ rfl ?_
              refine pz_ic (i := 29) rfl ?_
              refine pz_isn (i := 30) rfl ⟨rfl, Nat.le_of_ble_eq_true rfl⟩ rfl ?_
              refine pz_ic (i := 31) rfl ?_
              refine pz_is (i := 32) rfl ⟨rfl, Nat.le_of_ble_eq_true rfl⟩ rfl ?_
              refine lq_tl hr' (dM_geo hd) (V := a.1.2.1) (w := 9) (by decide) htE hVl (fun jv1 f1 => ?_) 120 0 jv rfl (frI_rfl _ _)
              refine pz_iln (i := 55) rfl rfl ?_
              refine pz_tsw (i := 56) rfl (fun h => absurd h (by decide)) (fun _ _ => ?_)
              show pz Lx xs (d + 7) rt_143 (some .int) Q 83 _ [] _
              refine pz_iln (i := 83) rfl rfl ?_
              refine pz_ir (i := 84) rfl rfl rfl ?_
              rw [h2]
              exact hQ jv1 bv ⟨dM_fr hd f1 (frA_rfl _ []) (by decide) (by decide), tM_fr hT f1 (frA_rfl _ []) (by decide) (by decide), gM_fr hG f1 (frA_rfl _ []) (by decide) (by decide), fun _ => vM_fr hVl f1 (frA_rfl _ []) (by decide) (by decide)⟩
            · first | exact absurd rfl c2 | exact absurd rfl c5
            · first | exact absurd rfl c2 | exact absurd rfl c5
            · rw [if_neg (by decide), if_neg (by decide), if_neg hlt, if_neg (by decide), if_neg (by decide), if_neg (by decide), if_neg (by decide), if_neg (by decide), if_neg (by decide), if_neg (by decide), if_neg (by decide), if_neg (by decide), if_neg (by decide), if_pos (by decide)] at hQ
              refine pz_ic (i := 27) rfl ?_
              refine pz_isn (i := 28) rfl ⟨rfl, Nat.le_of_ble_eq_true rfl⟩ rfl ?_
              refine pz_ic (i := 29) rfl ?_
              refine pz_isn (i := 30) rfl ⟨rfl, Nat.le_of_ble_eq_true rfl⟩ rfl ?_
              refine pz_ic (i := 31) rfl ?_
              refine pz_is (i := 32) rfl ⟨rfl, Nat.le_of_ble_eq_true rfl⟩ rfl ?_
              refine pz_il (i := 33) rfl rfl ?_
              refine pz_bi (i := 34) rfl ?_
              refine pz_ii_ge (i := 35) rfl (fun c35 => ?_) (fun c35 => ?_)
              · exact absurd c35 (by decide)
              · refine pz_iln (i := 36) rfl rfl ?_
                refine pz_ic (i := 37) rfl ?_
                refine pz_div (i := 38) rfl (by decide) ?_
                refine pz_ic (i := 39) rfl ?_
                refine pz_ii_ne (i := 40) rfl (fun c40 => ?_) (fun c40 => ?_)
                · refine pz_iln (i := 55) rfl rfl ?_
                  refine pz_tsw (i := 56) rfl (fun h => absurd h (by decide)) (fun _ _ => ?_)
                  show pz Lx xs (d + 7) rt_143 (some .int) Q 85 _ [] _
                  refine pz_aln (i := 85) rfl rfl ?_
                  refine pz_get (i := 86) rfl (gf_54_17 ..) ?_
                  rw [hT.2.2.2.1]
                  refine pz_ir (i := 87) rfl rfl rfl ?_
                  exact hQ jv bv hx
                · exact absurd c40 (by decide)
            · rw [if_neg (by decide), if_neg (by decide), if_neg hlt, if_neg (by decide), if_neg (by decide), if_neg (by decide), if_neg (by decide), if_neg (by decide), if_neg (by decide), if_neg (by decide), if_neg (by decide), if_neg (by decide), if_neg (by decide), if_neg (by decide), if_pos (by decide)] at hQ
              refine pz_ic (i := 27) rfl ?_
              refine pz_isn (i := 28) rfl ⟨rfl, Nat.le_of_ble_eq_true rfl⟩ rfl ?_
              refine pz_ic (i := 29) rfl ?_
              refine pz_isn (i := 30) rfl ⟨rfl, Nat.le_of_ble_eq_true rfl⟩ rfl ?_
              refine pz_ic (i := 31) rfl ?_
              refine pz_is (i := 32) rfl ⟨rfl, Nat.le_of_ble_eq_true rfl⟩ rfl ?_
              refine pz_il (i := 33) rfl rfl ?_
              refine pz_bi (i := 34) rfl ?_
              refine pz_ii_ge (i := 35) rfl (fun c35 => ?_) (fun c35 => ?_)
              · exact absurd c35 (by decide)
              · refine pz_iln (i := 36) rfl rfl ?_
                refine pz_ic (i := 37) rfl ?_
                refine pz_div (i := 38) rfl (by decide) ?_
                refine pz_ic (i := 39) rfl ?_
                refine pz_ii_ne (i := 40) rfl (fun c40 => ?_) (fun c40 => ?_)
                · refine pz_iln (i := 55) rfl rfl ?_
                  refine pz_tsw (i := 56) rfl (fun h => absurd h (by decide)) (fun _ _ => ?_)
                  show pz Lx xs (d + 7) rt_143 (some .int) Q 88 _ [] _
                  refine pz_aln (i := 88) rfl rfl ?_
                  refine pz_get (i := 89) rfl (gf_54_22 ..) ?_
                  rw [hT.2.1]
                  refine pz_if_eq (i := 90) rfl (fun c90 => ?_) (fun c90 => ?_)
                  · refine pz_ic (i := 94) rfl ?_
                    refine pz_ir (i := 95) rfl rfl rfl ?_
                    first
                      | (rw [if_pos (bB_t c90)] at hQ
                         exact hQ jv bv hx)
                      | (rw [if_neg (show ¬ a.2.1.2.1 = true by rw [bB_f c90]; decide)] at hQ
                         exact hQ jv bv hx)
                  · refine pz_aln (i := 91) rfl rfl ?_
                    refine pz_get (i := 92) rfl (gf_54_23 ..) ?_
                    rw [hT.1.1]
                    refine pz_go (i := 93) rfl ?_
                    refine pz_ir (i := 95) rfl rfl rfl ?_
                    first
                      | (rw [if_pos (bB_t c90)] at hQ
                         exact hQ jv bv hx)
                      | (rw [if_neg (show ¬ a.2.1.2.1 = true by rw [bB_f c90]; decide)] at hQ
                         exact hQ jv bv hx)
                · exact absurd c40 (by decide)
            · rw [if_neg (by decide), if_neg (by decide), if_neg hlt, if_neg (by decide), if_neg (by decide), if_neg (by decide), if_neg (by decide), if_neg (by decide), if_neg (by decide), if_neg (by decide), if_neg (by decide), if_neg (by decide), if_neg (by decide), if_neg (by decide), if_neg (by decide), if_pos (by decide)] at hQ
              refine pz_ic (i := 27) rfl ?_
              refine pz_isn (i := 28) rfl ⟨rfl, Nat.le_of_ble_eq_true rfl⟩ rfl ?_
              refine pz_ic (i := 29) rfl ?_
              refine pz_isn (i := 30) rfl ⟨rfl, Nat.le_of_ble_eq_true rfl⟩ rfl ?_
              refine pz_ic (i := 31) rfl ?_
              refine pz_is (i := 32) rfl ⟨rfl, Nat.le_of_ble_eq_true rfl⟩ rfl ?_
              refine pz_il (i := 33) rfl rfl ?_
              refine pz_bi (i := 34) rfl ?_
              refine pz_ii_ge (i := 35) rfl (fun c35 => ?_) (fun c35 => ?_)
              · exact absurd c35 (by decide)
              · refine pz_iln (i := 36) rfl rfl ?_
                refine pz_ic (i := 37) rfl ?_
                refine pz_div (i := 38) rfl (by decide) ?_
                refine pz_ic (i := 39) rfl ?_
                refine pz_ii_ne (i := 40) rfl (fun c40 => ?_) (fun c40 => ?_)
                · refine pz_iln (i := 55) rfl rfl ?_
                  refine pz_tsw (i := 56) rfl (fun _ => ?_) (fun _ h => absurd h (by decide))
                  show pz Lx xs (d + 7) rt_143 (some .int) Q 96 _ [] _
                  refine pz_aln (i := 96) rfl rfl ?_
                  refine pz_get (i := 97) rfl (gf_54_33 ..) ?_
                  rw [hVl.2.2.2.2.2.2.2.2]
                  refine pz_ir (i := 98) rfl rfl rfl ?_
                  exact hQ jv bv hx
                · exact absurd c40 (by decide)
          · refine pz_ic (i := 25) rfl ?_
            refine pz_ir (i := 26) rfl rfl rfl ?_
            have hno : ∀ k : Nat, k ≤ 14 → ¬ w = nI k := fun k hk z => by
              first
                | (rw [z] at c21
                   exact absurd c21 (nI_pos (by omega)))
                | (rw [z] at c24
                   exact c24 ((nI_leI (b := 14) (by omega) (by decide)).mpr hk))
            rw [if_neg c2, if_neg c5, if_neg hlt, if_neg (show ¬ w = 0 from hno 0 (by decide)), if_neg (show ¬ w = 1 from hno 1 (by decide)), if_neg (show ¬ w = 2 from hno 2 (by decide)), if_neg (show ¬ w = 3 from hno 3 (by decide)), if_neg (show ¬ w = 4 from hno 4 (by decide)), if_neg (show ¬ w = 5 from hno 5 (by decide)), if_neg (show ¬ w = 6 from hno 6 (by decide)), if_neg (show ¬ w = 7 from hno 7 (by decide)), if_neg (show ¬ w = 8 from hno 8 (by decide)), if_neg (show ¬ w = 9 from hno 9 (by decide)), if_neg (show ¬ w = 12 from hno 12 (by decide)), if_neg (show ¬ w = 13 from hno 13 (by decide)), if_neg (show ¬ w = 14 from hno 14 (by decide))] at hQ
            exact hQ jv bv hx
      · refine pz_bi (i := 18) rfl ?_
        refine pz_ir (i := 19) rfl rfl rfl ?_
        rw [if_neg c2, if_neg c5, if_pos (bB_t c17)] at hQ
        exact hQ jv bv hx
    · refine pz_iln (i := 6) rfl rfl ?_
      refine pz_bi (i := 7) rfl ?_
      refine pz_ii_ne (i := 8) rfl (fun c8 => ?_) (fun c8 => ?_)
      · refine pz_aln (i := 12) rfl rfl ?_
        refine pz_get (i := 13) rfl (gf_54_21 ..) ?_
        rw [hG.2.2.2.2.2]
        refine pz_ir (i := 14) rfl rfl rfl ?_
        rw [if_neg c2, if_pos c5] at hQ
        exact hQ jv bv hx
      · exact absurd c8 c2
set_option maxRecDepth 20000 in
theorem sm_table (hr : 512 ≤ rm ∧ rm ≤ 4096) {a : aS} {y w : Int32} (hx : mS rm jv bv a) (hI : wB rm a) (hN : dwn a = false → ∀ t ∈ a.1.2.1.1, 0 < (kS t.2.2.2).length) (hQ : ∀ jv' bv', mS rm jv' bv' (aTable rm y w a).2 → Q (some (.int (aTable rm y w a).1)) (wX rm iv av (wM rm jv' bv'))) : rx_R Lx xs (d + 6) 144 [.ref 54, .int y, .int w] (wX rm iv av (wM rm jv bv)) Q := by
  refine pz_en (t := rt_144) ⟨Nat.le_of_ble_eq_true rfl, rfl⟩ rfl rfl ?_
  unfold aTable at hQ
  obtain ⟨hd, hT, hG, hV⟩ := id hx
  have h5 : jv 5 = bB (dwn a) := hd.2.2.2.2.2.2.2.2.2.1
  have hr' : 0 < rm ∧ rm ≤ 4096 := ⟨by omega, hr.2⟩
  have h2 : bv 2 = cu rm a.1.1 := hd.1
  refine pz_aln (i := 0) rfl rfl ?_
  refine pz_get (i := 1) rfl (gf_54_15 ..) ?_
  rw [h5]
  refine pz_if_eq (i := 2) rfl (fun c2 => ?_) (fun c2 => ?_)
  · have hl := bB_f c2
    have hal : a.1.1.2.2.2.2.2 = false := hl
    rw [if_neg (show ¬ dwn a = true by rw [hl]; decide)] at hQ
    have hVl := hV hl
    refine pz_iln (i := 5) rfl rfl ?_
    refine pz_if_lt (i := 6) rfl (fun c6 => ?_) (fun c6 => ?_)
    · refine pz_ic (i := 11) rfl ?_
      refine pz_ir (i := 12) rfl rfl rfl ?_
      first
        | rw [if_pos (Or.inl c6)] at hQ
        | rw [if_pos (Or.inr (Int32.not_lt.mp c10))] at hQ
      exact hQ jv bv hx
    · refine pz_iln (i := 7) rfl rfl ?_
      refine pz_aln (i := 8) rfl rfl ?_
      refine pz_get (i := 9) rfl (gf_54_36 ..) ?_
      rw [hVl.1.1]
      refine pz_ii_lt (i := 10) rfl (fun c10 => ?_) (fun c10 => ?_)
      · rw [if_neg (fun z => z.elim c6 (fun w => (Int32.not_le.mpr c10) w))] at hQ
        obtain ⟨i, hi, rfl⟩ := nI_of c6
        have h6 := hVl.1.2.1
        have hil : i < a.1.2.1.1.length := lt_ofI c10 hi (by omega)
        obtain ⟨t, ht⟩ : ∃ t, a.1.2.1.1[i]? = some t := ⟨_, List.getElem?_eq_getElem hil⟩
        rw [cl_ofI hi, ht] at hQ
        have hp : bv 15 i = nI t.1 := hVl.1.2.2 i t ht
        have hm := List.mem_of_getElem? ht
        have hck := (hI hl [] (Nat.zero_le _) (fun x hx => (by cases hx))).1
        have htE : ∀ t ∈ a.1.2.1.1, tE rm (bv 2) t := fun t ht => by rw [h2]; exact hck.1 t ht
        have hE := htE t hm
        have hn := hN hl t hm
        have hkl := kS_len t.2.2.2
        have h12 := hE.1
        obtain ⟨_, _, _, _, q1, q2, q4, q8, _⟩ := id hE
        have hQ1 := hQ jv bv hx
        simp only at hQ1
        unfold tabF at hQ1
        refine pz_iln (i := 13) rfl rfl ?_
        refine pz_tsw (i := 14) rfl (fun h => ?_) (fun h1 h2 => ?_)
        · rw [if_neg (fun z => by rw [z] at h; exact absurd h (by decide)), if_neg (fun z => by rw [z] at h; exact absurd h (by decide)), if_neg (fun z => by rw [z] at h; exact absurd h (by decide)), if_neg (fun z => by rw [z] at h; exact absurd h (by decide)), if_neg (fun z => by rw [z] at h; exact absurd h (by decide)), if_neg (fun z => by rw [z] at h; exact absurd h (by decide)), if_neg (fun z => by rw [z] at h; exact absurd h (by decide))] at hQ1
          refine pz_ic (i := 56) rfl ?_
          refine pz_ir (i := 57) rfl rfl rfl ?_
          exact hQ1
        · obtain ⟨k, hk, rfl⟩ := sw_n (n := 6) (by decide) h1 h2
          have hc : k = 0 ∨ k = 1 ∨ k = 2 ∨ k = 3 ∨ k = 4 ∨ k = 5 ∨ k = 6 := by omega
          rcases hc with rfl | rfl | rfl | rfl | rfl | rfl | rfl
          · rw [if_pos (by decide)] at hQ1
            show pz Lx xs (d + 5) rt_144 (some .int) Q 15 _ [] _
            refine pz_aln (i := 15) rfl rfl ?_
            refine pz_iln (i := 16) rfl rfl ?_
            refine pz_cI1 (i := 17) rfl (gc_54 ..) rfl (Nat.le_of_ble_eq_true rfl) rfl ?_
            refine sm_levelOf hr' (dM_geo hd) hVl.1 ht h12 ?_
            rw [q1]
            refine ⟨_, rfl, ?_⟩
            refine pz_ir (i := 18) rfl rfl rfl ?_
            exact hQ1
          · rw [if_neg (by decide), if_pos (by decide)] at hQ1
            show pz Lx xs (d + 5) rt_144 (some .int) Q 19 _ [] _
            refine pz_aln (i := 19) rfl rfl ?_
            refine pz_iln (i := 20) rfl rfl ?_
            refine pz_ic (i := 21) rfl ?_
            refine pz_cI2 (i := 22) rfl (gc_54 ..) rfl (Nat.le_of_ble_eq_true rfl) rfl ?_
            refine sm_tableByte hr' (dM_geo hd) hVl.1 ht h12 (q := 2) (by decide) ?_
            rw [q2]
            refine ⟨_, rfl, ?_⟩
            refine pz_ir (i := 23) rfl rfl rfl ?_
            exact hQ1
          · rw [if_neg (by decide), if_neg (by decide), if_pos (by decide)] at hQ1
            show pz Lx xs (d + 5) rt_144 (some .int) Q 24 _ [] _
            refine pz_aln (i := 24) rfl rfl ?_
            refine pz_get (i := 25) rfl (gf_54_35 ..) ?_
            refine pz_iln (i := 26) rfl rfl ?_
            refine pz_ial (i := 27) rfl (ga_70 ..) (in_ofI (a := i) (n := 12) (by omega)) ?_
            rw [cl_ofI (a := i), hp]
            refine pz_ir (i := 28) rfl rfl rfl ?_
            exact hQ1
          · rw [if_neg (by decide), if_neg (by decide), if_neg (by decide), if_pos (by decide)] at hQ1
            show pz Lx xs (d + 5) rt_144 (some .int) Q 29 _ [] _
            refine pz_aln (i := 29) rfl rfl ?_
            refine pz_iln (i := 30) rfl rfl ?_
            refine pz_ic (i := 31) rfl ?_
            refine pz_cI2 (i := 32) rfl (gc_54 ..) rfl (Nat.le_of_ble_eq_true rfl) rfl ?_
            refine sm_tableFour hr' (dM_geo hd) hVl.1 ht h12 (q := 4) (by decide) ?_
            rw [q4]
            refine ⟨_, rfl, ?_⟩
            refine pz_ir (i := 33) rfl rfl rfl ?_
            exact hQ1
          · rw [if_neg (by decide), if_neg (by decide), if_neg (by decide), if_neg (by decide), if_pos (by decide)] at hQ1
            show pz Lx xs (d + 5) rt_144 (some .int) Q 34 _ [] _
            refine pz_aln (i := 34) rfl rfl ?_
            refine pz_iln (i := 35) rfl rfl ?_
            refine pz_bi (i := 36) rfl ?_
            refine pz_cI2 (i := 37) rfl (gc_54 ..) rfl (Nat.le_of_ble_eq_true rfl) rfl ?_
            refine sm_tableByte hr' (dM_geo hd) hVl.1 ht h12 (q := 16) (by decide) ?_
            rw [show bN (bv 2) (rm + t.1 * 1300 + 16) = ksA t.2.2.2 0 from tE_key hE hn]
            refine ⟨_, rfl, ?_⟩
            refine pz_ir (i := 38) rfl rfl rfl ?_
            exact hQ1
          · rw [if_neg (by decide), if_neg (by decide), if_neg (by decide), if_neg (by decide), if_neg (by decide), if_pos (by decide)] at hQ1
            show pz Lx xs (d + 5) rt_144 (some .int) Q 39 _ [] _
            refine pz_aln (i := 39) rfl rfl ?_
            refine pz_iln (i := 40) rfl rfl ?_
            refine pz_bi (i := 41) rfl ?_
            refine pz_bi (i := 42) rfl ?_
            refine pz_aln (i := 43) rfl rfl ?_
            refine pz_iln (i := 44) rfl rfl ?_
            refine pz_ic (i := 45) rfl ?_
            refine pz_cI2 (i := 46) rfl (gc_54 ..) rfl (Nat.le_of_ble_eq_true rfl) rfl ?_
            refine sm_tableByte hr' (dM_geo hd) hVl.1 ht h12 (q := 2) (by decide) ?_
            rw [q2]
            refine ⟨_, rfl, ?_⟩
            refine pz_mul (i := 47) rfl ?_
            rw [show (10 : Int32) * nI (kS t.2.2.2).length = nI (10 * (kS t.2.2.2).length) from pk_mul 10 _]
            refine pz_add (i := 48) rfl ?_
            rw [show (6 : Int32) + nI (10 * (kS t.2.2.2).length) = nI (6 + 10 * (kS t.2.2.2).length) from nI_add 6 _]
            refine pz_cI2 (i := 49) rfl (gc_54 ..) rfl (Nat.le_of_ble_eq_true rfl) rfl ?_
            refine sm_tableByte hr' (dM_geo hd) hVl.1 ht h12 (q := 6 + 10 * (kS t.2.2.2).length) (by omega) ?_
            rw [show rm + t.1 * 1300 + (6 + 10 * (kS t.2.2.2).length) = rm + t.1 * 1300 + 16 + 10 * ((kS t.2.2.2).length - 1) by omega, tE_key hE (i := (kS t.2.2.2).length - 1) (by omega)]
            refine ⟨_, rfl, ?_⟩
            refine pz_ir (i := 50) rfl rfl rfl ?_
            exact hQ1
          · rw [if_neg (by decide), if_neg (by decide), if_neg (by decide), if_neg (by decide), if_neg (by decide), if_neg (by decide), if_pos (by decide)] at hQ1
            show pz Lx xs (d + 5) rt_144 (some .int) Q 51 _ [] _
            refine pz_aln (i := 51) rfl rfl ?_
            refine pz_iln (i := 52) rfl rfl ?_
            refine pz_bi (i := 53) rfl ?_
            refine pz_cI2 (i := 54) rfl (gc_54 ..) rfl (Nat.le_of_ble_eq_true rfl) rfl ?_
            refine sm_tableFour hr' (dM_geo hd) hVl.1 ht h12 (q := 8) (by decide) ?_
            rw [q8]
            refine ⟨_, rfl, ?_⟩
            refine pz_ir (i := 55) rfl rfl rfl ?_
            exact hQ1
      · refine pz_ic (i := 11) rfl ?_
        refine pz_ir (i := 12) rfl rfl rfl ?_
        first
          | rw [if_pos (Or.inl c6)] at hQ
          | rw [if_pos (Or.inr (Int32.not_lt.mp c10))] at hQ
        exact hQ jv bv hx
  · refine pz_bi (i := 3) rfl ?_
    refine pz_ir (i := 4) rfl rfl rfl ?_
    rw [if_pos (bB_t c2)] at hQ
    exact hQ jv bv hx
set_option maxRecDepth 20000 in
theorem sm_entry (hr : 512 ≤ rm ∧ rm ≤ 4096) {a : aS} {key w : Int32} (hx : mS rm jv bv a) (hI : wB rm a) (hQ : ∀ jv' bv', mS rm jv' bv' (aEntry key w a).2 → Q (some (.int (aEntry key w a).1)) (wX rm iv av (wM rm jv' bv'))) : rx_R Lx xs (d + 8) 145 [.ref 54, .int key, .int w] (wX rm iv av (wM rm jv bv)) Q := by
  refine pz_en (t := rt_145) ⟨Nat.le_of_ble_eq_true rfl, rfl⟩ rfl rfl ?_
  unfold aEntry at hQ
  obtain ⟨hd, hT, hG, hV⟩ := id hx
  have h5 : jv 5 = bB (dwn a) := hd.2.2.2.2.2.2.2.2.2.1
  have hr' : 0 < rm ∧ rm ≤ 4096 := ⟨by omega, hr.2⟩
  have h2 : bv 2 = cu rm a.1.1 := hd.1
  refine pz_aln (i := 0) rfl rfl ?_
  refine pz_get (i := 1) rfl (gf_54_15 ..) ?_
  rw [h5]
  refine pz_if_eq (i := 2) rfl (fun c2 => ?_) (fun c2 => ?_)
  · have hl := bB_f c2
    have hal : a.1.1.2.2.2.2.2 = false := hl
    rw [if_neg (show ¬ dwn a = true by rw [hl]; decide)] at hQ
    have hVl := hV hl
    refine pz_iln (i := 5) rfl rfl ?_
    refine pz_sI1 (i := 6) rfl (by decide) (Nat.le_of_ble_eq_true rfl) rfl ?_
    refine sm_isKey ?_
    refine ⟨_, rfl, ?_⟩
    refine pz_if_eq (i := 7) rfl (fun c7 => ?_) (fun c7 => ?_)
    · refine pz_ic (i := 17) rfl ?_
      refine pz_ir (i := 18) rfl rfl rfl ?_
      first
        | (rw [if_pos (bB_f c7)] at hQ
           exact hQ jv bv hx)
        | (cases he : ent a.1.2.1.2.1 a.1.2.1.1 k with
           | none =>
             rw [he] at hQ1
             exact hQ1
           | some e =>
             rw [he] at hf
             rw [hf.1] at c16
             exact absurd c16 (by decide))
        | (have hk1 := bB_t c7
           rw [if_neg (by rw [hk1]; decide)] at hQ
           have hno : ∀ k : Nat, k ≤ 3 → ¬ w = nI k := fun k hk z => by
             first
               | (rw [z] at c9
                  exact absurd c9 (nI_pos (by omega)))
               | (rw [z] at c12
                  exact absurd (lt_ofI (a := 3) c12) (by omega))
           have h := hQ jv bv hx
           cases he : ent a.1.2.1.2.1 a.1.2.1.1 key.toNatClampNeg with
           | none =>
             rw [he] at h
             exact h
           | some e =>
             rw [he] at h
             simp only [if_neg (show ¬ w = 0 from hno 0 (by decide)), if_neg (show ¬ w = 1 from hno 1 (by decide)), if_neg (show ¬ w = 2 from hno 2 (by decide)), if_neg (show ¬ w = 3 from hno 3 (by decide))] at h
             exact h)
    · refine pz_iln (i := 8) rfl rfl ?_
      refine pz_if_lt (i := 9) rfl (fun c9 => ?_) (fun c9 => ?_)
      · refine pz_ic (i := 17) rfl ?_
        refine pz_ir (i := 18) rfl rfl rfl ?_
        first
          | (rw [if_pos (bB_f c7)] at hQ
             exact hQ jv bv hx)
          | (cases he : ent a.1.2.1.2.1 a.1.2.1.1 k with
             | none =>
               rw [he] at hQ1
               exact hQ1
             | some e =>
               rw [he] at hf
               rw [hf.1] at c16
               exact absurd c16 (by decide))
          | (have hk1 := bB_t c7
             rw [if_neg (by rw [hk1]; decide)] at hQ
             have hno : ∀ k : Nat, k ≤ 3 → ¬ w = nI k := fun k hk z => by
               first
                 | (rw [z] at c9
                    exact absurd c9 (nI_pos (by omega)))
                 | (rw [z] at c12
                    exact absurd (lt_ofI (a := 3) c12) (by omega))
             have h := hQ jv bv hx
             cases he : ent a.1.2.1.2.1 a.1.2.1.1 key.toNatClampNeg with
             | none =>
               rw [he] at h
               exact h
             | some e =>
               rw [he] at h
               simp only [if_neg (show ¬ w = 0 from hno 0 (by decide)), if_neg (show ¬ w = 1 from hno 1 (by decide)), if_neg (show ¬ w = 2 from hno 2 (by decide)), if_neg (show ¬ w = 3 from hno 3 (by decide))] at h
               exact h)
      · refine pz_iln (i := 10) rfl rfl ?_
        refine pz_ic (i := 11) rfl ?_
        refine pz_ii_gt (i := 12) rfl (fun c12 => ?_) (fun c12 => ?_)
        · refine pz_ic (i := 17) rfl ?_
          refine pz_ir (i := 18) rfl rfl rfl ?_
          first
            | (rw [if_pos (bB_f c7)] at hQ
               exact hQ jv bv hx)
            | (cases he : ent a.1.2.1.2.1 a.1.2.1.1 k with
               | none =>
                 rw [he] at hQ1
                 exact hQ1
               | some e =>
                 rw [he] at hf
                 rw [hf.1] at c16
                 exact absurd c16 (by decide))
            | (have hk1 := bB_t c7
               rw [if_neg (by rw [hk1]; decide)] at hQ
               have hno : ∀ k : Nat, k ≤ 3 → ¬ w = nI k := fun k hk z => by
                 first
                   | (rw [z] at c9
                      exact absurd c9 (nI_pos (by omega)))
                   | (rw [z] at c12
                      exact absurd (lt_ofI (a := 3) c12) (by omega))
               have h := hQ jv bv hx
               cases he : ent a.1.2.1.2.1 a.1.2.1.1 key.toNatClampNeg with
               | none =>
                 rw [he] at h
                 exact h
               | some e =>
                 rw [he] at h
                 simp only [if_neg (show ¬ w = 0 from hno 0 (by decide)), if_neg (show ¬ w = 1 from hno 1 (by decide)), if_neg (show ¬ w = 2 from hno 2 (by decide)), if_neg (show ¬ w = 3 from hno 3 (by decide))] at h
                 exact h)
        · have hk1 := bB_t c7
          rw [if_neg (by rw [hk1]; decide)] at hQ
          obtain ⟨k, hk, rfl⟩ := kx_nat hk1
          rw [cl_ofI (a := k)] at hQ
          have hck := (hI hl [] (Nat.zero_le _) (fun x hx => (by cases hx))).1
          have htE : ∀ t ∈ a.1.2.1.1, tE rm (bv 2) t := fun t ht => by rw [h2]; exact hck.1 t ht
          refine pz_aln (i := 13) rfl rfl ?_
          refine pz_iln (i := 14) rfl rfl ?_
          refine pz_cI1 (i := 15) rfl (gc_54 ..) rfl (Nat.le_of_ble_eq_true rfl) rfl ?_
          refine sm_find hr' (dM_geo hd) hk htE hVl.1 hVl.2.1 (fun jv1 z hf h24 f1 => ?_)
          have hQ1 := hQ jv1 bv ⟨dM_fr hd f1 (frA_rfl _ []) (by decide) (by decide), tM_fr hT f1 (frA_rfl _ []) (by decide) (by decide), gM_fr hG f1 (frA_rfl _ []) (by decide) (by decide), fun _ => vM_fr hVl f1 (frA_rfl _ []) (by decide) (by decide)⟩
          refine ⟨_, rfl, ?_⟩
          refine pz_if_ne (i := 16) rfl (fun c16 => ?_) (fun c16 => ?_)
          · obtain ⟨e, he⟩ : ∃ e, ent a.1.2.1.2.1 a.1.2.1.1 k = some e := by
              cases he : ent a.1.2.1.2.1 a.1.2.1.1 k with
              | none =>
                rw [he] at hf
                exact absurd hf.1 c16
              | some e => exact ⟨e, rfl⟩
            rw [he] at hf hQ1
            refine pz_iln (i := 19) rfl rfl ?_
            refine pz_if_ne (i := 20) rfl (fun c20 => ?_) (fun c20 => ?_)
            · refine pz_iln (i := 24) rfl rfl ?_
              refine pz_ic (i := 25) rfl ?_
              refine pz_ii_ne (i := 26) rfl (fun c26 => ?_) (fun c26 => ?_)
              · refine pz_iln (i := 30) rfl rfl ?_
                refine pz_ic (i := 31) rfl ?_
                refine pz_ii_ne (i := 32) rfl (fun c32 => ?_) (fun c32 => ?_)
                · refine pz_aln (i := 36) rfl rfl ?_
                  refine pz_get (i := 37) rfl (gf_54_49 ..) ?_
                  rw [h24]
                  refine pz_if_eq (i := 38) rfl (fun c38 => ?_) (fun c38 => ?_)
                  · refine pz_ic (i := 41) rfl ?_
                    refine pz_ir (i := 42) rfl rfl rfl ?_
                    first
                      | (simp only [if_pos c20] at hQ1
                         exact hQ1)
                      | (simp only [if_neg c20, if_pos c26] at hQ1
                         exact hQ1)
                      | (simp only [if_neg c20, if_neg c26, if_pos c32] at hQ1
                         exact hQ1)
                      | (have hw3 : w = 3 := by
                           obtain ⟨j, hj, rfl⟩ := nI_of2 (M := 3) (n := 3) (by decide) c9 (Int32.not_lt.mp c12)
                           have e0 := ne_ofI (b := 0) c20
                           have e1 := ne_ofI (b := 1) c26
                           have e2 := ne_ofI (b := 2) c32
                           obtain rfl : j = 3 := by omega
                           rfl
                         simp only [if_neg c20, if_neg c26, if_neg c32, if_pos hw3] at hQ1
                         first
                           | (rw [bB_t c38] at hQ1
                              exact hQ1)
                           | (rw [bB_f c38] at hQ1
                              exact hQ1))
                  · refine pz_ic (i := 39) rfl ?_
                    refine pz_go (i := 40) rfl ?_
                    refine pz_ir (i := 42) rfl rfl rfl ?_
                    first
                      | (simp only [if_pos c20] at hQ1
                         exact hQ1)
                      | (simp only [if_neg c20, if_pos c26] at hQ1
                         exact hQ1)
                      | (simp only [if_neg c20, if_neg c26, if_pos c32] at hQ1
                         exact hQ1)
                      | (have hw3 : w = 3 := by
                           obtain ⟨j, hj, rfl⟩ := nI_of2 (M := 3) (n := 3) (by decide) c9 (Int32.not_lt.mp c12)
                           have e0 := ne_ofI (b := 0) c20
                           have e1 := ne_ofI (b := 1) c26
                           have e2 := ne_ofI (b := 2) c32
                           obtain rfl : j = 3 := by omega
                           rfl
                         simp only [if_neg c20, if_neg c26, if_neg c32, if_pos hw3] at hQ1
                         first
                           | (rw [bB_t c38] at hQ1
                              exact hQ1)
                           | (rw [bB_f c38] at hQ1
                              exact hQ1))
                · refine pz_aln (i := 33) rfl rfl ?_
                  refine pz_get (i := 34) rfl (gf_54_48 ..) ?_
                  rw [hf.2.2.2]
                  refine pz_go (i := 35) rfl ?_
                  refine pz_ir (i := 42) rfl rfl rfl ?_
                  first
                    | (simp only [if_pos c20] at hQ1
                       exact hQ1)
                    | (simp only [if_neg c20, if_pos c26] at hQ1
                       exact hQ1)
                    | (simp only [if_neg c20, if_neg c26, if_pos c32] at hQ1
                       exact hQ1)
                    | (have hw3 : w = 3 := by
                         obtain ⟨j, hj, rfl⟩ := nI_of2 (M := 3) (n := 3) (by decide) c9 (Int32.not_lt.mp c12)
                         have e0 := ne_ofI (b := 0) c20
                         have e1 := ne_ofI (b := 1) c26
                         have e2 := ne_ofI (b := 2) c32
                         obtain rfl : j = 3 := by omega
                         rfl
                       simp only [if_neg c20, if_neg c26, if_neg c32, if_pos hw3] at hQ1
                       first
                         | (rw [bB_t c38] at hQ1
                            exact hQ1)
                         | (rw [bB_f c38] at hQ1
                            exact hQ1))
              · refine pz_aln (i := 27) rfl rfl ?_
                refine pz_get (i := 28) rfl (gf_54_47 ..) ?_
                rw [hf.2.2.1]
                refine pz_go (i := 29) rfl ?_
                refine pz_ir (i := 42) rfl rfl rfl ?_
                first
                  | (simp only [if_pos c20] at hQ1
                     exact hQ1)
                  | (simp only [if_neg c20, if_pos c26] at hQ1
                     exact hQ1)
                  | (simp only [if_neg c20, if_neg c26, if_pos c32] at hQ1
                     exact hQ1)
                  | (have hw3 : w = 3 := by
                       obtain ⟨j, hj, rfl⟩ := nI_of2 (M := 3) (n := 3) (by decide) c9 (Int32.not_lt.mp c12)
                       have e0 := ne_ofI (b := 0) c20
                       have e1 := ne_ofI (b := 1) c26
                       have e2 := ne_ofI (b := 2) c32
                       obtain rfl : j = 3 := by omega
                       rfl
                     simp only [if_neg c20, if_neg c26, if_neg c32, if_pos hw3] at hQ1
                     first
                       | (rw [bB_t c38] at hQ1
                          exact hQ1)
                       | (rw [bB_f c38] at hQ1
                          exact hQ1))
            · refine pz_aln (i := 21) rfl rfl ?_
              refine pz_get (i := 22) rfl (gf_54_46 ..) ?_
              rw [hf.2.1]
              refine pz_go (i := 23) rfl ?_
              refine pz_ir (i := 42) rfl rfl rfl ?_
              first
                | (simp only [if_pos c20] at hQ1
                   exact hQ1)
                | (simp only [if_neg c20, if_pos c26] at hQ1
                   exact hQ1)
                | (simp only [if_neg c20, if_neg c26, if_pos c32] at hQ1
                   exact hQ1)
                | (have hw3 : w = 3 := by
                     obtain ⟨j, hj, rfl⟩ := nI_of2 (M := 3) (n := 3) (by decide) c9 (Int32.not_lt.mp c12)
                     have e0 := ne_ofI (b := 0) c20
                     have e1 := ne_ofI (b := 1) c26
                     have e2 := ne_ofI (b := 2) c32
                     obtain rfl : j = 3 := by omega
                     rfl
                   simp only [if_neg c20, if_neg c26, if_neg c32, if_pos hw3] at hQ1
                   first
                     | (rw [bB_t c38] at hQ1
                        exact hQ1)
                     | (rw [bB_f c38] at hQ1
                        exact hQ1))
          · refine pz_ic (i := 17) rfl ?_
            refine pz_ir (i := 18) rfl rfl rfl ?_
            first
              | (rw [if_pos (bB_f c7)] at hQ
                 exact hQ jv bv hx)
              | (cases he : ent a.1.2.1.2.1 a.1.2.1.1 k with
                 | none =>
                   rw [he] at hQ1
                   exact hQ1
                 | some e =>
                   rw [he] at hf
                   rw [hf.1] at c16
                   exact absurd c16 (by decide))
              | (have hk1 := bB_t c7
                 rw [if_neg (by rw [hk1]; decide)] at hQ
                 have hno : ∀ k : Nat, k ≤ 3 → ¬ w = nI k := fun k hk z => by
                   first
                     | (rw [z] at c9
                        exact absurd c9 (nI_pos (by omega)))
                     | (rw [z] at c12
                        exact absurd (lt_ofI (a := 3) c12) (by omega))
                 have h := hQ jv bv hx
                 cases he : ent a.1.2.1.2.1 a.1.2.1.1 key.toNatClampNeg with
                 | none =>
                   rw [he] at h
                   exact h
                 | some e =>
                   rw [he] at h
                   simp only [if_neg (show ¬ w = 0 from hno 0 (by decide)), if_neg (show ¬ w = 1 from hno 1 (by decide)), if_neg (show ¬ w = 2 from hno 2 (by decide)), if_neg (show ¬ w = 3 from hno 3 (by decide))] at h
                   exact h)
  · refine pz_bi (i := 3) rfl ?_
    refine pz_ir (i := 4) rfl rfl rfl ?_
    rw [if_pos (bB_t c2)] at hQ
    exact hQ jv bv hx
set_option maxRecDepth 20000 in
theorem sm_cell (hr : 512 ≤ rm ∧ rm ≤ 4096) {a : aS} {y1 y2 : Int32} (hx : mS rm jv bv a) (hQ : ∀ jv' bv', mS rm jv' bv' (aCell rm y1 y2 a).2 → Q (some (.int (aCell rm y1 y2 a).1)) (wX rm iv av (wM rm jv' bv'))) : rx_R Lx xs (d + 1) 146 [.ref 54, .int y1, .int y2] (wX rm iv av (wM rm jv bv)) Q := by
  refine pz_en (t := rt_146) ⟨Nat.le_of_ble_eq_true rfl, rfl⟩ rfl rfl ?_
  unfold aCell at hQ
  obtain ⟨hd, hT, hG, hV⟩ := id hx
  have h5 : jv 5 = bB (dwn a) := hd.2.2.2.2.2.2.2.2.2.1
  have hr' : 0 < rm ∧ rm ≤ 4096 := ⟨by omega, hr.2⟩
  have h2 : bv 2 = cu rm a.1.1 := hd.1
  have hg := dM_geo hd
  have hno : (y1 < 0 ∨ 3 ≤ y1) → ceF rm y1 y2 = -1 := fun w => by
    unfold ceF
    have h : ∀ k : Nat, k < 3 → ¬ y1 = nI k := fun k hk z => by
      rw [z] at w
      rcases w with w | w
      · exact absurd w (nI_pos (by omega))
      · exact absurd (le_ofI (a := 3) w) (by omega)
    rw [if_neg (show ¬ y1 = 0 from h 0 (by decide)), if_neg (show ¬ y1 = 1 from h 1 (by decide)), if_neg (show ¬ y1 = 2 from h 2 (by decide))]
  have hin : ∀ k : Nat, k < 3 → ceF rm (nI k) y2 = if y2 < 0 ∨ nI (aZ rm k) ≤ y2 then -1 else nI (aA rm k) + y2 := fun k hk => by
    have : k = 0 ∨ k = 1 ∨ k = 2 := by omega
    rcases this with e | e | e <;> subst e
    · show (if (nI 0 = 0) then (if y2 < 0 ∨ nI rm ≤ y2 then -1 else y2) else _) = if y2 < 0 ∨ nI rm ≤ y2 then -1 else nI 0 + y2
      rw [if_pos (by decide), show nI 0 + y2 = y2 from Int32.zero_add y2]
    · show (if (nI 1 = 0) then _ else if nI 1 = 1 then (if y2 < 0 ∨ 15600 ≤ y2 then -1 else nI rm + y2) else _) = _
      rw [if_neg (by decide), if_pos (by decide)]
      rfl
    · show (if (nI 2 = 0) then _ else if nI 2 = 1 then _ else if nI 2 = 2 then (if y2 < 0 ∨ 128 ≤ y2 then -1 else nI rm + 15600 + y2) else -1) = _
      rw [if_neg (by decide), if_neg (by decide), if_pos (by decide), show nI rm + 15600 = nI (rm + 15600) from nI_add rm 15600]
      rfl
  refine pz_iln (i := 0) rfl rfl ?_
  refine pz_if_lt (i := 1) rfl (fun c1 => ?_) (fun c1 => ?_)
  · refine pz_ic (i := 25) rfl ?_
    refine pz_ir (i := 26) rfl rfl rfl ?_
    first
      | (rw [if_neg (show ¬ (nI j < 0 ∨ nI (aZ rm k) ≤ nI j) from fun z => z.elim c6 (fun w => c12 w)), nI_add, if_neg (show ¬ nI (aA rm k + j) = -1 from fun z => absurd (show nI (aA rm k + j) < 0 by rw [z]; decide) (nI_pos (by omega))), cl_ofI (a := aA rm k + j)] at hQ
         exact hQ jv bv hx)
      | (rw [if_pos (Or.inl c6), if_pos rfl] at hQ
         exact hQ jv bv hx)
      | (rw [if_pos (Or.inr c12), if_pos rfl] at hQ
         exact hQ jv bv hx)
      | (rw [hno (Or.inl c1), if_pos rfl] at hQ
         exact hQ jv bv hx)
      | (rw [hno (Or.inr c4), if_pos rfl] at hQ
         exact hQ jv bv hx)
  · refine pz_iln (i := 2) rfl rfl ?_
    refine pz_ic (i := 3) rfl ?_
    refine pz_ii_ge (i := 4) rfl (fun c4 => ?_) (fun c4 => ?_)
    · refine pz_ic (i := 25) rfl ?_
      refine pz_ir (i := 26) rfl rfl rfl ?_
      first
        | (rw [if_neg (show ¬ (nI j < 0 ∨ nI (aZ rm k) ≤ nI j) from fun z => z.elim c6 (fun w => c12 w)), nI_add, if_neg (show ¬ nI (aA rm k + j) = -1 from fun z => absurd (show nI (aA rm k + j) < 0 by rw [z]; decide) (nI_pos (by omega))), cl_ofI (a := aA rm k + j)] at hQ
           exact hQ jv bv hx)
        | (rw [if_pos (Or.inl c6), if_pos rfl] at hQ
           exact hQ jv bv hx)
        | (rw [if_pos (Or.inr c12), if_pos rfl] at hQ
           exact hQ jv bv hx)
        | (rw [hno (Or.inl c1), if_pos rfl] at hQ
           exact hQ jv bv hx)
        | (rw [hno (Or.inr c4), if_pos rfl] at hQ
           exact hQ jv bv hx)
    · obtain ⟨k, hk, rfl⟩ := nI_of c1
      have hk3 : k < 3 := nle_ofI (a := 3) c4
      have hz9 := aZ_le hr.2 k
      have hs9 : aA rm k + aZ rm k ≤ rm + 15728 := by
        have : k = 0 ∨ k = 1 ∨ k = 2 := by omega
        rcases this with e | e | e <;> subst e <;> simp only [aA, aZ] <;> omega
      rw [hin k hk3] at hQ
      refine pz_iln (i := 5) rfl rfl ?_
      refine pz_if_lt (i := 6) rfl (fun c6 => ?_) (fun c6 => ?_)
      · refine pz_ic (i := 25) rfl ?_
        refine pz_ir (i := 26) rfl rfl rfl ?_
        first
          | (rw [if_neg (show ¬ (nI j < 0 ∨ nI (aZ rm k) ≤ nI j) from fun z => z.elim c6 (fun w => c12 w)), nI_add, if_neg (show ¬ nI (aA rm k + j) = -1 from fun z => absurd (show nI (aA rm k + j) < 0 by rw [z]; decide) (nI_pos (by omega))), cl_ofI (a := aA rm k + j)] at hQ
             exact hQ jv bv hx)
          | (rw [if_pos (Or.inl c6), if_pos rfl] at hQ
             exact hQ jv bv hx)
          | (rw [if_pos (Or.inr c12), if_pos rfl] at hQ
             exact hQ jv bv hx)
          | (rw [hno (Or.inl c1), if_pos rfl] at hQ
             exact hQ jv bv hx)
          | (rw [hno (Or.inr c4), if_pos rfl] at hQ
             exact hQ jv bv hx)
      · refine pz_iln (i := 7) rfl rfl ?_
        refine pz_aln (i := 8) rfl rfl ?_
        refine pz_get (i := 9) rfl (gf_54_2 ..) ?_
        refine pz_iln (i := 10) rfl rfl ?_
        refine pz_ial (i := 11) rfl (ga_56 ..) (in_ofI hk3) ?_
        rw [cl_ofI (a := k), (hg k hk3).2]
        refine pz_ii_ge (i := 12) rfl (fun c12 => ?_) (fun c12 => ?_)
        · refine pz_ic (i := 25) rfl ?_
          refine pz_ir (i := 26) rfl rfl rfl ?_
          first
            | (rw [if_neg (show ¬ (nI j < 0 ∨ nI (aZ rm k) ≤ nI j) from fun z => z.elim c6 (fun w => c12 w)), nI_add, if_neg (show ¬ nI (aA rm k + j) = -1 from fun z => absurd (show nI (aA rm k + j) < 0 by rw [z]; decide) (nI_pos (by omega))), cl_ofI (a := aA rm k + j)] at hQ
               exact hQ jv bv hx)
            | (rw [if_pos (Or.inl c6), if_pos rfl] at hQ
               exact hQ jv bv hx)
            | (rw [if_pos (Or.inr c12), if_pos rfl] at hQ
               exact hQ jv bv hx)
            | (rw [hno (Or.inl c1), if_pos rfl] at hQ
               exact hQ jv bv hx)
            | (rw [hno (Or.inr c4), if_pos rfl] at hQ
               exact hQ jv bv hx)
        · refine pz_aln (i := 13) rfl rfl ?_
          refine pz_get (i := 14) rfl (gf_54_3 ..) ?_
          refine pz_aln (i := 15) rfl rfl ?_
          refine pz_get (i := 16) rfl (gf_54_1 ..) ?_
          refine pz_iln (i := 17) rfl rfl ?_
          refine pz_ial (i := 18) rfl (ga_55 ..) (in_ofI hk3) ?_
          rw [cl_ofI (a := k), (hg k hk3).1]
          obtain ⟨j, hj, rfl⟩ := nI_of c6
          have hjz : j < aZ rm k := nle_ofI c12
          refine pz_iln (i := 19) rfl rfl ?_
          refine pz_add (i := 20) rfl ?_
          rw [nI_add]
          refine pz_bal (i := 21) rfl (ga_57 ..) rfl (in_ofI (by omega)) ?_
          rw [cl_ofI (a := aA rm k + j), h2]
          refine pz_si (i := 22) rfl ?_
          refine pz_and (i := 23) rfl ?_
          rw [bN_and]
          refine pz_go (i := 24) rfl ?_
          refine pz_ir (i := 26) rfl rfl rfl ?_
          first
            | (rw [if_neg (show ¬ (nI j < 0 ∨ nI (aZ rm k) ≤ nI j) from fun z => z.elim c6 (fun w => c12 w)), nI_add, if_neg (show ¬ nI (aA rm k + j) = -1 from fun z => absurd (show nI (aA rm k + j) < 0 by rw [z]; decide) (nI_pos (by omega))), cl_ofI (a := aA rm k + j)] at hQ
               exact hQ jv bv hx)
            | (rw [if_pos (Or.inl c6), if_pos rfl] at hQ
               exact hQ jv bv hx)
            | (rw [if_pos (Or.inr c12), if_pos rfl] at hQ
               exact hQ jv bv hx)
            | (rw [hno (Or.inl c1), if_pos rfl] at hQ
               exact hQ jv bv hx)
            | (rw [hno (Or.inr c4), if_pos rfl] at hQ
               exact hQ jv bv hx)
end SBF
