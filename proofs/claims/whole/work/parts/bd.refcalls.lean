/-! PART BD: the reference: its calls -/
section SBD
variable {Lx : Nat} {xs : Nat → Int32} {d rm : Nat} {iv : Nat → Int32} {av : Nat → Nat → Int32} {jv : Nat → Int32} {bv : Nat → Nat → Int32} {Q : rQ}
set_option maxRecDepth 20000 in
theorem sm_isKey {k : Int32} {w : pW} (hQ : Q (some (.int (bB (kx_is k)))) w) : rx_R Lx xs (d + 1) 127 [.int k] w Q := by
  refine pz_en (t := rt_127) ⟨Nat.le_of_ble_eq_true rfl, rfl⟩ rfl rfl ?_
  refine pz_iln (i := 0) rfl rfl ?_
  refine pz_if_lt (i := 1) rfl (fun c1 => ?_) (fun c1 => ?_)
  · refine pz_ic (i := 7) rfl ?_
    refine pz_ir (i := 8) rfl rfl rfl ?_
    first
      | (rw [kx_f1 c1] at hQ
         exact hQ)
      | (rw [kx_f2 c4] at hQ
         exact hQ)
      | (rw [kx_t c1 c4] at hQ
         exact hQ)
  · refine pz_iln (i := 2) rfl rfl ?_
    refine pz_bi (i := 3) rfl ?_
    refine pz_ii_ge (i := 4) rfl (fun c4 => ?_) (fun c4 => ?_)
    · refine pz_ic (i := 7) rfl ?_
      refine pz_ir (i := 8) rfl rfl rfl ?_
      first
        | (rw [kx_f1 c1] at hQ
           exact hQ)
        | (rw [kx_f2 c4] at hQ
           exact hQ)
        | (rw [kx_t c1 c4] at hQ
           exact hQ)
    · refine pz_ic (i := 5) rfl ?_
      refine pz_go (i := 6) rfl ?_
      refine pz_ir (i := 8) rfl rfl rfl ?_
      first
        | (rw [kx_f1 c1] at hQ
           exact hQ)
        | (rw [kx_f2 c4] at hQ
           exact hQ)
        | (rw [kx_t c1 c4] at hQ
           exact hQ)
/-- a byte of a long, moved down with its sign -/
theorem ty_bs (x : Int64) {j : Nat} (hj : j < 8) : ((x >>> ((nI (8 * j)).toInt64 &&& 63)).toInt32).toInt8.toInt32 = bS (x.toBitVec.toNat / 2 ^ (8 * j) % 256) := by
  rw [i8_of]
  congr 1
  show ((x >>> ((nI (8 * j)).toInt64 &&& 63)).toBitVec.signExtend 32).toNat % 256 = _
  rw [BitVec.signExtend_eq_setWidth_of_le _ (by decide), BitVec.toNat_setWidth, Int64.toBitVec_shiftRight]
  have hs : ∀ j, j < 8 → (((nI (8 * j)).toInt64 &&& 63).toBitVec.smod 64).toNat = 8 * j := by decide
  rw [BitVec.sshiftRight_eq', hs j hj]
  have hbit : ∀ y : BitVec 64, y.toNat % 2 ^ 32 % 256 = (y.setWidth 8).toNat := fun y => by
    rw [BitVec.toNat_setWidth]
    omega
  rw [hbit]
  have e : (x.toBitVec.sshiftRight (8 * j)).setWidth 8 = (x.toBitVec >>> (8 * j)).setWidth 8 := by
    apply BitVec.eq_of_getLsbD_eq
    intro i hi
    rw [BitVec.getLsbD_setWidth, BitVec.getLsbD_setWidth, BitVec.getLsbD_sshiftRight, BitVec.getLsbD_ushiftRight]
    have h1 : i < 64 := by omega
    have h2 : 8 * j + i < 64 := by omega
    simp [h1, h2, hi]
  rw [e, BitVec.toNat_setWidth, BitVec.toNat_ushiftRight, Nat.shiftRight_eq_div_pow]
set_option maxRecDepth 20000 in
theorem lq_ty {x : Int64} {n : Int32} {o2 : Option Value} : ∀ (j : Nat) (T : List Nat) (jv : Nat → Int32) (bv : Nat → Nat → Int32), j ≤ 8 → T.length + j ≤ 64 → jv 6 = nI T.length → (∀ k, k < T.length → bv 9 k = lB T k) → (∀ jv' bv', frI jv jv' [6] → frA bv bv' [9] → jv' 6 = nI (T ++ tyB x j).length → (∀ k, k < (T ++ tyB x j).length → bv' 9 k = lB (T ++ tyB x j) k) → Q (some (.int (nI (T ++ tyB x j).length))) (wX rm iv av (wM rm jv' bv'))) → pz Lx xs d rt_128 (some .int) Q 23 [some (.ref 54), some (.long x), o2, some (.int n), some (.int (nI j - 1))] [] (wX rm iv av (wM rm jv bv))
  | 0, T, jv, bv, hj, hl, h9, h40, hQ => by
    have e0 : T ++ tyB x 0 = T := List.append_nil T
    rw [e0] at hQ
    refine pz_il (i := 23) rfl rfl ?_
    refine pz_if_lt (i := 24) rfl (fun c24 => ?_) (fun c24 => ?_)
    · refine pz_aln (i := 45) rfl rfl ?_
      refine pz_get (i := 46) rfl (gf_54_17 ..) ?_
      rw [h9]
      refine pz_ir (i := 47) rfl rfl rfl ?_
      exact hQ jv bv (frI_rfl _ _) (frA_rfl _ _) h9 h40
    · exact absurd (by decide) c24
  | j + 1, T, jv, bv, hj, hl, h9, h40, hQ => by
    have e1 : nI (j + 1) - 1 = nI j := pk_sub (b := 1) (by omega)
    have eT : T ++ tyB x (j + 1) = (T ++ [x.toBitVec.toNat / 2 ^ (8 * j) % 256]) ++ tyB x j := by
      rw [List.append_assoc]
      rfl
    rw [eT] at hQ
    rw [e1]
    refine pz_il (i := 23) rfl rfl ?_
    refine pz_if_lt (i := 24) rfl (fun c24 => ?_) (fun c24 => ?_)
    · exact absurd c24 (nI_pos (by omega))
    · refine pz_aln (i := 25) rfl rfl ?_
      refine pz_get (i := 26) rfl (gf_54_16 ..) ?_
      refine pz_aln (i := 27) rfl rfl ?_
      refine pz_get (i := 28) rfl (gf_54_17 ..) ?_
      rw [h9]
      refine pz_lln (i := 29) rfl rfl ?_
      refine pz_bi (i := 30) rfl ?_
      refine pz_il (i := 31) rfl rfl ?_
      refine pz_mul (i := 32) rfl ?_
      rw [show (8 : Int32) * nI j = nI (8 * j) from pk_mul 8 j]
      refine pz_lshr (i := 33) rfl ?_
      refine pz_l2i (i := 34) rfl ?_
      refine pz_i2b (i := 35) rfl ?_
      rw [ty_bs x (by omega)]
      refine pz_bas (i := 36) rfl (ga_64 ..) rfl (in_ofI (by omega)) (pa_64 ..) ?_
      rw [cl_ofI (a := T.length)]
      refine pz_aln (i := 37) rfl rfl ?_
      refine pz_dup (i := 38) rfl rfl ?_
      refine pz_get (i := 39) rfl (gf_54_17 ..) ?_
      rw [h9]
      refine pz_ic (i := 40) rfl ?_
      refine pz_add (i := 41) rfl ?_
      rw [show nI T.length + 1 = nI (T.length + 1) from nI_add _ 1]
      refine pz_put (i := 42) rfl (pf_54_17 ..) ⟨rfl, rfl⟩ ?_
      refine pz_inc (i := 43) rfl rfl rfl rfl ?_
      rw [show nI j + (-1) = nI j - 1 from (Int32.sub_eq_add_neg ..).symm]
      refine pz_go (i := 44) rfl ?_
      refine lq_ty j (T ++ [x.toBitVec.toNat / 2 ^ (8 * j) % 256]) _ _ (by omega) (by rw [List.length_append]; show T.length + 1 + j ≤ 64; omega) (by rw [List.length_append]; exact ui_s _ _ _) (fun k hk => ?_) (fun iv2 av2 f1 f2 => hQ iv2 av2 (frI_tr (frI_up (frI_rfl _ [6]) (by decide)) f1 (by decide) (by decide)) (frA_tr (frA_up (frA_rfl _ [9]) (by decide)) f2 (by decide) (by decide)))
      rw [List.length_append] at hk
      have hk2 : k < T.length + 1 := hk
      rw [ua_s]
      by_cases e : k = T.length
      · subst e
        rw [ui_s]
        unfold lB
        rw [gd_r (Nat.le_refl _), Nat.sub_self]
        exact bS_bt _
      · rw [ui_n e]
        rw [h40 k (by omega)]
        unfold lB
        rw [gd_l (by omega)]
set_option maxRecDepth 20000 in
theorem sm_type (hr : 512 ≤ rm ∧ rm ≤ 4096) {a : aS} {x : Int64} {n : Int32} (hx : mS rm jv bv a) (hQ : ∀ jv' bv', mS rm jv' bv' (aType x n a).2 → Q (some (.int (aType x n a).1)) (wX rm iv av (wM rm jv' bv'))) : rx_R Lx xs (d + 2) 128 [.ref 54, .long x, .int n] (wX rm iv av (wM rm jv bv)) Q := by
  refine pz_en (t := rt_128) ⟨Nat.le_of_ble_eq_true rfl, rfl⟩ rfl rfl ?_
  unfold aType at hQ
  obtain ⟨hd, hT, hG, hV⟩ := id hx
  have h5 : jv 5 = bB (dwn a) := hd.2.2.2.2.2.2.2.2.2.1
  have hr' : 0 < rm ∧ rm ≤ 4096 := ⟨by omega, hr.2⟩
  refine pz_aln (i := 0) rfl rfl ?_
  refine pz_get (i := 1) rfl (gf_54_15 ..) ?_
  rw [h5]
  refine pz_if_eq (i := 2) rfl (fun c2 => ?_) (fun c2 => ?_)
  · have hl := bB_f c2
    have hal : a.1.1.2.2.2.2.2 = false := hl
    rw [if_neg (show ¬ dwn a = true by rw [hl]; decide)] at hQ
    have hVl := hV hl
    refine pz_iln (i := 5) rfl rfl ?_
    refine pz_ic (i := 6) rfl ?_
    refine pz_ii_lt (i := 7) rfl (fun c7 => ?_) (fun c7 => ?_)
    · refine pz_ic (i := 17) rfl ?_
      refine pz_ir (i := 18) rfl rfl rfl ?_
      first
        | rw [if_pos (Or.inl c7)] at hQ
        | rw [if_pos (Or.inr (Or.inl c10))] at hQ
        | rw [if_pos (Or.inr (Or.inr (Int32.not_le.mp c16)))] at hQ
      exact hQ jv bv hx
    · refine pz_iln (i := 8) rfl rfl ?_
      refine pz_bi (i := 9) rfl ?_
      refine pz_ii_gt (i := 10) rfl (fun c10 => ?_) (fun c10 => ?_)
      · refine pz_ic (i := 17) rfl ?_
        refine pz_ir (i := 18) rfl rfl rfl ?_
        first
          | rw [if_pos (Or.inl c7)] at hQ
          | rw [if_pos (Or.inr (Or.inl c10))] at hQ
          | rw [if_pos (Or.inr (Or.inr (Int32.not_le.mp c16)))] at hQ
        exact hQ jv bv hx
      · refine pz_aln (i := 11) rfl rfl ?_
        refine pz_get (i := 12) rfl (gf_54_17 ..) ?_
        rw [hT.2.2.2.1]
        refine pz_iln (i := 13) rfl rfl ?_
        refine pz_add (i := 14) rfl ?_
        refine pz_bi (i := 15) rfl ?_
        refine pz_ii_le (i := 16) rfl (fun c16 => ?_) (fun c16 => ?_)
        · rw [if_neg (fun z => z.elim c7 (fun w => w.elim c10 (fun w => (Int32.not_le.mpr w) c16)))] at hQ
          obtain ⟨k, hk, rfl⟩ := nI_of2 (M := 8) (n := 8) (by decide) (fun w => c7 (Int32.lt_trans w (by decide))) (Int32.not_lt.mp c10)
          have htl := hT.2.2.2.2.1
          have hsum : a.2.1.2.2.length + k ≤ 64 := by
            rw [nI_add] at c16
            exact le_ofI (b := 64) c16
          rw [cl_ofI (a := k)] at hQ
          refine pz_iln (i := 19) rfl rfl ?_
          refine pz_ic (i := 20) rfl ?_
          refine pz_sub (i := 21) rfl ?_
          refine pz_is (i := 22) rfl ⟨rfl, Nat.le_of_ble_eq_true rfl⟩ rfl ?_
          refine lq_ty k a.2.1.2.2 jv bv (by omega) hsum hT.2.2.2.1 hT.2.2.2.2.2.2 (fun jv1 bv1 f1 f2 e1 e2 => ?_)
          rw [List.length_append, tyB_len]
          refine hQ jv1 bv1 ⟨dM_fr hd f1 f2 (by decide) (by decide), ⟨bM_fr hT.1 f1 f2 (by decide) (by decide), (f1 10 (by decide)).trans hT.2.1, hT.2.2.1, e1, ?_, by8_app hT.2.2.2.2.2.1 (tyB_by x k), e2⟩, gM_fr hG f1 f2 (by decide) (by decide), fun _ => vM_fr hVl f1 f2 (by decide) (by decide)⟩
          show (a.2.1.2.2 ++ tyB x k).length ≤ 64
          rw [List.length_append, tyB_len]
          exact hsum
        · refine pz_ic (i := 17) rfl ?_
          refine pz_ir (i := 18) rfl rfl rfl ?_
          first
            | rw [if_pos (Or.inl c7)] at hQ
            | rw [if_pos (Or.inr (Or.inl c10))] at hQ
            | rw [if_pos (Or.inr (Or.inr (Int32.not_le.mp c16)))] at hQ
          exact hQ jv bv hx
  · refine pz_bi (i := 3) rfl ?_
    refine pz_ir (i := 4) rfl rfl rfl ?_
    rw [if_pos (bB_t c2)] at hQ
    exact hQ jv bv hx
set_option maxRecDepth 20000 in
theorem sm_begin (hr : 512 ≤ rm ∧ rm ≤ 4096) {a : aS} (hx : mS rm jv bv a) (hQ : ∀ jv' bv', mS rm jv' bv' (aBegin a).2 → Q (some (.int (aBegin a).1)) (wX rm iv av (wM rm jv' bv'))) : rx_R Lx xs (d + 1) 131 [.ref 54] (wX rm iv av (wM rm jv bv)) Q := by
  refine pz_en (t := rt_131) ⟨Nat.le_of_ble_eq_true rfl, rfl⟩ rfl rfl ?_
  unfold aBegin at hQ
  obtain ⟨hd, hT, hG, hV⟩ := id hx
  have h5 : jv 5 = bB (dwn a) := hd.2.2.2.2.2.2.2.2.2.1
  have hr' : 0 < rm ∧ rm ≤ 4096 := ⟨by omega, hr.2⟩
  refine pz_aln (i := 0) rfl rfl ?_
  refine pz_get (i := 1) rfl (gf_54_15 ..) ?_
  rw [h5]
  refine pz_if_eq (i := 2) rfl (fun c2 => ?_) (fun c2 => ?_)
  · have hl := bB_f c2
    have hal : a.1.1.2.2.2.2.2 = false := hl
    rw [if_neg (show ¬ dwn a = true by rw [hl]; decide)] at hQ
    have hVl := hV hl
    refine pz_aln (i := 5) rfl rfl ?_
    refine pz_get (i := 6) rfl (gf_54_22 ..) ?_
    rw [hT.2.1]
    refine pz_isn (i := 7) rfl ⟨rfl, Nat.le_of_ble_eq_true rfl⟩ rfl ?_
    refine pz_aln (i := 8) rfl rfl ?_
    refine pz_ic (i := 9) rfl ?_
    refine pz_put (i := 10) rfl (pf_54_22 ..) (bB_n true) ?_
    refine pz_iln (i := 11) rfl rfl ?_
    refine pz_if_eq (i := 12) rfl (fun c12 => ?_) (fun c12 => ?_)
    · refine pz_ic (i := 15) rfl ?_
      refine pz_ir (i := 16) rfl rfl rfl ?_
      have fi : frI jv (upd jv 10 1) [10] := frI_up (frI_rfl _ _) (by decide)
      first
        | (have hb := bB_t c12
           rw [if_pos hb] at hQ
           exact hQ _ bv ⟨dM_fr hd fi (frA_rfl _ []) (by decide) (by decide), ⟨bM_fr hT.1 fi (frA_rfl _ []) (by decide) (by decide), by rw [ui_s, hb]; rfl, hT.2.2.1, (fi 6 (by decide)).trans hT.2.2.2.1, hT.2.2.2.2⟩, gM_fr hG fi (frA_rfl _ []) (by decide) (by decide), fun w => vM_fr (hV w) fi (frA_rfl _ []) (by decide) (by decide)⟩)
        | (have hb := bB_f c12
           rw [if_neg (show ¬ a.2.1.2.1 = true by rw [hb]; decide)] at hQ
           exact hQ _ bv ⟨dM_fr hd fi (frA_rfl _ []) (by decide) (by decide), ⟨bM_fr hT.1 fi (frA_rfl _ []) (by decide) (by decide), ui_s _ _ _, fun w => (by cases w), (fi 6 (by decide)).trans hT.2.2.2.1, hT.2.2.2.2⟩, gM_fr hG fi (frA_rfl _ []) (by decide) (by decide), fun w => vM_fr (hV w) fi (frA_rfl _ []) (by decide) (by decide)⟩)
    · refine pz_ic (i := 13) rfl ?_
      refine pz_go (i := 14) rfl ?_
      refine pz_ir (i := 16) rfl rfl rfl ?_
      have fi : frI jv (upd jv 10 1) [10] := frI_up (frI_rfl _ _) (by decide)
      first
        | (have hb := bB_t c12
           rw [if_pos hb] at hQ
           exact hQ _ bv ⟨dM_fr hd fi (frA_rfl _ []) (by decide) (by decide), ⟨bM_fr hT.1 fi (frA_rfl _ []) (by decide) (by decide), by rw [ui_s, hb]; rfl, hT.2.2.1, (fi 6 (by decide)).trans hT.2.2.2.1, hT.2.2.2.2⟩, gM_fr hG fi (frA_rfl _ []) (by decide) (by decide), fun w => vM_fr (hV w) fi (frA_rfl _ []) (by decide) (by decide)⟩)
        | (have hb := bB_f c12
           rw [if_neg (show ¬ a.2.1.2.1 = true by rw [hb]; decide)] at hQ
           exact hQ _ bv ⟨dM_fr hd fi (frA_rfl _ []) (by decide) (by decide), ⟨bM_fr hT.1 fi (frA_rfl _ []) (by decide) (by decide), ui_s _ _ _, fun w => (by cases w), (fi 6 (by decide)).trans hT.2.2.2.1, hT.2.2.2.2⟩, gM_fr hG fi (frA_rfl _ []) (by decide) (by decide), fun w => vM_fr (hV w) fi (frA_rfl _ []) (by decide) (by decide)⟩)
  · refine pz_bi (i := 3) rfl ?_
    refine pz_ir (i := 4) rfl rfl rfl ?_
    rw [if_pos (bB_t c2)] at hQ
    exact hQ jv bv hx
set_option maxRecDepth 20000 in
theorem sm_cancel (hr : 512 ≤ rm ∧ rm ≤ 4096) {a : aS} (hx : mS rm jv bv a) (hQ : ∀ jv' bv', mS rm jv' bv' (aCancel a).2 → Q (some (.int (aCancel a).1)) (wX rm iv av (wM rm jv' bv'))) : rx_R Lx xs (d + 1) 133 [.ref 54] (wX rm iv av (wM rm jv bv)) Q := by
  refine pz_en (t := rt_133) ⟨Nat.le_of_ble_eq_true rfl, rfl⟩ rfl rfl ?_
  unfold aCancel at hQ
  obtain ⟨hd, hT, hG, hV⟩ := id hx
  have h5 : jv 5 = bB (dwn a) := hd.2.2.2.2.2.2.2.2.2.1
  have hr' : 0 < rm ∧ rm ≤ 4096 := ⟨by omega, hr.2⟩
  refine pz_aln (i := 0) rfl rfl ?_
  refine pz_get (i := 1) rfl (gf_54_15 ..) ?_
  rw [h5]
  refine pz_if_eq (i := 2) rfl (fun c2 => ?_) (fun c2 => ?_)
  · have hl := bB_f c2
    have hal : a.1.1.2.2.2.2.2 = false := hl
    rw [if_neg (show ¬ dwn a = true by rw [hl]; decide)] at hQ
    have hVl := hV hl
    refine pz_aln (i := 5) rfl rfl ?_
    refine pz_get (i := 6) rfl (gf_54_22 ..) ?_
    rw [hT.2.1]
    refine pz_if_eq (i := 7) rfl (fun c7 => ?_) (fun c7 => ?_)
    · refine pz_ic (i := 11) rfl ?_
      refine pz_isn (i := 12) rfl ⟨rfl, Nat.le_of_ble_eq_true rfl⟩ rfl ?_
      refine pz_aln (i := 13) rfl rfl ?_
      refine pz_ic (i := 14) rfl ?_
      refine pz_put (i := 15) rfl (pf_54_22 ..) ⟨rfl, rfl⟩ ?_
      refine pz_aln (i := 16) rfl rfl ?_
      refine pz_ic (i := 17) rfl ?_
      refine pz_put (i := 18) rfl (pf_54_23 ..) ⟨rfl, rfl⟩ ?_
      refine pz_iln (i := 19) rfl rfl ?_
      refine pz_ir (i := 20) rfl rfl rfl ?_
      have fi : frI jv (upd (upd jv 10 0) 11 0) [10, 11] := frI_up (frI_up (frI_rfl _ _) (by decide)) (by decide)
      have hT2 : tM (upd (upd jv 10 0) 11 0) bv ([], false, a.2.1.2.2) := ⟨⟨ui_s _ _ _, Nat.zero_le _, fun i x hx => (by cases hx)⟩, (ui_n (by decide)).trans (ui_s _ _ _), fun _ => rfl, (fi 6 (by decide)).trans hT.2.2.2.1, hT.2.2.2.2⟩
      have h := hQ _ bv ⟨dM_fr hd fi (frA_rfl _ []) (by decide) (by decide), hT2, gM_fr hG fi (frA_rfl _ []) (by decide) (by decide), fun w => vM_fr (hV w) fi (frA_rfl _ []) (by decide) (by decide)⟩
      first
        | (rw [if_pos (bB_t c7)] at h
           exact h)
        | (rw [if_neg (show ¬ a.2.1.2.1 = true by rw [bB_f c7]; decide)] at h
           exact h)
    · refine pz_aln (i := 8) rfl rfl ?_
      refine pz_get (i := 9) rfl (gf_54_23 ..) ?_
      rw [hT.1.1]
      refine pz_go (i := 10) rfl ?_
      refine pz_isn (i := 12) rfl ⟨rfl, Nat.le_of_ble_eq_true rfl⟩ rfl ?_
      refine pz_aln (i := 13) rfl rfl ?_
      refine pz_ic (i := 14) rfl ?_
      refine pz_put (i := 15) rfl (pf_54_22 ..) ⟨rfl, rfl⟩ ?_
      refine pz_aln (i := 16) rfl rfl ?_
      refine pz_ic (i := 17) rfl ?_
      refine pz_put (i := 18) rfl (pf_54_23 ..) ⟨rfl, rfl⟩ ?_
      refine pz_iln (i := 19) rfl rfl ?_
      refine pz_ir (i := 20) rfl rfl rfl ?_
      have fi : frI jv (upd (upd jv 10 0) 11 0) [10, 11] := frI_up (frI_up (frI_rfl _ _) (by decide)) (by decide)
      have hT2 : tM (upd (upd jv 10 0) 11 0) bv ([], false, a.2.1.2.2) := ⟨⟨ui_s _ _ _, Nat.zero_le _, fun i x hx => (by cases hx)⟩, (ui_n (by decide)).trans (ui_s _ _ _), fun _ => rfl, (fi 6 (by decide)).trans hT.2.2.2.1, hT.2.2.2.2⟩
      have h := hQ _ bv ⟨dM_fr hd fi (frA_rfl _ []) (by decide) (by decide), hT2, gM_fr hG fi (frA_rfl _ []) (by decide) (by decide), fun w => vM_fr (hV w) fi (frA_rfl _ []) (by decide) (by decide)⟩
      first
        | (rw [if_pos (bB_t c7)] at h
           exact h)
        | (rw [if_neg (show ¬ a.2.1.2.1 = true by rw [bB_f c7]; decide)] at h
           exact h)
  · refine pz_bi (i := 3) rfl ?_
    refine pz_ir (i := 4) rfl rfl rfl ?_
    rw [if_pos (bB_t c2)] at hQ
    exact hQ jv bv hx
set_option maxRecDepth 20000 in
theorem sm_read (hr : 512 ≤ rm ∧ rm ≤ 4096) {a : aS} {y1 : Int32} (hx : mS rm jv bv a) (hQ : ∀ jv' bv', mS rm jv' bv' (aRead y1 a).2 → Q (some (.int (aRead y1 a).1)) (wX rm iv av (wM rm jv' bv'))) : rx_R Lx xs (d + 1) 135 [.ref 54, .int y1] (wX rm iv av (wM rm jv bv)) Q := by
  refine pz_en (t := rt_135) ⟨Nat.le_of_ble_eq_true rfl, rfl⟩ rfl rfl ?_
  unfold aRead at hQ
  obtain ⟨hd, hT, hG, hV⟩ := id hx
  have h5 : jv 5 = bB (dwn a) := hd.2.2.2.2.2.2.2.2.2.1
  have hr' : 0 < rm ∧ rm ≤ 4096 := ⟨by omega, hr.2⟩
  obtain ⟨g1, g2, g3, g4, _, _⟩ := id hG
  refine pz_iln (i := 0) rfl rfl ?_
  refine pz_if_lt (i := 1) rfl (fun c1 => ?_) (fun c1 => ?_)
  · refine pz_ic (i := 13) rfl ?_
    refine pz_ir (i := 14) rfl rfl rfl ?_
    first
      | exact hQ jv bv hx
      | (rw [if_pos (Or.inl c1)] at hQ
         exact hQ jv bv hx)
      | (rw [if_pos (Or.inr c5)] at hQ
         exact hQ jv bv hx)
  · refine pz_iln (i := 2) rfl rfl ?_
    refine pz_aln (i := 3) rfl rfl ?_
    refine pz_get (i := 4) rfl (gf_54_19 ..) ?_
    rw [g1]
    refine pz_ii_ge (i := 5) rfl (fun c5 => ?_) (fun c5 => ?_)
    · refine pz_ic (i := 13) rfl ?_
      refine pz_ir (i := 14) rfl rfl rfl ?_
      first
        | exact hQ jv bv hx
        | (rw [if_pos (Or.inl c1)] at hQ
           exact hQ jv bv hx)
        | (rw [if_pos (Or.inr c5)] at hQ
           exact hQ jv bv hx)
    · obtain ⟨k, hk, rfl⟩ := nI_of c1
      have hkl : k < a.2.2.1.length := lt_ofI (Int32.not_le.mp c5) hk (by omega)
      rw [if_neg (fun z => z.elim c1 (fun w => c5 w)), cl_ofI hk] at hQ
      refine pz_aln (i := 6) rfl rfl ?_
      refine pz_get (i := 7) rfl (gf_54_18 ..) ?_
      refine pz_iln (i := 8) rfl rfl ?_
      refine pz_bal (i := 9) rfl (ga_65 ..) rfl (in_ofI (by omega)) ?_
      rw [cl_ofI hk, g4 k hkl]
      refine pz_si (i := 10) rfl ?_
      refine pz_and (i := 11) rfl ?_
      rw [show lB a.2.2.1 k &&& 255 = nI (a.2.2.1.getD k 0) from sc_k8 _ (by8_get g3 k)]
      refine pz_go (i := 12) rfl ?_
      refine pz_ir (i := 14) rfl rfl rfl ?_
      first
        | exact hQ jv bv hx
        | (rw [if_pos (Or.inl c1)] at hQ
           exact hQ jv bv hx)
        | (rw [if_pos (Or.inr c5)] at hQ
           exact hQ jv bv hx)
set_option maxRecDepth 20000 in
theorem sm_sync (hr : 512 ≤ rm ∧ rm ≤ 4096) {a : aS} (hx : mS rm jv bv a) (hQ : ∀ jv' bv', mS rm jv' bv' (aSync rm a).2 → Q (some (.int (aSync rm a).1)) (wX rm iv av (wM rm jv' bv'))) : rx_R Lx xs (d + 4) 137 [.ref 54] (wX rm iv av (wM rm jv bv)) Q := by
  refine pz_en (t := rt_137) ⟨Nat.le_of_ble_eq_true rfl, rfl⟩ rfl rfl ?_
  unfold aSync at hQ
  obtain ⟨hd, hT, hG, hV⟩ := id hx
  have h5 : jv 5 = bB (dwn a) := hd.2.2.2.2.2.2.2.2.2.1
  have hr' : 0 < rm ∧ rm ≤ 4096 := ⟨by omega, hr.2⟩
  refine pz_aln (i := 0) rfl rfl ?_
  refine pz_get (i := 1) rfl (gf_54_15 ..) ?_
  rw [h5]
  refine pz_if_eq (i := 2) rfl (fun c2 => ?_) (fun c2 => ?_)
  · refine pz_aln (i := 5) rfl rfl ?_
    refine pz_cI0 (i := 6) rfl (gc_54 ..) rfl (Nat.le_of_ble_eq_true rfl) rfl ?_
    have hl := bB_f c2
    refine sm_syncAll hr' hd hl (fun jv1 bv1 k1 f1 a1 => ?_)
    refine ⟨_, rfl, ?_⟩
    refine pz_ir (i := 7) rfl rfl rfl ?_
    first
      | (rw [if_pos (bB_t c2)] at hQ
         exact hQ jv bv hx)
      | (rw [if_neg (show ¬ dwn a = true by rw [hl]; decide)] at hQ
         exact hQ jv1 bv1 ⟨k1, tM_fr hT f1 a1 (by decide) (by decide), gM_fr hG f1 a1 (by decide) (by decide), fun _ => vM_fr (hV hl) f1 a1 (by decide) (by decide)⟩)
  · refine pz_bi (i := 3) rfl ?_
    refine pz_go (i := 4) rfl ?_
    refine pz_ir (i := 7) rfl rfl rfl ?_
    first
      | (rw [if_pos (bB_t c2)] at hQ
         exact hQ jv bv hx)
      | (rw [if_neg (show ¬ dwn a = true by rw [hl]; decide)] at hQ
         exact hQ jv1 bv1 ⟨k1, tM_fr hT f1 a1 (by decide) (by decide), gM_fr hG f1 a1 (by decide) (by decide), fun _ => vM_fr (hV hl) f1 a1 (by decide) (by decide)⟩)
set_option maxRecDepth 20000 in
theorem sm_crash (hr : 512 ≤ rm ∧ rm ≤ 4096) {a : aS} {y1 y2 : Int32} (hx : mS rm jv bv a) (hQ : ∀ jv' bv', mS rm jv' bv' (aCrash rm y1 y2 a).2 → Q (some (.int (aCrash rm y1 y2 a).1)) (wX rm iv av (wM rm jv' bv'))) : rx_R Lx xs (d + 4) 140 [.ref 54, .int y1, .int y2] (wX rm iv av (wM rm jv bv)) Q := by
  refine pz_en (t := rt_140) ⟨Nat.le_of_ble_eq_true rfl, rfl⟩ rfl rfl ?_
  unfold aCrash at hQ
  obtain ⟨hd, hT, hG, hV⟩ := id hx
  have h5 : jv 5 = bB (dwn a) := hd.2.2.2.2.2.2.2.2.2.1
  have hr' : 0 < rm ∧ rm ≤ 4096 := ⟨by omega, hr.2⟩
  refine pz_aln (i := 0) rfl rfl ?_
  refine pz_get (i := 1) rfl (gf_54_15 ..) ?_
  rw [h5]
  refine pz_if_eq (i := 2) rfl (fun c2 => ?_) (fun c2 => ?_)
  · have hl := bB_f c2
    have hal : a.1.1.2.2.2.2.2 = false := hl
    rw [if_neg (show ¬ dwn a = true by rw [hl]; decide)] at hQ
    have hVl := hV hl
    refine pz_iln (i := 5) rfl rfl ?_
    refine pz_if_lt (i := 6) rfl (fun c6 => ?_) (fun c6 => ?_)
    · refine pz_ic (i := 9) rfl ?_
      refine pz_ir (i := 10) rfl rfl rfl ?_
      first
        | rw [if_pos (Or.inl c6)] at hQ
        | rw [if_pos (Or.inr (Int32.not_le.mp c8))] at hQ
      exact hQ jv bv hx
    · refine pz_iln (i := 7) rfl rfl ?_
      refine pz_if_ge (i := 8) rfl (fun c8 => ?_) (fun c8 => ?_)
      · rw [if_neg (fun z => z.elim c6 (fun w => (Int32.not_le.mpr w) c8))] at hQ
        obtain ⟨k, hk, rfl⟩ := nI_of c6
        obtain ⟨c, hc, rfl⟩ := nI_of (fun w => (Int32.not_le.mpr w) c8)
        rw [cl_ofI hk, cl_ofI hc] at hQ
        refine pz_aln (i := 11) rfl rfl ?_
        refine pz_get (i := 12) rfl (gf_54_10 ..) ?_
        rw [show jv 0 = nI a.1.1.2.1.length from hd.2.2.1]
        refine pz_isn (i := 13) rfl ⟨rfl, Nat.le_of_ble_eq_true rfl⟩ rfl ?_
        refine pz_aln (i := 14) rfl rfl ?_
        refine pz_iln (i := 15) rfl rfl ?_
        refine pz_iln (i := 16) rfl rfl ?_
        refine pz_cV2 (i := 17) rfl (gc_54 ..) rfl (Nat.le_of_ble_eq_true rfl) rfl ?_
        refine sm_powerFails hr' hd hk hc (fun jv1 bv1 k1 k6 k10 k11 k20 k17 f1 a1 => ?_)
        refine ⟨rfl, ?_⟩
        refine pz_iln (i := 18) rfl rfl ?_
        refine pz_ir (i := 19) rfl rfl rfl ?_
        exact hQ jv1 bv1 ⟨k1, tM_0 k6 k10 k11, gM_fr hG f1 a1 (by decide) (by decide), fun w => (by cases w)⟩
      · refine pz_ic (i := 9) rfl ?_
        refine pz_ir (i := 10) rfl rfl rfl ?_
        first
          | rw [if_pos (Or.inl c6)] at hQ
          | rw [if_pos (Or.inr (Int32.not_le.mp c8))] at hQ
        exact hQ jv bv hx
  · refine pz_bi (i := 3) rfl ?_
    refine pz_ir (i := 4) rfl rfl rfl ?_
    rw [if_pos (bB_t c2)] at hQ
    exact hQ jv bv hx
set_option maxRecDepth 20000 in
theorem sm_fail (hr : 512 ≤ rm ∧ rm ≤ 4096) {a : aS} {y1 y2 y3 : Int32} (hx : mS rm jv bv a) (hQ : ∀ jv' bv', mS rm jv' bv' (aFail y1 y2 y3 a).2 → Q (some (.int (aFail y1 y2 y3 a).1)) (wX rm iv av (wM rm jv' bv'))) : rx_R Lx xs (d + 1) 141 [.ref 54, .int y1, .int y2, .int y3] (wX rm iv av (wM rm jv bv)) Q := by
  refine pz_en (t := rt_141) ⟨Nat.le_of_ble_eq_true rfl, rfl⟩ rfl rfl ?_
  unfold aFail at hQ
  obtain ⟨hd, hT, hG, hV⟩ := id hx
  have h5 : jv 5 = bB (dwn a) := hd.2.2.2.2.2.2.2.2.2.1
  have hr' : 0 < rm ∧ rm ≤ 4096 := ⟨by omega, hr.2⟩
  refine pz_aln (i := 0) rfl rfl ?_
  refine pz_get (i := 1) rfl (gf_54_15 ..) ?_
  rw [h5]
  refine pz_if_eq (i := 2) rfl (fun c2 => ?_) (fun c2 => ?_)
  · have hl := bB_f c2
    have hal : a.1.1.2.2.2.2.2 = false := hl
    rw [if_neg (show ¬ dwn a = true by rw [hl]; decide)] at hQ
    have hVl := hV hl
    refine pz_iln (i := 5) rfl rfl ?_
    refine pz_ic (i := 6) rfl ?_
    refine pz_ii_lt (i := 7) rfl (fun c7 => ?_) (fun c7 => ?_)
    · refine pz_ic (i := 15) rfl ?_
      refine pz_ir (i := 16) rfl rfl rfl ?_
      first
        | rw [if_pos (Or.inl c7)] at hQ
        | rw [if_pos (Or.inr (Or.inl c10))] at hQ
        | rw [if_pos (Or.inr (Or.inr (Or.inl c12)))] at hQ
        | rw [if_pos (Or.inr (Or.inr (Or.inr (Int32.not_le.mp c14))))] at hQ
      exact hQ jv bv hx
    · refine pz_iln (i := 8) rfl rfl ?_
      refine pz_si (i := 9) rfl ?_
      refine pz_ii_gt (i := 10) rfl (fun c10 => ?_) (fun c10 => ?_)
      · refine pz_ic (i := 15) rfl ?_
        refine pz_ir (i := 16) rfl rfl rfl ?_
        first
          | rw [if_pos (Or.inl c7)] at hQ
          | rw [if_pos (Or.inr (Or.inl c10))] at hQ
          | rw [if_pos (Or.inr (Or.inr (Or.inl c12)))] at hQ
          | rw [if_pos (Or.inr (Or.inr (Or.inr (Int32.not_le.mp c14))))] at hQ
        exact hQ jv bv hx
      · refine pz_iln (i := 11) rfl rfl ?_
        refine pz_if_lt (i := 12) rfl (fun c12 => ?_) (fun c12 => ?_)
        · refine pz_ic (i := 15) rfl ?_
          refine pz_ir (i := 16) rfl rfl rfl ?_
          first
            | rw [if_pos (Or.inl c7)] at hQ
            | rw [if_pos (Or.inr (Or.inl c10))] at hQ
            | rw [if_pos (Or.inr (Or.inr (Or.inl c12)))] at hQ
            | rw [if_pos (Or.inr (Or.inr (Or.inr (Int32.not_le.mp c14))))] at hQ
          exact hQ jv bv hx
        · refine pz_iln (i := 13) rfl rfl ?_
          refine pz_if_ge (i := 14) rfl (fun c14 => ?_) (fun c14 => ?_)
          · rw [if_neg (fun z => z.elim c7 (fun w => w.elim c10 (fun w => w.elim c12 (fun w => (Int32.not_le.mpr w) c14))))] at hQ
            obtain ⟨k, hk, rfl⟩ := nI_of c12
            obtain ⟨c, hc, rfl⟩ := nI_of (fun w => (Int32.not_le.mpr w) c14)
            obtain ⟨n, hn, rfl⟩ := nI_of2 (M := 1000) (n := 1000) (by decide) (fun w => c7 (Int32.lt_trans w (by decide))) (Int32.not_lt.mp c10)
            rw [cl_ofI hk, cl_ofI hc, cl_ofI (a := n)] at hQ
            refine pz_aln (i := 17) rfl rfl ?_
            refine pz_iln (i := 18) rfl rfl ?_
            refine pz_put (i := 19) rfl (pf_54_12 ..) ⟨rfl, rfl⟩ ?_
            refine pz_aln (i := 20) rfl rfl ?_
            refine pz_iln (i := 21) rfl rfl ?_
            refine pz_put (i := 22) rfl (pf_54_13 ..) ⟨rfl, rfl⟩ ?_
            refine pz_aln (i := 23) rfl rfl ?_
            refine pz_iln (i := 24) rfl rfl ?_
            refine pz_put (i := 25) rfl (pf_54_14 ..) ⟨rfl, rfl⟩ ?_
            refine pz_ic (i := 26) rfl ?_
            refine pz_ir (i := 27) rfl rfl rfl ?_
            have fi : frI jv (upd (upd (upd jv 2 (nI n)) 3 (nI k)) 4 (nI c)) [2, 3, 4] := frI_up (frI_up (frI_up (frI_rfl _ _) (by decide)) (by decide)) (by decide)
            refine hQ _ bv ⟨?_, tM_fr hT fi (frA_rfl _ []) (by decide) (by decide), gM_fr hG fi (frA_rfl _ []) (by decide) (by decide), fun w => vM_fr hVl fi (frA_rfl _ []) (by decide) (by decide)⟩
            obtain ⟨q0, q1, q2, q3, q4, q5, q6, q7, q8, q9, q10, q11, q12, qr⟩ := hd
            refine ⟨q0, q1, ?_, ?_, q4, q5, ?_, ?_, ?_, ?_, hn, hk, hc, qr⟩
            · exact (fi 0 (by decide)).trans q2
            · exact (fi 1 (by decide)).trans q3
            · rw [ui_n (by decide), ui_n (by decide), ui_s]
            · rw [ui_n (by decide), ui_s]
            · rw [ui_s]
            · exact (fi 5 (by decide)).trans q9
          · refine pz_ic (i := 15) rfl ?_
            refine pz_ir (i := 16) rfl rfl rfl ?_
            first
              | rw [if_pos (Or.inl c7)] at hQ
              | rw [if_pos (Or.inr (Or.inl c10))] at hQ
              | rw [if_pos (Or.inr (Or.inr (Or.inl c12)))] at hQ
              | rw [if_pos (Or.inr (Or.inr (Or.inr (Int32.not_le.mp c14))))] at hQ
            exact hQ jv bv hx
  · refine pz_bi (i := 3) rfl ?_
    refine pz_ir (i := 4) rfl rfl rfl ?_
    rw [if_pos (bB_t c2)] at hQ
    exact hQ jv bv hx
set_option maxRecDepth 20000 in
theorem sm_spare (hr : 512 ≤ rm ∧ rm ≤ 4096) {a : aS} (hx : mS rm jv bv a) (hQ : ∀ jv' bv', mS rm jv' bv' (aSpare a).2 → Q (some (.int (aSpare a).1)) (wX rm iv av (wM rm jv' bv'))) : rx_R Lx xs (d + 1) 142 [.ref 54] (wX rm iv av (wM rm jv bv)) Q := by
  refine pz_en (t := rt_142) ⟨Nat.le_of_ble_eq_true rfl, rfl⟩ rfl rfl ?_
  unfold aSpare at hQ
  obtain ⟨hd, hT, hG, hV⟩ := id hx
  have h5 : jv 5 = bB (dwn a) := hd.2.2.2.2.2.2.2.2.2.1
  have hr' : 0 < rm ∧ rm ≤ 4096 := ⟨by omega, hr.2⟩
  have h2 : jv 2 = nI a.1.1.2.2.1 := hd.2.2.2.2.2.2.1
  have hn := hd.2.2.2.2.2.2.2.2.2.2.1
  refine pz_aln (i := 0) rfl rfl ?_
  refine pz_get (i := 1) rfl (gf_54_15 ..) ?_
  rw [h5]
  refine pz_if_eq (i := 2) rfl (fun c2 => ?_) (fun c2 => ?_)
  · have hl := bB_f c2
    have hal : a.1.1.2.2.2.2.2 = false := hl
    rw [if_neg (show ¬ dwn a = true by rw [hl]; decide)] at hQ
    have hVl := hV hl
    refine pz_aln (i := 5) rfl rfl ?_
    refine pz_get (i := 6) rfl (gf_54_12 ..) ?_
    rw [h2]
    refine pz_if_le (i := 7) rfl (fun c7 => ?_) (fun c7 => ?_)
    · refine pz_ic (i := 10) rfl ?_
      refine pz_isn (i := 11) rfl ⟨rfl, Nat.le_of_ble_eq_true rfl⟩ rfl ?_
      refine pz_aln (i := 12) rfl rfl ?_
      refine pz_ic (i := 13) rfl ?_
      refine pz_put (i := 14) rfl (pf_54_12 ..) ⟨rfl, rfl⟩ ?_
      refine pz_iln (i := 15) rfl rfl ?_
      refine pz_ir (i := 16) rfl rfl rfl ?_
      have fi : frI jv (upd jv 2 0) [2] := frI_up (frI_rfl _ _) (by decide)
      have hxs : mS rm (upd jv 2 0) bv (((a.1.1.1, a.1.1.2.1, 0, a.1.1.2.2.2), a.1.2), a.2) := by
        refine ⟨?_, tM_fr hT fi (frA_rfl _ []) (by decide) (by decide), gM_fr hG fi (frA_rfl _ []) (by decide) (by decide), fun w => vM_fr hVl fi (frA_rfl _ []) (by decide) (by decide)⟩
        obtain ⟨q0, q1, q2, q3, q4, q5, q6, q7, q8, q9, q10, q11, q12, qr⟩ := hd
        exact ⟨q0, q1, (fi 0 (by decide)).trans q2, (fi 1 (by decide)).trans q3, q4, q5, ui_s _ _ _, (fi 3 (by decide)).trans q7, (fi 4 (by decide)).trans q8, (fi 5 (by decide)).trans q9, Nat.zero_le _, q11, q12, qr⟩
      have h := hQ _ bv hxs
      first
        | (rw [show (if a.1.1.2.2.1 = 0 then (0 : Int32) else 1) = 0 from if_pos (by have := le_ofI (b := 0) c7 (by omega) (by decide); omega)] at h
           exact h)
        | (rw [show (if a.1.1.2.2.1 = 0 then (0 : Int32) else 1) = 1 from if_neg (fun z => c7 (by rw [z]; exact Int32.le_refl _))] at h
           exact h)
    · refine pz_ic (i := 8) rfl ?_
      refine pz_go (i := 9) rfl ?_
      refine pz_isn (i := 11) rfl ⟨rfl, Nat.le_of_ble_eq_true rfl⟩ rfl ?_
      refine pz_aln (i := 12) rfl rfl ?_
      refine pz_ic (i := 13) rfl ?_
      refine pz_put (i := 14) rfl (pf_54_12 ..) ⟨rfl, rfl⟩ ?_
      refine pz_iln (i := 15) rfl rfl ?_
      refine pz_ir (i := 16) rfl rfl rfl ?_
      have fi : frI jv (upd jv 2 0) [2] := frI_up (frI_rfl _ _) (by decide)
      have hxs : mS rm (upd jv 2 0) bv (((a.1.1.1, a.1.1.2.1, 0, a.1.1.2.2.2), a.1.2), a.2) := by
        refine ⟨?_, tM_fr hT fi (frA_rfl _ []) (by decide) (by decide), gM_fr hG fi (frA_rfl _ []) (by decide) (by decide), fun w => vM_fr hVl fi (frA_rfl _ []) (by decide) (by decide)⟩
        obtain ⟨q0, q1, q2, q3, q4, q5, q6, q7, q8, q9, q10, q11, q12, qr⟩ := hd
        exact ⟨q0, q1, (fi 0 (by decide)).trans q2, (fi 1 (by decide)).trans q3, q4, q5, ui_s _ _ _, (fi 3 (by decide)).trans q7, (fi 4 (by decide)).trans q8, (fi 5 (by decide)).trans q9, Nat.zero_le _, q11, q12, qr⟩
      have h := hQ _ bv hxs
      first
        | (rw [show (if a.1.1.2.2.1 = 0 then (0 : Int32) else 1) = 0 from if_pos (by have := le_ofI (b := 0) c7 (by omega) (by decide); omega)] at h
           exact h)
        | (rw [show (if a.1.1.2.2.1 = 0 then (0 : Int32) else 1) = 1 from if_neg (fun z => c7 (by rw [z]; exact Int32.le_refl _))] at h
           exact h)
  · refine pz_bi (i := 3) rfl ?_
    refine pz_ir (i := 4) rfl rfl rfl ?_
    rw [if_pos (bB_t c2)] at hQ
    exact hQ jv bv hx
set_option maxRecDepth 20000 in
theorem sm_check (hr : 512 ≤ rm ∧ rm ≤ 4096) {a : aS} (hx : mS rm jv bv a) (hQ : ∀ jv' bv', mS rm jv' bv' (aCheck a).2 → Q (some (.int (aCheck a).1)) (wX rm iv av (wM rm jv' bv'))) : rx_R Lx xs (d + 1) 147 [.ref 54] (wX rm iv av (wM rm jv bv)) Q := by
  refine pz_en (t := rt_147) ⟨Nat.le_of_ble_eq_true rfl, rfl⟩ rfl rfl ?_
  unfold aCheck at hQ
  obtain ⟨hd, hT, hG, hV⟩ := id hx
  have h5 : jv 5 = bB (dwn a) := hd.2.2.2.2.2.2.2.2.2.1
  have hr' : 0 < rm ∧ rm ≤ 4096 := ⟨by omega, hr.2⟩
  refine pz_aln (i := 0) rfl rfl ?_
  refine pz_get (i := 1) rfl (gf_54_15 ..) ?_
  rw [h5]
  refine pz_if_eq (i := 2) rfl (fun c2 => ?_) (fun c2 => ?_)
  · refine pz_ic (i := 5) rfl ?_
    refine pz_ir (i := 6) rfl rfl rfl ?_
    first
      | (rw [if_pos (bB_t c2)] at hQ
         exact hQ jv bv hx)
      | (rw [if_neg (show ¬ dwn a = true by rw [bB_f c2]; decide)] at hQ
         exact hQ jv bv hx)
  · refine pz_bi (i := 3) rfl ?_
    refine pz_go (i := 4) rfl ?_
    refine pz_ir (i := 6) rfl rfl rfl ?_
    first
      | (rw [if_pos (bB_t c2)] at hQ
         exact hQ jv bv hx)
      | (rw [if_neg (show ¬ dwn a = true by rw [bB_f c2]; decide)] at hQ
         exact hQ jv bv hx)
set_option maxRecDepth 20000 in
theorem sm_checkpoint (hr : 512 ≤ rm ∧ rm ≤ 4096) {a : aS} (hx : mS rm jv bv a) (hI : wB rm a) (hQ : ∀ jv' bv', mS rm jv' bv' (aCheckpoint rm a).2 → Q (some (.int (aCheckpoint rm a).1)) (wX rm iv av (wM rm jv' bv'))) : rx_R Lx xs (d + 8) 138 [.ref 54] (wX rm iv av (wM rm jv bv)) Q := by
  refine pz_en (t := rt_138) ⟨Nat.le_of_ble_eq_true rfl, rfl⟩ rfl rfl ?_
  unfold aCheckpoint at hQ
  obtain ⟨hd, hT, hG, hV⟩ := id hx
  have h5 : jv 5 = bB (dwn a) := hd.2.2.2.2.2.2.2.2.2.1
  have hr' : 0 < rm ∧ rm ≤ 4096 := ⟨by omega, hr.2⟩
  refine pz_aln (i := 0) rfl rfl ?_
  refine pz_get (i := 1) rfl (gf_54_15 ..) ?_
  rw [h5]
  refine pz_if_ne (i := 2) rfl (fun c2 => ?_) (fun c2 => ?_)
  · refine pz_aln (i := 5) rfl rfl ?_
    refine pz_get (i := 6) rfl (gf_54_15 ..) ?_
    rw [h5]
    refine pz_if_eq (i := 7) rfl (fun c7 => ?_) (fun c7 => ?_)
    · exact absurd c7 c2
    · refine pz_bi (i := 8) rfl ?_
      refine pz_go (i := 9) rfl ?_
      refine pz_ir (i := 12) rfl rfl rfl ?_
      rw [if_pos (bB_t c2)] at hQ
      exact hQ jv bv hx
  · refine pz_aln (i := 3) rfl rfl ?_
    refine pz_cV0 (i := 4) rfl (gc_54 ..) rfl (Nat.le_of_ble_eq_true rfl) rfl ?_
    have hl := bB_f c2
    have hVl := hV hl
    obtain ⟨hck, hbd, _⟩ := hI hl [] (Nat.zero_le _) (fun x hx => (by cases hx))
    refine sm_checkpointAll hr hd hl hVl hck (fun i i1 i2 => by have := hbd.1 i i1 i2; omega) (fun jv1 bv1 o1 k1 => ?_)
    rw [if_neg (show ¬ dwn a = true by rw [hl]; decide)] at hQ
    refine ⟨rfl, ?_⟩
    refine pz_aln (i := 5) rfl rfl ?_
    refine pz_get (i := 6) rfl (gf_54_15 ..) ?_
    rw [oM_5 o1]
    refine pz_if_eq (i := 7) rfl (fun c7 => ?_) (fun c7 => ?_)
    · refine pz_aln (i := 10) rfl rfl ?_
      refine pz_get (i := 11) rfl (gf_54_36 ..) ?_
      have hlv := bB_f c7
      rw [(k1 hlv).1.1]
      refine pz_ir (i := 12) rfl rfl rfl ?_
      first
        | (have hdd := bB_t c7
           obtain ⟨e1, e2⟩ := mS_dead (T := a.2.1) (z := nI (ck rm a.1.1 a.1.2.1).2.1.length) (D := ((ck rm a.1.1 a.1.2.1).1, (ck rm a.1.1 a.1.2.1).2, a.1.2.2)) (o1.2 hdd) hdd hG
           have h := hQ jv1 bv1 e1
           rw [e2] at h
           exact h)
        | (have hlv := bB_f c7
           obtain ⟨d1, d2, d3⟩ := o1.1 hlv
           have hal2 : ¬ (ck rm a.1.1 a.1.2.1).1.2.2.2.2.2 = true := by rw [hlv]; decide
           unfold fin at hQ
           rw [if_neg hal2] at hQ
           exact hQ jv1 bv1 ⟨d1, tM_fr hT d2 d3 (by decide) (by decide), gM_fr hG d2 d3 (by decide) (by decide), fun _ => k1 hlv⟩)
        | (rw [if_pos (bB_t c2)] at hQ
           exact hQ jv bv hx)
    · refine pz_bi (i := 8) rfl ?_
      refine pz_go (i := 9) rfl ?_
      refine pz_ir (i := 12) rfl rfl rfl ?_
      first
        | (have hdd := bB_t c7
           obtain ⟨e1, e2⟩ := mS_dead (T := a.2.1) (z := nI (ck rm a.1.1 a.1.2.1).2.1.length) (D := ((ck rm a.1.1 a.1.2.1).1, (ck rm a.1.1 a.1.2.1).2, a.1.2.2)) (o1.2 hdd) hdd hG
           have h := hQ jv1 bv1 e1
           rw [e2] at h
           exact h)
        | (have hlv := bB_f c7
           obtain ⟨d1, d2, d3⟩ := o1.1 hlv
           have hal2 : ¬ (ck rm a.1.1 a.1.2.1).1.2.2.2.2.2 = true := by rw [hlv]; decide
           unfold fin at hQ
           rw [if_neg hal2] at hQ
           exact hQ jv1 bv1 ⟨d1, tM_fr hT d2 d3 (by decide) (by decide), gM_fr hG d2 d3 (by decide) (by decide), fun _ => k1 hlv⟩)
        | (rw [if_pos (bB_t c2)] at hQ
           exact hQ jv bv hx)
set_option maxRecDepth 20000 in
theorem sm_collect (hr : 512 ≤ rm ∧ rm ≤ 4096) {a : aS} {n : Int32} (hx : mS rm jv bv a) (hC : dwn a = false → ∀ k, k ≤ 1000 → clI rm k a.1.2.2 a.1.1 a.1.2.1) (hQ : ∀ jv' bv', mS rm jv' bv' (aCollect rm n a).2 → Q (some (.int (aCollect rm n a).1)) (wX rm iv av (wM rm jv' bv'))) : rx_R Lx xs (d + 9) 139 [.ref 54, .int n] (wX rm iv av (wM rm jv bv)) Q := by
  refine pz_en (t := rt_139) ⟨Nat.le_of_ble_eq_true rfl, rfl⟩ rfl rfl ?_
  unfold aCollect at hQ
  obtain ⟨hd, hT, hG, hV⟩ := id hx
  have h5 : jv 5 = bB (dwn a) := hd.2.2.2.2.2.2.2.2.2.1
  have hr' : 0 < rm ∧ rm ≤ 4096 := ⟨by omega, hr.2⟩
  refine pz_aln (i := 0) rfl rfl ?_
  refine pz_get (i := 1) rfl (gf_54_15 ..) ?_
  rw [h5]
  refine pz_if_eq (i := 2) rfl (fun c2 => ?_) (fun c2 => ?_)
  · have hl := bB_f c2
    have hal : a.1.1.2.2.2.2.2 = false := hl
    rw [if_neg (show ¬ dwn a = true by rw [hl]; decide)] at hQ
    have hVl := hV hl
    refine pz_iln (i := 5) rfl rfl ?_
    refine pz_ic (i := 6) rfl ?_
    refine pz_ii_lt (i := 7) rfl (fun c7 => ?_) (fun c7 => ?_)
    · refine pz_ic (i := 11) rfl ?_
      refine pz_ir (i := 12) rfl rfl rfl ?_
      first
        | rw [if_pos (Or.inl c7)] at hQ
        | rw [if_pos (Or.inr (Int32.not_le.mp c10))] at hQ
      exact hQ jv bv hx
    · refine pz_iln (i := 8) rfl rfl ?_
      refine pz_si (i := 9) rfl ?_
      refine pz_ii_le (i := 10) rfl (fun c10 => ?_) (fun c10 => ?_)
      · rw [if_neg (fun z => z.elim c7 (fun w => (Int32.not_le.mpr w) c10))] at hQ
        obtain ⟨k, hk, rfl⟩ := nI_of2 (M := 1000) (n := 1000) (by decide) (fun w => c7 (Int32.lt_trans w (by decide))) c10
        rw [cl_ofI (a := k)] at hQ
        refine pz_aln (i := 13) rfl rfl ?_
        refine pz_iln (i := 14) rfl rfl ?_
        refine pz_cI1 (i := 15) rfl (gc_54 ..) rfl (Nat.le_of_ble_eq_true rfl) rfl ?_
        refine sm_collecting hr hk hd hal hVl (hC hl k hk) (fun jv1 bv1 z o1 k1 => ?_)
        refine ⟨_, rfl, ?_⟩
        refine pz_isn (i := 16) rfl ⟨rfl, Nat.le_of_ble_eq_true rfl⟩ rfl ?_
        refine pz_aln (i := 17) rfl rfl ?_
        refine pz_get (i := 18) rfl (gf_54_15 ..) ?_
        rw [oM_5 o1]
        refine pz_if_eq (i := 19) rfl (fun c19 => ?_) (fun c19 => ?_)
        · refine pz_iln (i := 22) rfl rfl ?_
          refine pz_ir (i := 23) rfl rfl rfl ?_
          first
            | (have hdd := bB_t c19
               obtain ⟨e1, e2⟩ := mS_dead (T := a.2.1) (z := nI (cl rm k a.1.2.2 a.1.1 a.1.2.1).2.2) (D := ((cl rm k a.1.2.2 a.1.1 a.1.2.1).1, (cl rm k a.1.2.2 a.1.1 a.1.2.1).2.1, clN rm k a.1.2.2 a.1.1 a.1.2.1)) (o1.2 hdd) hdd hG
               have h := hQ jv1 bv1 e1
               rw [e2] at h
               exact h)
            | (have hlv := bB_f c19
               obtain ⟨d1, d2, d3⟩ := o1.1 hlv
               have hal2 : ¬ (cl rm k a.1.2.2 a.1.1 a.1.2.1).1.2.2.2.2.2 = true := by rw [hlv]; decide
               unfold fin at hQ
               rw [if_neg hal2] at hQ
               rw [(k1 hlv).2]
               exact hQ jv1 bv1 ⟨d1, tM_fr hT d2 d3 (by decide) (by decide), gM_fr hG d2 d3 (by decide) (by decide), fun _ => (k1 hlv).1⟩)
        · refine pz_bi (i := 20) rfl ?_
          refine pz_go (i := 21) rfl ?_
          refine pz_ir (i := 23) rfl rfl rfl ?_
          first
            | (have hdd := bB_t c19
               obtain ⟨e1, e2⟩ := mS_dead (T := a.2.1) (z := nI (cl rm k a.1.2.2 a.1.1 a.1.2.1).2.2) (D := ((cl rm k a.1.2.2 a.1.1 a.1.2.1).1, (cl rm k a.1.2.2 a.1.1 a.1.2.1).2.1, clN rm k a.1.2.2 a.1.1 a.1.2.1)) (o1.2 hdd) hdd hG
               have h := hQ jv1 bv1 e1
               rw [e2] at h
               exact h)
            | (have hlv := bB_f c19
               obtain ⟨d1, d2, d3⟩ := o1.1 hlv
               have hal2 : ¬ (cl rm k a.1.2.2 a.1.1 a.1.2.1).1.2.2.2.2.2 = true := by rw [hlv]; decide
               unfold fin at hQ
               rw [if_neg hal2] at hQ
               rw [(k1 hlv).2]
               exact hQ jv1 bv1 ⟨d1, tM_fr hT d2 d3 (by decide) (by decide), gM_fr hG d2 d3 (by decide) (by decide), fun _ => (k1 hlv).1⟩)
      · refine pz_ic (i := 11) rfl ?_
        refine pz_ir (i := 12) rfl rfl rfl ?_
        first
          | rw [if_pos (Or.inl c7)] at hQ
          | rw [if_pos (Or.inr (Int32.not_le.mp c10))] at hQ
        exact hQ jv bv hx
  · refine pz_bi (i := 3) rfl ?_
    refine pz_ir (i := 4) rfl rfl rfl ?_
    rw [if_pos (bB_t c2)] at hQ
    exact hQ jv bv hx
set_option maxRecDepth 20000 in
theorem sm_open (hr : 512 ≤ rm ∧ rm ≤ 4096) {a : aS} {Wv : vW} {all lg : List lR} (hx : mS rm jv bv a) (hI : dwn a = true → a.1.1.2.1 = [] ∧ a.1.1.2.2.1 = 0 ∧ rtI rm (cu rm a.1.1) Wv ∧ lgI rm (cu rm a.1.1) Wv all) (hQ : ∀ jv' bv', mS rm jv' bv' (aOpen rm Wv all lg a).2 → Q (some (.int (aOpen rm Wv all lg a).1)) (wX rm iv av (wM rm jv' bv'))) : rx_R Lx xs (d + 6) 126 [.ref 54] (wX rm iv av (wM rm jv bv)) Q := by
  refine pz_en (t := rt_126) ⟨Nat.le_of_ble_eq_true rfl, rfl⟩ rfl rfl ?_
  unfold aOpen at hQ
  obtain ⟨hd, hT, hG, hV⟩ := id hx
  have h5 : jv 5 = bB (dwn a) := hd.2.2.2.2.2.2.2.2.2.1
  have hr' : 0 < rm ∧ rm ≤ 4096 := ⟨by omega, hr.2⟩
  refine pz_aln (i := 0) rfl rfl ?_
  refine pz_get (i := 1) rfl (gf_54_15 ..) ?_
  rw [h5]
  refine pz_if_eq (i := 2) rfl (fun c2 => ?_) (fun c2 => ?_)
  · refine pz_ic (i := 6) rfl ?_
    refine pz_ir (i := 7) rfl rfl rfl ?_
    first
      | (obtain ⟨g1, g2, g3, g4, _, _⟩ := hG
         exact hQ jv1 bv1 ⟨k1, tM_fr hT f1 a1 (by decide) (by decide), ⟨(f1 7 (by decide)).trans g1, g2, g3, fun k hk => (by rw [a1 10 (by decide)]; exact g4 k hk), k8, k9⟩, fun _ => k2⟩)
      | (rw [if_neg (show ¬ dwn a = true by rw [bB_f c2]; decide)] at hQ
         exact hQ jv bv hx)
  · refine pz_aln (i := 3) rfl rfl ?_
    refine pz_cI0 (i := 4) rfl (gc_54 ..) rfl (Nat.le_of_ble_eq_true rfl) rfl ?_
    have hl := bB_t c2
    rw [if_pos hl] at hQ
    obtain ⟨hp, h0, hR, hL⟩ := hI hl
    refine sm_openDisk hr hd hp h0 hR hL (fun jv1 bv1 k1 k2 k8 k9 f1 a1 => ?_)
    refine ⟨_, rfl, ?_⟩
    refine pz_go (i := 5) rfl ?_
    refine pz_ir (i := 7) rfl rfl rfl ?_
    first
      | (obtain ⟨g1, g2, g3, g4, _, _⟩ := hG
         exact hQ jv1 bv1 ⟨k1, tM_fr hT f1 a1 (by decide) (by decide), ⟨(f1 7 (by decide)).trans g1, g2, g3, fun k hk => (by rw [a1 10 (by decide)]; exact g4 k hk), k8, k9⟩, fun _ => k2⟩)
      | (rw [if_neg (show ¬ dwn a = true by rw [bB_f c2]; decide)] at hQ
         exact hQ jv bv hx)
set_option maxRecDepth 20000 in
theorem lq_fin {a : aS} {b : List bR} {tp : List Nat} {jv1 jv2 : Nat → Int32} {bv1 bv2 : Nat → Nat → Int32} {z : Int32} (o : oM rm jv1 bv1 jv2 bv2 (sto rm b a.1.1 a.1.2.1 a.1.2.2).1 [0, 1, 2, 10, 11, 12, 13, 14, 15, 16, 17, 18, 19, 20, 21, 22, 23, 24] [2, 3, 4, 5, 6, 7, 8, 15, 16, 17, 18, 19, 20, 21, 22, 23, 24]) (hk : (sto rm b a.1.1 a.1.2.1 a.1.2.2).1.2.2.2.2.2 = false → vM jv2 bv2 (sto rm b a.1.1 a.1.2.1 a.1.2.2).2.1 ∧ (z = if (sto rm b a.1.1 a.1.2.1 a.1.2.2).2.2 then nI b.length else -3) ∧ jv2 10 = 0 ∧ jv2 11 = 0) (hz : (sto rm b a.1.1 a.1.2.1 a.1.2.2).1.2.2.2.2.2 = true → z = -2) (hG : gM jv1 bv1 a.2.2) (h6 : jv1 6 = nI tp.length) (ht : tp.length ≤ 64 ∧ by8 tp) (h9 : ∀ k, k < tp.length → bv1 9 k = lB tp k) : mS rm jv2 bv2 (aStore rm b a tp).2 ∧ z = (aStore rm b a tp).1 := by
  unfold aStore
  cases hs : (sto rm b a.1.1 a.1.2.1 a.1.2.2).1.2.2.2.2.2 with
  | true =>
    obtain ⟨e1, e2⟩ := mS_dead (T := ([], false, tp)) (z := if (sto rm b a.1.1 a.1.2.1 a.1.2.2).2.2 then nI b.length else -3) (D := stD rm b a.1) (o.2 hs) hs hG
    exact ⟨e1, by rw [e2]; exact hz hs⟩
  | false =>
    obtain ⟨d1, d2, d3⟩ := o.1 hs
    obtain ⟨v1, v2, v3, v4⟩ := hk hs
    unfold fin
    rw [if_neg (show ¬ (stD rm b a.1).1.2.2.2.2.2 = true by show ¬ (sto rm b a.1.1 a.1.2.1 a.1.2.2).1.2.2.2.2.2 = true; rw [hs]; decide)]
    refine ⟨⟨d1, ⟨⟨v4, Nat.zero_le _, fun i x hx => (by cases hx)⟩, v3, fun _ => rfl, (d2 6 (by decide)).trans h6, ht.1, ht.2, fun k hk => ?_⟩, gM_fr hG d2 d3 (by decide) (by decide), fun _ => v1⟩, v2⟩
    rw [d3 9 (by decide)]
    exact h9 k hk
/-- what a batch wants: the pass ends -/
def wP (rm : Nat) (a : aS) : Prop := dwn a = false → ∀ b : List bR, b.length ≤ 8 → (∀ x ∈ b, bOK x) → ¬ (ckM rm a.1.1 a.1.2.1 b).2.2.2 5 + (bZ b + 176) + 12 ≤ (ckM rm a.1.1 a.1.2.1 b).2.2.2 4 + rm → paE rm 1000 ((ckM rm a.1.1 a.1.2.1 b).2.2.2 5) 1 (ckM rm a.1.1 a.1.2.1 b).1 (ckM rm a.1.1 a.1.2.1 b).2 a.1.2.2
theorem bM_mem {jv : Nat → Int32} {bv : Nat → Nat → Int32} {b : List bR} (h : bM jv bv b) : ∀ x ∈ b, bOK x := fun x hx => by
  obtain ⟨i, hi⟩ := List.mem_iff_getElem?.mp hx
  exact (h.2.2 i x hi).1
set_option maxRecDepth 20000 in
theorem sm_put (hr : 512 ≤ rm ∧ rm ≤ 4096) {a : aS} {key : Int32} (hx : mS rm jv bv a) (hI : wB rm a) (hP : wP rm a) (hQ : ∀ jv' bv', mS rm jv' bv' (aPut rm key a).2 → Q (some (.int (aPut rm key a).1)) (wX rm iv av (wM rm jv' bv'))) : rx_R Lx xs (d + 11) 129 [.ref 54, .int key] (wX rm iv av (wM rm jv bv)) Q := by
  refine pz_en (t := rt_129) ⟨Nat.le_of_ble_eq_true rfl, rfl⟩ rfl rfl ?_
  unfold aPut at hQ
  obtain ⟨hd, hT, hG, hV⟩ := id hx
  have h5 : jv 5 = bB (dwn a) := hd.2.2.2.2.2.2.2.2.2.1
  have hr' : 0 < rm ∧ rm ≤ 4096 := ⟨by omega, hr.2⟩
  refine pz_aln (i := 0) rfl rfl ?_
  refine pz_get (i := 1) rfl (gf_54_15 ..) ?_
  rw [h5]
  refine pz_if_eq (i := 2) rfl (fun c2 => ?_) (fun c2 => ?_)
  · have hl := bB_f c2
    have hal : a.1.1.2.2.2.2.2 = false := hl
    rw [if_neg (show ¬ dwn a = true by rw [hl]; decide)] at hQ
    have hVl := hV hl
    refine pz_iln (i := 5) rfl rfl ?_
    refine pz_sI1 (i := 6) rfl (by decide) (Nat.le_of_ble_eq_true rfl) rfl ?_
    refine sm_isKey ?_
    refine ⟨_, rfl, ?_⟩
    refine pz_if_eq (i := 7) rfl (fun c7 => ?_) (fun c7 => ?_)
    · refine pz_ic (i := 15) rfl ?_
      refine pz_ir (i := 16) rfl rfl rfl ?_
      first
        | rw [if_pos (Or.inl (bB_f c7))] at hQ
        | rw [if_pos (Or.inr (eq_ofI (b := 8) c14 (by have := hT.1.2.1; omega) (by decide)))] at hQ
      exact hQ jv bv hx
    · refine pz_aln (i := 8) rfl rfl ?_
      refine pz_get (i := 9) rfl (gf_54_22 ..) ?_
      rw [hT.2.1]
      refine pz_if_eq (i := 10) rfl (fun c10 => ?_) (fun c10 => ?_)
      · have hk1 := bB_t c7
        have h8l := hT.1.2.1
        have h8 : ¬ a.2.1.1.length = 8 := by
          first
            | exact ne_ofI (b := 8) c14
            | (rw [hT.2.2.1 (bB_f c10)]
               decide)
        rw [if_neg (fun z => z.elim (fun w => by rw [hk1] at w; cases w) h8)] at hQ
        obtain ⟨k, hk, rfl⟩ := kx_nat hk1
        rw [cl_ofI (a := k)] at hQ
        have hok : bOK (1, k, a.2.1.2.2) := ⟨Nat.zero_lt_one, (by decide : 1 < 3), hk, hT.2.2.2.2.1, hT.2.2.2.2.2.1⟩
        unfold aLay at hQ
        refine pz_aln (i := 17) rfl rfl ?_
        refine pz_ic (i := 18) rfl ?_
        refine pz_iln (i := 19) rfl rfl ?_
        refine pz_cV2 (i := 20) rfl (gc_54 ..) rfl (Nat.le_of_ble_eq_true rfl) rfl ?_
        refine sm_lay (kd := 1) (key := k) (val := a.2.1.2.2) (tp := a.2.1.2.2) hT.1 (by omega) hok (Or.inl ⟨rfl, rfl⟩) hT.2.2.2.1 hT.2.2.2.2.2.2 (fun jv1 bv1 hb1 f1 a1 => ?_)
        refine ⟨rfl, ?_⟩
        refine pz_aln (i := 21) rfl rfl ?_
        refine pz_ic (i := 22) rfl ?_
        refine pz_put (i := 23) rfl (pf_54_17 ..) ⟨rfl, rfl⟩ ?_
        have g1 : frI jv (upd jv1 6 0) [6, 11] := frI_up (frI_tr f1 (frI_rfl _ []) (by decide) (by decide)) (by decide)
        have hb2 : bM (upd jv1 6 0) bv1 (a.2.1.1 ++ [(1, k, a.2.1.2.2)]) := bM_fr hb1 (frI_up (frI_rfl _ [6]) (by decide)) (frA_rfl _ []) (by decide) (by decide)
        have k6 : (upd jv1 6 0) 6 = nI 0 := ui_s _ _ _
        have hd2 := dM_fr hd g1 a1 (by decide) (by decide)
        have hG2 := gM_fr hG g1 a1 (by decide) (by decide)
        have hV2 := vM_fr hVl g1 a1 (by decide) (by decide)
        refine pz_aln (i := 24) rfl rfl ?_
        refine pz_get (i := 25) rfl (gf_54_22 ..) ?_
        rw [g1 10 (by decide), hT.2.1]
        refine pz_if_eq (i := 26) rfl (fun c26 => ?_) (fun c26 => ?_)
        · refine pz_aln (i := 30) rfl rfl ?_
          refine pz_cI0 (i := 31) rfl (gc_54 ..) rfl (Nat.le_of_ble_eq_true rfl) rfl ?_
          have hbg := bB_f c26
          rw [if_neg (show ¬ a.2.1.2.1 = true by rw [hbg]; decide)] at hQ
          refine sm_writeBatch hr hd2 hal hV2 hb2 (hI hl _ hb2.2.1 (bM_mem hb2)) (hP hl _ hb2.2.1 (bM_mem hb2)) (fun jv3 bv3 z o3 hk3 hz3 => ?_)
          obtain ⟨e1, e2⟩ := lq_fin (a := a) (tp := []) o3 hk3 hz3 hG2 k6 ⟨Nat.zero_le _, fun x hx => (by cases hx)⟩ (fun k hk => absurd hk (Nat.not_lt_zero k))
          rw [e2]
          refine ⟨_, rfl, ?_⟩
          refine pz_ir (i := 32) rfl rfl rfl ?_
          first
            | exact hQ jv3 bv3 e1
            | (have hbg := bB_t c26
               rw [if_pos hbg] at hQ
               rw [List.length_append]
               exact hQ _ bv1 ⟨hd2, ⟨hb2, by rw [g1 10 (by decide), hT.2.1, hbg], fun w => (by cases w), k6, Nat.zero_le _, fun x hx => (by cases hx), fun k hk => absurd hk (Nat.not_lt_zero k)⟩, hG2, fun _ => hV2⟩)
        · refine pz_aln (i := 27) rfl rfl ?_
          refine pz_get (i := 28) rfl (gf_54_23 ..) ?_
          rw [hb2.1]
          refine pz_go (i := 29) rfl ?_
          refine pz_ir (i := 32) rfl rfl rfl ?_
          first
            | exact hQ jv3 bv3 e1
            | (have hbg := bB_t c26
               rw [if_pos hbg] at hQ
               rw [List.length_append]
               exact hQ _ bv1 ⟨hd2, ⟨hb2, by rw [g1 10 (by decide), hT.2.1, hbg], fun w => (by cases w), k6, Nat.zero_le _, fun x hx => (by cases hx), fun k hk => absurd hk (Nat.not_lt_zero k)⟩, hG2, fun _ => hV2⟩)
      · refine pz_aln (i := 11) rfl rfl ?_
        refine pz_get (i := 12) rfl (gf_54_23 ..) ?_
        rw [hT.1.1]
        refine pz_bi (i := 13) rfl ?_
        refine pz_ii_ne (i := 14) rfl (fun c14 => ?_) (fun c14 => ?_)
        · have hk1 := bB_t c7
          have h8l := hT.1.2.1
          have h8 : ¬ a.2.1.1.length = 8 := by
            first
              | exact ne_ofI (b := 8) c14
              | (rw [hT.2.2.1 (bB_f c10)]
                 decide)
          rw [if_neg (fun z => z.elim (fun w => by rw [hk1] at w; cases w) h8)] at hQ
          obtain ⟨k, hk, rfl⟩ := kx_nat hk1
          rw [cl_ofI (a := k)] at hQ
          have hok : bOK (1, k, a.2.1.2.2) := ⟨Nat.zero_lt_one, (by decide : 1 < 3), hk, hT.2.2.2.2.1, hT.2.2.2.2.2.1⟩
          unfold aLay at hQ
          refine pz_aln (i := 17) rfl rfl ?_
          refine pz_ic (i := 18) rfl ?_
          refine pz_iln (i := 19) rfl rfl ?_
          refine pz_cV2 (i := 20) rfl (gc_54 ..) rfl (Nat.le_of_ble_eq_true rfl) rfl ?_
          refine sm_lay (kd := 1) (key := k) (val := a.2.1.2.2) (tp := a.2.1.2.2) hT.1 (by omega) hok (Or.inl ⟨rfl, rfl⟩) hT.2.2.2.1 hT.2.2.2.2.2.2 (fun jv1 bv1 hb1 f1 a1 => ?_)
          refine ⟨rfl, ?_⟩
          refine pz_aln (i := 21) rfl rfl ?_
          refine pz_ic (i := 22) rfl ?_
          refine pz_put (i := 23) rfl (pf_54_17 ..) ⟨rfl, rfl⟩ ?_
          have g1 : frI jv (upd jv1 6 0) [6, 11] := frI_up (frI_tr f1 (frI_rfl _ []) (by decide) (by decide)) (by decide)
          have hb2 : bM (upd jv1 6 0) bv1 (a.2.1.1 ++ [(1, k, a.2.1.2.2)]) := bM_fr hb1 (frI_up (frI_rfl _ [6]) (by decide)) (frA_rfl _ []) (by decide) (by decide)
          have k6 : (upd jv1 6 0) 6 = nI 0 := ui_s _ _ _
          have hd2 := dM_fr hd g1 a1 (by decide) (by decide)
          have hG2 := gM_fr hG g1 a1 (by decide) (by decide)
          have hV2 := vM_fr hVl g1 a1 (by decide) (by decide)
          refine pz_aln (i := 24) rfl rfl ?_
          refine pz_get (i := 25) rfl (gf_54_22 ..) ?_
          rw [g1 10 (by decide), hT.2.1]
          refine pz_if_eq (i := 26) rfl (fun c26 => ?_) (fun c26 => ?_)
          · refine pz_aln (i := 30) rfl rfl ?_
            refine pz_cI0 (i := 31) rfl (gc_54 ..) rfl (Nat.le_of_ble_eq_true rfl) rfl ?_
            have hbg := bB_f c26
            rw [if_neg (show ¬ a.2.1.2.1 = true by rw [hbg]; decide)] at hQ
            refine sm_writeBatch hr hd2 hal hV2 hb2 (hI hl _ hb2.2.1 (bM_mem hb2)) (hP hl _ hb2.2.1 (bM_mem hb2)) (fun jv3 bv3 z o3 hk3 hz3 => ?_)
            obtain ⟨e1, e2⟩ := lq_fin (a := a) (tp := []) o3 hk3 hz3 hG2 k6 ⟨Nat.zero_le _, fun x hx => (by cases hx)⟩ (fun k hk => absurd hk (Nat.not_lt_zero k))
            rw [e2]
            refine ⟨_, rfl, ?_⟩
            refine pz_ir (i := 32) rfl rfl rfl ?_
            first
              | exact hQ jv3 bv3 e1
              | (have hbg := bB_t c26
                 rw [if_pos hbg] at hQ
                 rw [List.length_append]
                 exact hQ _ bv1 ⟨hd2, ⟨hb2, by rw [g1 10 (by decide), hT.2.1, hbg], fun w => (by cases w), k6, Nat.zero_le _, fun x hx => (by cases hx), fun k hk => absurd hk (Nat.not_lt_zero k)⟩, hG2, fun _ => hV2⟩)
          · refine pz_aln (i := 27) rfl rfl ?_
            refine pz_get (i := 28) rfl (gf_54_23 ..) ?_
            rw [hb2.1]
            refine pz_go (i := 29) rfl ?_
            refine pz_ir (i := 32) rfl rfl rfl ?_
            first
              | exact hQ jv3 bv3 e1
              | (have hbg := bB_t c26
                 rw [if_pos hbg] at hQ
                 rw [List.length_append]
                 exact hQ _ bv1 ⟨hd2, ⟨hb2, by rw [g1 10 (by decide), hT.2.1, hbg], fun w => (by cases w), k6, Nat.zero_le _, fun x hx => (by cases hx), fun k hk => absurd hk (Nat.not_lt_zero k)⟩, hG2, fun _ => hV2⟩)
        · refine pz_ic (i := 15) rfl ?_
          refine pz_ir (i := 16) rfl rfl rfl ?_
          first
            | rw [if_pos (Or.inl (bB_f c7))] at hQ
            | rw [if_pos (Or.inr (eq_ofI (b := 8) c14 (by have := hT.1.2.1; omega) (by decide)))] at hQ
          exact hQ jv bv hx
  · refine pz_bi (i := 3) rfl ?_
    refine pz_ir (i := 4) rfl rfl rfl ?_
    rw [if_pos (bB_t c2)] at hQ
    exact hQ jv bv hx
set_option maxRecDepth 20000 in
theorem lq_rm (hr : 512 ≤ rm ∧ rm ≤ 4096) {a : aS} {k : Nat} (hk : k < 120) (hx : mS rm jv bv a) (hl : dwn a = false) (h8 : a.2.1.1.length < 8) (hI : wB rm a) (hP : wP rm a) (hQ : ∀ jv' bv', mS rm jv' bv' (aLay rm (2, k, []) a a.2.1.2.2).2 → Q (some (.int (aLay rm (2, k, []) a a.2.1.2.2).1)) (wX rm iv av (wM rm jv' bv'))) : pz Lx xs (d + 10) rt_130 (some .int) Q 26 [some (.ref 54), some (.int (nI k))] [] (wX rm iv av (wM rm jv bv)) := by
  obtain ⟨hd, hT, hG, hV⟩ := id hx
  have hal : a.1.1.2.2.2.2.2 = false := hl
  have hVl := hV hl
  have hok : bOK (2, k, []) := ⟨(by decide : 0 < 2), (by decide : 2 < 3), hk, Nat.zero_le _, fun x hx => (by cases hx)⟩
  unfold aLay at hQ
  refine pz_aln (i := 26) rfl rfl ?_
  refine pz_ic (i := 27) rfl ?_
  refine pz_iln (i := 28) rfl rfl ?_
  refine pz_cV2 (i := 29) rfl (gc_54 ..) rfl (Nat.le_of_ble_eq_true rfl) rfl ?_
  refine sm_lay (kd := 2) (key := k) (val := []) (tp := a.2.1.2.2) hT.1 h8 hok (Or.inr ⟨rfl, rfl⟩) hT.2.2.2.1 hT.2.2.2.2.2.2 (fun jv1 bv1 hb1 f1 a1 => ?_)
  have hd2 := dM_fr hd f1 a1 (by decide) (by decide)
  have hG2 := gM_fr hG f1 a1 (by decide) (by decide)
  have hV2 := vM_fr hVl f1 a1 (by decide) (by decide)
  have k6 : jv1 6 = nI a.2.1.2.2.length := (f1 6 (by decide)).trans hT.2.2.2.1
  have k9 : ∀ k, k < a.2.1.2.2.length → bv1 9 k = lB a.2.1.2.2 k := fun k hk => by rw [a1 9 (by decide)]; exact hT.2.2.2.2.2.2 k hk
  refine ⟨rfl, ?_⟩
  refine pz_aln (i := 30) rfl rfl ?_
  refine pz_get (i := 31) rfl (gf_54_22 ..) ?_
  rw [f1 10 (by decide), hT.2.1]
  refine pz_if_eq (i := 32) rfl (fun c32 => ?_) (fun c32 => ?_)
  · refine pz_aln (i := 36) rfl rfl ?_
    refine pz_cI0 (i := 37) rfl (gc_54 ..) rfl (Nat.le_of_ble_eq_true rfl) rfl ?_
    have hbg := bB_f c32
    rw [if_neg (show ¬ a.2.1.2.1 = true by rw [hbg]; decide)] at hQ
    refine sm_writeBatch hr hd2 hal hV2 hb1 (hI hl _ hb1.2.1 (bM_mem hb1)) (hP hl _ hb1.2.1 (bM_mem hb1)) (fun jv3 bv3 z o3 hk3 hz3 => ?_)
    obtain ⟨e1, e2⟩ := lq_fin (a := a) (tp := a.2.1.2.2) o3 hk3 hz3 hG2 k6 ⟨hT.2.2.2.2.1, hT.2.2.2.2.2.1⟩ k9
    rw [e2]
    refine ⟨_, rfl, ?_⟩
    refine pz_ir (i := 38) rfl rfl rfl ?_
    first
      | exact hQ jv3 bv3 e1
      | (have hbg := bB_t c32
         rw [if_pos hbg] at hQ
         rw [List.length_append]
         exact hQ _ bv1 ⟨hd2, ⟨hb1, by rw [f1 10 (by decide), hT.2.1, hbg], fun w => (by cases w), k6, hT.2.2.2.2.1, hT.2.2.2.2.2.1, k9⟩, hG2, fun _ => hV2⟩)
  · refine pz_aln (i := 33) rfl rfl ?_
    refine pz_get (i := 34) rfl (gf_54_23 ..) ?_
    rw [hb1.1]
    refine pz_go (i := 35) rfl ?_
    refine pz_ir (i := 38) rfl rfl rfl ?_
    first
      | exact hQ jv3 bv3 e1
      | (have hbg := bB_t c32
         rw [if_pos hbg] at hQ
         rw [List.length_append]
         exact hQ _ bv1 ⟨hd2, ⟨hb1, by rw [f1 10 (by decide), hT.2.1, hbg], fun w => (by cases w), k6, hT.2.2.2.2.1, hT.2.2.2.2.2.1, k9⟩, hG2, fun _ => hV2⟩)
set_option maxRecDepth 20000 in
theorem sm_remove (hr : 512 ≤ rm ∧ rm ≤ 4096) {a : aS} {key : Int32} (hx : mS rm jv bv a) (hI : wB rm a) (hP : wP rm a) (hQ : ∀ jv' bv', mS rm jv' bv' (aRemove rm key a).2 → Q (some (.int (aRemove rm key a).1)) (wX rm iv av (wM rm jv' bv'))) : rx_R Lx xs (d + 11) 130 [.ref 54, .int key] (wX rm iv av (wM rm jv bv)) Q := by
  refine pz_en (t := rt_130) ⟨Nat.le_of_ble_eq_true rfl, rfl⟩ rfl rfl ?_
  unfold aRemove at hQ
  obtain ⟨hd, hT, hG, hV⟩ := id hx
  have h5 : jv 5 = bB (dwn a) := hd.2.2.2.2.2.2.2.2.2.1
  have hr' : 0 < rm ∧ rm ≤ 4096 := ⟨by omega, hr.2⟩
  refine pz_aln (i := 0) rfl rfl ?_
  refine pz_get (i := 1) rfl (gf_54_15 ..) ?_
  rw [h5]
  refine pz_if_eq (i := 2) rfl (fun c2 => ?_) (fun c2 => ?_)
  · have hl := bB_f c2
    have hal : a.1.1.2.2.2.2.2 = false := hl
    rw [if_neg (show ¬ dwn a = true by rw [hl]; decide)] at hQ
    have hVl := hV hl
    refine pz_iln (i := 5) rfl rfl ?_
    refine pz_sI1 (i := 6) rfl (by decide) (Nat.le_of_ble_eq_true rfl) rfl ?_
    refine sm_isKey ?_
    refine ⟨_, rfl, ?_⟩
    refine pz_if_eq (i := 7) rfl (fun c7 => ?_) (fun c7 => ?_)
    · refine pz_ic (i := 15) rfl ?_
      refine pz_ir (i := 16) rfl rfl rfl ?_
      first
        | rw [if_pos (Or.inl (bB_f c7))] at hQ
        | rw [if_pos (Or.inr (eq_ofI (b := 8) c14 (by have := hT.1.2.1; omega) (by decide)))] at hQ
      exact hQ jv bv hx
    · refine pz_aln (i := 8) rfl rfl ?_
      refine pz_get (i := 9) rfl (gf_54_22 ..) ?_
      rw [hT.2.1]
      refine pz_if_eq (i := 10) rfl (fun c10 => ?_) (fun c10 => ?_)
      · have hk1 := bB_t c7
        have h8l := hT.1.2.1
        have h8 : ¬ a.2.1.1.length = 8 := by
          first
            | exact ne_ofI (b := 8) c14
            | (rw [hT.2.2.1 (bB_f c10)]
               decide)
        rw [if_neg (fun z => z.elim (fun w => by rw [hk1] at w; cases w) h8)] at hQ
        obtain ⟨k, hk, rfl⟩ := kx_nat hk1
        rw [cl_ofI (a := k)] at hQ
        have hck := (hI hl [] (Nat.zero_le _) (fun x hx => (by cases hx))).1
        refine pz_aln (i := 17) rfl rfl ?_
        refine pz_get (i := 18) rfl (gf_54_22 ..) ?_
        rw [hT.2.1]
        refine pz_if_ne (i := 19) rfl (fun c19 => ?_) (fun c19 => ?_)
        · first
            | exact lq_rm hr hk hx hl (by omega) hI hP (by rw [if_neg (show ¬ (a.2.1.2.1 = false ∧ thr a.1.2.1 k = false) from fun z => c19 (by rw [z.1]; rfl))] at hQ; exact hQ)
            | exact lq_rm hr hk hx0 hl (by omega) hI hP (by rw [if_neg (show ¬ (a.2.1.2.1 = false ∧ thr a.1.2.1 k = false) from fun z => c23 (show bB (thr a.1.2.1 k) = 0 by rw [z.2]; rfl))] at hQ; exact hQ)
        · refine pz_aln (i := 20) rfl rfl ?_
          refine pz_iln (i := 21) rfl rfl ?_
          refine pz_cI1 (i := 22) rfl (gc_54 ..) rfl (Nat.le_of_ble_eq_true rfl) rfl ?_
          refine sm_isThere hr' (dM_geo hd) (us := a.1.2.1.1) (m := a.1.2.1.2.1) (n := a.1.2.1.2.2) hk (fun t ht => by rw [show bv 2 = cu rm a.1.1 from hd.1]; exact hck.1 t ht) hVl.1 hVl.2.1 (fun jv0 _ f0 => ?_)
          have hx0 : mS rm jv0 bv a := ⟨dM_fr hd f0 (frA_rfl _ []) (by decide) (by decide), tM_fr hT f0 (frA_rfl _ []) (by decide) (by decide), gM_fr hG f0 (frA_rfl _ []) (by decide) (by decide), fun _ => vM_fr hVl f0 (frA_rfl _ []) (by decide) (by decide)⟩
          refine ⟨_, rfl, ?_⟩
          refine pz_if_ne (i := 23) rfl (fun c23 => ?_) (fun c23 => ?_)
          · first
              | exact lq_rm hr hk hx hl (by omega) hI hP (by rw [if_neg (show ¬ (a.2.1.2.1 = false ∧ thr a.1.2.1 k = false) from fun z => c19 (by rw [z.1]; rfl))] at hQ; exact hQ)
              | exact lq_rm hr hk hx0 hl (by omega) hI hP (by rw [if_neg (show ¬ (a.2.1.2.1 = false ∧ thr a.1.2.1 k = false) from fun z => c23 (show bB (thr a.1.2.1 k) = 0 by rw [z.2]; rfl))] at hQ; exact hQ)
          · refine pz_ic (i := 24) rfl ?_
            refine pz_ir (i := 25) rfl rfl rfl ?_
            rw [if_pos ⟨bB_f c19, bB_f c23⟩] at hQ
            exact hQ jv0 bv hx0
      · refine pz_aln (i := 11) rfl rfl ?_
        refine pz_get (i := 12) rfl (gf_54_23 ..) ?_
        rw [hT.1.1]
        refine pz_bi (i := 13) rfl ?_
        refine pz_ii_ne (i := 14) rfl (fun c14 => ?_) (fun c14 => ?_)
        · have hk1 := bB_t c7
          have h8l := hT.1.2.1
          have h8 : ¬ a.2.1.1.length = 8 := by
            first
              | exact ne_ofI (b := 8) c14
              | (rw [hT.2.2.1 (bB_f c10)]
                 decide)
          rw [if_neg (fun z => z.elim (fun w => by rw [hk1] at w; cases w) h8)] at hQ
          obtain ⟨k, hk, rfl⟩ := kx_nat hk1
          rw [cl_ofI (a := k)] at hQ
          have hck := (hI hl [] (Nat.zero_le _) (fun x hx => (by cases hx))).1
          refine pz_aln (i := 17) rfl rfl ?_
          refine pz_get (i := 18) rfl (gf_54_22 ..) ?_
          rw [hT.2.1]
          refine pz_if_ne (i := 19) rfl (fun c19 => ?_) (fun c19 => ?_)
          · first
              | exact lq_rm hr hk hx hl (by omega) hI hP (by rw [if_neg (show ¬ (a.2.1.2.1 = false ∧ thr a.1.2.1 k = false) from fun z => c19 (by rw [z.1]; rfl))] at hQ; exact hQ)
              | exact lq_rm hr hk hx0 hl (by omega) hI hP (by rw [if_neg (show ¬ (a.2.1.2.1 = false ∧ thr a.1.2.1 k = false) from fun z => c23 (show bB (thr a.1.2.1 k) = 0 by rw [z.2]; rfl))] at hQ; exact hQ)
          · refine pz_aln (i := 20) rfl rfl ?_
            refine pz_iln (i := 21) rfl rfl ?_
            refine pz_cI1 (i := 22) rfl (gc_54 ..) rfl (Nat.le_of_ble_eq_true rfl) rfl ?_
            refine sm_isThere hr' (dM_geo hd) (us := a.1.2.1.1) (m := a.1.2.1.2.1) (n := a.1.2.1.2.2) hk (fun t ht => by rw [show bv 2 = cu rm a.1.1 from hd.1]; exact hck.1 t ht) hVl.1 hVl.2.1 (fun jv0 _ f0 => ?_)
            have hx0 : mS rm jv0 bv a := ⟨dM_fr hd f0 (frA_rfl _ []) (by decide) (by decide), tM_fr hT f0 (frA_rfl _ []) (by decide) (by decide), gM_fr hG f0 (frA_rfl _ []) (by decide) (by decide), fun _ => vM_fr hVl f0 (frA_rfl _ []) (by decide) (by decide)⟩
            refine ⟨_, rfl, ?_⟩
            refine pz_if_ne (i := 23) rfl (fun c23 => ?_) (fun c23 => ?_)
            · first
                | exact lq_rm hr hk hx hl (by omega) hI hP (by rw [if_neg (show ¬ (a.2.1.2.1 = false ∧ thr a.1.2.1 k = false) from fun z => c19 (by rw [z.1]; rfl))] at hQ; exact hQ)
                | exact lq_rm hr hk hx0 hl (by omega) hI hP (by rw [if_neg (show ¬ (a.2.1.2.1 = false ∧ thr a.1.2.1 k = false) from fun z => c23 (show bB (thr a.1.2.1 k) = 0 by rw [z.2]; rfl))] at hQ; exact hQ)
            · refine pz_ic (i := 24) rfl ?_
              refine pz_ir (i := 25) rfl rfl rfl ?_
              rw [if_pos ⟨bB_f c19, bB_f c23⟩] at hQ
              exact hQ jv0 bv hx0
        · refine pz_ic (i := 15) rfl ?_
          refine pz_ir (i := 16) rfl rfl rfl ?_
          first
            | rw [if_pos (Or.inl (bB_f c7))] at hQ
            | rw [if_pos (Or.inr (eq_ofI (b := 8) c14 (by have := hT.1.2.1; omega) (by decide)))] at hQ
          exact hQ jv bv hx
  · refine pz_bi (i := 3) rfl ?_
    refine pz_ir (i := 4) rfl rfl rfl ?_
    rw [if_pos (bB_t c2)] at hQ
    exact hQ jv bv hx
set_option maxRecDepth 20000 in
theorem sm_commit (hr : 512 ≤ rm ∧ rm ≤ 4096) {a : aS} (hx : mS rm jv bv a) (hI : wB rm a) (hP : wP rm a) (hQ : ∀ jv' bv', mS rm jv' bv' (aCommit rm a).2 → Q (some (.int (aCommit rm a).1)) (wX rm iv av (wM rm jv' bv'))) : rx_R Lx xs (d + 11) 132 [.ref 54] (wX rm iv av (wM rm jv bv)) Q := by
  refine pz_en (t := rt_132) ⟨Nat.le_of_ble_eq_true rfl, rfl⟩ rfl rfl ?_
  unfold aCommit at hQ
  obtain ⟨hd, hT, hG, hV⟩ := id hx
  have h5 : jv 5 = bB (dwn a) := hd.2.2.2.2.2.2.2.2.2.1
  have hr' : 0 < rm ∧ rm ≤ 4096 := ⟨by omega, hr.2⟩
  refine pz_aln (i := 0) rfl rfl ?_
  refine pz_get (i := 1) rfl (gf_54_15 ..) ?_
  rw [h5]
  refine pz_if_eq (i := 2) rfl (fun c2 => ?_) (fun c2 => ?_)
  · have hl := bB_f c2
    have hal : a.1.1.2.2.2.2.2 = false := hl
    rw [if_neg (show ¬ dwn a = true by rw [hl]; decide)] at hQ
    have hVl := hV hl
    refine pz_aln (i := 5) rfl rfl ?_
    refine pz_get (i := 6) rfl (gf_54_22 ..) ?_
    rw [hT.2.1]
    refine pz_if_eq (i := 7) rfl (fun c7 => ?_) (fun c7 => ?_)
    · refine pz_aln (i := 11) rfl rfl ?_
      refine pz_ic (i := 12) rfl ?_
      refine pz_put (i := 13) rfl (pf_54_22 ..) ⟨rfl, rfl⟩ ?_
      refine pz_ic (i := 14) rfl ?_
      refine pz_ir (i := 15) rfl rfl rfl ?_
      have h0 : a.2.1.1.length = 0 := by
        first
          | (rw [hT.2.2.1 (bB_f c7)]
             rfl)
          | exact eq_ofI (b := 0) c10 (by have := hT.1.2.1; omega) (by decide)
      have h0l : a.2.1.1 = [] := List.length_eq_zero_iff.mp h0
      rw [if_pos h0] at hQ
      have fi : frI jv (upd jv 10 0) [10] := frI_up (frI_rfl _ _) (by decide)
      refine hQ _ bv ⟨dM_fr hd fi (frA_rfl _ []) (by decide) (by decide), ⟨⟨?_, Nat.zero_le _, fun i x hx => (by cases hx)⟩, ui_s _ _ _, fun _ => rfl, (fi 6 (by decide)).trans hT.2.2.2.1, hT.2.2.2.2⟩, gM_fr hG fi (frA_rfl _ []) (by decide) (by decide), fun w => vM_fr (hV w) fi (frA_rfl _ []) (by decide) (by decide)⟩
      rw [fi 11 (by decide), hT.1.1, h0]
      rfl
    · refine pz_aln (i := 8) rfl rfl ?_
      refine pz_get (i := 9) rfl (gf_54_23 ..) ?_
      rw [hT.1.1]
      refine pz_if_ne (i := 10) rfl (fun c10 => ?_) (fun c10 => ?_)
      · refine pz_aln (i := 16) rfl rfl ?_
        refine pz_cI0 (i := 17) rfl (gc_54 ..) rfl (Nat.le_of_ble_eq_true rfl) rfl ?_
        have h0 : ¬ a.2.1.1.length = 0 := ne_ofI (b := 0) c10
        rw [if_neg h0] at hQ
        refine sm_writeBatch hr hd hal hVl hT.1 (hI hl _ hT.1.2.1 (bM_mem hT.1)) (hP hl _ hT.1.2.1 (bM_mem hT.1)) (fun jv3 bv3 z o3 hk3 hz3 => ?_)
        obtain ⟨e1, e2⟩ := lq_fin (a := a) (tp := a.2.1.2.2) o3 hk3 hz3 hG hT.2.2.2.1 ⟨hT.2.2.2.2.1, hT.2.2.2.2.2.1⟩ hT.2.2.2.2.2.2
        rw [e2]
        refine ⟨_, rfl, ?_⟩
        refine pz_ir (i := 18) rfl rfl rfl ?_
        exact hQ jv3 bv3 e1
      · refine pz_aln (i := 11) rfl rfl ?_
        refine pz_ic (i := 12) rfl ?_
        refine pz_put (i := 13) rfl (pf_54_22 ..) ⟨rfl, rfl⟩ ?_
        refine pz_ic (i := 14) rfl ?_
        refine pz_ir (i := 15) rfl rfl rfl ?_
        have h0 : a.2.1.1.length = 0 := by
          first
            | (rw [hT.2.2.1 (bB_f c7)]
               rfl)
            | exact eq_ofI (b := 0) c10 (by have := hT.1.2.1; omega) (by decide)
        have h0l : a.2.1.1 = [] := List.length_eq_zero_iff.mp h0
        rw [if_pos h0] at hQ
        have fi : frI jv (upd jv 10 0) [10] := frI_up (frI_rfl _ _) (by decide)
        refine hQ _ bv ⟨dM_fr hd fi (frA_rfl _ []) (by decide) (by decide), ⟨⟨?_, Nat.zero_le _, fun i x hx => (by cases hx)⟩, ui_s _ _ _, fun _ => rfl, (fi 6 (by decide)).trans hT.2.2.2.1, hT.2.2.2.2⟩, gM_fr hG fi (frA_rfl _ []) (by decide) (by decide), fun w => vM_fr (hV w) fi (frA_rfl _ []) (by decide) (by decide)⟩
        rw [fi 11 (by decide), hT.1.1, h0]
        rfl
  · refine pz_bi (i := 3) rfl ?_
    refine pz_ir (i := 4) rfl rfl rfl ?_
    rw [if_pos (bB_t c2)] at hQ
    exact hQ jv bv hx
end SBD
