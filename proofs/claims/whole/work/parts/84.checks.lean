/-! PART 84: the class: table, check, type -/
theorem ty_s : ∀ j, j < 8 → ((nI (8 * j)).toInt64.toUInt64 &&& Int64.toUInt64 63).toBitVec.toNat % 64 = 8 * j := by decide
/-- a byte of a long, moved down -/
theorem ty_b (x : Int64) {j : Nat} (hj : j < 8) : ((x.toUInt64 >>> ((nI (8 * j)).toInt64.toUInt64 &&& Int64.toUInt64 63)).toInt64.toInt32).toInt8.toInt32 = bS (x.toBitVec.toNat / 2 ^ (8 * j) % 256) := by
  rw [i8_of]
  congr 1
  show ((x.toUInt64 >>> ((nI (8 * j)).toInt64.toUInt64 &&& Int64.toUInt64 63)).toBitVec.signExtend 32).toNat % 256 = _
  rw [BitVec.signExtend_eq_setWidth_of_le _ (by decide), BitVec.toNat_setWidth, UInt64.toBitVec_shiftRight, BitVec.ushiftRight_eq', BitVec.toNat_ushiftRight, BitVec.toNat_umod, show (64 : BitVec 64).toNat = 64 from rfl, ty_s j hj, Nat.shiftRight_eq_div_pow]
  show x.toBitVec.toNat / 2 ^ (8 * j) % 2 ^ 32 % 256 = _
  omega
theorem sub_le0 {a b : Nat} (h : a ≤ b) (hb : b < 2 ^ 31) : nI a - nI b ≤ 0 := by
  have e : nI a = nI b - nI (b - a) := by
    rw [pk_sub (by omega), Nat.sub_sub_self h]
  have h1 : nI a - nI b = - nI (b - a) := by
    rw [e]
    generalize nI b = x
    generalize nI (b - a) = y
    rw [Int32.sub_eq_add_neg, Int32.sub_eq_add_neg, Int32.add_comm x, Int32.add_assoc, Int32.add_right_neg, Int32.add_zero]
  rw [h1]
  apply Int32.le_iff_toInt_le.mpr
  rw [Int32.toInt_neg, nI_toInt (by omega)]
  show Int.bmod _ _ ≤ 0
  rw [Int.bmod_eq_of_le (by omega) (by omega)]
  omega
section S84
variable {Lx : Nat} {xs : Nat → Int32} {d rm : Nat} {iv : Nat → Int32} {av : Nat → Nat → Int32} {r : pW} {Q : rQ}
set_option maxRecDepth 20000 in
theorem lp_ty {x : Int64} {n : Int32} {o2 : Option Value} : ∀ (j : Nat) (T : List Nat) (iv : Nat → Int32) (av : Nat → Nat → Int32), j ≤ 8 → T.length + j ≤ 64 → iv 9 = nI T.length → (∀ k, k < T.length → av 40 k = lB T k) → (∀ iv' av', frI iv iv' [9] → frA av av' [40] → iv' 9 = nI (T ++ tyB x j).length → (∀ k, k < (T ++ tyB x j).length → av' 40 k = lB (T ++ tyB x j) k) → Q (some (.int (nI (T ++ tyB x j).length))) (wX rm iv' av' r)) → pz Lx xs d rt_58 (some .int) Q 24 [some (.ref 1), some (.long x), o2, some (.int n), some (.int (nI j - 1))] [] (wX rm iv av r)
  | 0, T, iv, av, hj, hl, h9, h40, hQ => by
    have e0 : T ++ tyB x 0 = T := List.append_nil T
    rw [e0] at hQ
    refine pz_il (i := 24) rfl rfl ?_
    refine pz_if_lt (i := 25) rfl (fun c25 => ?_) (fun c25 => ?_)
    · refine pz_aln (i := 46) rfl rfl ?_
      refine pz_get (i := 47) rfl (gf_1_9 ..) ?_
      rw [h9]
      refine pz_ir (i := 48) rfl rfl rfl ?_
      exact hQ iv av (frI_rfl _ _) (frA_rfl _ _) h9 h40
    · exact absurd (by decide) c25
  | j + 1, T, iv, av, hj, hl, h9, h40, hQ => by
    have e1 : nI (j + 1) - 1 = nI j := pk_sub (b := 1) (by omega)
    have eT : T ++ tyB x (j + 1) = (T ++ [x.toBitVec.toNat / 2 ^ (8 * j) % 256]) ++ tyB x j := by
      rw [List.append_assoc]
      rfl
    rw [eT] at hQ
    rw [e1]
    refine pz_il (i := 24) rfl rfl ?_
    refine pz_if_lt (i := 25) rfl (fun c25 => ?_) (fun c25 => ?_)
    · exact absurd c25 (nI_pos (by omega))
    · refine pz_aln (i := 26) rfl rfl ?_
      refine pz_get (i := 27) rfl (gf_1_8 ..) ?_
      refine pz_aln (i := 28) rfl rfl ?_
      refine pz_get (i := 29) rfl (gf_1_9 ..) ?_
      rw [h9]
      refine pz_lln (i := 30) rfl rfl ?_
      refine pz_bi (i := 31) rfl ?_
      refine pz_il (i := 32) rfl rfl ?_
      refine pz_mul (i := 33) rfl ?_
      rw [show (8 : Int32) * nI j = nI (8 * j) from pk_mul 8 j]
      refine pz_lush (i := 34) rfl ?_
      refine pz_l2i (i := 35) rfl ?_
      refine pz_i2b (i := 36) rfl ?_
      rw [ty_b x (by omega)]
      refine pz_bas (i := 37) rfl (ga_50 ..) rfl (in_ofI (by omega)) (pa_50 ..) ?_
      rw [cl_ofI (a := T.length)]
      refine pz_aln (i := 38) rfl rfl ?_
      refine pz_dup (i := 39) rfl rfl ?_
      refine pz_get (i := 40) rfl (gf_1_9 ..) ?_
      rw [h9]
      refine pz_ic (i := 41) rfl ?_
      refine pz_add (i := 42) rfl ?_
      rw [show nI T.length + 1 = nI (T.length + 1) from nI_add _ 1]
      refine pz_put (i := 43) rfl (pf_1_9 ..) ⟨rfl, rfl⟩ ?_
      refine pz_inc (i := 44) rfl rfl rfl rfl ?_
      rw [show nI j + (-1) = nI j - 1 from (Int32.sub_eq_add_neg ..).symm]
      refine pz_go (i := 45) rfl ?_
      refine lp_ty j (T ++ [x.toBitVec.toNat / 2 ^ (8 * j) % 256]) _ _ (by omega) (by rw [List.length_append]; show T.length + 1 + j ≤ 64; omega) (by rw [List.length_append]; exact ui_s _ _ _) (fun k hk => ?_) (fun iv2 av2 f1 f2 => hQ iv2 av2 (frI_tr (frI_up (frI_rfl _ [9]) (by decide)) f1 (by decide) (by decide)) (frA_tr (frA_up (frA_rfl _ [40]) (by decide)) f2 (by decide) (by decide)))
      rw [List.length_append] at hk
      have hk2 : k < T.length + 1 := hk
      rw [ua_s]
      by_cases e : k = T.length
      · subst e
        rw [ui_s]
        unfold lB
        rw [gd_r (Nat.le_refl _), Nat.sub_self]
        exact bS_bt _
      · rw [ui_n e]
        rw [h40 k (by omega)]
        unfold lB
        rw [gd_l (by omega)]
set_option maxRecDepth 20000 in
theorem sx_type (hr : 512 ≤ rm ∧ rm ≤ 4096) {a : aS} {x : Int64} {n : Int32} (hx : xS rm iv av a) (hQ : ∀ iv' av', xS rm iv' av' (aType x n a).2 → Q (some (.int (aType x n a).1)) (wX rm iv' av' r)) : rx_R Lx xs (d + 2) 58 [.ref 1, .long x, .int n] (wX rm iv av r) Q := by
  refine pz_en (t := rt_58) ⟨Nat.le_of_ble_eq_true rfl, rfl⟩ rfl rfl ?_
  unfold aType at hQ
  obtain ⟨hd, hz, hT, hG, hV⟩ := id hx
  have h5 : iv 5 = bB (dwn a) := hd.2.2.2.2.2.2.2.2.1
  have hr' : 0 < rm ∧ rm ≤ 4096 := ⟨by omega, hr.2⟩
  refine pz_aln (i := 0) rfl rfl ?_
  refine pz_get (i := 1) rfl (gf_1_0 ..) ?_
  refine pz_get (i := 2) rfl (gf_2_10 ..) ?_
  rw [h5]
  refine pz_if_eq (i := 3) rfl (fun c3 => ?_) (fun c3 => ?_)
  · have hl := bB_f c3
    have hal : a.1.1.2.2.2.2.2 = false := hl
    rw [if_neg (show ¬ dwn a = true by rw [hl]; decide)] at hQ
    have hVl := hV hl
    have hc0 : av 0 = cu rm a.1.1 := hd.1
    refine pz_iln (i := 6) rfl rfl ?_
    refine pz_ic (i := 7) rfl ?_
    refine pz_ii_lt (i := 8) rfl (fun c8 => ?_) (fun c8 => ?_)
    · refine pz_ic (i := 18) rfl ?_
      refine pz_ir (i := 19) rfl rfl rfl ?_
      first
        | rw [if_pos (Or.inl c8)] at hQ
        | rw [if_pos (Or.inr (Or.inl c11))] at hQ
        | rw [if_pos (Or.inr (Or.inr (Int32.not_le.mp c17)))] at hQ
      exact hQ iv av hx
    · refine pz_iln (i := 9) rfl rfl ?_
      refine pz_bi (i := 10) rfl ?_
      refine pz_ii_gt (i := 11) rfl (fun c11 => ?_) (fun c11 => ?_)
      · refine pz_ic (i := 18) rfl ?_
        refine pz_ir (i := 19) rfl rfl rfl ?_
        first
          | rw [if_pos (Or.inl c8)] at hQ
          | rw [if_pos (Or.inr (Or.inl c11))] at hQ
          | rw [if_pos (Or.inr (Or.inr (Int32.not_le.mp c17)))] at hQ
        exact hQ iv av hx
      · refine pz_aln (i := 12) rfl rfl ?_
        refine pz_get (i := 13) rfl (gf_1_9 ..) ?_
        rw [hT.2.2.2.1]
        refine pz_iln (i := 14) rfl rfl ?_
        refine pz_add (i := 15) rfl ?_
        refine pz_bi (i := 16) rfl ?_
        refine pz_ii_le (i := 17) rfl (fun c17 => ?_) (fun c17 => ?_)
        · rw [if_neg (fun z => z.elim c8 (fun w => w.elim c11 (fun w => (Int32.not_le.mpr w) c17)))] at hQ
          obtain ⟨k, hk, rfl⟩ := nI_of2 (M := 8) (n := 8) (by decide) (fun w => c8 (Int32.lt_trans w (by decide))) (Int32.not_lt.mp c11)
          have htl := hT.2.2.2.2.1
          have hsum : a.2.1.2.2.length + k ≤ 64 := by
            rw [nI_add] at c17
            exact le_ofI (b := 64) c17
          rw [cl_ofI (a := k)] at hQ
          refine pz_iln (i := 20) rfl rfl ?_
          refine pz_ic (i := 21) rfl ?_
          refine pz_sub (i := 22) rfl ?_
          refine pz_is (i := 23) rfl ⟨rfl, Nat.le_of_ble_eq_true rfl⟩ rfl ?_
          refine lp_ty k a.2.1.2.2 iv av (by omega) hsum hT.2.2.2.1 hT.2.2.2.2.2.2 (fun iv1 av1 f1 f2 e1 e2 => ?_)
          rw [List.length_append, tyB_len]
          refine hQ iv1 av1 ⟨dX_fr hd f1 f2 (by decide) (by decide), kz_ext hz f2 (by decide), ⟨bX_ext hT.1 (f1 7 (by decide)) (fun j j1 j2 => f2 j (by simp only [List.mem_cons, List.not_mem_nil, or_false]; omega)), (f1 8 (by decide)).trans hT.2.1, hT.2.2.1, e1, ?_, by8_app hT.2.2.2.2.2.1 (tyB_by x k), e2⟩, gX_fr hG f1 f2 (by decide) (by decide), fun _ => vX_ext hVl f1 f2 (by decide) (by decide)⟩
          show (a.2.1.2.2 ++ tyB x k).length ≤ 64
          rw [List.length_append, tyB_len]
          exact hsum
        · refine pz_ic (i := 18) rfl ?_
          refine pz_ir (i := 19) rfl rfl rfl ?_
          first
            | rw [if_pos (Or.inl c8)] at hQ
            | rw [if_pos (Or.inr (Or.inl c11))] at hQ
            | rw [if_pos (Or.inr (Or.inr (Int32.not_le.mp c17)))] at hQ
          exact hQ iv av hx
  · refine pz_bi (i := 4) rfl ?_
    refine pz_ir (i := 5) rfl rfl rfl ?_
    rw [if_pos (bB_t c3)] at hQ
    exact hQ iv av hx
set_option maxRecDepth 20000 in
theorem sx_table (hr : 512 ≤ rm ∧ rm ≤ 4096) {a : aS} {y w : Int32} (hx : xS rm iv av a) (hI : wB rm a) (hN : dwn a = false → ∀ t ∈ a.1.2.1.1, 0 < (kS t.2.2.2).length) (hQ : ∀ iv' av', xS rm iv' av' (aTable rm y w a).2 → Q (some (.int (aTable rm y w a).1)) (wX rm iv' av' r)) : rx_R Lx xs (d + 6) 75 [.ref 1, .int y, .int w] (wX rm iv av r) Q := by
  refine pz_en (t := rt_75) ⟨Nat.le_of_ble_eq_true rfl, rfl⟩ rfl rfl ?_
  unfold aTable at hQ
  obtain ⟨hd, hz, hT, hG, hV⟩ := id hx
  have h5 : iv 5 = bB (dwn a) := hd.2.2.2.2.2.2.2.2.1
  have hr' : 0 < rm ∧ rm ≤ 4096 := ⟨by omega, hr.2⟩
  refine pz_aln (i := 0) rfl rfl ?_
  refine pz_get (i := 1) rfl (gf_1_0 ..) ?_
  refine pz_get (i := 2) rfl (gf_2_10 ..) ?_
  rw [h5]
  refine pz_if_eq (i := 3) rfl (fun c3 => ?_) (fun c3 => ?_)
  · have hl := bB_f c3
    have hal : a.1.1.2.2.2.2.2 = false := hl
    rw [if_neg (show ¬ dwn a = true by rw [hl]; decide)] at hQ
    have hVl := hV hl
    have hc0 : av 0 = cu rm a.1.1 := hd.1
    refine pz_iln (i := 6) rfl rfl ?_
    refine pz_if_lt (i := 7) rfl (fun c7 => ?_) (fun c7 => ?_)
    · refine pz_ic (i := 13) rfl ?_
      refine pz_ir (i := 14) rfl rfl rfl ?_
      first
        | rw [if_pos (Or.inl c7)] at hQ
        | rw [if_pos (Or.inr (Int32.not_lt.mp c12))] at hQ
      exact hQ iv av hx
    · refine pz_iln (i := 8) rfl rfl ?_
      refine pz_aln (i := 9) rfl rfl ?_
      refine pz_get (i := 10) rfl (gf_1_1 ..) ?_
      refine pz_get (i := 11) rfl (gf_7_3 ..) ?_
      rw [show iv 10 = nI a.1.2.1.1.length from hVl.1.1]
      refine pz_ii_lt (i := 12) rfl (fun c12 => ?_) (fun c12 => ?_)
      · rw [if_neg (fun z => z.elim c7 (fun w => (Int32.not_le.mpr c12) w))] at hQ
        obtain ⟨i, hi, rfl⟩ := nI_of c7
        have h6 := hVl.1.2.1
        have hil : i < a.1.2.1.1.length := lt_ofI c12 hi (by omega)
        obtain ⟨t, ht⟩ : ∃ t, a.1.2.1.1[i]? = some t := ⟨_, List.getElem?_eq_getElem hil⟩
        rw [cl_ofI hi, ht] at hQ
        have hp : av 4 i = nI t.1 := hVl.1.2.2 i t ht
        have hm := List.mem_of_getElem? ht
        have hE := (hI hl [] (Nat.zero_le _) (fun x hx => (by cases hx))).1.1 t hm
        have hn := hN hl t hm
        have hkl := kS_len t.2.2.2
        have h12 := hE.1
        obtain ⟨_, _, _, _, q1, q2, q4, q8, _⟩ := id hE
        have hQ1 := hQ iv av hx
        simp only at hQ1
        unfold tabF at hQ1
        refine pz_aln (i := 15) rfl rfl ?_
        refine pz_get (i := 16) rfl (gf_1_1 ..) ?_
        refine pz_iln (i := 17) rfl rfl ?_
        refine pz_cI1 (i := 18) rfl (gc_7 ..) rfl (Nat.le_of_ble_eq_true rfl) rfl ?_
        refine sx_tableStart (v := 0) (by decide) (by omega) ?_
        rw [show av (4 + 0) i = nI t.1 from hp, show nI t.1 * 1300 = nI (t.1 * 1300) from pk_mul t.1 1300, nI_add]
        refine ⟨_, rfl, ?_⟩
        refine pz_isn (i := 19) rfl ⟨rfl, Nat.le_of_ble_eq_true rfl⟩ rfl ?_
        refine pz_aln (i := 20) rfl rfl ?_
        refine pz_get (i := 21) rfl (gf_1_0 ..) ?_
        refine pz_iln (i := 22) rfl rfl ?_
        refine pz_ic (i := 23) rfl ?_
        refine pz_add (i := 24) rfl ?_
        refine pz_cI1 (i := 25) rfl (gc_2 ..) rfl (Nat.le_of_ble_eq_true rfl) rfl ?_
        refine sx_byteAt hr' ?_
        rw [show nI (rm + t.1 * 1300) + 2 = nI (rm + t.1 * 1300 + 2) from nI_add _ 2, bx_atN (by omega) hr.2, hc0]
        rw [q2]
        refine ⟨_, rfl, ?_⟩
        refine pz_is (i := 26) rfl ⟨rfl, Nat.le_of_ble_eq_true rfl⟩ rfl ?_
        refine pz_iln (i := 27) rfl rfl ?_
        refine pz_tsw (i := 28) rfl (fun h => ?_) (fun h1 h2 => ?_)
        · rw [if_neg (fun z => by rw [z] at h; exact absurd h (by decide)), if_neg (fun z => by rw [z] at h; exact absurd h (by decide)), if_neg (fun z => by rw [z] at h; exact absurd h (by decide)), if_neg (fun z => by rw [z] at h; exact absurd h (by decide)), if_neg (fun z => by rw [z] at h; exact absurd h (by decide)), if_neg (fun z => by rw [z] at h; exact absurd h (by decide)), if_neg (fun z => by rw [z] at h; exact absurd h (by decide))] at hQ1
          refine pz_ic (i := 78) rfl ?_
          refine pz_ir (i := 79) rfl rfl rfl ?_
          exact hQ1
        · obtain ⟨k, hk, rfl⟩ := sw_n (n := 6) (by decide) h1 h2
          have hc : k = 0 ∨ k = 1 ∨ k = 2 ∨ k = 3 ∨ k = 4 ∨ k = 5 ∨ k = 6 := by omega
          rcases hc with rfl | rfl | rfl | rfl | rfl | rfl | rfl
          · rw [if_pos (by decide)] at hQ1
            show pz Lx xs (d + 5) rt_75 (some .int) Q 29 _ [] _
            refine pz_aln (i := 29) rfl rfl ?_
            refine pz_get (i := 30) rfl (gf_1_0 ..) ?_
            refine pz_iln (i := 31) rfl rfl ?_
            refine pz_ic (i := 32) rfl ?_
            refine pz_add (i := 33) rfl ?_
            refine pz_cI1 (i := 34) rfl (gc_2 ..) rfl (Nat.le_of_ble_eq_true rfl) rfl ?_
            refine sx_byteAt hr' ?_
            rw [show nI (rm + t.1 * 1300) + 1 = nI (rm + t.1 * 1300 + 1) from nI_add _ 1, bx_atN (by omega) hr.2, hc0]
            rw [q1]
            refine ⟨_, rfl, ?_⟩
            refine pz_ir (i := 35) rfl rfl rfl ?_
            exact hQ1
          · rw [if_neg (by decide), if_pos (by decide)] at hQ1
            show pz Lx xs (d + 5) rt_75 (some .int) Q 36 _ [] _
            refine pz_il (i := 36) rfl rfl ?_
            refine pz_ir (i := 37) rfl rfl rfl ?_
            exact hQ1
          · rw [if_neg (by decide), if_neg (by decide), if_pos (by decide)] at hQ1
            show pz Lx xs (d + 5) rt_75 (some .int) Q 38 _ [] _
            refine pz_aln (i := 38) rfl rfl ?_
            refine pz_get (i := 39) rfl (gf_1_1 ..) ?_
            refine pz_get (i := 40) rfl (gf_7_2 ..) ?_
            refine pz_iln (i := 41) rfl rfl ?_
            refine pz_ial (i := 42) rfl (ga_12 ..) (in_ofI (a := i) (n := 6) (by omega)) ?_
            rw [cl_ofI (a := i), hp]
            refine pz_ir (i := 43) rfl rfl rfl ?_
            exact hQ1
          · rw [if_neg (by decide), if_neg (by decide), if_neg (by decide), if_pos (by decide)] at hQ1
            show pz Lx xs (d + 5) rt_75 (some .int) Q 44 _ [] _
            refine pz_aln (i := 44) rfl rfl ?_
            refine pz_get (i := 45) rfl (gf_1_0 ..) ?_
            refine pz_iln (i := 46) rfl rfl ?_
            refine pz_ic (i := 47) rfl ?_
            refine pz_add (i := 48) rfl ?_
            refine pz_cI1 (i := 49) rfl (gc_2 ..) rfl (Nat.le_of_ble_eq_true rfl) rfl ?_
            refine sx_numberAt hr' ?_
            rw [show nI (rm + t.1 * 1300) + 4 = nI (rm + t.1 * 1300 + 4) from nI_add _ 4, bx_numN (by omega) hr.2, hc0]
            rw [q4]
            refine ⟨_, rfl, ?_⟩
            refine pz_ir (i := 50) rfl rfl rfl ?_
            exact hQ1
          · rw [if_neg (by decide), if_neg (by decide), if_neg (by decide), if_neg (by decide), if_pos (by decide)] at hQ1
            show pz Lx xs (d + 5) rt_75 (some .int) Q 51 _ [] _
            refine pz_aln (i := 51) rfl rfl ?_
            refine pz_get (i := 52) rfl (gf_1_0 ..) ?_
            refine pz_iln (i := 53) rfl rfl ?_
            refine pz_bi (i := 54) rfl ?_
            refine pz_add (i := 55) rfl ?_
            refine pz_cI1 (i := 56) rfl (gc_2 ..) rfl (Nat.le_of_ble_eq_true rfl) rfl ?_
            refine sx_byteAt hr' ?_
            rw [show nI (rm + t.1 * 1300) + 16 = nI (rm + t.1 * 1300 + 16) from nI_add _ 16, bx_atN (by omega) hr.2, hc0]
            rw [show bN (cu rm a.1.1) (rm + t.1 * 1300 + 16) = ksA t.2.2.2 0 from tE_key hE hn]
            refine ⟨_, rfl, ?_⟩
            refine pz_ir (i := 57) rfl rfl rfl ?_
            exact hQ1
          · rw [if_neg (by decide), if_neg (by decide), if_neg (by decide), if_neg (by decide), if_neg (by decide), if_pos (by decide)] at hQ1
            show pz Lx xs (d + 5) rt_75 (some .int) Q 58 _ [] _
            refine pz_aln (i := 58) rfl rfl ?_
            refine pz_get (i := 59) rfl (gf_1_0 ..) ?_
            refine pz_iln (i := 60) rfl rfl ?_
            refine pz_bi (i := 61) rfl ?_
            refine pz_add (i := 62) rfl ?_
            refine pz_bi (i := 63) rfl ?_
            refine pz_il (i := 64) rfl rfl ?_
            refine pz_ic (i := 65) rfl ?_
            refine pz_sub (i := 66) rfl ?_
            rw [show nI (kS t.2.2.2).length - 1 = nI ((kS t.2.2.2).length - 1) from pk_sub (b := 1) (by omega)]
            refine pz_mul (i := 67) rfl ?_
            rw [show (10 : Int32) * nI ((kS t.2.2.2).length - 1) = nI (10 * ((kS t.2.2.2).length - 1)) from pk_mul 10 _]
            refine pz_add (i := 68) rfl ?_
            rw [show nI (rm + t.1 * 1300) + 16 = nI (rm + t.1 * 1300 + 16) from nI_add _ 16, nI_add]
            refine pz_cI1 (i := 69) rfl (gc_2 ..) rfl (Nat.le_of_ble_eq_true rfl) rfl ?_
            refine sx_byteAt hr' ?_
            rw [bx_atN (by omega) hr.2, hc0, tE_key hE (i := (kS t.2.2.2).length - 1) (by omega)]
            refine ⟨_, rfl, ?_⟩
            refine pz_ir (i := 70) rfl rfl rfl ?_
            exact hQ1
          · rw [if_neg (by decide), if_neg (by decide), if_neg (by decide), if_neg (by decide), if_neg (by decide), if_neg (by decide), if_pos (by decide)] at hQ1
            show pz Lx xs (d + 5) rt_75 (some .int) Q 71 _ [] _
            refine pz_aln (i := 71) rfl rfl ?_
            refine pz_get (i := 72) rfl (gf_1_0 ..) ?_
            refine pz_iln (i := 73) rfl rfl ?_
            refine pz_bi (i := 74) rfl ?_
            refine pz_add (i := 75) rfl ?_
            refine pz_cI1 (i := 76) rfl (gc_2 ..) rfl (Nat.le_of_ble_eq_true rfl) rfl ?_
            refine sx_numberAt hr' ?_
            rw [show nI (rm + t.1 * 1300) + 8 = nI (rm + t.1 * 1300 + 8) from nI_add _ 8, bx_numN (by omega) hr.2, hc0]
            rw [q8]
            refine ⟨_, rfl, ?_⟩
            refine pz_ir (i := 77) rfl rfl rfl ?_
            exact hQ1
      · refine pz_ic (i := 13) rfl ?_
        refine pz_ir (i := 14) rfl rfl rfl ?_
        first
          | rw [if_pos (Or.inl c7)] at hQ
          | rw [if_pos (Or.inr (Int32.not_lt.mp c12))] at hQ
        exact hQ iv av hx
  · refine pz_bi (i := 4) rfl ?_
    refine pz_ir (i := 5) rfl rfl rfl ?_
    rw [if_pos (bB_t c3)] at hQ
    exact hQ iv av hx
set_option maxRecDepth 20000 in
theorem sx_hasIts (hr : 512 ≤ rm ∧ rm ≤ 4096) {V : vW} {k : Nat} (hk : k < 120) (hV : ∀ i, 1 ≤ i → i ≤ 7 → iv (10 + i) = nI (V.2.2 i)) (hb : V.2.2 5 < 2 ^ 30) (hE : eX 3 iv av (fun k => ent V.2.1 V.1 k)) (hR : ∀ e, ent V.2.1 V.1 k = some e → e.1 = 1 → ∃ r, rcA rm (av 0) e.2.2 r e.2.1 ∧ rcOK r ∧ r.1 = 1 ∧ r.2.2.1 = k ∧ V.2.2 4 ≤ e.2.2 ∧ e.2.2 + rcZ r ≤ V.2.2 5) (hQ : Q (some (.int 1)) (wX rm iv av r)) : rx_R Lx xs (d + 5) 83 [.ref 1, .int (nI k)] (wX rm iv av r) Q := by
  refine pz_en (t := rt_83) ⟨Nat.le_of_ble_eq_true rfl, rfl⟩ rfl rfl ?_
  have hr' : 0 < rm ∧ rm ≤ 4096 := ⟨by omega, hr.2⟩
  have ht := eX_thr hE hk
  refine pz_aln (i := 0) rfl rfl ?_
  refine pz_get (i := 1) rfl (gf_1_4 ..) ?_
  refine pz_get (i := 2) rfl (gf_29_0 ..) ?_
  refine pz_iln (i := 3) rfl rfl ?_
  refine pz_ial (i := 4) rfl (ga_30 ..) (in_ofI hk) ?_
  rw [cl_ofI (a := k)]
  refine pz_ic (i := 5) rfl ?_
  refine pz_ii_eq (i := 6) rfl (fun c6 => ?_) (fun c6 => ?_)
  · obtain ⟨e, he, h1⟩ := thr_ex (ht.mp c6)
    obtain ⟨rc, g1, g2, g3, g4, g5, g6⟩ := hR e he h1
    have hw := eX_where hE hk he
    have h30 := hE.1.2 k e he
    have e14 : iv 14 = nI (V.2.2 4) := hV 4 (by decide) (by decide)
    have e15 : iv 15 = nI (V.2.2 5) := hV 5 (by decide) (by decide)
    have hsz : rcZ rc = 12 + rc.2.2.2.length := rfl
    have hlen := g2.2.2.2.2.1
    refine pz_aln (i := 9) rfl rfl ?_
    refine pz_get (i := 10) rfl (gf_1_4 ..) ?_
    refine pz_get (i := 11) rfl (gf_29_2 ..) ?_
    refine pz_iln (i := 12) rfl rfl ?_
    refine pz_ial (i := 13) rfl (ga_32 ..) (in_ofI hk) ?_
    rw [cl_ofI (a := k), show av 21 k = nI e.2.2 from hw.2.2]
    refine pz_isn (i := 14) rfl ⟨rfl, Nat.le_of_ble_eq_true rfl⟩ rfl ?_
    refine pz_iln (i := 15) rfl rfl ?_
    refine pz_aln (i := 16) rfl rfl ?_
    refine pz_get (i := 17) rfl (gf_1_1 ..) ?_
    refine pz_get (i := 18) rfl (gf_7_7 ..) ?_
    rw [e14]
    refine pz_sub (i := 19) rfl ?_
    rw [pk_sub g5]
    refine pz_if_lt (i := 20) rfl (fun c20 => ?_) (fun c20 => ?_)
    · exact absurd c20 (nI_pos (by omega))
    · refine pz_iln (i := 21) rfl rfl ?_
      refine pz_aln (i := 22) rfl rfl ?_
      refine pz_get (i := 23) rfl (gf_1_0 ..) ?_
      refine pz_iln (i := 24) rfl rfl ?_
      refine pz_cI1 (i := 25) rfl (gc_2 ..) rfl (Nat.le_of_ble_eq_true rfl) rfl ?_
      refine sx_recordSize hr' (by omega) ?_
      rw [bN_and, rcA_len g1, show (12 : Int32) + nI rc.2.2.2.length = nI (12 + rc.2.2.2.length) from nI_add 12 _]
      refine ⟨_, rfl, ?_⟩
      refine pz_add (i := 26) rfl ?_
      rw [nI_add]
      refine pz_aln (i := 27) rfl rfl ?_
      refine pz_get (i := 28) rfl (gf_1_1 ..) ?_
      refine pz_get (i := 29) rfl (gf_7_8 ..) ?_
      rw [e15]
      refine pz_sub (i := 30) rfl ?_
      refine pz_if_gt (i := 31) rfl (fun c31 => ?_) (fun c31 => ?_)
      · exact absurd (sub_le0 (a := e.2.2 + (12 + rc.2.2.2.length)) (b := V.2.2 5) (by omega) (by omega)) (Int32.not_le.mpr c31)
      · refine pz_aln (i := 32) rfl rfl ?_
        refine pz_get (i := 33) rfl (gf_1_1 ..) ?_
        refine pz_iln (i := 34) rfl rfl ?_
        refine pz_aln (i := 35) rfl rfl ?_
        refine pz_get (i := 36) rfl (gf_1_4 ..) ?_
        refine pz_get (i := 37) rfl (gf_29_1 ..) ?_
        refine pz_iln (i := 38) rfl rfl ?_
        refine pz_ial (i := 39) rfl (ga_31 ..) (in_ofI hk) ?_
        rw [cl_ofI (a := k), show av 20 k = nI e.2.1 from hw.2.1]
        refine pz_cI2 (i := 40) rfl (gc_7 ..) rfl (Nat.le_of_ble_eq_true rfl) rfl ?_
        refine sx_isRecord hr' (v := 0) (by decide) (by omega) (by omega) ?_
        rw [isR_t g1 g2 (by omega)]
        refine ⟨_, rfl, ?_⟩
        refine pz_if_eq (i := 41) rfl (fun c41 => ?_) (fun c41 => ?_)
        · exact absurd c41 (by decide)
        · refine pz_aln (i := 42) rfl rfl ?_
          refine pz_get (i := 43) rfl (gf_1_0 ..) ?_
          refine pz_iln (i := 44) rfl rfl ?_
          refine pz_cI1 (i := 45) rfl (gc_2 ..) rfl (Nat.le_of_ble_eq_true rfl) rfl ?_
          refine sx_logByte hr' (by omega) ?_
          rw [bN_and, rcA_kind g1]
          refine ⟨_, rfl, ?_⟩
          refine pz_si (i := 46) rfl ?_
          refine pz_and (i := 47) rfl ?_
          rw [kd_and g2.2.1 g2.2.2.1, g3]
          refine pz_ic (i := 48) rfl ?_
          refine pz_ii_ne (i := 49) rfl (fun c49 => ?_) (fun c49 => ?_)
          · exact absurd rfl c49
          · refine pz_aln (i := 50) rfl rfl ?_
            refine pz_get (i := 51) rfl (gf_1_0 ..) ?_
            refine pz_iln (i := 52) rfl rfl ?_
            refine pz_ic (i := 53) rfl ?_
            refine pz_add (i := 54) rfl ?_
            rw [show nI e.2.2 + 1 = nI (e.2.2 + 1) from nI_add _ 1]
            refine pz_cI1 (i := 55) rfl (gc_2 ..) rfl (Nat.le_of_ble_eq_true rfl) rfl ?_
            refine sx_logByte hr' (by omega) ?_
            rw [bN_and, rcA_key g1, g4]
            refine ⟨_, rfl, ?_⟩
            refine pz_iln (i := 56) rfl rfl ?_
            refine pz_ii_ne (i := 57) rfl (fun c57 => ?_) (fun c57 => ?_)
            · exact absurd rfl c57
            · refine pz_ic (i := 58) rfl ?_
              refine pz_go (i := 59) rfl ?_
              refine pz_ir (i := 61) rfl rfl rfl ?_
              exact hQ
  · refine pz_ic (i := 7) rfl ?_
    refine pz_ir (i := 8) rfl rfl rfl ?_
    exact hQ
set_option maxRecDepth 20000 in
theorem sx_isSame (hr' : 0 < rm ∧ rm ≤ 4096) {m : mP} {k : Nat} (hk : k < 120) (hE : eX 3 iv av m) (hE4 : eX 4 iv av m) (hQ : Q (some (.int 1)) (wX rm iv av r)) : rx_R Lx xs (d + 5) 84 [.ref 1, .int (nI k)] (wX rm iv av r) Q := by
  refine pz_en (t := rt_84) ⟨Nat.le_of_ble_eq_true rfl, rfl⟩ rfl rfl ?_
  have h34 : av 19 k = av 22 k := by
    have h1 := hE.2.2 k hk
    have h2 := hE4.2.2 k hk
    cases he : m k with
    | none =>
      simp only [he] at h1 h2
      exact h1.trans h2.symm
    | some e =>
      simp only [he] at h1 h2
      exact h1.1.trans h2.1.symm
  refine pz_aln (i := 0) rfl rfl ?_
  refine pz_get (i := 1) rfl (gf_1_4 ..) ?_
  refine pz_get (i := 2) rfl (gf_29_0 ..) ?_
  refine pz_iln (i := 3) rfl rfl ?_
  refine pz_ial (i := 4) rfl (ga_30 ..) (in_ofI hk) ?_
  rw [cl_ofI (a := k)]
  refine pz_ic (i := 5) rfl ?_
  refine pz_ii_ne (i := 6) rfl (fun c6 => ?_) (fun c6 => ?_)
  · refine pz_ic (i := 9) rfl ?_
    refine pz_isn (i := 10) rfl ⟨rfl, Nat.le_of_ble_eq_true rfl⟩ rfl ?_
    refine pz_iln (i := 11) rfl rfl ?_
    refine pz_aln (i := 12) rfl rfl ?_
    refine pz_get (i := 13) rfl (gf_1_5 ..) ?_
    refine pz_get (i := 14) rfl (gf_33_0 ..) ?_
    refine pz_iln (i := 15) rfl rfl ?_
    refine pz_ial (i := 16) rfl (ga_34 ..) (in_ofI hk) ?_
    rw [cl_ofI (a := k), ← h34]
    refine pz_ic (i := 17) rfl ?_
    refine pz_ii_ne (i := 18) rfl (fun c18 => ?_) (fun c18 => ?_)
    · refine pz_ic (i := 21) rfl ?_
      refine pz_ii_eq (i := 22) rfl (fun c22 => ?_) (fun c22 => ?_)
      · refine pz_iln (i := 25) rfl rfl ?_
        refine pz_if_eq (i := 26) rfl (fun c26 => ?_) (fun c26 => ?_)
        · refine pz_ic (i := 41) rfl ?_
          refine pz_go (i := 42) rfl ?_
          refine pz_ir (i := 44) rfl rfl rfl ?_
          exact hQ
        · by_cases hkn : ¬ av 19 k = 1
          · first | exact absurd rfl c26 | exact absurd c6 hkn | exact absurd c18 hkn
          have hka := Classical.not_not.mp hkn
          obtain ⟨e, he⟩ : ∃ e, m k = some e := by
            have h1 := hE.2.2 k hk
            cases he : m k with
            | none =>
              simp only [he] at h1
              rw [h1] at hka
              exact absurd hka (by decide)
            | some e => exact ⟨e, rfl⟩
          have h30 := (hE.1.2 k e he).2.2.2
          refine pz_aln (i := 27) rfl rfl ?_
          refine pz_get (i := 28) rfl (gf_1_0 ..) ?_
          refine pz_aln (i := 29) rfl rfl ?_
          refine pz_get (i := 30) rfl (gf_1_4 ..) ?_
          refine pz_get (i := 31) rfl (gf_29_2 ..) ?_
          refine pz_iln (i := 32) rfl rfl ?_
          refine pz_ial (i := 33) rfl (ga_32 ..) (in_ofI hk) ?_
          rw [cl_ofI (a := k), show av 21 k = nI e.2.2 from (eX_where hE hk he).2.2]
          refine pz_aln (i := 34) rfl rfl ?_
          refine pz_get (i := 35) rfl (gf_1_5 ..) ?_
          refine pz_get (i := 36) rfl (gf_33_2 ..) ?_
          refine pz_iln (i := 37) rfl rfl ?_
          refine pz_ial (i := 38) rfl (ga_36 ..) (in_ofI hk) ?_
          rw [cl_ofI (a := k), show av 24 k = nI e.2.2 from (eX_where hE4 hk he).2.2]
          refine pz_cI2 (i := 39) rfl (gc_2 ..) rfl (Nat.le_of_ble_eq_true rfl) rfl ?_
          refine sx_sameSelf hr' h30 ?_
          refine ⟨_, rfl, ?_⟩
          refine pz_if_eq (i := 40) rfl (fun c40 => ?_) (fun c40 => ?_)
          · exact absurd c40 (by decide)
          · refine pz_ic (i := 41) rfl ?_
            refine pz_go (i := 42) rfl ?_
            refine pz_ir (i := 44) rfl rfl rfl ?_
            exact hQ
      · first
          | exact absurd rfl c22
          | exact absurd c18 c6
          | exact absurd c6 c18
    · refine pz_ic (i := 19) rfl ?_
      refine pz_go (i := 20) rfl ?_
      refine pz_ii_eq (i := 22) rfl (fun c22 => ?_) (fun c22 => ?_)
      · refine pz_iln (i := 25) rfl rfl ?_
        refine pz_if_eq (i := 26) rfl (fun c26 => ?_) (fun c26 => ?_)
        · refine pz_ic (i := 41) rfl ?_
          refine pz_go (i := 42) rfl ?_
          refine pz_ir (i := 44) rfl rfl rfl ?_
          exact hQ
        · by_cases hkn : ¬ av 19 k = 1
          · first | exact absurd rfl c26 | exact absurd c6 hkn | exact absurd c18 hkn
          have hka := Classical.not_not.mp hkn
          obtain ⟨e, he⟩ : ∃ e, m k = some e := by
            have h1 := hE.2.2 k hk
            cases he : m k with
            | none =>
              simp only [he] at h1
              rw [h1] at hka
              exact absurd hka (by decide)
            | some e => exact ⟨e, rfl⟩
          have h30 := (hE.1.2 k e he).2.2.2
          refine pz_aln (i := 27) rfl rfl ?_
          refine pz_get (i := 28) rfl (gf_1_0 ..) ?_
          refine pz_aln (i := 29) rfl rfl ?_
          refine pz_get (i := 30) rfl (gf_1_4 ..) ?_
          refine pz_get (i := 31) rfl (gf_29_2 ..) ?_
          refine pz_iln (i := 32) rfl rfl ?_
          refine pz_ial (i := 33) rfl (ga_32 ..) (in_ofI hk) ?_
          rw [cl_ofI (a := k), show av 21 k = nI e.2.2 from (eX_where hE hk he).2.2]
          refine pz_aln (i := 34) rfl rfl ?_
          refine pz_get (i := 35) rfl (gf_1_5 ..) ?_
          refine pz_get (i := 36) rfl (gf_33_2 ..) ?_
          refine pz_iln (i := 37) rfl rfl ?_
          refine pz_ial (i := 38) rfl (ga_36 ..) (in_ofI hk) ?_
          rw [cl_ofI (a := k), show av 24 k = nI e.2.2 from (eX_where hE4 hk he).2.2]
          refine pz_cI2 (i := 39) rfl (gc_2 ..) rfl (Nat.le_of_ble_eq_true rfl) rfl ?_
          refine sx_sameSelf hr' h30 ?_
          refine ⟨_, rfl, ?_⟩
          refine pz_if_eq (i := 40) rfl (fun c40 => ?_) (fun c40 => ?_)
          · exact absurd c40 (by decide)
          · refine pz_ic (i := 41) rfl ?_
            refine pz_go (i := 42) rfl ?_
            refine pz_ir (i := 44) rfl rfl rfl ?_
            exact hQ
      · first
          | exact absurd rfl c22
          | exact absurd c18 c6
          | exact absurd c6 c18
  · refine pz_ic (i := 7) rfl ?_
    refine pz_go (i := 8) rfl ?_
    refine pz_isn (i := 10) rfl ⟨rfl, Nat.le_of_ble_eq_true rfl⟩ rfl ?_
    refine pz_iln (i := 11) rfl rfl ?_
    refine pz_aln (i := 12) rfl rfl ?_
    refine pz_get (i := 13) rfl (gf_1_5 ..) ?_
    refine pz_get (i := 14) rfl (gf_33_0 ..) ?_
    refine pz_iln (i := 15) rfl rfl ?_
    refine pz_ial (i := 16) rfl (ga_34 ..) (in_ofI hk) ?_
    rw [cl_ofI (a := k), ← h34]
    refine pz_ic (i := 17) rfl ?_
    refine pz_ii_ne (i := 18) rfl (fun c18 => ?_) (fun c18 => ?_)
    · refine pz_ic (i := 21) rfl ?_
      refine pz_ii_eq (i := 22) rfl (fun c22 => ?_) (fun c22 => ?_)
      · refine pz_iln (i := 25) rfl rfl ?_
        refine pz_if_eq (i := 26) rfl (fun c26 => ?_) (fun c26 => ?_)
        · refine pz_ic (i := 41) rfl ?_
          refine pz_go (i := 42) rfl ?_
          refine pz_ir (i := 44) rfl rfl rfl ?_
          exact hQ
        · by_cases hkn : ¬ av 19 k = 1
          · first | exact absurd rfl c26 | exact absurd c6 hkn | exact absurd c18 hkn
          have hka := Classical.not_not.mp hkn
          obtain ⟨e, he⟩ : ∃ e, m k = some e := by
            have h1 := hE.2.2 k hk
            cases he : m k with
            | none =>
              simp only [he] at h1
              rw [h1] at hka
              exact absurd hka (by decide)
            | some e => exact ⟨e, rfl⟩
          have h30 := (hE.1.2 k e he).2.2.2
          refine pz_aln (i := 27) rfl rfl ?_
          refine pz_get (i := 28) rfl (gf_1_0 ..) ?_
          refine pz_aln (i := 29) rfl rfl ?_
          refine pz_get (i := 30) rfl (gf_1_4 ..) ?_
          refine pz_get (i := 31) rfl (gf_29_2 ..) ?_
          refine pz_iln (i := 32) rfl rfl ?_
          refine pz_ial (i := 33) rfl (ga_32 ..) (in_ofI hk) ?_
          rw [cl_ofI (a := k), show av 21 k = nI e.2.2 from (eX_where hE hk he).2.2]
          refine pz_aln (i := 34) rfl rfl ?_
          refine pz_get (i := 35) rfl (gf_1_5 ..) ?_
          refine pz_get (i := 36) rfl (gf_33_2 ..) ?_
          refine pz_iln (i := 37) rfl rfl ?_
          refine pz_ial (i := 38) rfl (ga_36 ..) (in_ofI hk) ?_
          rw [cl_ofI (a := k), show av 24 k = nI e.2.2 from (eX_where hE4 hk he).2.2]
          refine pz_cI2 (i := 39) rfl (gc_2 ..) rfl (Nat.le_of_ble_eq_true rfl) rfl ?_
          refine sx_sameSelf hr' h30 ?_
          refine ⟨_, rfl, ?_⟩
          refine pz_if_eq (i := 40) rfl (fun c40 => ?_) (fun c40 => ?_)
          · exact absurd c40 (by decide)
          · refine pz_ic (i := 41) rfl ?_
            refine pz_go (i := 42) rfl ?_
            refine pz_ir (i := 44) rfl rfl rfl ?_
            exact hQ
      · first
          | exact absurd rfl c22
          | exact absurd c18 c6
          | exact absurd c6 c18
    · refine pz_ic (i := 19) rfl ?_
      refine pz_go (i := 20) rfl ?_
      refine pz_ii_eq (i := 22) rfl (fun c22 => ?_) (fun c22 => ?_)
      · refine pz_iln (i := 25) rfl rfl ?_
        refine pz_if_eq (i := 26) rfl (fun c26 => ?_) (fun c26 => ?_)
        · refine pz_ic (i := 41) rfl ?_
          refine pz_go (i := 42) rfl ?_
          refine pz_ir (i := 44) rfl rfl rfl ?_
          exact hQ
        · by_cases hkn : ¬ av 19 k = 1
          · first | exact absurd rfl c26 | exact absurd c6 hkn | exact absurd c18 hkn
          have hka := Classical.not_not.mp hkn
          obtain ⟨e, he⟩ : ∃ e, m k = some e := by
            have h1 := hE.2.2 k hk
            cases he : m k with
            | none =>
              simp only [he] at h1
              rw [h1] at hka
              exact absurd hka (by decide)
            | some e => exact ⟨e, rfl⟩
          have h30 := (hE.1.2 k e he).2.2.2
          refine pz_aln (i := 27) rfl rfl ?_
          refine pz_get (i := 28) rfl (gf_1_0 ..) ?_
          refine pz_aln (i := 29) rfl rfl ?_
          refine pz_get (i := 30) rfl (gf_1_4 ..) ?_
          refine pz_get (i := 31) rfl (gf_29_2 ..) ?_
          refine pz_iln (i := 32) rfl rfl ?_
          refine pz_ial (i := 33) rfl (ga_32 ..) (in_ofI hk) ?_
          rw [cl_ofI (a := k), show av 21 k = nI e.2.2 from (eX_where hE hk he).2.2]
          refine pz_aln (i := 34) rfl rfl ?_
          refine pz_get (i := 35) rfl (gf_1_5 ..) ?_
          refine pz_get (i := 36) rfl (gf_33_2 ..) ?_
          refine pz_iln (i := 37) rfl rfl ?_
          refine pz_ial (i := 38) rfl (ga_36 ..) (in_ofI hk) ?_
          rw [cl_ofI (a := k), show av 24 k = nI e.2.2 from (eX_where hE4 hk he).2.2]
          refine pz_cI2 (i := 39) rfl (gc_2 ..) rfl (Nat.le_of_ble_eq_true rfl) rfl ?_
          refine sx_sameSelf hr' h30 ?_
          refine ⟨_, rfl, ?_⟩
          refine pz_if_eq (i := 40) rfl (fun c40 => ?_) (fun c40 => ?_)
          · exact absurd c40 (by decide)
          · refine pz_ic (i := 41) rfl ?_
            refine pz_go (i := 42) rfl ?_
            refine pz_ir (i := 44) rfl rfl rfl ?_
            exact hQ
      · first
          | exact absurd rfl c22
          | exact absurd c18 c6
          | exact absurd c6 c18
set_option maxRecDepth 20000 in
theorem lp_chk (hr : 512 ≤ rm ∧ rm ≤ 4096) {V : vW} (hV : ∀ i, 1 ≤ i → i ≤ 7 → iv (10 + i) = nI (V.2.2 i)) (hb : V.2.2 5 < 2 ^ 30) (hE : eX 3 iv av (fun k => ent V.2.1 V.1 k)) (hE4 : eX 4 iv av (fun k => ent V.2.1 V.1 k)) (hR : ∀ k e, ent V.2.1 V.1 k = some e → e.1 = 1 → ∃ r, rcA rm (av 0) e.2.2 r e.2.1 ∧ rcOK r ∧ r.1 = 1 ∧ r.2.2.1 = k ∧ V.2.2 4 ≤ e.2.2 ∧ e.2.2 + rcZ r ≤ V.2.2 5) (hQ : Q (some (.int 1)) (wX rm iv av r)) : ∀ m k, k + m = 120 → pz Lx xs (d + 5) rt_78 (some .int) Q 42 [some (.ref 1), some (.int 1), some (.int (nI k))] [] (wX rm iv av r)
  | 0, k, hk => by
    obtain rfl : k = 120 := by omega
    refine pz_iln (i := 42) rfl rfl ?_
    refine pz_bi (i := 43) rfl ?_
    refine pz_ii_ge (i := 44) rfl (fun c44 => ?_) (fun c44 => ?_)
    · refine pz_iln (i := 61) rfl rfl ?_
      refine pz_if_eq (i := 62) rfl (fun c62 => ?_) (fun c62 => ?_)
      · exact absurd c62 (by decide)
      · refine pz_ic (i := 63) rfl ?_
        refine pz_go (i := 64) rfl ?_
        refine pz_ir (i := 66) rfl rfl rfl ?_
        exact hQ
    · exact absurd (Int32.le_refl _) c44
  | m + 1, k, hk => by
    have hk1 : k < 120 := by omega
    refine pz_iln (i := 42) rfl rfl ?_
    refine pz_bi (i := 43) rfl ?_
    refine pz_ii_ge (i := 44) rfl (fun c44 => ?_) (fun c44 => ?_)
    · exact absurd (le_ofI (a := 120) c44) (by omega)
    · refine pz_iln (i := 45) rfl rfl ?_
      refine pz_if_eq (i := 46) rfl (fun c46 => ?_) (fun c46 => ?_)
      · exact absurd c46 (by decide)
      · refine pz_aln (i := 47) rfl rfl ?_
        refine pz_iln (i := 48) rfl rfl ?_
        refine pz_cI1 (i := 49) rfl (gc_1 ..) rfl (Nat.le_of_ble_eq_true rfl) rfl ?_
        refine sx_hasIts hr hk1 hV hb hE (hR k) ?_
        refine ⟨_, rfl, ?_⟩
        refine pz_if_eq (i := 50) rfl (fun c50 => ?_) (fun c50 => ?_)
        · exact absurd c50 (by decide)
        · refine pz_aln (i := 51) rfl rfl ?_
          refine pz_iln (i := 52) rfl rfl ?_
          refine pz_cI1 (i := 53) rfl (gc_1 ..) rfl (Nat.le_of_ble_eq_true rfl) rfl ?_
          refine sx_isSame ⟨by omega, hr.2⟩ hk1 hE hE4 ?_
          refine ⟨_, rfl, ?_⟩
          refine pz_if_eq (i := 54) rfl (fun c54 => ?_) (fun c54 => ?_)
          · exact absurd c54 (by decide)
          · refine pz_ic (i := 55) rfl ?_
            refine pz_go (i := 56) rfl ?_
            refine pz_isn (i := 58) rfl ⟨rfl, Nat.le_of_ble_eq_true rfl⟩ rfl ?_
            refine pz_inc (i := 59) rfl rfl rfl rfl ?_
            rw [show nI k + 1 = nI (k + 1) from nI_add k 1]
            refine pz_go (i := 60) rfl ?_
            exact lp_chk hr hV hb hE hE4 hR hQ m (k + 1) (by omega)
set_option maxRecDepth 20000 in
theorem sx_checkF (hr : 512 ≤ rm ∧ rm ≤ 4096) {a : aS} (hx : xS rm iv av a) (hI : wB rm a) (hE : wE rm a) (hO : dwn a = false → ∃ all, rtI rm (cu rm a.1.1) a.1.2.1 ∧ lgI rm (cu rm a.1.1) a.1.2.1 all) (hQ : ∀ iv' av', xS rm iv' av' (aCheck a).2 → Q (some (.int (aCheck a).1)) (wX rm iv' av' r)) : rx_R Lx xs (d + 6) 78 [.ref 1] (wX rm iv av r) Q := by
  refine pz_en (t := rt_78) ⟨Nat.le_of_ble_eq_true rfl, rfl⟩ rfl rfl ?_
  unfold aCheck at hQ
  obtain ⟨hd, hz, hT, hG, hV⟩ := id hx
  have h5 : iv 5 = bB (dwn a) := hd.2.2.2.2.2.2.2.2.1
  have hr' : 0 < rm ∧ rm ≤ 4096 := ⟨by omega, hr.2⟩
  refine pz_aln (i := 0) rfl rfl ?_
  refine pz_get (i := 1) rfl (gf_1_0 ..) ?_
  refine pz_get (i := 2) rfl (gf_2_10 ..) ?_
  rw [h5]
  refine pz_if_eq (i := 3) rfl (fun c3 => ?_) (fun c3 => ?_)
  · have hl := bB_f c3
    have hal : a.1.1.2.2.2.2.2 = false := hl
    rw [if_neg (show ¬ dwn a = true by rw [hl]; decide)] at hQ
    have hVl := hV hl
    have hc0 : av 0 = cu rm a.1.1 := hd.1
    refine pz_aln (i := 6) rfl rfl ?_
    refine pz_get (i := 7) rfl (gf_1_1 ..) ?_
    refine pz_aln (i := 8) rfl rfl ?_
    refine pz_get (i := 9) rfl (gf_1_4 ..) ?_
    refine pz_cV1 (i := 10) rfl (gc_7 ..) rfl (Nat.le_of_ble_eq_true rfl) rfl ?_
    have hck := (hI hl [] (Nat.zero_le _) (fun x hx => (by cases hx))).1
    obtain ⟨all, hR, hL⟩ := hO hl
    refine sx_gatherAll hr' (v := 0) (e := 3) (by decide) (by decide) (by decide) hVl.1 (fun t ht => by rw [hc0]; exact hck.1 t ht) hVl.2.1 (fun iv1 av1 k1 f1 f2 => ?_)
    have hc1 : av1 0 = cu rm a.1.1 := (f2 0 (by decide)).trans hc0
    refine ⟨rfl, ?_⟩
    refine pz_aln (i := 11) rfl rfl ?_
    refine pz_get (i := 12) rfl (gf_1_3 ..) ?_
    refine pz_cI0 (i := 13) rfl (gc_23 ..) rfl (Nat.le_of_ble_eq_true rfl) rfl ?_
    refine sx_load hr (v := 1) (by decide) (W := a.1.2.1) (all := all) (by rw [hc1]; exact hR) (by rw [hc1]; exact hL) (fun iv2 av2 k2 f3 f4 => ?_)
    have hc2 : av2 0 = cu rm a.1.1 := (f4 0 (by decide)).trans hc1
    refine ⟨_, rfl, ?_⟩
    refine pz_pop (i := 14) rfl rfl ?_
    refine pz_aln (i := 15) rfl rfl ?_
    refine pz_get (i := 16) rfl (gf_1_3 ..) ?_
    refine pz_aln (i := 17) rfl rfl ?_
    refine pz_get (i := 18) rfl (gf_1_5 ..) ?_
    refine pz_cV1 (i := 19) rfl (gc_23 ..) rfl (Nat.le_of_ble_eq_true rfl) rfl ?_
    refine sx_gatherAll hr' (v := 1) (e := 4) (by decide) (by decide) (by decide) k2.1 (fun t ht => by rw [hc2]; exact hck.1 t ht) k2.2.1 (fun iv3 av3 k3 f5 f6 => ?_)
    have hc3 : av3 0 = cu rm a.1.1 := (f6 0 (by decide)).trans hc2
    have F1 : frI iv iv3 [20, 21, 22, 23, 24, 25, 26, 27, 32, 33, 34] := frI_tr (frI_tr f1 f3 (S := [20, 21, 22, 23, 24, 25, 26, 27, 32, 33, 34]) (by decide) (by decide)) f5 (by decide) (by decide)
    have F2 : frA av av3 [5, 16, 17, 18, 19, 20, 21, 22, 23, 24] := frA_tr (frA_tr f2 f4 (S := [5, 16, 17, 18, 19, 20, 21, 22, 23, 24]) (by decide) (by decide)) f6 (by decide) (by decide)
    have hV3 := vX_ext hVl F1 F2 (by decide) (by decide)
    have hE3 : eX 3 iv3 av3 (fun k => ent a.1.2.1.2.1 a.1.2.1.1 k) := eX_ext k1 ((f5 33 (by decide)).trans (f3 33 (by decide))) ((f6 19 (by decide)).trans (f4 19 (by decide))) ((f6 20 (by decide)).trans (f4 20 (by decide))) ((f6 21 (by decide)).trans (f4 21 (by decide)))
    have hb := hR.2.2.1
    have t4 := hL.2.2.2.2.1
    have t5 := hL.2.2.2.2.2.2.2.1
    refine ⟨rfl, ?_⟩
    refine pz_aln (i := 20) rfl rfl ?_
    refine pz_get (i := 21) rfl (gf_1_1 ..) ?_
    refine pz_get (i := 22) rfl (gf_7_5 ..) ?_
    rw [show iv3 12 = nI (a.1.2.1.2.2 2) from hV3.2.2 2 (by decide) (by decide)]
    refine pz_aln (i := 23) rfl rfl ?_
    refine pz_get (i := 24) rfl (gf_1_1 ..) ?_
    refine pz_get (i := 25) rfl (gf_7_7 ..) ?_
    rw [show iv3 14 = nI (a.1.2.1.2.2 4) from hV3.2.2 4 (by decide) (by decide)]
    refine pz_sub (i := 26) rfl ?_
    rw [pk_sub t4]
    refine pz_if_lt (i := 27) rfl (fun c27 => ?_) (fun c27 => ?_)
    · exact absurd c27 (nI_pos (by have := hb 2 (by decide) (by decide); omega))
    · refine pz_aln (i := 28) rfl rfl ?_
      refine pz_get (i := 29) rfl (gf_1_1 ..) ?_
      refine pz_get (i := 30) rfl (gf_7_8 ..) ?_
      rw [show iv3 15 = nI (a.1.2.1.2.2 5) from hV3.2.2 5 (by decide) (by decide)]
      refine pz_aln (i := 31) rfl rfl ?_
      refine pz_get (i := 32) rfl (gf_1_1 ..) ?_
      refine pz_get (i := 33) rfl (gf_7_5 ..) ?_
      rw [show iv3 12 = nI (a.1.2.1.2.2 2) from hV3.2.2 2 (by decide) (by decide)]
      refine pz_sub (i := 34) rfl ?_
      rw [pk_sub (by omega)]
      refine pz_if_lt (i := 35) rfl (fun c35 => ?_) (fun c35 => ?_)
      · exact absurd c35 (nI_pos (by have := hb 5 (by decide) (by decide); omega))
      · refine pz_ic (i := 36) rfl ?_
        refine pz_go (i := 37) rfl ?_
        refine pz_isn (i := 39) rfl ⟨rfl, Nat.le_of_ble_eq_true rfl⟩ rfl ?_
        refine pz_ic (i := 40) rfl ?_
        refine pz_isn (i := 41) rfl ⟨rfl, Nat.le_of_ble_eq_true rfl⟩ rfl ?_
        exact lp_chk hr hV3.2.2 (hb 5 (by decide) (by decide)) hE3 k3 (by rw [hc3]; exact hE hl) (hQ iv3 av3 ⟨dX_fr hd F1 F2 (by decide) (by decide), kz_ext hz F2 (by decide), tX_fr hT F1 F2 (by decide) (by decide), gX_fr hG F1 F2 (by decide) (by decide), fun _ => hV3⟩) 120 0 rfl
  · refine pz_bi (i := 4) rfl ?_
    refine pz_ir (i := 5) rfl rfl rfl ?_
    rw [if_pos (bB_t c3)] at hQ
    exact hQ iv av hx
end S84
