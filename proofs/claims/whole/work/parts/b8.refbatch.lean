/-! PART B8: the reference: wouldHave, writeBatch -/
/-- the batch of the reference -/
def bM (jv : Nat → Int32) (bv : Nat → Nat → Int32) (b : List bR) : Prop := jv 11 = nI b.length ∧ b.length ≤ 8 ∧ ∀ i x, b[i]? = some x → bOK x ∧ bv 11 i = nI x.1 ∧ bv 12 i = nI x.2.1 ∧ bv 13 i = nI x.2.2.length ∧ ∀ k, k < x.2.2.length → bv 14 (64 * i + k) = lB x.2.2 k
theorem bM_fr {jv jv' : Nat → Int32} {bv bv' : Nat → Nat → Int32} {b : List bR} {S A : List Nat} (h : bM jv bv b) (f1 : frI jv jv' S) (f2 : frA bv bv' A) (h1 : 11 ∉ S) (h2 : 11 ∉ A ∧ 12 ∉ A ∧ 13 ∉ A ∧ 14 ∉ A) : bM jv' bv' b := by
  refine ⟨(f1 11 h1).trans h.1, h.2.1, fun i x hx => ?_⟩
  rw [f2 11 h2.1, f2 12 h2.2.1, f2 13 h2.2.2.1, f2 14 h2.2.2.2]
  exact h.2.2 i x hx
theorem bM_get {jv : Nat → Int32} {bv : Nat → Nat → Int32} {b : List bR} (h : bM jv bv b) {i : Nat} (hi : i < b.length) : bK b i < 120 ∧ bv 12 i = nI (bK b i) := by
  have hx := List.getElem?_eq_getElem hi
  obtain ⟨g1, _, g3, _⟩ := h.2.2 i _ hx
  have e : bK b i = (b[i]).2.1 := by
    unfold bK
    rw [List.getD_eq_getElem?_getD, hx]
    rfl
  rw [e]
  exact ⟨g1.2.2.1, g3⟩
section SB8
variable {Lx : Nat} {xs : Nat → Int32} {d rm : Nat} {iv : Nat → Int32} {av : Nat → Nat → Int32} {jv : Nat → Int32} {bv : Nat → Nat → Int32} {Q : rQ}
set_option maxRecDepth 20000 in
theorem lq_wi {x1 : Int32} {b : List bR} {mem : mP} (hb : bM jv bv b) {i : Nat} (hi : i < b.length) (hQ : ∀ z : Int32, (z = 0 ↔ mem (bK b i) = none ∧ ∀ j, j < i → bK b j ≠ bK b i) → pz Lx xs d rt_122 (some .int) Q 43 [some (.ref 54), some (.int x1), some (.int (nI i)), some (.int z), some (.int (nI i))] [] (wX rm iv av (wM rm jv bv))) : ∀ (m j : Nat) (z : Int32), j + m = i → (z = 0 ↔ mem (bK b i) = none ∧ ∀ t, t < j → bK b t ≠ bK b i) → pz Lx xs d rt_122 (some .int) Q 23 [some (.ref 54), some (.int x1), some (.int (nI i)), some (.int z), some (.int (nI j))] [] (wX rm iv av (wM rm jv bv))
  | 0, j, z, hj, hz => by
    have h8 := hb.2.1
    obtain rfl : j = i := by omega
    refine pz_il (i := 23) rfl rfl ?_
    refine pz_iln (i := 24) rfl rfl ?_
    refine pz_ii_ge (i := 25) rfl (fun c25 => ?_) (fun c25 => ?_)
    · exact hQ z hz
    · exact absurd (Int32.le_refl _) c25
  | m + 1, j, z, hj, hz => by
    have h8 := hb.2.1
    have hj1 : j < b.length := by omega
    obtain ⟨g1, g2⟩ := bM_get hb hj1
    obtain ⟨e1, e2⟩ := bM_get hb hi
    refine pz_il (i := 23) rfl rfl ?_
    refine pz_iln (i := 24) rfl rfl ?_
    refine pz_ii_ge (i := 25) rfl (fun c25 => ?_) (fun c25 => ?_)
    · exact absurd (le_ofI c25) (by omega)
    · refine pz_iln (i := 26) rfl rfl ?_
      refine pz_if_ne (i := 27) rfl (fun c27 => ?_) (fun c27 => ?_)
      · refine pz_ic (i := 37) rfl ?_
        refine pz_go (i := 38) rfl ?_
        refine pz_isn (i := 40) rfl ⟨rfl, Nat.le_of_ble_eq_true rfl⟩ rfl ?_
        refine pz_inc (i := 41) rfl rfl rfl rfl ?_
        rw [show nI j + 1 = nI (j + 1) from nI_add j 1]
        refine pz_go (i := 42) rfl ?_
        refine lq_wi hb hi hQ m (j + 1) _ (by omega) ?_
        first
          | (have e := eq_ofI c36
             exact ⟨fun w => absurd w (by decide), fun w => absurd e (w.2 j (by omega))⟩)
          | (have e := ne_ofI c36
             have e0 := hz.mp c27
             refine ⟨fun _ => ⟨e0.1, fun t ht => ?_⟩, fun _ => rfl⟩
             by_cases et : t = j
             · rw [et]
               exact e
             · exact e0.2 t (by omega))
          | exact ⟨fun w => absurd w (by decide), fun w => absurd (hz.mpr ⟨w.1, fun t ht => w.2 t (by omega)⟩) c27⟩
      · refine pz_aln (i := 28) rfl rfl ?_
        refine pz_get (i := 29) rfl (gf_54_25 ..) ?_
        refine pz_il (i := 30) rfl rfl ?_
        refine pz_ial (i := 31) rfl (ga_67 ..) (in_ofI (by omega)) ?_
        rw [cl_ofI (a := j), g2]
        refine pz_aln (i := 32) rfl rfl ?_
        refine pz_get (i := 33) rfl (gf_54_25 ..) ?_
        refine pz_iln (i := 34) rfl rfl ?_
        refine pz_ial (i := 35) rfl (ga_67 ..) (in_ofI (by omega)) ?_
        rw [cl_ofI (a := i), e2]
        refine pz_ii_ne (i := 36) rfl (fun c36 => ?_) (fun c36 => ?_)
        · refine pz_ic (i := 39) rfl ?_
          refine pz_isn (i := 40) rfl ⟨rfl, Nat.le_of_ble_eq_true rfl⟩ rfl ?_
          refine pz_inc (i := 41) rfl rfl rfl rfl ?_
          rw [show nI j + 1 = nI (j + 1) from nI_add j 1]
          refine pz_go (i := 42) rfl ?_
          refine lq_wi hb hi hQ m (j + 1) _ (by omega) ?_
          first
            | (have e := eq_ofI c36
               exact ⟨fun w => absurd w (by decide), fun w => absurd e (w.2 j (by omega))⟩)
            | (have e := ne_ofI c36
               have e0 := hz.mp c27
               refine ⟨fun _ => ⟨e0.1, fun t ht => ?_⟩, fun _ => rfl⟩
               by_cases et : t = j
               · rw [et]
                 exact e
               · exact e0.2 t (by omega))
            | exact ⟨fun w => absurd w (by decide), fun w => absurd (hz.mpr ⟨w.1, fun t ht => w.2 t (by omega)⟩) c27⟩
        · refine pz_ic (i := 37) rfl ?_
          refine pz_go (i := 38) rfl ?_
          refine pz_isn (i := 40) rfl ⟨rfl, Nat.le_of_ble_eq_true rfl⟩ rfl ?_
          refine pz_inc (i := 41) rfl rfl rfl rfl ?_
          rw [show nI j + 1 = nI (j + 1) from nI_add j 1]
          refine pz_go (i := 42) rfl ?_
          refine lq_wi hb hi hQ m (j + 1) _ (by omega) ?_
          first
            | (have e := eq_ofI c36
               exact ⟨fun w => absurd w (by decide), fun w => absurd e (w.2 j (by omega))⟩)
            | (have e := ne_ofI c36
               have e0 := hz.mp c27
               refine ⟨fun _ => ⟨e0.1, fun t ht => ?_⟩, fun _ => rfl⟩
               by_cases et : t = j
               · rw [et]
                 exact e
               · exact e0.2 t (by omega))
            | exact ⟨fun w => absurd w (by decide), fun w => absurd (hz.mpr ⟨w.1, fun t ht => w.2 t (by omega)⟩) c27⟩
theorem cWN_le (mem : mP) (ks : Nat → Nat) : ∀ i, cWN mem ks i ≤ i
  | 0 => Nat.le_refl _
  | i + 1 => by
    have := cWN_le mem ks i
    show cWN mem ks i + (if _ then 0 else if _ then 1 else 0) ≤ _
    split
    · omega
    · split <;> omega
set_option maxRecDepth 20000 in
theorem lq_wo {b : List bR} {mem : mP} {kl : Nat} (hkl : kl ≤ 120) (hb : bM jv bv b) (hm : eM jv bv mem) (hQ : Q (some (.int (nI (kl + cWN mem (bK b) b.length)))) (wX rm iv av (wM rm jv bv))) : ∀ (m i : Nat) (x3 x4 : Option Value), i + m = b.length → pz Lx xs d rt_122 (some .int) Q 5 [some (.ref 54), some (.int (nI (kl + cWN mem (bK b) i))), some (.int (nI i)), x3, x4] [] (wX rm iv av (wM rm jv bv))
  | 0, i, x3, x4, hi => by
    have h8 := hb.2.1
    obtain rfl : i = b.length := by omega
    refine pz_iln (i := 5) rfl rfl ?_
    refine pz_aln (i := 6) rfl rfl ?_
    refine pz_get (i := 7) rfl (gf_54_23 ..) ?_
    rw [hb.1]
    refine pz_ii_ge (i := 8) rfl (fun c8 => ?_) (fun c8 => ?_)
    · refine pz_iln (i := 53) rfl rfl ?_
      refine pz_ir (i := 54) rfl rfl rfl ?_
      exact hQ
    · exact absurd (Int32.le_refl _) c8
  | m + 1, i, x3, x4, hi => by
    have h8 := hb.2.1
    have hi1 : i < b.length := by omega
    obtain ⟨g1, g2⟩ := bM_get hb hi1
    have hcw := cWN_le mem (bK b) i
    have h0 := eM_0 hm g1
    have k43 : ∀ z : Int32, (z = 0 ↔ mem (bK b i) = none ∧ ∀ j, j < i → bK b j ≠ bK b i) → pz Lx xs d rt_122 (some .int) Q 43 [some (.ref 54), some (.int (nI (kl + cWN mem (bK b) i))), some (.int (nI i)), some (.int z), some (.int (nI i))] [] (wX rm iv av (wM rm jv bv)) := by
      intro z hz
      have hs1 : z = 0 → cWN mem (bK b) (i + 1) = cWN mem (bK b) i + 1 := fun w => by
        obtain ⟨w1, w2⟩ := hz.mp w
        show cWN mem (bK b) i + _ = _
        rw [w1, if_neg (by decide), if_pos (List.all_eq_true.mpr (fun j hj => decide_eq_true (w2 j (List.mem_range.mp hj))))]
      have hs0 : ¬ z = 0 → cWN mem (bK b) (i + 1) = cWN mem (bK b) i + 0 := fun w => by
        show cWN mem (bK b) i + _ = _
        congr 1
        by_cases hm1 : (mem (bK b i)).isSome = true
        · rw [if_pos hm1]
        · rw [if_neg hm1, if_neg (fun hall => w (hz.mpr ⟨Option.not_isSome_iff_eq_none.mp hm1, fun j hj => of_decide_eq_true (List.all_eq_true.mp hall j (List.mem_range.mpr hj))⟩))]
      refine pz_iln (i := 43) rfl rfl ?_
      refine pz_iln (i := 44) rfl rfl ?_
      refine pz_if_eq (i := 45) rfl (fun c45 => ?_) (fun c45 => ?_)
      · refine pz_ic (i := 48) rfl ?_
        refine pz_add (i := 49) rfl ?_
        first
          | rw [show nI (kl + cWN mem (bK b) i) + 1 = nI (kl + cWN mem (bK b) i + 1) from nI_add _ 1]
          | rw [show nI (kl + cWN mem (bK b) i) + 0 = nI (kl + cWN mem (bK b) i + 0) from nI_add _ 0]
        refine pz_isn (i := 50) rfl ⟨rfl, Nat.le_of_ble_eq_true rfl⟩ rfl ?_
        refine pz_inc (i := 51) rfl rfl rfl rfl ?_
        rw [show nI i + 1 = nI (i + 1) from nI_add i 1]
        refine pz_go (i := 52) rfl ?_
        have h := lq_wo hkl hb hm hQ m (i + 1) (some (.int z)) (some (.int (nI i))) (by omega)
        first
          | (rw [hs1 c45, ← Nat.add_assoc] at h
             exact h)
          | (rw [hs0 c45, ← Nat.add_assoc] at h
             exact h)
      · refine pz_ic (i := 46) rfl ?_
        refine pz_go (i := 47) rfl ?_
        refine pz_add (i := 49) rfl ?_
        first
          | rw [show nI (kl + cWN mem (bK b) i) + 1 = nI (kl + cWN mem (bK b) i + 1) from nI_add _ 1]
          | rw [show nI (kl + cWN mem (bK b) i) + 0 = nI (kl + cWN mem (bK b) i + 0) from nI_add _ 0]
        refine pz_isn (i := 50) rfl ⟨rfl, Nat.le_of_ble_eq_true rfl⟩ rfl ?_
        refine pz_inc (i := 51) rfl rfl rfl rfl ?_
        rw [show nI i + 1 = nI (i + 1) from nI_add i 1]
        refine pz_go (i := 52) rfl ?_
        have h := lq_wo hkl hb hm hQ m (i + 1) (some (.int z)) (some (.int (nI i))) (by omega)
        first
          | (rw [hs1 c45, ← Nat.add_assoc] at h
             exact h)
          | (rw [hs0 c45, ← Nat.add_assoc] at h
             exact h)
    refine pz_iln (i := 5) rfl rfl ?_
    refine pz_aln (i := 6) rfl rfl ?_
    refine pz_get (i := 7) rfl (gf_54_23 ..) ?_
    rw [hb.1]
    refine pz_ii_ge (i := 8) rfl (fun c8 => ?_) (fun c8 => ?_)
    · exact absurd (le_ofI c8) (by omega)
    · refine pz_aln (i := 9) rfl rfl ?_
      refine pz_get (i := 10) rfl (gf_54_38 ..) ?_
      refine pz_aln (i := 11) rfl rfl ?_
      refine pz_get (i := 12) rfl (gf_54_25 ..) ?_
      refine pz_iln (i := 13) rfl rfl ?_
      refine pz_ial (i := 14) rfl (ga_67 ..) (in_ofI (by omega)) ?_
      rw [cl_ofI (a := i), g2]
      refine pz_ial (i := 15) rfl (ga_72 ..) (in_ofI g1) ?_
      rw [cl_ofI (a := bK b i) (by omega)]
      refine pz_if_le (i := 16) rfl (fun c16 => ?_) (fun c16 => ?_)
      · refine pz_ic (i := 19) rfl ?_
        refine pz_isn (i := 20) rfl ⟨rfl, Nat.le_of_ble_eq_true rfl⟩ rfl ?_
        refine pz_ic (i := 21) rfl ?_
        refine pz_is (i := 22) rfl ⟨rfl, Nat.le_of_ble_eq_true rfl⟩ rfl ?_
        refine lq_wi hb hi1 k43 i 0 _ (Nat.zero_add _) ?_
        first
          | (have hnn : mem (bK b i) = none := Option.not_isSome_iff_eq_none.mp (fun w => Int32.not_le.mpr (h0.mpr w) c16)
             exact ⟨fun _ => ⟨hnn, fun t ht => absurd ht (Nat.not_lt_zero t)⟩, fun _ => rfl⟩)
          | (have hsm := h0.mp (Int32.not_le.mp c16)
             exact ⟨fun w => absurd w (by decide), fun w => by rw [w.1] at hsm; cases hsm⟩)
      · refine pz_ic (i := 17) rfl ?_
        refine pz_go (i := 18) rfl ?_
        refine pz_isn (i := 20) rfl ⟨rfl, Nat.le_of_ble_eq_true rfl⟩ rfl ?_
        refine pz_ic (i := 21) rfl ?_
        refine pz_is (i := 22) rfl ⟨rfl, Nat.le_of_ble_eq_true rfl⟩ rfl ?_
        refine lq_wi hb hi1 k43 i 0 _ (Nat.zero_add _) ?_
        first
          | (have hnn : mem (bK b i) = none := Option.not_isSome_iff_eq_none.mp (fun w => Int32.not_le.mpr (h0.mpr w) c16)
             exact ⟨fun _ => ⟨hnn, fun t ht => absurd ht (Nat.not_lt_zero t)⟩, fun _ => rfl⟩)
          | (have hsm := h0.mp (Int32.not_le.mp c16)
             exact ⟨fun w => absurd w (by decide), fun w => by rw [w.1] at hsm; cases hsm⟩)
set_option maxRecDepth 20000 in
theorem sm_wouldHave {b : List bR} {V : vW} (hb : bM jv bv b) (hm : eM jv bv V.2.1) (hQ : Q (some (.int (nI (wh V b)))) (wX rm iv av (wM rm jv bv))) : rx_R Lx xs (d + 1) 122 [.ref 54] (wX rm iv av (wM rm jv bv)) Q := by
  refine pz_en (t := rt_122) ⟨Nat.le_of_ble_eq_true rfl, rfl⟩ rfl rfl ?_
  have hkl := kS_len V.2.1
  refine pz_aln (i := 0) rfl rfl ?_
  refine pz_get (i := 1) rfl (gf_54_41 ..) ?_
  rw [hm.2.1]
  refine pz_isn (i := 2) rfl ⟨rfl, Nat.le_of_ble_eq_true rfl⟩ rfl ?_
  refine pz_ic (i := 3) rfl ?_
  refine pz_isn (i := 4) rfl ⟨rfl, Nat.le_of_ble_eq_true rfl⟩ rfl ?_
  exact lq_wo hkl hb hm hQ b.length 0 none none (Nat.zero_add _)
theorem bZ_take {b : List bR} {i : Nat} {x : bR} (h : b[i]? = some x) : bZ (b.take (i + 1)) = bZ (b.take i) + (12 + x.2.2.length) := by
  rw [List.take_add_one, h]
  unfold bZ
  rw [List.map_append, List.sum_append]
  rfl
theorem bM_Z {jv : Nat → Int32} {bv : Nat → Nat → Int32} {b : List bR} (h : bM jv bv b) : ∀ k, bZ (b.take k) ≤ 608 := fun k => by
  have h1 := bZ_le (b := b.take k) (fun x hx => by
    obtain ⟨i, hi⟩ := List.mem_iff_getElem?.mp (List.mem_of_mem_take hx)
    exact (h.2.2 i x hi).1.2.2.2.1)
  have h2 : (b.take k).length ≤ b.length := by rw [List.length_take]; omega
  have := h.2.1
  omega
set_option maxRecDepth 20000 in
theorem lq_ws {b : List bR} (hb : bM jv bv b) (hQ : pz Lx xs d rt_123 (some .int) Q 25 [some (.ref 54), some (.int (nI (bZ b))), some (.int (nI b.length)), none, none, none, none] [] (wX rm iv av (wM rm jv bv))) : ∀ (m i : Nat), i + m = b.length → pz Lx xs d rt_123 (some .int) Q 10 [some (.ref 54), some (.int (nI (bZ (b.take i)))), some (.int (nI i)), none, none, none, none] [] (wX rm iv av (wM rm jv bv))
  | 0, i, hi => by
    have h8 := hb.2.1
    obtain rfl : i = b.length := by omega
    rw [List.take_length]
    refine pz_iln (i := 10) rfl rfl ?_
    refine pz_aln (i := 11) rfl rfl ?_
    refine pz_get (i := 12) rfl (gf_54_23 ..) ?_
    rw [hb.1]
    refine pz_ii_ge (i := 13) rfl (fun c13 => ?_) (fun c13 => ?_)
    · exact hQ
    · exact absurd (Int32.le_refl _) c13
  | m + 1, i, hi => by
    have h8 := hb.2.1
    have hi1 : i < b.length := by omega
    have hx := List.getElem?_eq_getElem hi1
    obtain ⟨g1, _, _, g4, _⟩ := hb.2.2 i _ hx
    have hbz := bM_Z hb i
    refine pz_iln (i := 10) rfl rfl ?_
    refine pz_aln (i := 11) rfl rfl ?_
    refine pz_get (i := 12) rfl (gf_54_23 ..) ?_
    rw [hb.1]
    refine pz_ii_ge (i := 13) rfl (fun c13 => ?_) (fun c13 => ?_)
    · exact absurd (le_ofI c13) (by omega)
    · refine pz_iln (i := 14) rfl rfl ?_
      refine pz_bi (i := 15) rfl ?_
      refine pz_aln (i := 16) rfl rfl ?_
      refine pz_get (i := 17) rfl (gf_54_26 ..) ?_
      refine pz_iln (i := 18) rfl rfl ?_
      refine pz_ial (i := 19) rfl (ga_68 ..) (in_ofI (by omega)) ?_
      rw [cl_ofI (a := i), g4]
      refine pz_add (i := 20) rfl ?_
      rw [show (12 : Int32) + nI (b[i]).2.2.length = nI (12 + (b[i]).2.2.length) from nI_add 12 _]
      refine pz_add (i := 21) rfl ?_
      rw [nI_add, ← bZ_take hx]
      refine pz_isn (i := 22) rfl ⟨rfl, Nat.le_of_ble_eq_true rfl⟩ rfl ?_
      refine pz_inc (i := 23) rfl rfl rfl rfl ?_
      rw [show nI i + 1 = nI (i + 1) from nI_add i 1]
      refine pz_go (i := 24) rfl ?_
      exact lq_ws hb hQ m (i + 1) (by omega)
set_option maxRecDepth 20000 in
theorem lq_wv {x1 x2 x3 x4 : Int32} {i : Nat} {val : List Nat} (hi : i < 8) (hlen : val.length ≤ 64) {bv0 : Nat → Nat → Int32} (h13 : bv0 13 i = nI val.length) (h14 : ∀ k, k < val.length → bv0 14 (64 * i + k) = lB val k) (hQ : ∀ bv', frA bv0 bv' [24] → (∀ k, k < val.length → bv' 24 k = lB val k) → pz Lx xs d rt_123 (some .int) Q 101 [some (.ref 54), some (.int x1), some (.int x2), some (.int x3), some (.int x4), some (.int (nI i)), some (.int (nI val.length))] [] (wX rm iv av (wM rm jv bv'))) : ∀ (m k : Nat) (bv : Nat → Nat → Int32), k + m = val.length → frA bv0 bv [24] → (∀ j, j < k → bv 24 j = lB val j) → pz Lx xs d rt_123 (some .int) Q 81 [some (.ref 54), some (.int x1), some (.int x2), some (.int x3), some (.int x4), some (.int (nI i)), some (.int (nI k))] [] (wX rm iv av (wM rm jv bv))
  | 0, k, bv, hk, f, h1 => by
    obtain rfl : k = val.length := by omega
    refine pz_il (i := 81) rfl rfl ?_
    refine pz_aln (i := 82) rfl rfl ?_
    refine pz_get (i := 83) rfl (gf_54_26 ..) ?_
    refine pz_il (i := 84) rfl rfl ?_
    refine pz_ial (i := 85) rfl (ga_68 ..) (in_ofI hi) ?_
    rw [cl_ofI (a := i), f 13 (by decide), h13]
    refine pz_ii_ge (i := 86) rfl (fun c86 => ?_) (fun c86 => ?_)
    · exact hQ bv f h1
    · exact absurd (Int32.le_refl _) c86
  | m + 1, k, bv, hk, f, h1 => by
    have hk1 : k < val.length := by omega
    refine pz_il (i := 81) rfl rfl ?_
    refine pz_aln (i := 82) rfl rfl ?_
    refine pz_get (i := 83) rfl (gf_54_26 ..) ?_
    refine pz_il (i := 84) rfl rfl ?_
    refine pz_ial (i := 85) rfl (ga_68 ..) (in_ofI hi) ?_
    rw [cl_ofI (a := i), f 13 (by decide), h13]
    refine pz_ii_ge (i := 86) rfl (fun c86 => ?_) (fun c86 => ?_)
    · exact absurd (le_ofI c86) (by omega)
    · refine pz_aln (i := 87) rfl rfl ?_
      refine pz_get (i := 88) rfl (gf_54_50 ..) ?_
      refine pz_il (i := 89) rfl rfl ?_
      refine pz_aln (i := 90) rfl rfl ?_
      refine pz_get (i := 91) rfl (gf_54_27 ..) ?_
      refine pz_bi (i := 92) rfl ?_
      refine pz_il (i := 93) rfl rfl ?_
      refine pz_mul (i := 94) rfl ?_
      rw [show (64 : Int32) * nI i = nI (64 * i) from pk_mul 64 i]
      refine pz_il (i := 95) rfl rfl ?_
      refine pz_add (i := 96) rfl ?_
      rw [nI_add]
      refine pz_bal (i := 97) rfl (ga_69 ..) rfl (in_ofI (by omega)) ?_
      rw [cl_ofI (a := 64 * i + k), f 14 (by decide), h14 k hk1]
      refine pz_bas (i := 98) rfl (ga_79 ..) rfl (in_ofI (by omega)) (pa_79 ..) ?_
      rw [cl_ofI (a := k)]
      refine pz_inc (i := 99) rfl rfl rfl rfl ?_
      rw [show nI k + 1 = nI (k + 1) from nI_add k 1]
      refine pz_go (i := 100) rfl ?_
      refine lq_wv hi hlen h13 h14 hQ m (k + 1) _ (by omega) (frA_tr f (frA_up (frA_rfl _ [24]) (by decide)) (by decide) (by decide)) (fun j hj => ?_)
      rw [ua_s]
      by_cases e : j = k
      · subst e
        rw [ui_s]
        exact lB_bt val j
      · rw [ui_n e]
        exact h1 j (by omega)
set_option maxRecDepth 20000 in
theorem lq_w1 (hr : 512 ≤ rm ∧ rm ≤ 4096) {b : List bR} {x1 x3 x4 : Int32} {jv0 : Nat → Int32} {bv0 : Nat → Nat → Int32} (hb : bM jv0 bv0 b) : ∀ (l : List bR) (i : Nat) (s : dS) (V : vW) (jv : Nat → Int32) (bv : Nat → Nat → Int32) (x6 : Option Value), b.drop i = l → i ≤ b.length → dM rm jv bv s → s.2.2.2.2.2 = false → frI jv0 jv [0, 1, 2, 12, 16] → frA bv0 bv [2, 4, 5, 6, 7, 8, 23, 24] → jv 12 = nI (V.2.2 5) → jv 16 = nI (V.2.2 6) → cp s (3 * l.length) (szW l) → V.2.2 5 + 76 * l.length < 2 ^ 30 - 200 ∧ V.2.2 6 + l.length < 2 ^ 30 - 200 → (∀ jv' bv' x6, dM rm jv' bv' (aaS rm l s V) → (aaS rm l s V).2.2.2.2.2 = false → frI jv0 jv' [0, 1, 2, 12, 16] → frA bv0 bv' [2, 4, 5, 6, 7, 8, 23, 24] → jv' 12 = nI ((aaV l V).2.2 5) → jv' 16 = nI ((aaV l V).2.2 6) → pz Lx xs (d + 5) rt_123 (some .int) Q 129 [some (.ref 54), some (.int x1), some (.int (nI b.length)), some (.int x3), some (.int x4), some (.int (nI b.length)), x6] [] (wX rm iv av (wM rm jv' bv'))) → (∀ jv' bv', (aaS rm l s V).2.2.2.2.2 = true → ddM rm jv0 bv0 jv' bv' (aaS rm l s V) → Q (some (.int (-2))) (wX rm iv av (wM rm jv' bv'))) → pz Lx xs (d + 5) rt_123 (some .int) Q 76 [some (.ref 54), some (.int x1), some (.int (nI b.length)), some (.int x3), some (.int x4), some (.int (nI i)), x6] [] (wX rm iv av (wM rm jv bv)) := by
  have h8 := hb.2.1
  intro l
  induction l with
  | nil =>
    intro i s V jv bv x6 hdr hil hd hdn f1 f2 h12 h16 hc hbd hQ1 hQ2
    have hi : i = b.length := by
      have := congrArg List.length hdr
      rw [List.length_drop] at this
      simp only [List.length_nil] at this
      omega
    subst hi
    refine pz_il (i := 76) rfl rfl ?_
    refine pz_iln (i := 77) rfl rfl ?_
    refine pz_ii_ge (i := 78) rfl (fun c78 => ?_) (fun c78 => ?_)
    · exact hQ1 jv bv x6 hd hdn f1 f2 h12 h16
    · exact absurd (Int32.le_refl _) c78
  | cons x l ih =>
    intro i s V jv bv x6 hdr hil hd hdn f1 f2 h12 h16 hc hbd hQ1 hQ2
    have hlt : i < b.length := by
      have := congrArg List.length hdr
      rw [List.length_drop] at this
      simp only [List.length_cons] at this
      omega
    have hll : l.length = b.length - i - 1 := by
      have := congrArg List.length hdr
      rw [List.length_drop] at this
      simp only [List.length_cons] at this
      omega
    have hx : b[i]? = some x := by
      have : (b.drop i)[0]? = some x := by rw [hdr]; rfl
      rw [List.getElem?_drop, Nat.add_zero] at this
      exact this
    have hdr' : b.drop (i + 1) = l := by
      rw [← List.tail_drop, hdr]
      rfl
    obtain ⟨g1, g2, g3, g4, g5⟩ := hb.2.2 i x hx
    have hlen := g1.2.2.2.1
    have hk3 := g1.2.1
    have hkey := g1.2.2.1
    have e11 : bv 11 i = nI x.1 := by rw [f2 11 (by decide)]; exact g2
    have e12 : bv 12 i = nI x.2.1 := by rw [f2 12 (by decide)]; exact g3
    have e13 : bv 13 i = nI x.2.2.length := by rw [f2 13 (by decide)]; exact g4
    have e14 : ∀ k, k < x.2.2.length → bv 14 (64 * i + k) = lB x.2.2 k := fun k hk => by rw [f2 14 (by decide)]; exact g5 k hk
    have hsz : szW (x :: l) = 24 + x.2.2.length + szW l := by
      unfold szW
      rw [List.map_cons, List.sum_cons]
    have hl1 : (x :: l).length = l.length + 1 := rfl
    have eA : aaS rm (x :: l) s V = aaS rm l (apS rm s (x.1 + gO l) x.2.1 x.2.2 (V.2.2 5) (V.2.2 6)) (apV V x.1 x.2.1 x.2.2.length) := rfl
    have eV : aaV (x :: l) V = aaV l (apV V x.1 x.2.1 x.2.2.length) := rfl
    rw [eA] at hQ1 hQ2
    rw [eV] at hQ1
    have hgO : gO l = 0 ∨ gO l = 128 := by
      unfold gO
      split
      · exact Or.inl rfl
      · exact Or.inr rfl
    refine pz_il (i := 76) rfl rfl ?_
    refine pz_iln (i := 77) rfl rfl ?_
    refine pz_ii_ge (i := 78) rfl (fun c78 => ?_) (fun c78 => ?_)
    · exact absurd (le_ofI c78) (by omega)
    · refine pz_ic (i := 79) rfl ?_
      refine pz_is (i := 80) rfl ⟨rfl, Nat.le_of_ble_eq_true rfl⟩ rfl ?_
      refine lq_wv (val := x.2.2) (by omega) hlen e13 e14 (fun bv2 a2 v2 => ?_) x.2.2.length 0 bv (Nat.zero_add _) (frA_rfl _ _) (fun j hj => absurd hj (Nat.not_lt_zero j))
      have hd2 := dM_fr hd (frI_rfl jv []) a2 (by decide) (by decide)
      have k114 : pz Lx xs (d + 5) rt_123 (some .int) Q 115 [some (.ref 54), some (.int x1), some (.int (nI b.length)), some (.int x3), some (.int x4), some (.int (nI i)), some (.int (nI x.2.2.length))] [.int (nI (x.1 + gO l)), .ref 54] (wX rm iv av (wM rm jv bv2)) := by
        refine pz_aln (i := 115) rfl rfl ?_
        refine pz_get (i := 116) rfl (gf_54_25 ..) ?_
        refine pz_il (i := 117) rfl rfl ?_
        refine pz_ial (i := 118) rfl (ga_67 ..) (in_ofI (by omega)) ?_
        rw [cl_ofI (a := i), a2 12 (by decide), e12]
        refine pz_aln (i := 119) rfl rfl ?_
        refine pz_get (i := 120) rfl (gf_54_26 ..) ?_
        refine pz_il (i := 121) rfl rfl ?_
        refine pz_ial (i := 122) rfl (ga_68 ..) (in_ofI (by omega)) ?_
        rw [cl_ofI (a := i), a2 13 (by decide), e13]
        refine pz_cI3 (i := 123) rfl (gc_54 ..) rfl (Nat.le_of_ble_eq_true rfl) rfl ?_
        refine sm_append hr (by omega) (by omega) hlen v2 hd2 hdn (cp_le hc (by omega) (by omega)) h12 h16 ⟨by omega, by omega⟩ (fun jv3 bv3 z o3 hz1 hz0 => ?_)
        refine ⟨_, rfl, ?_⟩
        refine pz_if_ne (i := 124) rfl (fun c124 => ?_) (fun c124 => ?_)
        · have hda : (apS rm s (x.1 + gO l) x.2.1 x.2.2 (V.2.2 5) (V.2.2 6)).2.2.2.2.2 = false := by
            cases hs : (apS rm s (x.1 + gO l) x.2.1 x.2.2 (V.2.2 5) (V.2.2 6)).2.2.2.2.2 with
            | false => rfl
            | true => exact absurd (hz0 hs) c124
          obtain ⟨q1, q2, q3⟩ := o3.1 hda
          obtain ⟨_, j12, j16⟩ := hz1 hda
          refine pz_inc (i := 127) rfl rfl rfl rfl ?_
          rw [show nI i + 1 = nI (i + 1) from nI_add i 1]
          refine pz_go (i := 128) rfl ?_
          refine ih (i + 1) (apS rm s (x.1 + gO l) x.2.1 x.2.2 (V.2.2 5) (V.2.2 6)) (apV V x.1 x.2.1 x.2.2.length) jv3 bv3 _ hdr' (by omega) q1 hda (frI_tr f1 q2 (by decide) (by decide)) (frA_tr (frA_tr f2 a2 (S := [2, 4, 5, 6, 7, 8, 23, 24]) (by decide) (by decide)) q3 (by decide) (by decide)) j12 j16 (cp_apS (cp_le hc (by omega) (by omega))) ⟨?_, ?_⟩ hQ1 hQ2
          · show V.2.2 5 + 12 + x.2.2.length + 76 * l.length < _
            omega
          · show V.2.2 6 + 1 + l.length < _
            omega
        · refine pz_bi (i := 125) rfl ?_
          refine pz_ir (i := 126) rfl rfl rfl ?_
          have hdd : (apS rm s (x.1 + gO l) x.2.1 x.2.2 (V.2.2 5) (V.2.2 6)).2.2.2.2.2 = true := by
            cases hs : (apS rm s (x.1 + gO l) x.2.1 x.2.2 (V.2.2 5) (V.2.2 6)).2.2.2.2.2 with
            | true => rfl
            | false =>
              rw [(hz1 hs).1] at c124
              exact absurd c124 (by decide)
          rw [aaS_dead _ _ _ hdd] at hQ2
          refine hQ2 jv3 bv3 hdd ?_
          obtain ⟨q1, q2, q3, q4, q5, q6, q7, q8⟩ := o3.2 hdd
          exact ⟨q1, q2, q3, q4, q5.trans (f1 7 (by decide)), q6.trans (f1 8 (by decide)), q7.trans (f1 9 (by decide)), (q8.trans (a2 10 (by decide))).trans (f2 10 (by decide))⟩
      refine pz_aln (i := 101) rfl rfl ?_
      refine pz_aln (i := 102) rfl rfl ?_
      refine pz_get (i := 103) rfl (gf_54_24 ..) ?_
      refine pz_il (i := 104) rfl rfl ?_
      refine pz_ial (i := 105) rfl (ga_66 ..) (in_ofI (by omega)) ?_
      rw [cl_ofI (a := i), a2 11 (by decide), e11]
      refine pz_il (i := 106) rfl rfl ?_
      refine pz_iln (i := 107) rfl rfl ?_
      refine pz_ic (i := 108) rfl ?_
      refine pz_sub (i := 109) rfl ?_
      rw [show nI b.length - 1 = nI (b.length - 1) from pk_sub (b := 1) (by omega)]
      refine pz_ii_ge (i := 110) rfl (fun c110 => ?_) (fun c110 => ?_)
      · refine pz_ic (i := 113) rfl ?_
        refine pz_add (i := 114) rfl ?_
        first
          | rw [show nI x.1 + 128 = nI (x.1 + 128) from nI_add _ 128]
          | rw [show nI x.1 + 0 = nI (x.1 + 0) from nI_add _ 0]
        first
          | (have hge := le_ofI c110
             have e0 : gO l = 0 := if_pos (by omega)
             rw [e0] at k114
             exact k114)
          | (have hlt2 := nle_ofI c110
             have e0 : gO l = 128 := if_neg (by omega)
             rw [e0] at k114
             exact k114)
      · refine pz_si (i := 111) rfl ?_
        refine pz_go (i := 112) rfl ?_
        refine pz_add (i := 114) rfl ?_
        first
          | rw [show nI x.1 + 128 = nI (x.1 + 128) from nI_add _ 128]
          | rw [show nI x.1 + 0 = nI (x.1 + 0) from nI_add _ 0]
        first
          | (have hge := le_ofI c110
             have e0 : gO l = 0 := if_pos (by omega)
             rw [e0] at k114
             exact k114)
          | (have hlt2 := nle_ofI c110
             have e0 : gO l = 128 := if_neg (by omega)
             rw [e0] at k114
             exact k114)
theorem aaV_snoc : ∀ (l : List bR) (V : vW) (x : bR), aaV (l ++ [x]) V = apV (aaV l V) x.1 x.2.1 x.2.2.length
  | [], _, _ => rfl
  | y :: l, V, x => aaV_snoc l (apV V y.1 y.2.1 y.2.2.length) x
theorem aaV_num : ∀ (l : List bR) (V : vW), (aaV l V).2.2 5 = V.2.2 5 + bZ l ∧ (aaV l V).2.2 6 = V.2.2 6 + l.length ∧ (aaV l V).1 = V.1 ∧ ∀ i, i ≠ 5 → i ≠ 6 → (aaV l V).2.2 i = V.2.2 i
  | [], V => ⟨rfl, rfl, rfl, fun _ _ _ => rfl⟩
  | x :: l, V => by
    obtain ⟨h1, h2, h3, h4⟩ := aaV_num l (apV V x.1 x.2.1 x.2.2.length)
    have e : bZ (x :: l) = 12 + x.2.2.length + bZ l := by
      unfold bZ
      rw [List.map_cons, List.sum_cons]
    refine ⟨?_, ?_, h3, fun i i5 i6 => (h4 i i5 i6).trans ?_⟩
    · show (aaV l (apV V x.1 x.2.1 x.2.2.length)).2.2 5 = _
      rw [h1, e]
      show V.2.2 5 + 12 + x.2.2.length + bZ l = _
      omega
    · show (aaV l (apV V x.1 x.2.1 x.2.2.length)).2.2 6 = _
      rw [h2]
      show V.2.2 6 + 1 + l.length = V.2.2 6 + (l.length + 1)
      omega
    · show vs (vs V.2.2 5 _) 6 _ i = _
      rw [vs_n i6, vs_n i5]
set_option maxRecDepth 20000 in
theorem lq_w2 {b : List bR} {V : vW} {x1 : Int32} {x6 : Option Value} {jv0 : Nat → Int32} {bv0 : Nat → Nat → Int32} (hb : bM jv0 bv0 b) (hbd : V.2.2 5 < 2 ^ 30 - 2000 ∧ V.2.2 6 < 2 ^ 30 - 2000) (hQ : ∀ jv' bv' x4, eM jv' bv' (aaV b V).2.1 → frI jv0 jv' [20] → frA bv0 bv' [17, 18, 19] → pz Lx xs (d + 1) rt_123 (some .int) Q 159 [some (.ref 54), some (.int x1), some (.int (nI b.length)), some (.int (nI (V.2.2 6))), some (.int x4), some (.int (nI b.length)), x6] [] (wX rm iv av (wM rm jv' bv'))) : ∀ (m i : Nat) (jv : Nat → Int32) (bv : Nat → Nat → Int32), i + m = b.length → frI jv0 jv [20] → frA bv0 bv [17, 18, 19] → eM jv bv (aaV (b.take i) V).2.1 → pz Lx xs (d + 1) rt_123 (some .int) Q 131 [some (.ref 54), some (.int x1), some (.int (nI b.length)), some (.int (nI (V.2.2 6))), some (.int (nI (V.2.2 5 + bZ (b.take i)))), some (.int (nI i)), x6] [] (wX rm iv av (wM rm jv bv))
  | 0, i, jv, bv, hi, f1, f2, hm => by
    have h8 := hb.2.1
    obtain rfl : i = b.length := by omega
    rw [List.take_length] at hm ⊢
    refine pz_il (i := 131) rfl rfl ?_
    refine pz_iln (i := 132) rfl rfl ?_
    refine pz_ii_ge (i := 133) rfl (fun c133 => ?_) (fun c133 => ?_)
    · exact hQ jv bv _ hm f1 f2
    · exact absurd (Int32.le_refl _) c133
  | m + 1, i, jv, bv, hi, f1, f2, hm => by
    have h8 := hb.2.1
    have hi1 : i < b.length := by omega
    have hx := List.getElem?_eq_getElem hi1
    obtain ⟨g1, g2, g3, g4, _⟩ := hb.2.2 i _ hx
    have hbz := bM_Z hb i
    have hkey := g1.2.2.1
    have hlen := g1.2.2.2.1
    obtain ⟨n5, n6, _, _⟩ := aaV_num (b.take i) V
    have hti : (b.take i).length = i := List.length_take_of_le (by omega)
    have etk : b.take (i + 1) = b.take i ++ [b[i]] := by
      rw [List.take_add_one, hx]
      rfl
    have em : (aaV (b.take (i + 1)) V).2.1 = upM (aaV (b.take i) V).2.1 (b[i]).2.1 ((b[i]).1, V.2.2 6 + i, V.2.2 5 + bZ (b.take i)) := by
      rw [etk, aaV_snoc]
      show upM _ _ ((b[i]).1, (aaV (b.take i) V).2.2 6, (aaV (b.take i) V).2.2 5) = _
      rw [n5, n6, hti]
    refine pz_il (i := 131) rfl rfl ?_
    refine pz_iln (i := 132) rfl rfl ?_
    refine pz_ii_ge (i := 133) rfl (fun c133 => ?_) (fun c133 => ?_)
    · exact absurd (le_ofI c133) (by omega)
    · refine pz_aln (i := 134) rfl rfl ?_
      refine pz_aln (i := 135) rfl rfl ?_
      refine pz_get (i := 136) rfl (gf_54_25 ..) ?_
      refine pz_il (i := 137) rfl rfl ?_
      refine pz_ial (i := 138) rfl (ga_67 ..) (in_ofI (by omega)) ?_
      rw [cl_ofI (a := i), f2 12 (by decide), g3]
      refine pz_aln (i := 139) rfl rfl ?_
      refine pz_get (i := 140) rfl (gf_54_24 ..) ?_
      refine pz_il (i := 141) rfl rfl ?_
      refine pz_ial (i := 142) rfl (ga_66 ..) (in_ofI (by omega)) ?_
      rw [cl_ofI (a := i), f2 11 (by decide), g2]
      refine pz_iln (i := 143) rfl rfl ?_
      refine pz_il (i := 144) rfl rfl ?_
      refine pz_add (i := 145) rfl ?_
      rw [nI_add]
      refine pz_il (i := 146) rfl rfl ?_
      refine pz_cV4 (i := 147) rfl (gc_54 ..) rfl (Nat.le_of_ble_eq_true rfl) rfl ?_
      refine sm_remember hm hkey (x := ((b[i]).1, V.2.2 6 + i, V.2.2 5 + bZ (b.take i))) ⟨g1.1, g1.2.1, (by show V.2.2 6 + i < 2 ^ 30; omega), (by show V.2.2 5 + bZ (b.take i) < 2 ^ 30; omega)⟩ (fun jv4 bv4 e4 f4 a4 => ?_)
      refine ⟨rfl, ?_⟩
      refine pz_il (i := 148) rfl rfl ?_
      refine pz_bi (i := 149) rfl ?_
      refine pz_aln (i := 150) rfl rfl ?_
      refine pz_get (i := 151) rfl (gf_54_26 ..) ?_
      refine pz_il (i := 152) rfl rfl ?_
      refine pz_ial (i := 153) rfl (ga_68 ..) (in_ofI (by omega)) ?_
      rw [cl_ofI (a := i), a4 13 (by decide), f2 13 (by decide), g4]
      refine pz_add (i := 154) rfl ?_
      rw [show (12 : Int32) + nI (b[i]).2.2.length = nI (12 + (b[i]).2.2.length) from nI_add 12 _]
      refine pz_add (i := 155) rfl ?_
      rw [nI_add, Nat.add_assoc, ← bZ_take hx]
      refine pz_is (i := 156) rfl ⟨rfl, Nat.le_of_ble_eq_true rfl⟩ rfl ?_
      refine pz_inc (i := 157) rfl rfl rfl rfl ?_
      rw [show nI i + 1 = nI (i + 1) from nI_add i 1]
      refine pz_go (i := 158) rfl ?_
      exact lq_w2 hb hbd hQ m (i + 1) jv4 bv4 (by omega) (frI_tr f1 f4 (by decide) (by decide)) (frA_tr f2 a4 (by decide) (by decide)) (by rw [em]; exact e4)
end SB8
