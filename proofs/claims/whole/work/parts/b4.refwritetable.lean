/-! PART B4: the reference: writeTable -/
theorem lf_cg {a b : List Nat} (h : ∀ q, q < 12 → (q ∈ a ↔ q ∈ b)) : lf a = lf b := by
  have hl := lf_lt b
  refine lf_eq (by omega) (fun j hj => (h j (by omega)).mpr (lf_in hj)) (fun h11 hz => ?_)
  have hb : lf b ∈ b := (h _ hl).mp hz
  unfold lf at hb h11
  cases hf : (List.range 11).find? (fun q => decide (q ∉ b)) with
  | none =>
    rw [hf] at h11
    exact absurd h11 (by decide)
  | some q =>
    rw [hf] at hb
    have := List.find?_some hf
    exact (of_decide_eq_true this) hb
section SB4
variable {Lx : Nat} {xs : Nat → Int32} {d rm : Nat} {iv : Nat → Int32} {av : Nat → Nat → Int32} {jv : Nat → Int32} {bv : Nat → Nat → Int32} {Q : rQ}
set_option maxRecDepth 20000 in
theorem lq_tk {lv : Int32} {q : Nat} {us : List tB} {pa : List Nat} (hq : q < 12) (hu : uM jv bv us) (h12 : ∀ t ∈ us, t.1 < 12) (hQ : ∀ z : Int32, (z = 0 ↔ q ∉ pa ∧ q ∉ pls us) → pz Lx xs d rt_112 (some .int) Q 31 [some (.ref 54), some (.int lv), some (.int (nI q)), some (.int z), some (.int (nI us.length)), none, none, none] [] (wX rm iv av (wM rm jv bv))) : ∀ (m k : Nat) (z : Int32), k + m = us.length → (z = 0 ↔ q ∉ pa ∧ q ∉ pls (us.take k)) → pz Lx xs d rt_112 (some .int) Q 13 [some (.ref 54), some (.int lv), some (.int (nI q)), some (.int z), some (.int (nI k)), none, none, none] [] (wX rm iv av (wM rm jv bv))
  | 0, k, z, hk, hz => by
    obtain rfl : k = us.length := by omega
    rw [List.take_length] at hz
    refine pz_il (i := 13) rfl rfl ?_
    refine pz_aln (i := 14) rfl rfl ?_
    refine pz_get (i := 15) rfl (gf_54_36 ..) ?_
    rw [hu.1]
    refine pz_ii_ge (i := 16) rfl (fun c16 => ?_) (fun c16 => ?_)
    · exact hQ z hz
    · exact absurd (Int32.le_refl _) c16
  | m + 1, k, z, hk, hz => by
    have h6 := hu.2.1
    have hk1 : k < us.length := by omega
    have ht := List.getElem?_eq_getElem hk1
    have ht12 := h12 _ (List.mem_of_getElem? ht)
    have hmem : q ∈ pls (us.take (k + 1)) ↔ q ∈ pls (us.take k) ∨ q = (us[k]).1 := by
      rw [List.take_add_one, ht]
      unfold pls
      rw [List.map_append, List.mem_append]
      exact or_congr Iff.rfl (by simp)
    refine pz_il (i := 13) rfl rfl ?_
    refine pz_aln (i := 14) rfl rfl ?_
    refine pz_get (i := 15) rfl (gf_54_36 ..) ?_
    rw [hu.1]
    refine pz_ii_ge (i := 16) rfl (fun c16 => ?_) (fun c16 => ?_)
    · exact absurd (le_ofI c16) (by omega)
    · refine pz_iln (i := 17) rfl rfl ?_
      refine pz_if_ne (i := 18) rfl (fun c18 => ?_) (fun c18 => ?_)
      · refine pz_ic (i := 25) rfl ?_
        refine pz_go (i := 26) rfl ?_
        refine pz_isn (i := 28) rfl ⟨rfl, Nat.le_of_ble_eq_true rfl⟩ rfl ?_
        refine pz_inc (i := 29) rfl rfl rfl rfl ?_
        rw [show nI k + 1 = nI (k + 1) from nI_add k 1]
        refine pz_go (i := 30) rfl ?_
        refine lq_tk hq hu h12 hQ m (k + 1) _ (by omega) ?_
        rw [hmem]
        first
          | (have e := eq_ofI c24
             exact ⟨fun w => absurd w (by decide), fun w => absurd (Or.inr e.symm) w.2⟩)
          | (have e := ne_ofI c24
             have e0 := hz.mp (Classical.byContradiction c18)
             exact ⟨fun _ => ⟨e0.1, fun w => w.elim e0.2 (fun w2 => e w2.symm)⟩, fun _ => rfl⟩)
          | (have e := ne_ofI c24
             have e0 := hz.mp c18
             exact ⟨fun _ => ⟨e0.1, fun w => w.elim e0.2 (fun w2 => e w2.symm)⟩, fun _ => rfl⟩)
          | (exact ⟨fun w => absurd w (by decide), fun w => absurd (hz.mpr ⟨w.1, fun w2 => w.2 (Or.inl w2)⟩) c18⟩)
      · refine pz_aln (i := 19) rfl rfl ?_
        refine pz_get (i := 20) rfl (gf_54_35 ..) ?_
        refine pz_il (i := 21) rfl rfl ?_
        refine pz_ial (i := 22) rfl (ga_70 ..) (in_ofI (by omega)) ?_
        rw [cl_ofI (a := k), hu.2.2 k _ ht]
        refine pz_iln (i := 23) rfl rfl ?_
        refine pz_ii_ne (i := 24) rfl (fun c24 => ?_) (fun c24 => ?_)
        · refine pz_ic (i := 27) rfl ?_
          refine pz_isn (i := 28) rfl ⟨rfl, Nat.le_of_ble_eq_true rfl⟩ rfl ?_
          refine pz_inc (i := 29) rfl rfl rfl rfl ?_
          rw [show nI k + 1 = nI (k + 1) from nI_add k 1]
          refine pz_go (i := 30) rfl ?_
          refine lq_tk hq hu h12 hQ m (k + 1) _ (by omega) ?_
          rw [hmem]
          first
            | (have e := eq_ofI c24
               exact ⟨fun w => absurd w (by decide), fun w => absurd (Or.inr e.symm) w.2⟩)
            | (have e := ne_ofI c24
               have e0 := hz.mp (Classical.byContradiction c18)
               exact ⟨fun _ => ⟨e0.1, fun w => w.elim e0.2 (fun w2 => e w2.symm)⟩, fun _ => rfl⟩)
            | (have e := ne_ofI c24
               have e0 := hz.mp c18
               exact ⟨fun _ => ⟨e0.1, fun w => w.elim e0.2 (fun w2 => e w2.symm)⟩, fun _ => rfl⟩)
            | (exact ⟨fun w => absurd w (by decide), fun w => absurd (hz.mpr ⟨w.1, fun w2 => w.2 (Or.inl w2)⟩) c18⟩)
        · refine pz_ic (i := 25) rfl ?_
          refine pz_go (i := 26) rfl ?_
          refine pz_isn (i := 28) rfl ⟨rfl, Nat.le_of_ble_eq_true rfl⟩ rfl ?_
          refine pz_inc (i := 29) rfl rfl rfl rfl ?_
          rw [show nI k + 1 = nI (k + 1) from nI_add k 1]
          refine pz_go (i := 30) rfl ?_
          refine lq_tk hq hu h12 hQ m (k + 1) _ (by omega) ?_
          rw [hmem]
          first
            | (have e := eq_ofI c24
               exact ⟨fun w => absurd w (by decide), fun w => absurd (Or.inr e.symm) w.2⟩)
            | (have e := ne_ofI c24
               have e0 := hz.mp (Classical.byContradiction c18)
               exact ⟨fun _ => ⟨e0.1, fun w => w.elim e0.2 (fun w2 => e w2.symm)⟩, fun _ => rfl⟩)
            | (have e := ne_ofI c24
               have e0 := hz.mp c18
               exact ⟨fun _ => ⟨e0.1, fun w => w.elim e0.2 (fun w2 => e w2.symm)⟩, fun _ => rfl⟩)
            | (exact ⟨fun w => absurd w (by decide), fun w => absurd (hz.mpr ⟨w.1, fun w2 => w.2 (Or.inl w2)⟩) c18⟩)
set_option maxRecDepth 20000 in
theorem lq_pl {lv : Int32} {us : List tB} {pa tk : List Nat} (hu : uM jv bv us) (hpa : pA bv pa) (h12 : ∀ t ∈ us, t.1 < 12) (htk : ∀ q, q < 12 → (q ∈ tk ↔ q ∈ pa ∨ q ∈ pls us)) (hnew : lf tk ∉ tk) (hQ : ∀ x4, (∃ y, x4 = some (.int y)) → pz Lx xs d rt_112 (some .int) Q 40 [some (.ref 54), some (.int lv), some (.int (nI (lf tk))), some (.int 0), x4, none, none, none] [] (wX rm iv av (wM rm jv bv))) : ∀ (m q : Nat) (z : Int32) (x4 : Option Value), ¬ z = 0 → (x4 = none ∨ ∃ y, x4 = some (.int y)) → q + m = lf tk → pz Lx xs d rt_112 (some .int) Q 4 [some (.ref 54), some (.int lv), some (.int (nI q)), some (.int z), x4, none, none, none] [] (wX rm iv av (wM rm jv bv)) := by
  have hl := lf_lt tk
  have h6 := hu.2.1
  intro m
  induction m with
  | zero =>
    intro q z x4 hz hx hq
    obtain rfl : q = lf tk := by omega
    have k31 : ∀ z' : Int32, (z' = 0 ↔ lf tk ∉ pa ∧ lf tk ∉ pls us) → pz Lx xs d rt_112 (some .int) Q 31 [some (.ref 54), some (.int lv), some (.int (nI (lf tk))), some (.int z'), some (.int (nI us.length)), none, none, none] [] (wX rm iv av (wM rm jv bv)) := by
      intro z' hz'
      have h0 : z' = 0 := hz'.mpr ⟨fun w => hnew ((htk _ hl).mpr (Or.inl w)), fun w => hnew ((htk _ hl).mpr (Or.inr w))⟩
      subst h0
      refine pz_iln (i := 31) rfl rfl ?_
      refine pz_iln (i := 32) rfl rfl ?_
      refine pz_if_eq (i := 33) rfl (fun c33 => ?_) (fun c33 => ?_)
      · refine pz_ic (i := 36) rfl ?_
        refine pz_add (i := 37) rfl ?_
        rw [show nI (lf tk) + 0 = nI (lf tk + 0) from nI_add _ 0, Nat.add_zero]
        refine pz_isn (i := 38) rfl ⟨rfl, Nat.le_of_ble_eq_true rfl⟩ rfl ?_
        refine pz_go (i := 39) rfl ?_
        refine pz_iln (i := 4) rfl rfl ?_
        refine pz_if_eq (i := 5) rfl (fun c5 => ?_) (fun c5 => ?_)
        · exact hQ _ ⟨_, rfl⟩
        · exact absurd rfl c5
      · exact absurd rfl c33
    rcases hx with rfl | ⟨y, rfl⟩
    · refine pz_iln (i := 4) rfl rfl ?_
      refine pz_if_eq (i := 5) rfl (fun c5 => ?_) (fun c5 => ?_)
      · exact absurd c5 hz
      · refine pz_aln (i := 6) rfl rfl ?_
        refine pz_get (i := 7) rfl (gf_54_37 ..) ?_
        refine pz_iln (i := 8) rfl rfl ?_
        refine pz_bal (i := 9) rfl (ga_71 ..) rfl (in_ofI hl) ?_
        rw [cl_ofI (a := lf tk)]
        refine pz_isn (i := 10) rfl ⟨rfl, Nat.le_of_ble_eq_true rfl⟩ rfl ?_
        refine pz_ic (i := 11) rfl ?_
        refine pz_is (i := 12) rfl ⟨rfl, Nat.le_of_ble_eq_true rfl⟩ rfl ?_
        refine lq_tk (q := lf tk) hl hu h12 k31 us.length 0 _ (Nat.zero_add _) ?_
        rw [hpa _ hl]
        exact ⟨fun w => ⟨w, fun z => (by cases z)⟩, fun w => w.1⟩
    · refine pz_iln (i := 4) rfl rfl ?_
      refine pz_if_eq (i := 5) rfl (fun c5 => ?_) (fun c5 => ?_)
      · exact absurd c5 hz
      · refine pz_aln (i := 6) rfl rfl ?_
        refine pz_get (i := 7) rfl (gf_54_37 ..) ?_
        refine pz_iln (i := 8) rfl rfl ?_
        refine pz_bal (i := 9) rfl (ga_71 ..) rfl (in_ofI hl) ?_
        rw [cl_ofI (a := lf tk)]
        refine pz_isn (i := 10) rfl ⟨rfl, Nat.le_of_ble_eq_true rfl⟩ rfl ?_
        refine pz_ic (i := 11) rfl ?_
        refine pz_is (i := 12) rfl ⟨rfl, Nat.le_of_ble_eq_true rfl⟩ rfl ?_
        refine lq_tk (q := lf tk) hl hu h12 k31 us.length 0 _ (Nat.zero_add _) ?_
        rw [hpa _ hl]
        exact ⟨fun w => ⟨w, fun z => (by cases z)⟩, fun w => w.1⟩
  | succ m ih =>
    intro q z x4 hz hx hq
    have hq12 : q < 12 := by omega
    have hin : q ∈ tk := lf_in (by omega)
    have k31 : ∀ z' : Int32, (z' = 0 ↔ q ∉ pa ∧ q ∉ pls us) → pz Lx xs d rt_112 (some .int) Q 31 [some (.ref 54), some (.int lv), some (.int (nI q)), some (.int z'), some (.int (nI us.length)), none, none, none] [] (wX rm iv av (wM rm jv bv)) := by
      intro z' hz'
      have h0 : ¬ z' = 0 := fun w => ((htk _ hq12).mp hin).elim (hz'.mp w).1 (hz'.mp w).2
      refine pz_iln (i := 31) rfl rfl ?_
      refine pz_iln (i := 32) rfl rfl ?_
      refine pz_if_eq (i := 33) rfl (fun c33 => ?_) (fun c33 => ?_)
      · exact absurd c33 h0
      · refine pz_ic (i := 34) rfl ?_
        refine pz_go (i := 35) rfl ?_
        refine pz_add (i := 37) rfl ?_
        rw [show nI q + 1 = nI (q + 1) from nI_add _ 1]
        refine pz_isn (i := 38) rfl ⟨rfl, Nat.le_of_ble_eq_true rfl⟩ rfl ?_
        refine pz_go (i := 39) rfl ?_
        exact ih (q + 1) z' _ h0 (Or.inr ⟨_, rfl⟩) (by omega)
    rcases hx with rfl | ⟨y, rfl⟩
    · refine pz_iln (i := 4) rfl rfl ?_
      refine pz_if_eq (i := 5) rfl (fun c5 => ?_) (fun c5 => ?_)
      · exact absurd c5 hz
      · refine pz_aln (i := 6) rfl rfl ?_
        refine pz_get (i := 7) rfl (gf_54_37 ..) ?_
        refine pz_iln (i := 8) rfl rfl ?_
        refine pz_bal (i := 9) rfl (ga_71 ..) rfl (in_ofI hq12) ?_
        rw [cl_ofI (a := q)]
        refine pz_isn (i := 10) rfl ⟨rfl, Nat.le_of_ble_eq_true rfl⟩ rfl ?_
        refine pz_ic (i := 11) rfl ?_
        refine pz_is (i := 12) rfl ⟨rfl, Nat.le_of_ble_eq_true rfl⟩ rfl ?_
        refine lq_tk (q := q) hq12 hu h12 k31 us.length 0 _ (Nat.zero_add _) ?_
        rw [hpa _ hq12]
        exact ⟨fun w => ⟨w, fun z => (by cases z)⟩, fun w => w.1⟩
    · refine pz_iln (i := 4) rfl rfl ?_
      refine pz_if_eq (i := 5) rfl (fun c5 => ?_) (fun c5 => ?_)
      · exact absurd c5 hz
      · refine pz_aln (i := 6) rfl rfl ?_
        refine pz_get (i := 7) rfl (gf_54_37 ..) ?_
        refine pz_iln (i := 8) rfl rfl ?_
        refine pz_bal (i := 9) rfl (ga_71 ..) rfl (in_ofI hq12) ?_
        rw [cl_ofI (a := q)]
        refine pz_isn (i := 10) rfl ⟨rfl, Nat.le_of_ble_eq_true rfl⟩ rfl ?_
        refine pz_ic (i := 11) rfl ?_
        refine pz_is (i := 12) rfl ⟨rfl, Nat.le_of_ble_eq_true rfl⟩ rfl ?_
        refine lq_tk (q := q) hq12 hu h12 k31 us.length 0 _ (Nat.zero_add _) ?_
        rw [hpa _ hq12]
        exact ⟨fun w => ⟨w, fun z => (by cases z)⟩, fun w => w.1⟩
theorem flX_s {kd : Nat → Int32} {n : Nat} (h : ¬ kd n = 0) : flX kd (n + 1) = flX kd n ||| fB (nI n) := by
  unfold flX
  rw [kK_s h, List.foldl_append]
  rfl
theorem flX_n {kd : Nat → Int32} {n : Nat} (h : kd n = 0) : flX kd (n + 1) = flX kd n := by
  unfold flX
  rw [kK_n h]
set_option maxRecDepth 20000 in
theorem lq_en {lv pl : Int32} {m : mP} {bv0 : Nat → Nat → Int32} (hw : wN bv0 m) (hQ : ∀ bv' x7, (x7 = none ∨ ∃ y, x7 = some (.int y)) → frA bv0 bv' [23] → pgE (bv' 23) (bv0 20) (bv0 21) (bv0 22) 120 → pz Lx xs (d + 1) rt_112 (some .int) Q 103 [some (.ref 54), some (.int lv), some (.int pl), some (.int 0), some (.int (nI (kK (bv0 20) 120).length)), some (.int (flX (bv0 20) 120)), some (.int (nI 120)), x7] [] (wX rm iv av (wM rm jv bv'))) : ∀ (f k : Nat) (bv : Nat → Nat → Int32) (x7 : Option Value), (x7 = none ∨ ∃ y, x7 = some (.int y)) → k + f = 120 → frA bv0 bv [23] → pgE (bv 23) (bv0 20) (bv0 21) (bv0 22) k → pz Lx xs (d + 1) rt_112 (some .int) Q 46 [some (.ref 54), some (.int lv), some (.int pl), some (.int 0), some (.int (nI (kK (bv0 20) k).length)), some (.int (flX (bv0 20) k)), some (.int (nI k)), x7] [] (wX rm iv av (wM rm jv bv)) := by
  intro f
  induction f with
  | zero =>
    intro k bv x7 hx hk fr hp
    obtain rfl : k = 120 := by omega
    refine pz_il (i := 46) rfl rfl ?_
    refine pz_bi (i := 47) rfl ?_
    refine pz_ii_ge (i := 48) rfl (fun c48 => ?_) (fun c48 => ?_)
    · exact hQ bv x7 hx fr hp
    · exact absurd (Int32.le_refl _) c48
  | succ f ih =>
    intro k bv x7 hx hk fr hp
    have hk1 : k < 120 := by omega
    have hkl := kK_len (bv0 20) k
    have hz : bv0 20 k ≤ 0 ↔ bv0 20 k = 0 := (wN_le hw hk1).trans (wN_0 hw hk1).symm
    have hstep : ∀ bw : Nat → Nat → Int32, frA bv0 bw [23] → ¬ bv0 20 k = 0 → (∀ j, j < 16 + 10 * (kK (bv0 20) k).length → bw 23 j = bv 23 j) → bw 23 (16 + 10 * (kK (bv0 20) k).length) = bS k → bw 23 (16 + 10 * (kK (bv0 20) k).length + 1) = (bv0 20 k).toInt8.toInt32 → (∀ j, j < 4 → bw 23 (16 + 10 * (kK (bv0 20) k).length + 2 + j) = lB (n4 (uN (bv0 22 k))) j ∧ bw 23 (16 + 10 * (kK (bv0 20) k).length + 6 + j) = lB (n4 (uN (bv0 21 k))) j) → pgE (bw 23) (bv0 20) (bv0 21) (bv0 22) (k + 1) := by
      intro bw _ hne hold h0 h1 h2 i hi
      rw [kK_s hne] at hi ⊢
      rw [List.length_append] at hi
      have hi' : i < (kK (bv0 20) k).length + 1 := hi
      by_cases e : i = (kK (bv0 20) k).length
      · subst e
        have eg : (kK (bv0 20) k ++ [k]).getD (kK (bv0 20) k).length 0 = k := by
          rw [gd_r (Nat.le_refl _), Nat.sub_self]
          rfl
        rw [eg]
        exact ⟨h0, h1, h2⟩
      · have eg : (kK (bv0 20) k ++ [k]).getD i 0 = (kK (bv0 20) k).getD i 0 := gd_l (by omega)
        rw [eg]
        obtain ⟨g0, g1, g2⟩ := hp i (by omega)
        refine ⟨by rw [hold _ (by omega)]; exact g0, by rw [hold _ (by omega)]; exact g1, fun j hj => ?_⟩
        rw [hold _ (by omega), hold _ (by omega)]
        exact g2 j hj
    have hrun : ∀ x7 : Option Value, (x7 = none ∨ ∃ y, x7 = some (.int y)) → pz Lx xs (d + 1) rt_112 (some .int) Q 101 [some (.ref 54), some (.int lv), some (.int pl), some (.int 0), some (.int (nI (kK (bv0 20) k).length)), some (.int (flX (bv0 20) k)), some (.int (nI k)), x7] [] (wX rm iv av (wM rm jv bv)) ∨ True := fun _ _ => Or.inr trivial
    rcases hx with rfl | ⟨y7, rfl⟩
    · refine pz_il (i := 46) rfl rfl ?_
      refine pz_bi (i := 47) rfl ?_
      refine pz_ii_ge (i := 48) rfl (fun c48 => ?_) (fun c48 => ?_)
      · exact absurd (le_ofI (a := 120) c48) (by omega)
      · refine pz_aln (i := 49) rfl rfl ?_
        refine pz_get (i := 50) rfl (gf_54_42 ..) ?_
        refine pz_il (i := 51) rfl rfl ?_
        refine pz_ial (i := 52) rfl (ga_75 ..) (in_ofI hk1) ?_
        rw [cl_ofI (a := k), fr 20 (by decide)]
        refine pz_if_le (i := 53) rfl (fun c53 => ?_) (fun c53 => ?_)
        · refine pz_inc (i := 101) rfl rfl rfl rfl ?_
          rw [show nI k + 1 = nI (k + 1) from nI_add k 1]
          refine pz_go (i := 102) rfl ?_
          first
            | (have hz0 : bv0 20 k = 0 := hz.mp c53
               have h := ih (k + 1) bv none (Or.inl rfl) (by omega) fr (by intro i hi; rw [kK_n hz0] at hi ⊢; exact hp i hi)
               rw [kK_n hz0, flX_n hz0] at h
               exact h)
            | (have hz0 : bv0 20 k = 0 := hz.mp c53
               have h := ih (k + 1) bv (some (.int y7)) (Or.inr ⟨_, rfl⟩) (by omega) fr (by intro i hi; rw [kK_n hz0] at hi ⊢; exact hp i hi)
               rw [kK_n hz0, flX_n hz0] at h
               exact h)
            | (have hz0 : ¬ bv0 20 k = 0 := fun w => c53 (hz.mpr w)
               have FB : frA bv0 b2 [23] := frA_tr (frA_tr (S := [23]) (frA_tr (S := [23]) fr (frA_up (frA_up (frA_rfl _ [23]) (by decide)) (by decide)) (by decide) (by decide)) f1 (by decide) (by decide)) f2 (by decide) (by decide)
               have hpg := hstep b2 FB hz0 (fun j hj => by rw [z2 j (by omega), z1 j (by omega), ua_s, ui_n (by omega), ua_s, ui_n (by omega)]) (by rw [z2 _ (by omega), z1 _ (by omega), ua_s, ui_n (by omega), ua_s, ui_s]; exact bS_bt _) (by rw [z2 _ (by omega), z1 _ (by omega), ua_s, ui_s, i8_of]; exact bS_bt _) (fun j hj => ⟨by rw [z2 _ (by omega)]; exact a1 j hj, a2 j hj⟩)
               have h := ih (k + 1) b2 (some (.int (nI (16 + 10 * (kK (bv0 20) k).length)))) (Or.inr ⟨_, rfl⟩) (by omega) FB hpg
               rw [kK_s hz0, flX_s hz0, List.length_append] at h
               exact h)
        · refine pz_bi (i := 54) rfl ?_
          refine pz_bi (i := 55) rfl ?_
          refine pz_il (i := 56) rfl rfl ?_
          refine pz_mul (i := 57) rfl ?_
          rw [show (10 : Int32) * nI (kK (bv0 20) k).length = nI (10 * (kK (bv0 20) k).length) from pk_mul 10 _]
          refine pz_add (i := 58) rfl ?_
          rw [show (16 : Int32) + nI (10 * (kK (bv0 20) k).length) = nI (16 + 10 * (kK (bv0 20) k).length) from nI_add 16 _]
          refine pz_is (i := 59) rfl ⟨rfl, Nat.le_of_ble_eq_true rfl⟩ rfl ?_
          refine pz_aln (i := 60) rfl rfl ?_
          refine pz_get (i := 61) rfl (gf_54_45 ..) ?_
          refine pz_il (i := 62) rfl rfl ?_
          refine pz_il (i := 63) rfl rfl ?_
          refine pz_i2b (i := 64) rfl ?_
          rw [i8_of, show (nI k).toBitVec.toNat % 256 = k from by have := uN_nI (n := k) (by omega); unfold uN at this; rw [this]; omega]
          refine pz_bas (i := 65) rfl (ga_78 ..) rfl (in_ofI (by omega)) (pa_78 ..) ?_
          rw [cl_ofI (a := 16 + 10 * (kK (bv0 20) k).length)]
          refine pz_aln (i := 66) rfl rfl ?_
          refine pz_get (i := 67) rfl (gf_54_45 ..) ?_
          refine pz_il (i := 68) rfl rfl ?_
          refine pz_ic (i := 69) rfl ?_
          refine pz_add (i := 70) rfl ?_
          rw [show nI (16 + 10 * (kK (bv0 20) k).length) + 1 = nI (16 + 10 * (kK (bv0 20) k).length + 1) from nI_add _ 1]
          refine pz_aln (i := 71) rfl rfl ?_
          refine pz_get (i := 72) rfl (gf_54_42 ..) ?_
          refine pz_il (i := 73) rfl rfl ?_
          refine pz_ial (i := 74) rfl (ga_75 ..) (in_ofI hk1) ?_
          rw [cl_ofI (a := k), ua_n (by decide), fr 20 (by decide)]
          refine pz_i2b (i := 75) rfl ?_
          refine pz_bas (i := 76) rfl (ga_78 ..) rfl (in_ofI (by omega)) (pa_78 ..) ?_
          rw [cl_ofI (a := 16 + 10 * (kK (bv0 20) k).length + 1)]
          refine pz_aln (i := 77) rfl rfl ?_
          refine pz_il (i := 78) rfl rfl ?_
          refine pz_ic (i := 79) rfl ?_
          refine pz_add (i := 80) rfl ?_
          rw [show nI (16 + 10 * (kK (bv0 20) k).length) + 2 = nI (16 + 10 * (kK (bv0 20) k).length + 2) from nI_add _ 2]
          refine pz_aln (i := 81) rfl rfl ?_
          refine pz_get (i := 82) rfl (gf_54_44 ..) ?_
          refine pz_il (i := 83) rfl rfl ?_
          refine pz_ial (i := 84) rfl (ga_77 ..) (in_ofI hk1) ?_
          rw [cl_ofI (a := k), ua_n (by decide), ua_n (by decide), fr 22 (by decide)]
          refine pz_cV2 (i := 85) rfl (gc_54 ..) rfl (Nat.le_of_ble_eq_true rfl) rfl ?_
          refine sm_put4 (q := 16 + 10 * (kK (bv0 20) k).length + 2) (by omega) (fun b1 f1 a1 z1 => ?_)
          refine ⟨rfl, ?_⟩
          refine pz_aln (i := 86) rfl rfl ?_
          refine pz_il (i := 87) rfl rfl ?_
          refine pz_bi (i := 88) rfl ?_
          refine pz_add (i := 89) rfl ?_
          rw [show nI (16 + 10 * (kK (bv0 20) k).length) + 6 = nI (16 + 10 * (kK (bv0 20) k).length + 6) from nI_add _ 6]
          refine pz_aln (i := 90) rfl rfl ?_
          refine pz_get (i := 91) rfl (gf_54_43 ..) ?_
          refine pz_il (i := 92) rfl rfl ?_
          refine pz_ial (i := 93) rfl (ga_76 ..) (in_ofI hk1) ?_
          rw [cl_ofI (a := k), f1 21 (by decide), ua_n (by decide), ua_n (by decide), fr 21 (by decide)]
          refine pz_cV2 (i := 94) rfl (gc_54 ..) rfl (Nat.le_of_ble_eq_true rfl) rfl ?_
          refine sm_put4 (q := 16 + 10 * (kK (bv0 20) k).length + 6) (by omega) (fun b2 f2 a2 z2 => ?_)
          refine ⟨rfl, ?_⟩
          refine pz_il (i := 95) rfl rfl ?_
          refine pz_il (i := 96) rfl rfl ?_
          refine pz_sI1 (i := 97) rfl (by decide) (Nat.le_of_ble_eq_true rfl) rfl ?_
          refine sm_bitsOf hk1 ?_
          refine ⟨_, rfl, ?_⟩
          refine pz_or (i := 98) rfl ?_
          refine pz_is (i := 99) rfl ⟨rfl, Nat.le_of_ble_eq_true rfl⟩ rfl ?_
          refine pz_inc (i := 100) rfl rfl rfl rfl ?_
          rw [show nI (kK (bv0 20) k).length + 1 = nI ((kK (bv0 20) k).length + 1) from nI_add _ 1]
          refine pz_inc (i := 101) rfl rfl rfl rfl ?_
          rw [show nI k + 1 = nI (k + 1) from nI_add k 1]
          refine pz_go (i := 102) rfl ?_
          first
            | (have hz0 : bv0 20 k = 0 := hz.mp c53
               have h := ih (k + 1) bv none (Or.inl rfl) (by omega) fr (by intro i hi; rw [kK_n hz0] at hi ⊢; exact hp i hi)
               rw [kK_n hz0, flX_n hz0] at h
               exact h)
            | (have hz0 : bv0 20 k = 0 := hz.mp c53
               have h := ih (k + 1) bv (some (.int y7)) (Or.inr ⟨_, rfl⟩) (by omega) fr (by intro i hi; rw [kK_n hz0] at hi ⊢; exact hp i hi)
               rw [kK_n hz0, flX_n hz0] at h
               exact h)
            | (have hz0 : ¬ bv0 20 k = 0 := fun w => c53 (hz.mpr w)
               have FB : frA bv0 b2 [23] := frA_tr (frA_tr (S := [23]) (frA_tr (S := [23]) fr (frA_up (frA_up (frA_rfl _ [23]) (by decide)) (by decide)) (by decide) (by decide)) f1 (by decide) (by decide)) f2 (by decide) (by decide)
               have hpg := hstep b2 FB hz0 (fun j hj => by rw [z2 j (by omega), z1 j (by omega), ua_s, ui_n (by omega), ua_s, ui_n (by omega)]) (by rw [z2 _ (by omega), z1 _ (by omega), ua_s, ui_n (by omega), ua_s, ui_s]; exact bS_bt _) (by rw [z2 _ (by omega), z1 _ (by omega), ua_s, ui_s, i8_of]; exact bS_bt _) (fun j hj => ⟨by rw [z2 _ (by omega)]; exact a1 j hj, a2 j hj⟩)
               have h := ih (k + 1) b2 (some (.int (nI (16 + 10 * (kK (bv0 20) k).length)))) (Or.inr ⟨_, rfl⟩) (by omega) FB hpg
               rw [kK_s hz0, flX_s hz0, List.length_append] at h
               exact h)
    · refine pz_il (i := 46) rfl rfl ?_
      refine pz_bi (i := 47) rfl ?_
      refine pz_ii_ge (i := 48) rfl (fun c48 => ?_) (fun c48 => ?_)
      · exact absurd (le_ofI (a := 120) c48) (by omega)
      · refine pz_aln (i := 49) rfl rfl ?_
        refine pz_get (i := 50) rfl (gf_54_42 ..) ?_
        refine pz_il (i := 51) rfl rfl ?_
        refine pz_ial (i := 52) rfl (ga_75 ..) (in_ofI hk1) ?_
        rw [cl_ofI (a := k), fr 20 (by decide)]
        refine pz_if_le (i := 53) rfl (fun c53 => ?_) (fun c53 => ?_)
        · refine pz_inc (i := 101) rfl rfl rfl rfl ?_
          rw [show nI k + 1 = nI (k + 1) from nI_add k 1]
          refine pz_go (i := 102) rfl ?_
          first
            | (have hz0 : bv0 20 k = 0 := hz.mp c53
               have h := ih (k + 1) bv none (Or.inl rfl) (by omega) fr (by intro i hi; rw [kK_n hz0] at hi ⊢; exact hp i hi)
               rw [kK_n hz0, flX_n hz0] at h
               exact h)
            | (have hz0 : bv0 20 k = 0 := hz.mp c53
               have h := ih (k + 1) bv (some (.int y7)) (Or.inr ⟨_, rfl⟩) (by omega) fr (by intro i hi; rw [kK_n hz0] at hi ⊢; exact hp i hi)
               rw [kK_n hz0, flX_n hz0] at h
               exact h)
            | (have hz0 : ¬ bv0 20 k = 0 := fun w => c53 (hz.mpr w)
               have FB : frA bv0 b2 [23] := frA_tr (frA_tr (S := [23]) (frA_tr (S := [23]) fr (frA_up (frA_up (frA_rfl _ [23]) (by decide)) (by decide)) (by decide) (by decide)) f1 (by decide) (by decide)) f2 (by decide) (by decide)
               have hpg := hstep b2 FB hz0 (fun j hj => by rw [z2 j (by omega), z1 j (by omega), ua_s, ui_n (by omega), ua_s, ui_n (by omega)]) (by rw [z2 _ (by omega), z1 _ (by omega), ua_s, ui_n (by omega), ua_s, ui_s]; exact bS_bt _) (by rw [z2 _ (by omega), z1 _ (by omega), ua_s, ui_s, i8_of]; exact bS_bt _) (fun j hj => ⟨by rw [z2 _ (by omega)]; exact a1 j hj, a2 j hj⟩)
               have h := ih (k + 1) b2 (some (.int (nI (16 + 10 * (kK (bv0 20) k).length)))) (Or.inr ⟨_, rfl⟩) (by omega) FB hpg
               rw [kK_s hz0, flX_s hz0, List.length_append] at h
               exact h)
        · refine pz_bi (i := 54) rfl ?_
          refine pz_bi (i := 55) rfl ?_
          refine pz_il (i := 56) rfl rfl ?_
          refine pz_mul (i := 57) rfl ?_
          rw [show (10 : Int32) * nI (kK (bv0 20) k).length = nI (10 * (kK (bv0 20) k).length) from pk_mul 10 _]
          refine pz_add (i := 58) rfl ?_
          rw [show (16 : Int32) + nI (10 * (kK (bv0 20) k).length) = nI (16 + 10 * (kK (bv0 20) k).length) from nI_add 16 _]
          refine pz_is (i := 59) rfl ⟨rfl, Nat.le_of_ble_eq_true rfl⟩ rfl ?_
          refine pz_aln (i := 60) rfl rfl ?_
          refine pz_get (i := 61) rfl (gf_54_45 ..) ?_
          refine pz_il (i := 62) rfl rfl ?_
          refine pz_il (i := 63) rfl rfl ?_
          refine pz_i2b (i := 64) rfl ?_
          rw [i8_of, show (nI k).toBitVec.toNat % 256 = k from by have := uN_nI (n := k) (by omega); unfold uN at this; rw [this]; omega]
          refine pz_bas (i := 65) rfl (ga_78 ..) rfl (in_ofI (by omega)) (pa_78 ..) ?_
          rw [cl_ofI (a := 16 + 10 * (kK (bv0 20) k).length)]
          refine pz_aln (i := 66) rfl rfl ?_
          refine pz_get (i := 67) rfl (gf_54_45 ..) ?_
          refine pz_il (i := 68) rfl rfl ?_
          refine pz_ic (i := 69) rfl ?_
          refine pz_add (i := 70) rfl ?_
          rw [show nI (16 + 10 * (kK (bv0 20) k).length) + 1 = nI (16 + 10 * (kK (bv0 20) k).length + 1) from nI_add _ 1]
          refine pz_aln (i := 71) rfl rfl ?_
          refine pz_get (i := 72) rfl (gf_54_42 ..) ?_
          refine pz_il (i := 73) rfl rfl ?_
          refine pz_ial (i := 74) rfl (ga_75 ..) (in_ofI hk1) ?_
          rw [cl_ofI (a := k), ua_n (by decide), fr 20 (by decide)]
          refine pz_i2b (i := 75) rfl ?_
          refine pz_bas (i := 76) rfl (ga_78 ..) rfl (in_ofI (by omega)) (pa_78 ..) ?_
          rw [cl_ofI (a := 16 + 10 * (kK (bv0 20) k).length + 1)]
          refine pz_aln (i := 77) rfl rfl ?_
          refine pz_il (i := 78) rfl rfl ?_
          refine pz_ic (i := 79) rfl ?_
          refine pz_add (i := 80) rfl ?_
          rw [show nI (16 + 10 * (kK (bv0 20) k).length) + 2 = nI (16 + 10 * (kK (bv0 20) k).length + 2) from nI_add _ 2]
          refine pz_aln (i := 81) rfl rfl ?_
          refine pz_get (i := 82) rfl (gf_54_44 ..) ?_
          refine pz_il (i := 83) rfl rfl ?_
          refine pz_ial (i := 84) rfl (ga_77 ..) (in_ofI hk1) ?_
          rw [cl_ofI (a := k), ua_n (by decide), ua_n (by decide), fr 22 (by decide)]
          refine pz_cV2 (i := 85) rfl (gc_54 ..) rfl (Nat.le_of_ble_eq_true rfl) rfl ?_
          refine sm_put4 (q := 16 + 10 * (kK (bv0 20) k).length + 2) (by omega) (fun b1 f1 a1 z1 => ?_)
          refine ⟨rfl, ?_⟩
          refine pz_aln (i := 86) rfl rfl ?_
          refine pz_il (i := 87) rfl rfl ?_
          refine pz_bi (i := 88) rfl ?_
          refine pz_add (i := 89) rfl ?_
          rw [show nI (16 + 10 * (kK (bv0 20) k).length) + 6 = nI (16 + 10 * (kK (bv0 20) k).length + 6) from nI_add _ 6]
          refine pz_aln (i := 90) rfl rfl ?_
          refine pz_get (i := 91) rfl (gf_54_43 ..) ?_
          refine pz_il (i := 92) rfl rfl ?_
          refine pz_ial (i := 93) rfl (ga_76 ..) (in_ofI hk1) ?_
          rw [cl_ofI (a := k), f1 21 (by decide), ua_n (by decide), ua_n (by decide), fr 21 (by decide)]
          refine pz_cV2 (i := 94) rfl (gc_54 ..) rfl (Nat.le_of_ble_eq_true rfl) rfl ?_
          refine sm_put4 (q := 16 + 10 * (kK (bv0 20) k).length + 6) (by omega) (fun b2 f2 a2 z2 => ?_)
          refine ⟨rfl, ?_⟩
          refine pz_il (i := 95) rfl rfl ?_
          refine pz_il (i := 96) rfl rfl ?_
          refine pz_sI1 (i := 97) rfl (by decide) (Nat.le_of_ble_eq_true rfl) rfl ?_
          refine sm_bitsOf hk1 ?_
          refine ⟨_, rfl, ?_⟩
          refine pz_or (i := 98) rfl ?_
          refine pz_is (i := 99) rfl ⟨rfl, Nat.le_of_ble_eq_true rfl⟩ rfl ?_
          refine pz_inc (i := 100) rfl rfl rfl rfl ?_
          rw [show nI (kK (bv0 20) k).length + 1 = nI ((kK (bv0 20) k).length + 1) from nI_add _ 1]
          refine pz_inc (i := 101) rfl rfl rfl rfl ?_
          rw [show nI k + 1 = nI (k + 1) from nI_add k 1]
          refine pz_go (i := 102) rfl ?_
          first
            | (have hz0 : bv0 20 k = 0 := hz.mp c53
               have h := ih (k + 1) bv none (Or.inl rfl) (by omega) fr (by intro i hi; rw [kK_n hz0] at hi ⊢; exact hp i hi)
               rw [kK_n hz0, flX_n hz0] at h
               exact h)
            | (have hz0 : bv0 20 k = 0 := hz.mp c53
               have h := ih (k + 1) bv (some (.int y7)) (Or.inr ⟨_, rfl⟩) (by omega) fr (by intro i hi; rw [kK_n hz0] at hi ⊢; exact hp i hi)
               rw [kK_n hz0, flX_n hz0] at h
               exact h)
            | (have hz0 : ¬ bv0 20 k = 0 := fun w => c53 (hz.mpr w)
               have FB : frA bv0 b2 [23] := frA_tr (frA_tr (S := [23]) (frA_tr (S := [23]) fr (frA_up (frA_up (frA_rfl _ [23]) (by decide)) (by decide)) (by decide) (by decide)) f1 (by decide) (by decide)) f2 (by decide) (by decide)
               have hpg := hstep b2 FB hz0 (fun j hj => by rw [z2 j (by omega), z1 j (by omega), ua_s, ui_n (by omega), ua_s, ui_n (by omega)]) (by rw [z2 _ (by omega), z1 _ (by omega), ua_s, ui_n (by omega), ua_s, ui_s]; exact bS_bt _) (by rw [z2 _ (by omega), z1 _ (by omega), ua_s, ui_s, i8_of]; exact bS_bt _) (fun j hj => ⟨by rw [z2 _ (by omega)]; exact a1 j hj, a2 j hj⟩)
               have h := ih (k + 1) b2 (some (.int (nI (16 + 10 * (kK (bv0 20) k).length)))) (Or.inr ⟨_, rfl⟩) (by omega) FB hpg
               rw [kK_s hz0, flX_s hz0, List.length_append] at h
               exact h)
set_option maxRecDepth 20000 in
theorem sm_writeTable (hr : 512 ≤ rm ∧ rm ≤ 4096) {s : dS} {us : List tB} {pa tk : List Nat} {m : mP} {l nxt : Nat} (hd : dM rm jv bv s) (hdn : s.2.2.2.2.2 = false) (hc : cp s 1 1216) (hl : l < 3) (hu : uM jv bv us) (hpa : pA bv pa) (h12 : ∀ t ∈ us, t.1 < 12) (htk : ∀ q, q < 12 → (q ∈ tk ↔ q ∈ pa ∨ q ∈ pls us)) (hnew : lf tk ∉ tk) (hw : wN bv m) (h17 : jv 17 = nI nxt) (hnx : nxt < 2 ^ 30 - 10) (hQ : ∀ jv' bv', oM rm jv bv jv' bv' (wr s (tabW rm (lf tk, l, nxt, m))) [0, 1, 2, 17] [2, 4, 5, 6, 7, 8, 23] → ((wr s (tabW rm (lf tk, l, nxt, m))).2.2.2.2.2 = false → jv' 17 = nI (nxt + 1)) → Q (some (.int (nI (lf tk)))) (wX rm iv av (wM rm jv' bv'))) : rx_R Lx xs (d + 5) 112 [.ref 54, .int (nI l)] (wX rm iv av (wM rm jv bv)) Q := by
  refine pz_en (t := rt_112) ⟨Nat.le_of_ble_eq_true rfl, rfl⟩ rfl rfl ?_
  have hr' : 0 < rm ∧ rm ≤ 4096 := ⟨by omega, hr.2⟩
  have hlt := lf_lt tk
  have hkl := kS_len m
  have hX : eX 0 (fun _ => nI (kS m).length) (fun r => if r = 10 then bv 20 else if r = 11 then bv 21 else bv 22) m := ⟨hw.1, rfl, fun k hk => hw.2 k hk⟩
  have hkk : kK (bv 20) 120 = kS m := kK_kS hX
  have htl : (tabB l m nxt).length = 16 + 10 * (kS m).length := tabB_len l m nxt
  refine pz_ic (i := 0) rfl ?_
  refine pz_isn (i := 1) rfl ⟨rfl, Nat.le_of_ble_eq_true rfl⟩ rfl ?_
  refine pz_ic (i := 2) rfl ?_
  refine pz_isn (i := 3) rfl ⟨rfl, Nat.le_of_ble_eq_true rfl⟩ rfl ?_
  refine lq_pl hu hpa h12 htk hnew (fun x4 hx4 => ?_) (lf tk) 0 1 none (by decide) (Or.inl rfl) (Nat.zero_add _)
  obtain ⟨y4, rfl⟩ := hx4
  refine pz_ic (i := 40) rfl ?_
  refine pz_is (i := 41) rfl ⟨rfl, Nat.le_of_ble_eq_true rfl⟩ rfl ?_
  refine pz_ic (i := 42) rfl ?_
  refine pz_is (i := 43) rfl ⟨rfl, Nat.le_of_ble_eq_true rfl⟩ rfl ?_
  refine pz_ic (i := 44) rfl ?_
  refine pz_is (i := 45) rfl ⟨rfl, Nat.le_of_ble_eq_true rfl⟩ rfl ?_
  refine lq_en hw (fun b0 x7 hx7 F0 hp0 => ?_) 120 0 bv none (Or.inl rfl) rfl (frA_rfl _ _) (fun i hi => absurd hi (Nat.not_lt_zero i))
  have hkk2 : (kK (bv 20) 120).length = (kS m).length := by rw [hkk]
  rw [hkk2]
  rcases hx7 with rfl | ⟨y7, rfl⟩
  · refine pz_aln (i := 103) rfl rfl ?_
    refine pz_get (i := 104) rfl (gf_54_45 ..) ?_
    refine pz_ic (i := 105) rfl ?_
    refine pz_bi (i := 106) rfl ?_
    refine pz_bas (i := 107) rfl (ga_78 ..) rfl (in_ofI (a := 0) (n := 1300) (by decide)) (pa_78 ..) ?_
    rw [show (0 : Int32).toNatClampNeg = 0 from rfl]
    refine pz_aln (i := 108) rfl rfl ?_
    refine pz_get (i := 109) rfl (gf_54_45 ..) ?_
    refine pz_ic (i := 110) rfl ?_
    refine pz_iln (i := 111) rfl rfl ?_
    refine pz_i2b (i := 112) rfl ?_
    rw [i8_of, show (nI l).toBitVec.toNat % 256 = l from by have := uN_nI (n := l) (by omega); unfold uN at this; rw [this]; omega]
    refine pz_bas (i := 113) rfl (ga_78 ..) rfl (in_ofI (a := 1) (n := 1300) (by decide)) (pa_78 ..) ?_
    rw [show (1 : Int32).toNatClampNeg = 1 from rfl]
    refine pz_aln (i := 114) rfl rfl ?_
    refine pz_get (i := 115) rfl (gf_54_45 ..) ?_
    refine pz_ic (i := 116) rfl ?_
    refine pz_il (i := 117) rfl rfl ?_
    refine pz_i2b (i := 118) rfl ?_
    rw [i8_of, show (nI (kS m).length).toBitVec.toNat % 256 = (kS m).length from by have := uN_nI (n := (kS m).length) (by omega); unfold uN at this; rw [this]; omega]
    refine pz_bas (i := 119) rfl (ga_78 ..) rfl (in_ofI (a := 2) (n := 1300) (by decide)) (pa_78 ..) ?_
    rw [show (2 : Int32).toNatClampNeg = 2 from rfl]
    refine pz_aln (i := 120) rfl rfl ?_
    refine pz_get (i := 121) rfl (gf_54_45 ..) ?_
    refine pz_ic (i := 122) rfl ?_
    refine pz_ic (i := 123) rfl ?_
    refine pz_bas (i := 124) rfl (ga_78 ..) rfl (in_ofI (a := 3) (n := 1300) (by decide)) (pa_78 ..) ?_
    rw [show (3 : Int32).toNatClampNeg = 3 from rfl]
    refine pz_aln (i := 125) rfl rfl ?_
    refine pz_ic (i := 126) rfl ?_
    refine pz_aln (i := 127) rfl rfl ?_
    refine pz_get (i := 128) rfl (gf_54_33 ..) ?_
    rw [h17]
    refine pz_cV2 (i := 129) rfl (gc_54 ..) rfl (Nat.le_of_ble_eq_true rfl) rfl ?_
    refine sm_put4 (q := 4) (by decide) (fun b1 f1 a1 z1 => ?_)
    refine ⟨rfl, ?_⟩
    refine pz_aln (i := 130) rfl rfl ?_
    refine pz_bi (i := 131) rfl ?_
    refine pz_il (i := 132) rfl rfl ?_
    refine pz_cV2 (i := 133) rfl (gc_54 ..) rfl (Nat.le_of_ble_eq_true rfl) rfl ?_
    refine sm_put4 (q := 8) (by decide) (fun b2 f2 a2 z2 => ?_)
    refine ⟨rfl, ?_⟩
    refine pz_aln (i := 134) rfl rfl ?_
    refine pz_bi (i := 135) rfl ?_
    refine pz_aln (i := 136) rfl rfl ?_
    refine pz_get (i := 137) rfl (gf_54_33 ..) ?_
    rw [h17]
    refine pz_cV2 (i := 138) rfl (gc_54 ..) rfl (Nat.le_of_ble_eq_true rfl) rfl ?_
    refine sm_put4 (q := 12) (by decide) (fun b3 f3 a3 z3 => ?_)
    refine ⟨rfl, ?_⟩
    refine pz_aln (i := 139) rfl rfl ?_
    refine pz_dup (i := 140) rfl rfl ?_
    refine pz_get (i := 141) rfl (gf_54_33 ..) ?_
    rw [h17]
    refine pz_ic (i := 142) rfl ?_
    refine pz_add (i := 143) rfl ?_
    rw [show nI nxt + 1 = nI (nxt + 1) from nI_add _ 1]
    refine pz_put (i := 144) rfl (pf_54_33 ..) ⟨rfl, rfl⟩ ?_
    refine pz_aln (i := 145) rfl rfl ?_
    refine pz_ic (i := 146) rfl ?_
    refine pz_iln (i := 147) rfl rfl ?_
    refine pz_si (i := 148) rfl ?_
    refine pz_mul (i := 149) rfl ?_
    rw [show nI (lf tk) * 1300 = nI (lf tk * 1300) from pk_mul _ 1300]
    refine pz_bi (i := 150) rfl ?_
    refine pz_bi (i := 151) rfl ?_
    refine pz_il (i := 152) rfl rfl ?_
    refine pz_mul (i := 153) rfl ?_
    rw [show (10 : Int32) * nI (kS m).length = nI (10 * (kS m).length) from pk_mul 10 _]
    refine pz_add (i := 154) rfl ?_
    rw [show (16 : Int32) + nI (10 * (kS m).length) = nI (16 + 10 * (kS m).length) from nI_add 16 _, ← htl]
    refine pz_cV3 (i := 155) rfl (gc_54 ..) rfl (Nat.le_of_ble_eq_true rfl) rfl ?_
    have FB : frA bv b3 [23] := frA_tr (frA_tr (S := [23]) (frA_tr (S := [23]) (frA_tr (S := [23]) F0 (frA_up (frA_up (frA_up (frA_up (frA_rfl _ [23]) (by decide)) (by decide)) (by decide)) (by decide)) (by decide) (by decide)) f1 (by decide) (by decide)) f2 (by decide) (by decide)) f3 (by decide) (by decide)
    have hhi : ∀ j, 16 ≤ j → b3 23 j = b0 23 j := fun j hj => by
      rw [z3 j (by omega), z2 j (by omega), z1 j (by omega), ua_s, ui_n (by omega), ua_s, ui_n (by omega), ua_s, ui_n (by omega), ua_s, ui_n (by omega)]
    have hpg : pgT (b3 23) (nI l) (nI (kS m).length) (nI nxt) (bv 20) (bv 21) (bv 22) := by
      refine ⟨?_, ?_, ?_, ?_, fun j hj => ⟨?_, ?_, a3 j hj⟩, fun i hi => ?_⟩
      · rw [z3 0 (by decide), z2 0 (by decide), z1 0 (by decide), ua_s, ui_n (by decide), ua_s, ui_n (by decide), ua_s, ui_n (by decide), ua_s, ui_s]
        rfl
      · rw [z3 1 (by decide), z2 1 (by decide), z1 1 (by decide), ua_s, ui_n (by decide), ua_s, ui_n (by decide), ua_s, ui_s, i8_of, show (nI l).toBitVec.toNat % 256 = l from by have := uN_nI (n := l) (by omega); unfold uN at this; rw [this]; omega]
        exact bS_bt _
      · rw [z3 2 (by decide), z2 2 (by decide), z1 2 (by decide), ua_s, ui_n (by decide), ua_s, ui_s, i8_of, show (nI (kS m).length).toBitVec.toNat % 256 = (kS m).length from by have := uN_nI (n := (kS m).length) (by omega); unfold uN at this; rw [this]; omega]
        exact bS_bt _
      · rw [z3 3 (by decide), z2 3 (by decide), z1 3 (by decide), ua_s, ui_s]
        rfl
      · rw [z3 _ (by omega), z2 _ (by omega)]
        exact a1 j hj
      · rw [z3 _ (by omega)]
        exact a2 j hj
      · obtain ⟨g0, g1, g2⟩ := hp0 i hi
        refine ⟨by rw [hhi _ (by omega)]; exact g0, by rw [hhi _ (by omega)]; exact g1, fun j hj => ?_⟩
        rw [hhi _ (by omega), hhi _ (by omega)]
        exact g2 j hj
    have hbuf : ∀ k, k < (tabB l m nxt).length → b3 23 k = lB (tabB l m nxt) k := fun k hk => tabB_get hX (by omega) hpg k (by omega)
    have g0 : frI jv (upd jv 17 (nI (nxt + 1))) [17] := frI_up (frI_rfl _ _) (by decide)
    refine sm_wrL hr' (dM_fr hd g0 FB (by decide) (by decide)) hdn (a := 1) (q := lf tk * 1300) (c := rm + lf tk * 1300) (l := tabB l m nxt) (by decide) (by omega) (by omega) (by omega) (Or.inr (Or.inl ⟨rfl, by omega⟩)) (pl_1 (by omega)) hbuf (cp_le hc (Nat.le_refl _) (by omega)) (fun jv5 bv5 o5 => ?_)
    have O5 : oM rm jv bv jv5 bv5 (wr s (tabW rm (lf tk, l, nxt, m))) [0, 1, 2, 17] [2, 4, 5, 6, 7, 8, 23] := oM_tr g0 FB o5 (by decide) (by decide) (by decide) (by decide) (by decide) (by decide)
    refine ⟨rfl, ?_⟩
    refine pz_iln (i := 156) rfl rfl ?_
    refine pz_ir (i := 157) rfl rfl rfl ?_
    exact hQ jv5 bv5 O5 (fun w => ((o5.1 w).2.1 17 (by decide)).trans (ui_s _ _ _))
  · refine pz_aln (i := 103) rfl rfl ?_
    refine pz_get (i := 104) rfl (gf_54_45 ..) ?_
    refine pz_ic (i := 105) rfl ?_
    refine pz_bi (i := 106) rfl ?_
    refine pz_bas (i := 107) rfl (ga_78 ..) rfl (in_ofI (a := 0) (n := 1300) (by decide)) (pa_78 ..) ?_
    rw [show (0 : Int32).toNatClampNeg = 0 from rfl]
    refine pz_aln (i := 108) rfl rfl ?_
    refine pz_get (i := 109) rfl (gf_54_45 ..) ?_
    refine pz_ic (i := 110) rfl ?_
    refine pz_iln (i := 111) rfl rfl ?_
    refine pz_i2b (i := 112) rfl ?_
    rw [i8_of, show (nI l).toBitVec.toNat % 256 = l from by have := uN_nI (n := l) (by omega); unfold uN at this; rw [this]; omega]
    refine pz_bas (i := 113) rfl (ga_78 ..) rfl (in_ofI (a := 1) (n := 1300) (by decide)) (pa_78 ..) ?_
    rw [show (1 : Int32).toNatClampNeg = 1 from rfl]
    refine pz_aln (i := 114) rfl rfl ?_
    refine pz_get (i := 115) rfl (gf_54_45 ..) ?_
    refine pz_ic (i := 116) rfl ?_
    refine pz_il (i := 117) rfl rfl ?_
    refine pz_i2b (i := 118) rfl ?_
    rw [i8_of, show (nI (kS m).length).toBitVec.toNat % 256 = (kS m).length from by have := uN_nI (n := (kS m).length) (by omega); unfold uN at this; rw [this]; omega]
    refine pz_bas (i := 119) rfl (ga_78 ..) rfl (in_ofI (a := 2) (n := 1300) (by decide)) (pa_78 ..) ?_
    rw [show (2 : Int32).toNatClampNeg = 2 from rfl]
    refine pz_aln (i := 120) rfl rfl ?_
    refine pz_get (i := 121) rfl (gf_54_45 ..) ?_
    refine pz_ic (i := 122) rfl ?_
    refine pz_ic (i := 123) rfl ?_
    refine pz_bas (i := 124) rfl (ga_78 ..) rfl (in_ofI (a := 3) (n := 1300) (by decide)) (pa_78 ..) ?_
    rw [show (3 : Int32).toNatClampNeg = 3 from rfl]
    refine pz_aln (i := 125) rfl rfl ?_
    refine pz_ic (i := 126) rfl ?_
    refine pz_aln (i := 127) rfl rfl ?_
    refine pz_get (i := 128) rfl (gf_54_33 ..) ?_
    rw [h17]
    refine pz_cV2 (i := 129) rfl (gc_54 ..) rfl (Nat.le_of_ble_eq_true rfl) rfl ?_
    refine sm_put4 (q := 4) (by decide) (fun b1 f1 a1 z1 => ?_)
    refine ⟨rfl, ?_⟩
    refine pz_aln (i := 130) rfl rfl ?_
    refine pz_bi (i := 131) rfl ?_
    refine pz_il (i := 132) rfl rfl ?_
    refine pz_cV2 (i := 133) rfl (gc_54 ..) rfl (Nat.le_of_ble_eq_true rfl) rfl ?_
    refine sm_put4 (q := 8) (by decide) (fun b2 f2 a2 z2 => ?_)
    refine ⟨rfl, ?_⟩
    refine pz_aln (i := 134) rfl rfl ?_
    refine pz_bi (i := 135) rfl ?_
    refine pz_aln (i := 136) rfl rfl ?_
    refine pz_get (i := 137) rfl (gf_54_33 ..) ?_
    rw [h17]
    refine pz_cV2 (i := 138) rfl (gc_54 ..) rfl (Nat.le_of_ble_eq_true rfl) rfl ?_
    refine sm_put4 (q := 12) (by decide) (fun b3 f3 a3 z3 => ?_)
    refine ⟨rfl, ?_⟩
    refine pz_aln (i := 139) rfl rfl ?_
    refine pz_dup (i := 140) rfl rfl ?_
    refine pz_get (i := 141) rfl (gf_54_33 ..) ?_
    rw [h17]
    refine pz_ic (i := 142) rfl ?_
    refine pz_add (i := 143) rfl ?_
    rw [show nI nxt + 1 = nI (nxt + 1) from nI_add _ 1]
    refine pz_put (i := 144) rfl (pf_54_33 ..) ⟨rfl, rfl⟩ ?_
    refine pz_aln (i := 145) rfl rfl ?_
    refine pz_ic (i := 146) rfl ?_
    refine pz_iln (i := 147) rfl rfl ?_
    refine pz_si (i := 148) rfl ?_
    refine pz_mul (i := 149) rfl ?_
    rw [show nI (lf tk) * 1300 = nI (lf tk * 1300) from pk_mul _ 1300]
    refine pz_bi (i := 150) rfl ?_
    refine pz_bi (i := 151) rfl ?_
    refine pz_il (i := 152) rfl rfl ?_
    refine pz_mul (i := 153) rfl ?_
    rw [show (10 : Int32) * nI (kS m).length = nI (10 * (kS m).length) from pk_mul 10 _]
    refine pz_add (i := 154) rfl ?_
    rw [show (16 : Int32) + nI (10 * (kS m).length) = nI (16 + 10 * (kS m).length) from nI_add 16 _, ← htl]
    refine pz_cV3 (i := 155) rfl (gc_54 ..) rfl (Nat.le_of_ble_eq_true rfl) rfl ?_
    have FB : frA bv b3 [23] := frA_tr (frA_tr (S := [23]) (frA_tr (S := [23]) (frA_tr (S := [23]) F0 (frA_up (frA_up (frA_up (frA_up (frA_rfl _ [23]) (by decide)) (by decide)) (by decide)) (by decide)) (by decide) (by decide)) f1 (by decide) (by decide)) f2 (by decide) (by decide)) f3 (by decide) (by decide)
    have hhi : ∀ j, 16 ≤ j → b3 23 j = b0 23 j := fun j hj => by
      rw [z3 j (by omega), z2 j (by omega), z1 j (by omega), ua_s, ui_n (by omega), ua_s, ui_n (by omega), ua_s, ui_n (by omega), ua_s, ui_n (by omega)]
    have hpg : pgT (b3 23) (nI l) (nI (kS m).length) (nI nxt) (bv 20) (bv 21) (bv 22) := by
      refine ⟨?_, ?_, ?_, ?_, fun j hj => ⟨?_, ?_, a3 j hj⟩, fun i hi => ?_⟩
      · rw [z3 0 (by decide), z2 0 (by decide), z1 0 (by decide), ua_s, ui_n (by decide), ua_s, ui_n (by decide), ua_s, ui_n (by decide), ua_s, ui_s]
        rfl
      · rw [z3 1 (by decide), z2 1 (by decide), z1 1 (by decide), ua_s, ui_n (by decide), ua_s, ui_n (by decide), ua_s, ui_s, i8_of, show (nI l).toBitVec.toNat % 256 = l from by have := uN_nI (n := l) (by omega); unfold uN at this; rw [this]; omega]
        exact bS_bt _
      · rw [z3 2 (by decide), z2 2 (by decide), z1 2 (by decide), ua_s, ui_n (by decide), ua_s, ui_s, i8_of, show (nI (kS m).length).toBitVec.toNat % 256 = (kS m).length from by have := uN_nI (n := (kS m).length) (by omega); unfold uN at this; rw [this]; omega]
        exact bS_bt _
      · rw [z3 3 (by decide), z2 3 (by decide), z1 3 (by decide), ua_s, ui_s]
        rfl
      · rw [z3 _ (by omega), z2 _ (by omega)]
        exact a1 j hj
      · rw [z3 _ (by omega)]
        exact a2 j hj
      · obtain ⟨g0, g1, g2⟩ := hp0 i hi
        refine ⟨by rw [hhi _ (by omega)]; exact g0, by rw [hhi _ (by omega)]; exact g1, fun j hj => ?_⟩
        rw [hhi _ (by omega), hhi _ (by omega)]
        exact g2 j hj
    have hbuf : ∀ k, k < (tabB l m nxt).length → b3 23 k = lB (tabB l m nxt) k := fun k hk => tabB_get hX (by omega) hpg k (by omega)
    have g0 : frI jv (upd jv 17 (nI (nxt + 1))) [17] := frI_up (frI_rfl _ _) (by decide)
    refine sm_wrL hr' (dM_fr hd g0 FB (by decide) (by decide)) hdn (a := 1) (q := lf tk * 1300) (c := rm + lf tk * 1300) (l := tabB l m nxt) (by decide) (by omega) (by omega) (by omega) (Or.inr (Or.inl ⟨rfl, by omega⟩)) (pl_1 (by omega)) hbuf (cp_le hc (Nat.le_refl _) (by omega)) (fun jv5 bv5 o5 => ?_)
    have O5 : oM rm jv bv jv5 bv5 (wr s (tabW rm (lf tk, l, nxt, m))) [0, 1, 2, 17] [2, 4, 5, 6, 7, 8, 23] := oM_tr g0 FB o5 (by decide) (by decide) (by decide) (by decide) (by decide) (by decide)
    refine ⟨rfl, ?_⟩
    refine pz_iln (i := 156) rfl rfl ?_
    refine pz_ir (i := 157) rfl rfl rfl ?_
    exact hQ jv5 bv5 O5 (fun w => ((o5.1 w).2.1 17 (by decide)).trans (ui_s _ _ _))
end SB4
