/-! PART 79: View.gatherAll, Disk.sameValue, Batch.add, Disk.cellOf -/
/-- all entries: memory's over the tables', for the first k keys -/
def gaK (mem : mP) (us : List tB) (k : Nat) : mP := fun j => if j < k then ent mem us j else fnd us j
theorem gaK_keep {mem : mP} {us : List tB} {k : Nat} (h : mem k = none) : gaK mem us (k + 1) = gaK mem us k := by
  funext j
  unfold gaK
  by_cases hj : j < k
  · rw [if_pos hj, if_pos (by omega)]
  · rw [if_neg hj]
    by_cases hk : j = k
    · subst hk
      rw [if_pos (by omega)]
      unfold ent
      rw [h]
    · rw [if_neg (by omega)]
theorem gaK_up {mem : mP} {us : List tB} {k : Nat} {x : eN} (h : mem k = some x) : gaK mem us (k + 1) = upM (gaK mem us k) k x := by
  funext j
  show (if j < k + 1 then ent mem us j else fnd us j) = (if j = k then some x else (if j < k then ent mem us j else fnd us j))
  by_cases hk : j = k
  · subst hk
    rw [if_pos (by omega), if_pos rfl]
    unfold ent
    rw [h]
  · rw [if_neg hk]
    by_cases hj : j < k
    · rw [if_pos hj, if_pos (by omega)]
    · rw [if_neg hj, if_neg (by omega)]
theorem gaK_all {mem : mP} {us : List tB} (hm : mOK mem) : gaK mem us 120 = fun k => ent mem us k := by
  funext j
  unfold gaK
  by_cases hj : j < 120
  · rw [if_pos hj]
  · rw [if_neg hj]
    unfold ent
    rw [hm.1 j (by omega)]
section S79
variable {Lx : Nat} {xs : Nat → Int32} {d rm : Nat} {r : pW} {Q : rQ}
set_option maxRecDepth 20000 in
theorem lp_ga {v e : Nat} (hv : v < 2) (he : e < 5) (hne : e ≠ 2 * v) {iv0 : Nat → Int32} {av0 : Nat → Nat → Int32} {mem : mP} {us : List tB} (hmem : eX (2 * v) iv0 av0 mem) (hQ : ∀ iv av, eX e iv av (fun k => ent mem us k) → frI iv0 iv [30 + e] → frA av0 av [10 + 3 * e + 0, 10 + 3 * e + 1, 10 + 3 * e + 2] → Q none (wX rm iv av r)) :
    ∀ (m k : Nat) (iv : Nat → Int32) (av : Nat → Nat → Int32), k ≤ 120 → 120 ≤ k + m → eX e iv av (gaK mem us k) → frI iv0 iv [30 + e] → frA av0 av [10 + 3 * e + 0, 10 + 3 * e + 1, 10 + 3 * e + 2] → pz Lx xs (d + 2) rt_54 none Q 7 [some (.ref (oV v)), some (.ref (oE e)), some (.int (nI k))] [] (wX rm iv av r) := by
  have hdone : ∀ (k : Nat) (iv : Nat → Int32) (av : Nat → Nat → Int32), k = 120 → eX e iv av (gaK mem us k) → frI iv0 iv [30 + e] → frA av0 av [10 + 3 * e + 0, 10 + 3 * e + 1, 10 + 3 * e + 2] → pz Lx xs (d + 2) rt_54 none Q 7 [some (.ref (oV v)), some (.ref (oE e)), some (.int (nI k))] [] (wX rm iv av r) := by
    intro k iv av hk hx f1 f2
    subst hk
    rw [gaK_all hmem.1] at hx
    refine pz_iln (i := 7) rfl rfl ?_
    refine pz_bi (i := 8) rfl ?_
    refine pz_ii_ge (i := 9) rfl (fun c9 => ?_) (fun c9 => ?_)
    · refine pz_vr (i := 36) rfl rfl ?_
      exact hQ iv av hx f1 f2
    · exact absurd (Int32.le_refl _) c9
  intro m
  induction m with
  | zero =>
    intro k iv av hk hm hx f1 f2
    exact hdone k iv av (by omega) hx f1 f2
  | succ m ih =>
    intro k iv av hk hm hx f1 f2
    by_cases hkn : k = 120
    · exact hdone k iv av hkn hx f1 f2
    have hk1 : k < 120 := by omega
    have E0 : av (10 + 3 * (2 * v) + 0) = av0 (10 + 3 * (2 * v) + 0) := f2 _ (by simp only [List.mem_cons, List.not_mem_nil, or_false, not_or]; omega)
    have E1 : av (10 + 3 * (2 * v) + 1) = av0 (10 + 3 * (2 * v) + 1) := f2 _ (by simp only [List.mem_cons, List.not_mem_nil, or_false, not_or]; omega)
    have E2 : av (10 + 3 * (2 * v) + 2) = av0 (10 + 3 * (2 * v) + 2) := f2 _ (by simp only [List.mem_cons, List.not_mem_nil, or_false, not_or]; omega)
    have he2 : 2 * v < 5 := by omega
    refine pz_iln (i := 7) rfl rfl ?_
    refine pz_bi (i := 8) rfl ?_
    refine pz_ii_ge (i := 9) rfl (fun c9 => ?_) (fun c9 => ?_)
    · exact absurd (le_ofI (a := 120) c9) (by omega)
    · refine pz_aln (i := 10) rfl rfl ?_
      refine pz_get (i := 11) rfl (gV_1 hv ..) ?_
      refine pz_get (i := 12) rfl (gE_0 (by omega) ..) ?_
      refine pz_iln (i := 13) rfl rfl ?_
      refine pz_ial (i := 14) rfl (gEa_0 (by omega) ..) (in_ofI hk1) ?_
      rw [cl_ofI (a := k), E0]
      refine pz_if_eq (i := 15) rfl (fun c15 => ?_) (fun c15 => ?_)
      · refine pz_inc (i := 34) rfl rfl rfl rfl ?_
        refine pz_go (i := 35) rfl ?_
        rw [nI_1]
        first
          | (refine ih (k + 1) _ _ (by omega) (by omega) ?_ (frI_tr f1 se_fi (fun _ h => h) (fun _ h => h)) (frA_tr f2 se_fr (fun _ h => h) (fun _ h => h))
             rw [gaK_up hx2]
             exact eX_set hx hk1 ho)
          | (refine ih (k + 1) iv av (by omega) (by omega) ?_ f1 f2
             rw [gaK_keep ((eX_zero hmem hk1).mp c15)]
             exact hx)
      · obtain ⟨x, hx2⟩ : ∃ x, mem k = some x := by
          cases hm2 : mem k with
          | none => exact absurd (eX_none hmem hk1 hm2) c15
          | some x => exact ⟨x, rfl⟩
        obtain ⟨w1, w2, w3⟩ := eX_some hmem hk1 hx2
        have ho := hmem.1.2 k x hx2
        refine pz_aln (i := 16) rfl rfl ?_
        refine pz_iln (i := 17) rfl rfl ?_
        refine pz_aln (i := 18) rfl rfl ?_
        refine pz_get (i := 19) rfl (gV_1 hv ..) ?_
        refine pz_get (i := 20) rfl (gE_0 (by omega) ..) ?_
        refine pz_iln (i := 21) rfl rfl ?_
        refine pz_ial (i := 22) rfl (gEa_0 (by omega) ..) (in_ofI hk1) ?_
        rw [cl_ofI (a := k), E0, w1]
        refine pz_aln (i := 23) rfl rfl ?_
        refine pz_get (i := 24) rfl (gV_1 hv ..) ?_
        refine pz_get (i := 25) rfl (gE_1 (by omega) ..) ?_
        refine pz_iln (i := 26) rfl rfl ?_
        refine pz_ial (i := 27) rfl (gEa_1 (by omega) ..) (in_ofI hk1) ?_
        rw [cl_ofI (a := k), E1, w2]
        refine pz_aln (i := 28) rfl rfl ?_
        refine pz_get (i := 29) rfl (gV_1 hv ..) ?_
        refine pz_get (i := 30) rfl (gE_2 (by omega) ..) ?_
        refine pz_iln (i := 31) rfl rfl ?_
        refine pz_ial (i := 32) rfl (gEa_2 (by omega) ..) (in_ofI hk1) ?_
        rw [cl_ofI (a := k), E2, w3]
        refine pz_cV4 (i := 33) rfl (gE_c he ..) rfl (Nat.le_of_ble_eq_true rfl) rfl ?_
        refine sx_Eset he hk1 ?_
        refine ⟨rfl, ?_⟩
        refine pz_inc (i := 34) rfl rfl rfl rfl ?_
        refine pz_go (i := 35) rfl ?_
        rw [nI_1]
        first
          | (refine ih (k + 1) _ _ (by omega) (by omega) ?_ (frI_tr f1 se_fi (fun _ h => h) (fun _ h => h)) (frA_tr f2 se_fr (fun _ h => h) (fun _ h => h))
             rw [gaK_up hx2]
             exact eX_set hx hk1 ho)
          | (refine ih (k + 1) iv av (by omega) (by omega) ?_ f1 f2
             rw [gaK_keep ((eX_zero hmem hk1).mp c15)]
             exact hx)
set_option maxRecDepth 20000 in
theorem sx_gatherAll (hr : 0 < rm ∧ rm ≤ 4096) {v e : Nat} {iv : Nat → Int32} {av : Nat → Nat → Int32} (hv : v < 2) (he : e < 5) (hne : e ≠ 2 * v) {us : List tB} {mem : mP} (hvT : vT v iv av us) (htE : ∀ t ∈ us, tE rm (av 0) t) (hmem : eX (2 * v) iv av mem)
    (hQ : ∀ iv' av', eX e iv' av' (fun k => ent mem us k) → frI iv iv' [30 + e] → frA av av' [10 + 3 * e + 0, 10 + 3 * e + 1, 10 + 3 * e + 2] → Q none (wX rm iv' av' r)) : rx_R Lx xs (d + 4) 54 [.ref (oV v), .ref (oE e)] (wX rm iv av r) Q := by
  refine pz_en (t := rt_54) ⟨Nat.le_of_ble_eq_true rfl, rfl⟩ rfl rfl ?_
  refine pz_aln (i := 0) rfl rfl ?_
  refine pz_aln (i := 1) rfl rfl ?_
  refine pz_get (i := 2) rfl (gV_3 hv ..) ?_
  rw [hvT.1]
  refine pz_aln (i := 3) rfl rfl ?_
  refine pz_cV2 (i := 4) rfl (gV_c hv ..) rfl (Nat.le_of_ble_eq_true rfl) rfl ?_
  refine sx_gatherTables hr hv he hvT htE (Nat.le_refl _) (fun iv1 av1 hx1 f1 f2 => ?_)
  rw [List.take_length] at hx1
  refine ⟨rfl, ?_⟩
  refine pz_ic (i := 5) rfl ?_
  refine pz_isn (i := 6) rfl ⟨rfl, Nat.le_of_ble_eq_true rfl⟩ rfl ?_
  refine lp_ga (d := d + 1) hv he hne (iv0 := iv1) (av0 := av1) (mem := mem) (us := us) (eX_ext hmem (f1 _ (by simp only [List.mem_cons, List.not_mem_nil, or_false]; omega)) (f2 _ (by simp only [List.mem_cons, List.not_mem_nil, or_false, not_or]; omega)) (f2 _ (by simp only [List.mem_cons, List.not_mem_nil, or_false, not_or]; omega)) (f2 _ (by simp only [List.mem_cons, List.not_mem_nil, or_false, not_or]; omega))) (fun iv2 av2 k1 k2 k3 => hQ iv2 av2 k1 (frI_tr f1 k2 (fun _ h => h) (fun _ h => h)) (frA_tr f2 k3 (fun _ h => h) (fun _ h => h))) 120 0 iv1 av1 (by omega) (by omega) ?_ (frI_rfl _ _) (frA_rfl _ _)
  have : gaK mem us 0 = fun k => fnd us k := by
    funext j
    exact if_neg (by omega)
  rw [this]
  exact hx1
set_option maxRecDepth 20000 in
theorem lp_same (hr : 0 < rm ∧ rm ≤ 4096) {q z : Nat} {iv : Nat → Int32} {av : Nat → Nat → Int32} (hq : q < 2 ^ 30) (hz : z < 300) (hQ : Q (some (.int 1)) (wX rm iv av r)) : ∀ (m k : Nat), k ≤ z → z ≤ k + m → pz Lx xs (d + 2) rt_15 (some .boolean) Q 15 [some (.ref 2), some (.int (nI q)), some (.int (nI q)), some (.int (nI z)), some (.int 1), some (.int (nI k))] [] (wX rm iv av r) := by
  have hdone : ∀ k, k = z → pz Lx xs (d + 2) rt_15 (some .boolean) Q 15 [some (.ref 2), some (.int (nI q)), some (.int (nI q)), some (.int (nI z)), some (.int 1), some (.int (nI k))] [] (wX rm iv av r) := by
    intro k hk
    subst hk
    refine pz_il (i := 15) rfl rfl ?_
    refine pz_if_eq (i := 16) rfl (fun c16 => ?_) (fun c16 => ?_)
    · exact absurd c16 (by decide)
    · refine pz_il (i := 17) rfl rfl ?_
      refine pz_iln (i := 18) rfl rfl ?_
      refine pz_ii_ge (i := 19) rfl (fun c19 => ?_) (fun c19 => ?_)
      · refine pz_il (i := 37) rfl rfl ?_
        refine pz_ir (i := 38) rfl rfl rfl ?_
        exact hQ
      · exact absurd (Int32.le_refl _) c19
  intro m
  induction m with
  | zero =>
    intro k hk hm
    exact hdone k (by omega)
  | succ m ih =>
    intro k hk hm
    by_cases hkn : k = z
    · exact hdone k hkn
    refine pz_il (i := 15) rfl rfl ?_
    refine pz_if_eq (i := 16) rfl (fun c16 => ?_) (fun c16 => ?_)
    · exact absurd c16 (by decide)
    · refine pz_il (i := 17) rfl rfl ?_
      refine pz_iln (i := 18) rfl rfl ?_
      refine pz_ii_ge (i := 19) rfl (fun c19 => ?_) (fun c19 => ?_)
      · exact absurd (le_ofI c19) (by omega)
      · refine pz_aln (i := 20) rfl rfl ?_
        refine pz_iln (i := 21) rfl rfl ?_
        refine pz_il (i := 22) rfl rfl ?_
        refine pz_add (i := 23) rfl ?_
        rw [nI_add]
        refine pz_cI1 (i := 24) rfl (gc_2 ..) rfl (Nat.le_of_ble_eq_true rfl) rfl ?_
        refine sx_logByte hr (by omega) ?_
        refine ⟨_, rfl, ?_⟩
        refine pz_aln (i := 25) rfl rfl ?_
        refine pz_iln (i := 26) rfl rfl ?_
        refine pz_il (i := 27) rfl rfl ?_
        refine pz_add (i := 28) rfl ?_
        rw [nI_add]
        refine pz_cI1 (i := 29) rfl (gc_2 ..) rfl (Nat.le_of_ble_eq_true rfl) rfl ?_
        refine sx_logByte hr (by omega) ?_
        refine ⟨_, rfl, ?_⟩
        refine pz_ii_ne (i := 30) rfl (fun c30 => ?_) (fun c30 => ?_)
        · exact absurd rfl c30
        · refine pz_ic (i := 31) rfl ?_
          refine pz_go (i := 32) rfl ?_
          refine pz_is (i := 34) rfl ⟨rfl, Nat.le_of_ble_eq_true rfl⟩ rfl ?_
          refine pz_inc (i := 35) rfl rfl rfl rfl ?_
          refine pz_go (i := 36) rfl ?_
          rw [nI_1]
          exact ih (k + 1) (by omega) (by omega)
set_option maxRecDepth 20000 in
theorem sx_sameSelf (hr : 0 < rm ∧ rm ≤ 4096) {q : Nat} {iv : Nat → Int32} {av : Nat → Nat → Int32} (hq : q < 2 ^ 30) (hQ : Q (some (.int 1)) (wX rm iv av r)) : rx_R Lx xs (d + 4) 15 [.ref 2, .int (nI q), .int (nI q)] (wX rm iv av r) Q := by
  refine pz_en (t := rt_15) ⟨Nat.le_of_ble_eq_true rfl, rfl⟩ rfl rfl ?_
  have hb := bN_lt (av 0) ((q + 2) % rm)
  refine pz_aln (i := 0) rfl rfl ?_
  refine pz_iln (i := 1) rfl rfl ?_
  refine pz_cI1 (i := 2) rfl (gc_2 ..) rfl (Nat.le_of_ble_eq_true rfl) rfl ?_
  refine sx_recordSize hr (by omega) ?_
  rw [bN_and, show (12 : Int32) + nI (bN (av 0) ((q + 2) % rm)) = nI (12 + bN (av 0) ((q + 2) % rm)) from nI_add 12 _]
  refine ⟨_, rfl, ?_⟩
  refine pz_isn (i := 3) rfl ⟨rfl, Nat.le_of_ble_eq_true rfl⟩ rfl ?_
  refine pz_iln (i := 4) rfl rfl ?_
  refine pz_aln (i := 5) rfl rfl ?_
  refine pz_iln (i := 6) rfl rfl ?_
  refine pz_cI1 (i := 7) rfl (gc_2 ..) rfl (Nat.le_of_ble_eq_true rfl) rfl ?_
  refine sx_recordSize hr (by omega) ?_
  rw [bN_and, show (12 : Int32) + nI (bN (av 0) ((q + 2) % rm)) = nI (12 + bN (av 0) ((q + 2) % rm)) from nI_add 12 _]
  refine ⟨_, rfl, ?_⟩
  refine pz_ii_ne (i := 8) rfl (fun c8 => ?_) (fun c8 => ?_)
  · exact absurd rfl c8
  · refine pz_ic (i := 9) rfl ?_
    refine pz_go (i := 10) rfl ?_
    refine pz_is (i := 12) rfl ⟨rfl, Nat.le_of_ble_eq_true rfl⟩ rfl ?_
    refine pz_bi (i := 13) rfl ?_
    refine pz_is (i := 14) rfl ⟨rfl, Nat.le_of_ble_eq_true rfl⟩ rfl ?_
    exact lp_same (d := d + 1) hr hq (by omega) hQ (bN (av 0) ((q + 2) % rm)) 12 (by omega) (by omega)
theorem gBr {rm i : Nat} {r : pW} (hi : i < 8) : ∀ iv av f, pt_a (wX rm iv av r) (41 + i + 1) (1, 64, .inl f) = wX rm iv (up_a av (32 + i) f) r := by
  intro iv av f
  have : i = 0 ∨ i = 1 ∨ i = 2 ∨ i = 3 ∨ i = 4 ∨ i = 5 ∨ i = 6 ∨ i = 7 := by omega
  rcases this with rfl | rfl | rfl | rfl | rfl | rfl | rfl | rfl <;> rfl
set_option maxRecDepth 20000 in
theorem lp_add {i : Nat} {val : List Nat} {y1 y2 : Int32} {iv : Nat → Int32} {av : Nat → Nat → Int32} (hi : i < 8) (h7 : iv 7 = nI i) (hl : val.length ≤ 64) (hv : ∀ k, k < val.length → av 40 k = lB val k) (hQ : ∀ av', frA av av' [32 + i] → (∀ k, k < val.length → av' (32 + i) k = lB val k) → Q none (wX rm (upd iv 7 (nI (i + 1))) av' r)) :
    ∀ (m k : Nat) (av1 : Nat → Nat → Int32), k ≤ val.length → val.length ≤ k + m → frA av av1 [32 + i] → (∀ j, j < k → av1 (32 + i) j = lB val j) → pz Lx xs d rt_1 none Q 32 [some (.ref 37), some (.int y1), some (.int y2), some (.ref 50), some (.int (nI val.length)), some (.int (nI k))] [] (wX rm iv av1 r) := by
  have hdone : ∀ (k : Nat) (av1 : Nat → Nat → Int32), k = val.length → frA av av1 [32 + i] → (∀ j, j < k → av1 (32 + i) j = lB val j) → pz Lx xs d rt_1 none Q 32 [some (.ref 37), some (.int y1), some (.int y2), some (.ref 50), some (.int (nI val.length)), some (.int (nI k))] [] (wX rm iv av1 r) := by
    intro k av1 hk hf h0
    subst hk
    refine pz_il (i := 32) rfl rfl ?_
    refine pz_il (i := 33) rfl rfl ?_
    refine pz_ii_ge (i := 34) rfl (fun c34 => ?_) (fun c34 => ?_)
    · refine pz_aln (i := 47) rfl rfl ?_
      refine pz_dup (i := 48) rfl rfl ?_
      refine pz_get (i := 49) rfl (gf_37_4 ..) ?_
      rw [h7]
      refine pz_ic (i := 50) rfl ?_
      refine pz_add (i := 51) rfl ?_
      rw [nI_1]
      refine pz_put (i := 52) rfl (pf_37_4 ..) ⟨rfl, rfl⟩ ?_
      refine pz_vr (i := 53) rfl rfl ?_
      exact hQ av1 hf h0
    · exact absurd (Int32.le_refl _) c34
  intro m
  induction m with
  | zero =>
    intro k av1 hk hm hf h0
    exact hdone k av1 (by omega) hf h0
  | succ m ih =>
    intro k av1 hk hm hf h0
    by_cases hkn : k = val.length
    · exact hdone k av1 hkn hf h0
    have e40 : av1 40 k = lB val k := by
      rw [hf 40 (by simp only [List.mem_cons, List.not_mem_nil, or_false]; omega)]
      exact hv k (by omega)
    refine pz_il (i := 32) rfl rfl ?_
    refine pz_il (i := 33) rfl rfl ?_
    refine pz_ii_ge (i := 34) rfl (fun c34 => ?_) (fun c34 => ?_)
    · exact absurd (le_ofI c34) (by omega)
    · refine pz_aln (i := 35) rfl rfl ?_
      refine pz_get (i := 36) rfl (gf_37_3 ..) ?_
      refine pz_aln (i := 37) rfl rfl ?_
      refine pz_get (i := 38) rfl (gf_37_4 ..) ?_
      rw [h7]
      refine pz_aal (i := 39) rfl (ga_41 ..) (in_ofI (by omega)) (show _ = some (41 + i + 1) by rw [cl_ofI (a := i), if_pos (by omega)]; congr 1; omega) ?_
      refine pz_il (i := 40) rfl rfl ?_
      refine pz_aln (i := 41) rfl rfl ?_
      refine pz_il (i := 42) rfl rfl ?_
      refine pz_bal (i := 43) rfl (ga_50 ..) rfl (in_ofI (by omega)) ?_
      rw [cl_ofI (a := k), e40]
      refine pz_bas (i := 44) rfl ((gBv hi) _ _) rfl (in_ofI (by omega)) (gBr hi _ _ _) ?_
      refine pz_inc (i := 45) rfl rfl rfl rfl ?_
      refine pz_go (i := 46) rfl ?_
      rw [nI_1]
      refine ih (k + 1) _ (by omega) (by omega) (frA_up hf (by simp)) (fun j hj => ?_)
      rw [ua_s, cl_ofI (a := k)]
      by_cases hjk : j = k
      · subst hjk
        rw [ui_s]
        exact lB_bt _ _
      · rw [ui_n hjk]
        exact h0 j (by omega)
set_option maxRecDepth 20000 in
theorem sx_add {kd key : Nat} {val : List Nat} {b : List bR} {iv : Nat → Int32} {av : Nat → Nat → Int32} (hb : bX iv av b) (h8 : b.length < 8) (hk : bOK (kd, key, val)) (hv : ∀ k, k < val.length → av 40 k = lB val k) (hQ : ∀ iv' av', bX iv' av' (b ++ [(kd, key, val)]) → frI iv iv' [7] → frA av av' [29, 30, 31, 32, 33, 34, 35, 36, 37, 38, 39] → Q none (wX rm iv' av' r)) : rx_R Lx xs (d + 1) 1 [.ref 37, .int (nI kd), .int (nI key), .ref 50, .int (nI val.length)] (wX rm iv av r) Q := by
  refine pz_en (t := rt_1) ⟨Nat.le_of_ble_eq_true rfl, rfl⟩ rfl rfl ?_
  have hl : val.length ≤ 64 := hk.2.2.2.1
  have h7 := hb.1
  refine pz_aln (i := 0) rfl rfl ?_
  refine pz_get (i := 1) rfl (gf_37_4 ..) ?_
  rw [h7]
  refine pz_bi (i := 2) rfl ?_
  refine pz_ii_ge (i := 3) rfl (fun c3 => ?_) (fun c3 => ?_)
  · exact absurd (le_ofI (a := 8) c3) (by omega)
  · refine pz_il (i := 4) rfl rfl ?_
    refine pz_bi (i := 5) rfl ?_
    refine pz_ii_gt (i := 6) rfl (fun c6 => ?_) (fun c6 => ?_)
    · exact absurd (lt_ofI (a := 64) c6) (by omega)
    · refine pz_il (i := 7) rfl rfl ?_
      refine pz_aln (i := 8) rfl rfl ?_
      refine pz_len (i := 9) rfl (ga_50 ..) (by decide) ?_
      refine pz_ii_le (i := 10) rfl (fun c10 => ?_) (fun c10 => ?_)
      · refine pz_aln (i := 12) rfl rfl ?_
        refine pz_get (i := 13) rfl (gf_37_0 ..) ?_
        refine pz_aln (i := 14) rfl rfl ?_
        refine pz_get (i := 15) rfl (gf_37_4 ..) ?_
        rw [h7]
        refine pz_iln (i := 16) rfl rfl ?_
        refine pz_ias (i := 17) rfl (ga_38 ..) (in_ofI h8) (pa_38 ..) ?_
        refine pz_aln (i := 18) rfl rfl ?_
        refine pz_get (i := 19) rfl (gf_37_1 ..) ?_
        refine pz_aln (i := 20) rfl rfl ?_
        refine pz_get (i := 21) rfl (gf_37_4 ..) ?_
        rw [h7]
        refine pz_iln (i := 22) rfl rfl ?_
        refine pz_ias (i := 23) rfl (ga_39 ..) (in_ofI h8) (pa_39 ..) ?_
        refine pz_aln (i := 24) rfl rfl ?_
        refine pz_get (i := 25) rfl (gf_37_2 ..) ?_
        refine pz_aln (i := 26) rfl rfl ?_
        refine pz_get (i := 27) rfl (gf_37_4 ..) ?_
        rw [h7]
        refine pz_il (i := 28) rfl rfl ?_
        refine pz_ias (i := 29) rfl (ga_40 ..) (in_ofI h8) (pa_40 ..) ?_
        refine pz_ic (i := 30) rfl ?_
        refine pz_is (i := 31) rfl ⟨rfl, Nat.le_of_ble_eq_true rfl⟩ rfl ?_
        refine lp_add (i := b.length) h8 h7 hl (fun k hk => ?_) (fun av2 f1 h1 => ?_) val.length 0 _ (by omega) (by omega) (frA_rfl _ _) (fun j hj => absurd hj (by omega))
        · rw [ua_n (by decide), ua_n (by decide), ua_n (by decide)]
          exact hv k hk
        · have hfr : frA av av2 [29, 30, 31, 32, 33, 34, 35, 36, 37, 38, 39] := frA_tr (frA_up (frA_up (frA_up (frA_rfl av [29, 30, 31]) (by decide)) (by decide)) (by decide)) f1 (by decide) (fun x hx => by
            simp only [List.mem_cons, List.not_mem_nil, or_false] at hx ⊢
            omega)
          refine hQ _ av2 ⟨?_, ?_, fun i x hx => ?_⟩ (frI_up (frI_rfl _ _) (by decide)) hfr
          · rw [ui_s, List.length_append]
            rfl
          · rw [List.length_append]
            exact h8
          · have g29 := f1 29 (by simp only [List.mem_cons, List.not_mem_nil, or_false]; omega)
            have g30 := f1 30 (by simp only [List.mem_cons, List.not_mem_nil, or_false]; omega)
            have g31 := f1 31 (by simp only [List.mem_cons, List.not_mem_nil, or_false]; omega)
            rw [ua_n (by decide), ua_n (by decide), ua_s, cl_ofI (a := b.length)] at g29
            rw [ua_n (by decide), ua_s, cl_ofI (a := b.length), ua_n (by decide)] at g30
            rw [ua_s, cl_ofI (a := b.length), ua_n (by decide), ua_n (by decide)] at g31
            by_cases hi : i = b.length
            · subst hi
              rw [List.getElem?_append_right (Nat.le_refl _), Nat.sub_self] at hx
              have hx' : (kd, key, val) = x := Option.some.inj hx
              subst hx'
              rw [g29, g30, g31, ui_s, ui_s, ui_s]
              exact ⟨hk, rfl, rfl, rfl, h1⟩
            · have hlt : i < b.length := by
                have := (List.getElem?_eq_some_iff.mp hx).1
                rw [List.length_append] at this
                simp only [List.length_cons, List.length_nil] at this
                omega
              rw [List.getElem?_append_left hlt] at hx
              obtain ⟨o1, o2, o3, o4, o5⟩ := hb.2.2 i x hx
              rw [g29, g30, g31, ui_n hi, ui_n hi, ui_n hi, f1 (32 + i) (by simp only [List.mem_cons, List.not_mem_nil, or_false]; omega), ua_n (by omega), ua_n (by omega), ua_n (by omega)]
              exact ⟨o1, o2, o3, o4, o5⟩
      · exact absurd (nI_le hl (by decide)) c10
/-- the cell of an area, or -1 -/
def ceF (rm : Nat) (a i : Int32) : Int32 := if a = 0 then (if i < 0 ∨ nI rm ≤ i then -1 else i) else if a = 1 then (if i < 0 ∨ 15600 ≤ i then -1 else nI rm + i) else if a = 2 then (if i < 0 ∨ 128 ≤ i then -1 else nI rm + 15600 + i) else -1
theorem toInt_in {a : Int32} {n : Nat} (hn : n < 2 ^ 31) (h : a.toInt = n) : a = nI n := Int32.toInt_inj.mp (by rw [h, nI_toInt hn])
set_option maxRecDepth 20000 in
theorem sx_cellOf (hr : 0 < rm ∧ rm ≤ 4096) {a i : Int32} {iv : Nat → Int32} {av : Nat → Nat → Int32} (hQ : Q (some (.int (ceF rm a i))) (wX rm iv av r)) : rx_R Lx xs (d + 2) 5 [.ref 2, .int a, .int i] (wX rm iv av r) Q := by
  refine pz_en (t := rt_5) ⟨Nat.le_of_ble_eq_true rfl, rfl⟩ rfl rfl ?_
  refine pz_iln (i := 0) rfl rfl ?_
  refine pz_tsw (i := 1) rfl (fun h => ?_) (fun h1 h2 => ?_)
  · unfold ceF at hQ
    rw [if_neg (fun z => by rw [z] at h; exact absurd h (by decide)), if_neg (fun z => by rw [z] at h; exact absurd h (by decide)), if_neg (fun z => by rw [z] at h; exact absurd h (by decide))] at hQ
    refine pz_ic (i := 38) rfl ?_
    refine pz_ir (i := 39) rfl rfl rfl ?_
    exact hQ
  · have hc : a = 0 ∨ a = 1 ∨ a = 2 := by
      have : a.toInt = ((0 : Nat) : Int) ∨ a.toInt = ((1 : Nat) : Int) ∨ a.toInt = ((2 : Nat) : Int) := by omega
      rcases this with h | h | h
      · exact Or.inl (toInt_in (by decide) h)
      · exact Or.inr (Or.inl (toInt_in (by decide) h))
      · exact Or.inr (Or.inr (toInt_in (by decide) h))
    rcases hc with rfl | rfl | rfl
    · unfold ceF at hQ
      rw [if_pos rfl] at hQ
      show pz Lx xs (d + 1) rt_5 (some .int) Q 2 _ [] (wX rm iv av r)
      refine pz_iln (i := 2) rfl rfl ?_
      refine pz_if_lt (i := 3) rfl (fun c3 => ?_) (fun c3 => ?_)
      · refine pz_ic (i := 8) rfl ?_
        refine pz_go (i := 9) rfl ?_
        refine pz_ir (i := 11) rfl rfl rfl ?_
        first
          | (rw [if_pos (Or.inl c3)] at hQ
             exact hQ)
          | (rw [if_neg (fun z => z.elim c3 (fun w => (Int32.not_le.mpr c7) w))] at hQ
             exact hQ)
          | (rw [if_pos (Or.inr (Int32.not_lt.mp c7))] at hQ
             exact hQ)
      · refine pz_iln (i := 4) rfl rfl ?_
        refine pz_aln (i := 5) rfl rfl ?_
        refine pz_get (i := 6) rfl (gf_2_0 ..) ?_
        refine pz_ii_lt (i := 7) rfl (fun c7 => ?_) (fun c7 => ?_)
        · refine pz_iln (i := 10) rfl rfl ?_
          refine pz_ir (i := 11) rfl rfl rfl ?_
          first
            | (rw [if_pos (Or.inl c3)] at hQ
               exact hQ)
            | (rw [if_neg (fun z => z.elim c3 (fun w => (Int32.not_le.mpr c7) w))] at hQ
               exact hQ)
            | (rw [if_pos (Or.inr (Int32.not_lt.mp c7))] at hQ
               exact hQ)
        · refine pz_ic (i := 8) rfl ?_
          refine pz_go (i := 9) rfl ?_
          refine pz_ir (i := 11) rfl rfl rfl ?_
          first
            | (rw [if_pos (Or.inl c3)] at hQ
               exact hQ)
            | (rw [if_neg (fun z => z.elim c3 (fun w => (Int32.not_le.mpr c7) w))] at hQ
               exact hQ)
            | (rw [if_pos (Or.inr (Int32.not_lt.mp c7))] at hQ
               exact hQ)
    · unfold ceF at hQ
      rw [if_neg (by decide), if_pos rfl] at hQ
      show pz Lx xs (d + 1) rt_5 (some .int) Q 12 _ [] (wX rm iv av r)
      refine pz_iln (i := 12) rfl rfl ?_
      refine pz_if_lt (i := 13) rfl (fun c13 => ?_) (fun c13 => ?_)
      · refine pz_ic (i := 17) rfl ?_
        refine pz_go (i := 18) rfl ?_
        refine pz_ir (i := 24) rfl rfl rfl ?_
        first
          | (rw [if_pos (Or.inl c13)] at hQ
             exact hQ)
          | (rw [if_neg (fun z => z.elim c13 (fun w => (Int32.not_le.mpr c16) w))] at hQ
             exact hQ)
          | (rw [if_pos (Or.inr (Int32.not_lt.mp c16))] at hQ
             exact hQ)
      · refine pz_iln (i := 14) rfl rfl ?_
        refine pz_si (i := 15) rfl ?_
        refine pz_ii_lt (i := 16) rfl (fun c16 => ?_) (fun c16 => ?_)
        · refine pz_aln (i := 19) rfl rfl ?_
          refine pz_ic (i := 20) rfl ?_
          refine pz_cI1 (i := 21) rfl (gc_2 ..) rfl (Nat.le_of_ble_eq_true rfl) rfl ?_
          refine sx_tableCell ?_
          rw [show nI rm + 0 * 1300 = nI rm by rw [show (0 : Int32) * 1300 = nI 0 from rfl, nI_add]; rfl]
          refine ⟨_, rfl, ?_⟩
          refine pz_iln (i := 22) rfl rfl ?_
          refine pz_add (i := 23) rfl ?_
          refine pz_ir (i := 24) rfl rfl rfl ?_
          first
            | (rw [if_pos (Or.inl c13)] at hQ
               exact hQ)
            | (rw [if_neg (fun z => z.elim c13 (fun w => (Int32.not_le.mpr c16) w))] at hQ
               exact hQ)
            | (rw [if_pos (Or.inr (Int32.not_lt.mp c16))] at hQ
               exact hQ)
        · refine pz_ic (i := 17) rfl ?_
          refine pz_go (i := 18) rfl ?_
          refine pz_ir (i := 24) rfl rfl rfl ?_
          first
            | (rw [if_pos (Or.inl c13)] at hQ
               exact hQ)
            | (rw [if_neg (fun z => z.elim c13 (fun w => (Int32.not_le.mpr c16) w))] at hQ
               exact hQ)
            | (rw [if_pos (Or.inr (Int32.not_lt.mp c16))] at hQ
               exact hQ)
    · unfold ceF at hQ
      rw [if_neg (by decide), if_neg (by decide), if_pos rfl] at hQ
      show pz Lx xs (d + 1) rt_5 (some .int) Q 25 _ [] (wX rm iv av r)
      refine pz_iln (i := 25) rfl rfl ?_
      refine pz_if_lt (i := 26) rfl (fun c26 => ?_) (fun c26 => ?_)
      · refine pz_ic (i := 30) rfl ?_
        refine pz_go (i := 31) rfl ?_
        refine pz_ir (i := 37) rfl rfl rfl ?_
        first
          | (rw [if_pos (Or.inl c26)] at hQ
             exact hQ)
          | (rw [if_neg (fun z => z.elim c26 (fun w => (Int32.not_le.mpr c29) w))] at hQ
             exact hQ)
          | (rw [if_pos (Or.inr (Int32.not_lt.mp c29))] at hQ
             exact hQ)
      · refine pz_iln (i := 27) rfl rfl ?_
        refine pz_si (i := 28) rfl ?_
        refine pz_ii_lt (i := 29) rfl (fun c29 => ?_) (fun c29 => ?_)
        · refine pz_aln (i := 32) rfl rfl ?_
          refine pz_ic (i := 33) rfl ?_
          refine pz_cI1 (i := 34) rfl (gc_2 ..) rfl (Nat.le_of_ble_eq_true rfl) rfl ?_
          refine sx_rootCell ?_
          rw [show nI rm + 15600 + (0 &&& 1) * 64 = nI rm + 15600 by rw [show ((0 : Int32) &&& 1) * 64 = nI 0 from rfl, show nI rm + 15600 = nI (rm + 15600) from nI_add rm 15600, nI_add]]
          refine ⟨_, rfl, ?_⟩
          refine pz_iln (i := 35) rfl rfl ?_
          refine pz_add (i := 36) rfl ?_
          refine pz_ir (i := 37) rfl rfl rfl ?_
          first
            | (rw [if_pos (Or.inl c26)] at hQ
               exact hQ)
            | (rw [if_neg (fun z => z.elim c26 (fun w => (Int32.not_le.mpr c29) w))] at hQ
               exact hQ)
            | (rw [if_pos (Or.inr (Int32.not_lt.mp c29))] at hQ
               exact hQ)
        · refine pz_ic (i := 30) rfl ?_
          refine pz_go (i := 31) rfl ?_
          refine pz_ir (i := 37) rfl rfl rfl ?_
          first
            | (rw [if_pos (Or.inl c26)] at hQ
               exact hQ)
            | (rw [if_neg (fun z => z.elim c26 (fun w => (Int32.not_le.mpr c29) w))] at hQ
               exact hQ)
            | (rw [if_pos (Or.inr (Int32.not_lt.mp c29))] at hQ
               exact hQ)
end S79
