/-! PART 56: View.gatherTables, View.gatherAll -/
/-- the first j entries of t over old -/
def mgA (t old : mP) (j : Nat) : mP := fun k => if k ∈ (kS t).take j then t k else old k
theorem mgA_s {t old : mP} {j : Nat} {x : eN} (hj : j < (kS t).length) (hx : t (ksA t j) = some x) : mgA t old (j + 1) = upM (mgA t old j) (ksA t j) x := by
  have htk : (kS t).take (j + 1) = (kS t).take j ++ [ksA t j] := by
    rw [List.take_add_one, ksA_get hj]
    rfl
  funext k
  show (if k ∈ (kS t).take (j + 1) then t k else old k) = (if k = ksA t j then some x else (if k ∈ (kS t).take j then t k else old k))
  rw [htk]
  by_cases hk : k = ksA t j
  · subst hk
    rw [if_pos (by simp), if_pos rfl, hx]
  · rw [if_neg hk]
    by_cases h2 : k ∈ (kS t).take j
    · rw [if_pos (List.mem_append_left _ h2), if_pos h2]
    · rw [if_neg (by simp [h2, hk]), if_neg h2]
theorem mgA_all {t old : mP} (ht : mOK t) : mgA t old (kS t).length = fun k => match t k with
    | some x => some x
    | none => old k := by
  funext k
  unfold mgA
  rw [List.take_length]
  cases hm : t k with
  | none => rw [if_neg (fun z => by have := (kS_mem.mp z).2; rw [hm] at this; cases this)]
  | some x =>
    have hk : k < 120 := by
      rcases Nat.lt_or_ge k 120 with h | h
      · exact h
      · rw [ht.1 k h] at hm
        cases hm
    rw [if_pos (kS_mem.mpr ⟨hk, by rw [hm]; rfl⟩)]
section S56
variable {Lx : Nat} {xs : Nat → Int32} {d rm : Nat} {r : pW} {Q : rQ}
/-- one table: its entries from j on -/
theorem lp_gi (hr : 0 < rm ∧ rm ≤ 4096) {v e n i : Nat} (hv : v < 2) (he : e < 5) {t : tB} {c : Nat → Int32} (ht : tE rm c t) {old : mP} (P : (Nat → Int32) → (Nat → Nat → Int32) → Prop) (hP : ∀ iv av iv' av', P iv av → frI iv iv' [30 + e] → frA av av' [10 + 3 * e + 0, 10 + 3 * e + 1, 10 + 3 * e + 2] → P iv' av') (hPc : ∀ iv av, P iv av → av 0 = c)
    (hnext : ∀ iv av (x7 : Option Value), P iv av → eX e iv av (mgA t.2.2.2 old (kS t.2.2.2).length) → pz Lx xs (d + 2) rt_55 none Q 58 [some (.ref (oV v)), some (.int (nI n)), some (.ref (oE e)), some (.int (nI i)), some (.int (nI (rm + t.1 * 1300))), some (.int (nI (kS t.2.2.2).length)), some (.int (nI (kS t.2.2.2).length)), x7] [] (wX rm iv av r)) :
    ∀ (m j : Nat) (iv : Nat → Int32) (av : Nat → Nat → Int32) (x7 : Option Value), j ≤ (kS t.2.2.2).length → (kS t.2.2.2).length ≤ j + m → P iv av → eX e iv av (mgA t.2.2.2 old j) → pz Lx xs (d + 2) rt_55 none Q 21 [some (.ref (oV v)), some (.int (nI n)), some (.ref (oE e)), some (.int (nI i)), some (.int (nI (rm + t.1 * 1300))), some (.int (nI (kS t.2.2.2).length)), some (.int (nI j)), x7] [] (wX rm iv av r) := by
  obtain ⟨g1, g2, g3, g4, g5, g6, g7, g8, g9⟩ := id ht
  have hkl := kS_len t.2.2.2
  have hdone : ∀ (j : Nat) (iv : Nat → Int32) (av : Nat → Nat → Int32) (x7 : Option Value), j = (kS t.2.2.2).length → P iv av → eX e iv av (mgA t.2.2.2 old j) → pz Lx xs (d + 2) rt_55 none Q 21 [some (.ref (oV v)), some (.int (nI n)), some (.ref (oE e)), some (.int (nI i)), some (.int (nI (rm + t.1 * 1300))), some (.int (nI (kS t.2.2.2).length)), some (.int (nI j)), x7] [] (wX rm iv av r) := by
    intro j iv av x7 hj hp hx
    subst hj
    refine pz_il (i := 21) rfl rfl ?_
    refine pz_il (i := 22) rfl rfl ?_
    refine pz_ii_ge (i := 23) rfl (fun c23 => ?_) (fun c23 => ?_)
    · exact hnext iv av x7 hp hx
    · exact absurd (Int32.le_refl _) c23
  intro m
  induction m with
  | zero =>
    intro j iv av x7 hj hm hp hx
    exact hdone j iv av x7 (by omega) hp hx
  | succ m ih =>
    intro j iv av x7 hj hm hp hx
    by_cases hjn : j = (kS t.2.2.2).length
    · exact hdone j iv av x7 hjn hp hx
    have hlt : j < (kS t.2.2.2).length := by omega
    obtain ⟨hk1, hk2⟩ := ksA_mem hlt
    obtain ⟨y, hy⟩ := Option.isSome_iff_exists.mp hk2
    obtain ⟨u0, u1, u2, u3⟩ := g9 j y hlt hy
    obtain ⟨v1, v2, v3, v4⟩ := g4.2 _ y hy
    have hc := hPc iv av hp
    refine pz_il (i := 21) rfl rfl ?_
    refine pz_il (i := 22) rfl rfl ?_
    refine pz_ii_ge (i := 23) rfl (fun c23 => ?_) (fun c23 => ?_)
    · exact absurd (le_ofI c23) (by omega)
    · refine pz_il (i := 24) rfl rfl ?_
      refine pz_bi (i := 25) rfl ?_
      refine pz_add (i := 26) rfl ?_
      rw [show nI (rm + t.1 * 1300) + 16 = nI (rm + t.1 * 1300 + 16) from nI_add _ 16]
      refine pz_bi (i := 27) rfl ?_
      refine pz_il (i := 28) rfl rfl ?_
      refine pz_mul (i := 29) rfl ?_
      rw [show (10 : Int32) * nI j = nI (10 * j) from pk_mul 10 j]
      refine pz_add (i := 30) rfl ?_
      rw [nI_add]
      refine pz_is (i := 31) rfl ⟨rfl, Nat.le_of_ble_eq_true rfl⟩ rfl ?_
      refine pz_aln (i := 32) rfl rfl ?_
      refine pz_aln (i := 33) rfl rfl ?_
      refine pz_get (i := 34) rfl (gV_0 hv ..) ?_
      refine pz_il (i := 35) rfl rfl ?_
      refine pz_cI1 (i := 36) rfl (gc_2 ..) rfl (Nat.le_of_ble_eq_true rfl) rfl ?_
      refine sx_byteAt hr ?_
      rw [bx_atN (by omega) hr.2, hc, u0]
      refine ⟨_, rfl, ?_⟩
      refine pz_aln (i := 37) rfl rfl ?_
      refine pz_get (i := 38) rfl (gV_0 hv ..) ?_
      refine pz_il (i := 39) rfl rfl ?_
      refine pz_ic (i := 40) rfl ?_
      refine pz_add (i := 41) rfl ?_
      rw [show nI (rm + t.1 * 1300 + 16 + 10 * j) + 1 = nI ((rm + t.1 * 1300 + 16 + 10 * j) + 1) from nI_add _ 1]
      refine pz_cI1 (i := 42) rfl (gc_2 ..) rfl (Nat.le_of_ble_eq_true rfl) rfl ?_
      refine sx_byteAt hr ?_
      rw [bx_atN (by omega) hr.2, hc, u1]
      refine ⟨_, rfl, ?_⟩
      refine pz_aln (i := 43) rfl rfl ?_
      refine pz_get (i := 44) rfl (gV_0 hv ..) ?_
      refine pz_il (i := 45) rfl rfl ?_
      refine pz_bi (i := 46) rfl ?_
      refine pz_add (i := 47) rfl ?_
      rw [show nI (rm + t.1 * 1300 + 16 + 10 * j) + 6 = nI ((rm + t.1 * 1300 + 16 + 10 * j) + 6) from nI_add _ 6]
      refine pz_cI1 (i := 48) rfl (gc_2 ..) rfl (Nat.le_of_ble_eq_true rfl) rfl ?_
      refine sx_numberAt hr ?_
      rw [bx_numN (by omega) hr.2, hc, u3]
      refine ⟨_, rfl, ?_⟩
      refine pz_aln (i := 49) rfl rfl ?_
      refine pz_get (i := 50) rfl (gV_0 hv ..) ?_
      refine pz_il (i := 51) rfl rfl ?_
      refine pz_ic (i := 52) rfl ?_
      refine pz_add (i := 53) rfl ?_
      rw [show nI (rm + t.1 * 1300 + 16 + 10 * j) + 2 = nI ((rm + t.1 * 1300 + 16 + 10 * j) + 2) from nI_add _ 2]
      refine pz_cI1 (i := 54) rfl (gc_2 ..) rfl (Nat.le_of_ble_eq_true rfl) rfl ?_
      refine sx_numberAt hr ?_
      rw [bx_numN (by omega) hr.2, hc, u2]
      refine ⟨_, rfl, ?_⟩
      refine pz_cV4 (i := 55) rfl (gE_c he ..) rfl (Nat.le_of_ble_eq_true rfl) rfl ?_
      refine sx_Eset he hk1 ?_
      refine ⟨rfl, ?_⟩
      refine pz_inc (i := 56) rfl rfl rfl rfl ?_
      refine pz_go (i := 57) rfl ?_
      rw [nI_1]
      refine ih (j + 1) _ _ _ (by omega) (by omega) (hP _ _ _ _ hp se_fi se_fr) ?_
      rw [mgA_s hlt hy]
      exact eX_set hx hk1 ⟨v1, v2, v3, v4⟩
/-- the tables from the oldest on: those from k on are there -/
theorem lp_go (hr : 0 < rm ∧ rm ≤ 4096) {v e n : Nat} (hv : v < 2) (he : e < 5) {c : Nat → Int32} {us : List tB} (hus : us.length ≤ 6) (htE : ∀ t ∈ us, tE rm c t) (P : (Nat → Int32) → (Nat → Nat → Int32) → Prop) (hP : ∀ iv av iv' av', P iv av → frI iv iv' [30 + e] → frA av av' [10 + 3 * e + 0, 10 + 3 * e + 1, 10 + 3 * e + 2] → P iv' av') (hPc : ∀ iv av, P iv av → av 0 = c) (hPp : ∀ iv av, P iv av → ∀ i t, us[i]? = some t → av (4 + v) i = nI t.1)
    (hQ : ∀ iv av, P iv av → eX e iv av (fun k => fnd us k) → Q none (wX rm iv av r)) :
    ∀ (k : Nat) (iv : Nat → Int32) (av : Nat → Nat → Int32) (x4 x5 x6 x7 : Option Value), k ≤ us.length → P iv av → eX e iv av (fun j => fnd (us.drop k) j) → pz Lx xs (d + 2) rt_55 none Q 6 [some (.ref (oV v)), some (.int (nI n)), some (.ref (oE e)), some (.int (wv k)), x4, x5, x6, x7] [] (wX rm iv av r) := by
  intro k
  induction k with
  | zero =>
    intro iv av x4 x5 x6 x7 hk hp hx
    refine pz_iln (i := 6) rfl rfl ?_
    refine pz_if_lt (i := 7) rfl (fun c7 => ?_) (fun c7 => ?_)
    · refine pz_vr (i := 60) rfl rfl ?_
      exact hQ iv av hp hx
    · exact absurd (by decide) c7
  | succ k ih =>
    intro iv av x4 x5 x6 x7 hk hp hx
    rw [wv_s]
    obtain ⟨t, ht⟩ : ∃ t, us[k]? = some t := ⟨_, List.getElem?_eq_getElem (by omega)⟩
    have htt := htE t (List.mem_of_getElem? ht)
    obtain ⟨g1, g2, g3, g4, g5, g6, g7, g8, g9⟩ := id htt
    have hc := hPc iv av hp
    have hst : nI rm + av (4 + v) k * 1300 = nI (rm + t.1 * 1300) := by
      rw [hPp iv av hp k t ht, show nI t.1 * 1300 = nI (t.1 * 1300) from pk_mul t.1 1300, nI_add]
    have hdr : us.drop k = t :: us.drop (k + 1) := by
      obtain ⟨h5, h6⟩ := List.getElem?_eq_some_iff.mp ht
      rw [← h6]
      exact List.drop_eq_getElem_cons h5
    refine pz_iln (i := 6) rfl rfl ?_
    refine pz_if_lt (i := 7) rfl (fun c7 => ?_) (fun c7 => ?_)
    · exact absurd c7 (nI_pos (by omega))
    · refine pz_aln (i := 8) rfl rfl ?_
      refine pz_iln (i := 9) rfl rfl ?_
      refine pz_cI1 (i := 10) rfl (gV_c hv ..) rfl (Nat.le_of_ble_eq_true rfl) rfl ?_
      refine sx_tableStart hv (by omega) ?_
      rw [hst]
      refine ⟨_, rfl, ?_⟩
      refine pz_is (i := 11) rfl ⟨rfl, Nat.le_of_ble_eq_true rfl⟩ rfl ?_
      refine pz_aln (i := 12) rfl rfl ?_
      refine pz_get (i := 13) rfl (gV_0 hv ..) ?_
      refine pz_il (i := 14) rfl rfl ?_
      refine pz_ic (i := 15) rfl ?_
      refine pz_add (i := 16) rfl ?_
      rw [show nI (rm + t.1 * 1300) + 2 = nI (rm + t.1 * 1300 + 2) from nI_add _ 2]
      refine pz_cI1 (i := 17) rfl (gc_2 ..) rfl (Nat.le_of_ble_eq_true rfl) rfl ?_
      refine sx_byteAt hr ?_
      rw [bx_atN (by omega) hr.2, hc, g6]
      refine ⟨_, rfl, ?_⟩
      refine pz_is (i := 18) rfl ⟨rfl, Nat.le_of_ble_eq_true rfl⟩ rfl ?_
      refine pz_ic (i := 19) rfl ?_
      refine pz_is (i := 20) rfl ⟨rfl, Nat.le_of_ble_eq_true rfl⟩ rfl ?_
      refine lp_gi (i := k) (n := n) hr hv he htt (old := fun j => fnd (us.drop (k + 1)) j) P hP hPc (fun iv1 av1 y7 hp1 hx1 => ?_) (kS t.2.2.2).length 0 iv av x7 (by omega) (by omega) hp ?_
      · refine pz_inc (i := 58) rfl rfl rfl rfl ?_
        refine pz_go (i := 59) rfl ?_
        rw [wv_dec]
        refine ih iv1 av1 _ _ _ _ (by omega) hp1 ?_
        rw [mgA_all g4] at hx1
        rw [hdr]
        exact hx1
      · have e0 : mgA t.2.2.2 (fun j => fnd (us.drop (k + 1)) j) 0 = fun j => fnd (us.drop (k + 1)) j := by
          funext j
          unfold mgA
          rw [if_neg (by simp)]
        rw [e0]
        exact hx
set_option maxRecDepth 20000 in
theorem sx_gatherTables (hr : 0 < rm ∧ rm ≤ 4096) {v e n : Nat} {iv : Nat → Int32} {av : Nat → Nat → Int32} (hv : v < 2) (he : e < 5) {us : List tB} (hvT : vT v iv av us) (htE : ∀ t ∈ us, tE rm (av 0) t) (hn : n ≤ us.length)
    (hQ : ∀ iv' av', eX e iv' av' (fun k => fnd (us.take n) k) → frI iv iv' [30 + e] → frA av av' [10 + 3 * e + 0, 10 + 3 * e + 1, 10 + 3 * e + 2] → Q none (wX rm iv' av' r)) : rx_R Lx xs (d + 3) 55 [.ref (oV v), .int (nI n), .ref (oE e)] (wX rm iv av r) Q := by
  refine pz_en (t := rt_55) ⟨Nat.le_of_ble_eq_true rfl, rfl⟩ rfl rfl ?_
  have hlen : (us.take n).length = n := by rw [List.length_take]; omega
  have hle : n ≤ 6 := Nat.le_trans hn hvT.2.1
  have key := lp_go (Lx := Lx) (xs := xs) (d := d) (n := n) (r := r) (Q := Q) hr hv he (c := av 0) (us := us.take n) (by omega) (fun t ht => htE t (List.mem_of_mem_take ht)) (fun iv1 av1 => frI iv iv1 [30 + e] ∧ frA av av1 [10 + 3 * e + 0, 10 + 3 * e + 1, 10 + 3 * e + 2]) (fun iv1 av1 iv2 av2 h1 h2 h3 => ⟨fun j hj => (h2 j hj).trans (h1.1 j hj), fun j hj => (h3 j hj).trans (h1.2 j hj)⟩) (fun iv1 av1 h1 => h1.2 0 (by simp only [List.mem_cons, List.not_mem_nil, or_false, not_or]; omega)) (fun iv1 av1 h1 i t ht => by
    rw [h1.2 (4 + v) (by simp only [List.mem_cons, List.not_mem_nil, or_false, not_or]; omega)]
    refine hvT.2.2 i t ?_
    rw [List.getElem?_take] at ht
    split at ht
    · exact ht
    · cases ht) (fun iv1 av1 h1 hx => hQ iv1 av1 hx h1.1 h1.2) n (upd iv (30 + e) 0) (up_a av (10 + 3 * e + 0) (zK (av (10 + 3 * e + 0)))) none none none none (by omega) ⟨fun j hj => by simp only [List.mem_cons, List.not_mem_nil, or_false] at hj; exact ui_n hj, fun j hj => by simp only [List.mem_cons, List.not_mem_nil, or_false, not_or] at hj; exact ua_n hj.1⟩ (by
    rw [List.drop_eq_nil_of_le (by omega)]
    exact eX_clear e iv av)
  refine pz_aln (i := 0) rfl rfl ?_
  refine pz_cV0 (i := 1) rfl (gE_c he ..) rfl (Nat.le_of_ble_eq_true rfl) rfl ?_
  refine sx_Eclear he ?_
  refine ⟨rfl, ?_⟩
  refine pz_iln (i := 2) rfl rfl ?_
  refine pz_ic (i := 3) rfl ?_
  refine pz_sub (i := 4) rfl ?_
  rw [wv_sub]
  refine pz_isn (i := 5) rfl ⟨rfl, Nat.le_of_ble_eq_true rfl⟩ rfl ?_
  exact key
end S56
