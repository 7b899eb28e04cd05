/-! PART 66: Entries.dropRemovals; rules for a disk that is down, 1 -/
/-- without removals -/
def dr (m : mP) : mP := fun k => match m k with
  | some e => if e.1 = 2 then none else some e
  | none => none
def drK (m : mP) (n : Nat) : mP := fun k => if k < n then dr m k else m k
theorem drK_all {m : mP} (h : mOK m) : drK m 120 = dr m := by
  funext k
  unfold drK
  split
  · rfl
  · rename_i hk
    unfold dr
    rw [h.1 k (by omega)]
theorem drK_0 (m : mP) : drK m 0 = m := by
  funext k
  exact if_neg (by omega)
theorem drK_keep {m : mP} {n : Nat} (h : ∀ x, m n = some x → x.1 ≠ 2) : drK m (n + 1) = drK m n := by
  funext k
  unfold drK
  by_cases hk : k < n
  · rw [if_pos hk, if_pos (by omega)]
  · rw [if_neg hk]
    by_cases hn : k = n
    · subst hn
      rw [if_pos (by omega)]
      unfold dr
      cases hm : m k with
      | none => rfl
      | some x => exact if_neg (h x hm)
    · rw [if_neg (by omega)]
theorem drK_at {m : mP} {n j : Nat} (h : j ≠ n) : drK m (n + 1) j = drK m n j := by
  unfold drK
  by_cases hk : j < n
  · rw [if_pos hk, if_pos (by omega)]
  · rw [if_neg hk, if_neg (by omega)]
theorem drK_cut {m : mP} {n : Nat} {x : eN} (hm : m n = some x) (h : x.1 = 2) : drK m (n + 1) n = none ∧ drK m n n = some x := by
  unfold drK dr
  rw [if_pos (by omega), if_neg (by omega), hm]
  exact ⟨if_pos h, rfl⟩
theorem mOK_dr {m : mP} {n : Nat} (h : mOK m) : mOK (drK m n) := by
  refine ⟨fun k hk => ?_, fun k e he => ?_⟩
  · unfold drK dr
    rw [h.1 k hk]
    split <;> rfl
  · refine h.2 k e ?_
    unfold drK dr at he
    split at he
    · cases hm : m k with
      | none => rw [hm] at he; cases he
      | some x =>
        rw [hm] at he
        dsimp only at he
        split at he
        · cases he
        · exact he
    · exact he
theorem kS_cut {m m' : mP} {k : Nat} (hk : k < 120) (h1 : m' k = none) (h2 : (m k).isSome = true) (h : ∀ j, j ≠ k → m' j = m j) : (kS m).length = (kS m').length + 1 := by
  unfold kS
  exact flt_one (k := k) List.nodup_range (List.mem_range.mpr hk) (by rw [h1]; rfl) h2 (fun j hj => by rw [h j hj])
section S66
variable {Lx : Nat} {xs : Nat → Int32} {d rm : Nat} {r : pW} {Q : rQ}
set_option maxRecDepth 20000 in
theorem lp_dr {e : Nat} (he : e < 5) {m0' : mP} {iv0 : Nat → Int32} {av0 : Nat → Nat → Int32} (hQ : ∀ iv av, eX e iv av (dr m0') → frI iv0 iv [30 + e] → frA av0 av [10 + 3 * e + 0] → Q none (wX rm iv av r)) :
    ∀ (m k : Nat) (iv : Nat → Int32) (av : Nat → Nat → Int32), k ≤ 120 → 120 ≤ k + m → eX e iv av (drK m0' k) → mOK m0' → frI iv0 iv [30 + e] → frA av0 av [10 + 3 * e + 0] → pz Lx xs d rt_25 none Q 2 [some (.ref (oE e)), some (.int (nI k))] [] (wX rm iv av r) := by
  have hdone : ∀ (k : Nat) (iv : Nat → Int32) (av : Nat → Nat → Int32), k = 120 → eX e iv av (drK m0' k) → mOK m0' → frI iv0 iv [30 + e] → frA av0 av [10 + 3 * e + 0] → pz Lx xs d rt_25 none Q 2 [some (.ref (oE e)), some (.int (nI k))] [] (wX rm iv av r) := by
    intro k iv av hk hx ho f1 f2
    subst hk
    rw [drK_all ho] at hx
    refine pz_iln (i := 2) rfl rfl ?_
    refine pz_bi (i := 3) rfl ?_
    refine pz_ii_ge (i := 4) rfl (fun c4 => ?_) (fun c4 => ?_)
    · refine pz_vr (i := 24) rfl rfl ?_
      exact hQ iv av hx f1 f2
    · exact absurd (Int32.le_refl _) c4
  intro m
  induction m with
  | zero =>
    intro k iv av hk hm hx ho f1 f2
    exact hdone k iv av (by omega) hx ho f1 f2
  | succ m ih =>
    intro k iv av hk hm hx ho f1 f2
    by_cases hkn : k = 120
    · exact hdone k iv av hkn hx ho f1 f2
    have hk1 : k < 120 := by omega
    have hmk : drK m0' k k = m0' k := if_neg (by omega)
    refine pz_iln (i := 2) rfl rfl ?_
    refine pz_bi (i := 3) rfl ?_
    refine pz_ii_ge (i := 4) rfl (fun c4 => ?_) (fun c4 => ?_)
    · exact absurd (le_ofI (a := 120) c4) (by omega)
    · refine pz_aln (i := 5) rfl rfl ?_
      refine pz_get (i := 6) rfl (gE_0 he ..) ?_
      refine pz_iln (i := 7) rfl rfl ?_
      refine pz_ial (i := 8) rfl (gEa_0 he ..) (in_ofI hk1) ?_
      rw [cl_ofI (a := k)]
      refine pz_ic (i := 9) rfl ?_
      refine pz_ii_ne (i := 10) rfl (fun c10 => ?_) (fun c10 => ?_)
      · refine pz_inc (i := 22) rfl rfl rfl rfl ?_
        refine pz_go (i := 23) rfl ?_
        rw [nI_1]
        first
          | (refine ih (k + 1) _ _ (by omega) (by omega) ⟨mOK_dr ho, ?_, fun j hj => ?_⟩ ho (frI_up f1 (by simp)) (frA_up f2 (by simp))
             · rw [ui_s]
             · rw [ua_s, cl_ofI (a := k), ua_n (by omega), ua_n (by omega)]
               by_cases hjk : j = k
               · subst hjk
                 rw [k1, ui_s]
               · rw [ui_n hjk, drK_at hjk]
                 exact hx.2.2 j hj)
          | (refine ih (k + 1) iv av (by omega) (by omega) ?_ ho f1 f2
             rw [drK_keep (fun x hm2 hx2 => c10 (by rw [(eX_some hx hk1 (hmk.trans hm2)).1, hx2]; rfl))]
             exact hx)
      · have c11 : av (10 + 3 * e + 0) k = 2 := c10
        obtain ⟨x, hm2, hx2⟩ : ∃ x, m0' k = some x ∧ x.1 = 2 := by
          cases hm2 : m0' k with
          | none =>
            have := eX_none hx hk1 (hmk.trans hm2)
            rw [this] at c11
            exact absurd c11 (by decide)
          | some x =>
            have := (eX_some hx hk1 (hmk.trans hm2)).1
            rw [this] at c11
            exact ⟨x, rfl, eq_ofI (b := 2) c11 (by have := (ho.2 k x hm2).2.1; omega) (by decide)⟩
        obtain ⟨k1, k2⟩ := drK_cut hm2 hx2
        have hcnt := kS_cut (m := drK m0' k) (m' := drK m0' (k + 1)) hk1 k1 (by rw [k2]; rfl) (fun j hj => drK_at hj)
        refine pz_aln (i := 11) rfl rfl ?_
        refine pz_get (i := 12) rfl (gE_0 he ..) ?_
        refine pz_iln (i := 13) rfl rfl ?_
        refine pz_ic (i := 14) rfl ?_
        refine pz_ias (i := 15) rfl (gEa_0 he ..) (in_ofI hk1) (pEa_0 he ..) ?_
        refine pz_aln (i := 16) rfl rfl ?_
        refine pz_dup (i := 17) rfl rfl ?_
        refine pz_get (i := 18) rfl (gE_3 he ..) ?_
        refine pz_ic (i := 19) rfl ?_
        refine pz_sub (i := 20) rfl ?_
        rw [hx.2.1, hcnt, nI_pred]
        refine pz_put (i := 21) rfl (pE_3 he ..) ⟨rfl, rfl⟩ ?_
        refine pz_inc (i := 22) rfl rfl rfl rfl ?_
        refine pz_go (i := 23) rfl ?_
        rw [nI_1]
        first
          | (refine ih (k + 1) _ _ (by omega) (by omega) ⟨mOK_dr ho, ?_, fun j hj => ?_⟩ ho (frI_up f1 (by simp)) (frA_up f2 (by simp))
             · rw [ui_s]
             · rw [ua_s, cl_ofI (a := k), ua_n (by omega), ua_n (by omega)]
               by_cases hjk : j = k
               · subst hjk
                 rw [k1, ui_s]
               · rw [ui_n hjk, drK_at hjk]
                 exact hx.2.2 j hj)
          | (refine ih (k + 1) iv av (by omega) (by omega) ?_ ho f1 f2
             rw [drK_keep (fun x hm2 hx2 => c10 (by rw [(eX_some hx hk1 (hmk.trans hm2)).1, hx2]; rfl))]
             exact hx)
set_option maxRecDepth 20000 in
theorem sx_drop {e : Nat} {iv : Nat → Int32} {av : Nat → Nat → Int32} (he : e < 5) {m : mP} (hx : eX e iv av m) (hQ : ∀ iv' av', eX e iv' av' (dr m) → frI iv iv' [30 + e] → frA av av' [10 + 3 * e + 0] → Q none (wX rm iv' av' r)) : rx_R Lx xs (d + 1) 25 [.ref (oE e)] (wX rm iv av r) Q := by
  refine pz_en (t := rt_25) ⟨Nat.le_of_ble_eq_true rfl, rfl⟩ rfl rfl ?_
  refine pz_ic (i := 0) rfl ?_
  refine pz_isn (i := 1) rfl ⟨rfl, Nat.le_of_ble_eq_true rfl⟩ rfl ?_
  exact lp_dr he (m0' := m) hQ 120 0 iv av (by omega) (by omega) (by rw [drK_0]; exact hx) hx.1 (frI_rfl _ _) (frA_rfl _ _)
set_option maxRecDepth 20000 in
theorem lw_dr {e : Nat} (he : e < 5) {iv0 : Nat → Int32} {av0 : Nat → Nat → Int32} (hQ : ∀ iv av, frI iv0 iv [30 + e] → frA av0 av [10 + 3 * e + 0] → Q none (wX rm iv av r)) :
    ∀ (m k : Nat) (iv : Nat → Int32) (av : Nat → Nat → Int32), k ≤ 120 → 120 ≤ k + m → frI iv0 iv [30 + e] → frA av0 av [10 + 3 * e + 0] → pz Lx xs d rt_25 none Q 2 [some (.ref (oE e)), some (.int (nI k))] [] (wX rm iv av r) := by
  have hdone : ∀ (k : Nat) (iv : Nat → Int32) (av : Nat → Nat → Int32), k = 120 → frI iv0 iv [30 + e] → frA av0 av [10 + 3 * e + 0] → pz Lx xs d rt_25 none Q 2 [some (.ref (oE e)), some (.int (nI k))] [] (wX rm iv av r) := by
    intro k iv av hk f1 f2
    subst hk
    refine pz_iln (i := 2) rfl rfl ?_
    refine pz_bi (i := 3) rfl ?_
    refine pz_ii_ge (i := 4) rfl (fun c4 => ?_) (fun c4 => ?_)
    · refine pz_vr (i := 24) rfl rfl ?_
      exact hQ iv av f1 f2
    · exact absurd (Int32.le_refl _) c4
  intro m
  induction m with
  | zero =>
    intro k iv av hk hm f1 f2
    exact hdone k iv av (by omega) f1 f2
  | succ m ih =>
    intro k iv av hk hm f1 f2
    by_cases hkn : k = 120
    · exact hdone k iv av hkn f1 f2
    have hk1 : k < 120 := by omega
    refine pz_iln (i := 2) rfl rfl ?_
    refine pz_bi (i := 3) rfl ?_
    refine pz_ii_ge (i := 4) rfl (fun c4 => ?_) (fun c4 => ?_)
    · exact absurd (le_ofI (a := 120) c4) (by omega)
    · refine pz_aln (i := 5) rfl rfl ?_
      refine pz_get (i := 6) rfl (gE_0 he ..) ?_
      refine pz_iln (i := 7) rfl rfl ?_
      refine pz_ial (i := 8) rfl (gEa_0 he ..) (in_ofI hk1) ?_
      refine pz_ic (i := 9) rfl ?_
      refine pz_ii_ne (i := 10) rfl (fun c10 => ?_) (fun c10 => ?_)
      · refine pz_inc (i := 22) rfl rfl rfl rfl ?_
        refine pz_go (i := 23) rfl ?_
        rw [nI_1]
        first
          | exact ih (k + 1) iv av (by omega) (by omega) f1 f2
          | exact ih (k + 1) _ _ (by omega) (by omega) (frI_up f1 (by simp)) (frA_up f2 (by simp))
      · refine pz_aln (i := 11) rfl rfl ?_
        refine pz_get (i := 12) rfl (gE_0 he ..) ?_
        refine pz_iln (i := 13) rfl rfl ?_
        refine pz_ic (i := 14) rfl ?_
        refine pz_ias (i := 15) rfl (gEa_0 he ..) (in_ofI hk1) (pEa_0 he ..) ?_
        refine pz_aln (i := 16) rfl rfl ?_
        refine pz_dup (i := 17) rfl rfl ?_
        refine pz_get (i := 18) rfl (gE_3 he ..) ?_
        refine pz_ic (i := 19) rfl ?_
        refine pz_sub (i := 20) rfl ?_
        refine pz_put (i := 21) rfl (pE_3 he ..) ⟨rfl, rfl⟩ ?_
        refine pz_inc (i := 22) rfl rfl rfl rfl ?_
        refine pz_go (i := 23) rfl ?_
        rw [nI_1]
        first
          | exact ih (k + 1) iv av (by omega) (by omega) f1 f2
          | exact ih (k + 1) _ _ (by omega) (by omega) (frI_up f1 (by simp)) (frA_up f2 (by simp))
set_option maxRecDepth 20000 in
theorem sw_drop {e : Nat} {iv : Nat → Int32} {av : Nat → Nat → Int32} (he : e < 5) (hQ : ∀ iv' av', frI iv iv' [30 + e] → frA av av' [10 + 3 * e + 0] → Q none (wX rm iv' av' r)) : rx_R Lx xs (d + 1) 25 [.ref (oE e)] (wX rm iv av r) Q := by
  refine pz_en (t := rt_25) ⟨Nat.le_of_ble_eq_true rfl, rfl⟩ rfl rfl ?_
  refine pz_ic (i := 0) rfl ?_
  refine pz_isn (i := 1) rfl ⟨rfl, Nat.le_of_ble_eq_true rfl⟩ rfl ?_
  exact lw_dr he hQ 120 0 iv av (by omega) (by omega) (frI_rfl _ _) (frA_rfl _ _)
set_option maxRecDepth 20000 in
theorem sw_write {c f n : Int32} {ρ : Nat} {iv : Nat → Int32} {av : Nat → Nat → Int32} (h5 : iv 5 = 1) (hQ : Q none (wX rm iv av r)) : rx_R Lx xs (d + 1) 16 [.ref 2, .int c, .ref ρ, .int f, .int n] (wX rm iv av r) Q := by
  refine pz_en (t := rt_16) ⟨Nat.le_of_ble_eq_true rfl, rfl⟩ rfl rfl ?_
  refine pz_aln (i := 0) rfl rfl ?_
  refine pz_get (i := 1) rfl (gf_2_10 ..) ?_
  rw [h5]
  refine pz_if_ne (i := 2) rfl (fun c2 => ?_) (fun c2 => ?_)
  · refine pz_vr (i := 16) rfl rfl ?_
    exact hQ
  · exact absurd c2 (by decide)
theorem bx_any (rm : Nat) (av : Nat → Nat → Int32) (c : Int32) : ∃ b, b < 256 ∧ bx_at rm av c = nI b := by
  unfold bx_at
  split
  · exact ⟨0, by decide, rfl⟩
  · exact pk_andE _ 8 rfl
theorem sw_Eset {e : Nat} (he : e < 5) {k a b c : Int32} {iv : Nat → Int32} {av : Nat → Nat → Int32} (hQ : ∀ iv' av', frI iv iv' [30 + e] → frA av av' [10 + 3 * e + 0, 10 + 3 * e + 1, 10 + 3 * e + 2] → Q none (wX rm iv' av' r)) : rx_R Lx xs (d + 2) 24 [.ref (oE e), .int k, .int a, .int b, .int c] (wX rm iv av r) Q := by
  cases hk : kx_is k with
  | true =>
    obtain ⟨n, hn, rfl⟩ := kx_nat hk
    exact sx_Eset he hn (hQ _ _ se_fi se_fr)
  | false => exact sx_Eset0 hk (hQ _ _ (frI_rfl _ _) (frA_rfl _ _))
set_option maxRecDepth 20000 in
theorem lw_gi (hr : 0 < rm ∧ rm ≤ 4096) {v e b : Nat} {n i st : Int32} (hv : v < 2) (he : e < 5) (hb : b < 256) {iv0 : Nat → Int32} {av0 : Nat → Nat → Int32} (hnext : ∀ iv av x7, frI iv0 iv [30 + e] → frA av0 av [10 + 3 * e + 0, 10 + 3 * e + 1, 10 + 3 * e + 2] → pz Lx xs (d + 2) rt_55 none Q 58 [some (.ref (oV v)), some (.int n), some (.ref (oE e)), some (.int i), some (.int st), some (.int (nI b)), some (.int (nI b)), x7] [] (wX rm iv av r)) :
    ∀ (m j : Nat) (iv : Nat → Int32) (av : Nat → Nat → Int32) (x7 : Option Value), j ≤ b → b ≤ j + m → frI iv0 iv [30 + e] → frA av0 av [10 + 3 * e + 0, 10 + 3 * e + 1, 10 + 3 * e + 2] → pz Lx xs (d + 2) rt_55 none Q 21 [some (.ref (oV v)), some (.int n), some (.ref (oE e)), some (.int i), some (.int st), some (.int (nI b)), some (.int (nI j)), x7] [] (wX rm iv av r) := by
  have hdone : ∀ (j : Nat) (iv : Nat → Int32) (av : Nat → Nat → Int32) (x7 : Option Value), j = b → frI iv0 iv [30 + e] → frA av0 av [10 + 3 * e + 0, 10 + 3 * e + 1, 10 + 3 * e + 2] → pz Lx xs (d + 2) rt_55 none Q 21 [some (.ref (oV v)), some (.int n), some (.ref (oE e)), some (.int i), some (.int st), some (.int (nI b)), some (.int (nI j)), x7] [] (wX rm iv av r) := by
    intro j iv av x7 hj f1 f2
    subst hj
    refine pz_il (i := 21) rfl rfl ?_
    refine pz_il (i := 22) rfl rfl ?_
    refine pz_ii_ge (i := 23) rfl (fun c23 => ?_) (fun c23 => ?_)
    · exact hnext iv av x7 f1 f2
    · exact absurd (Int32.le_refl _) c23
  intro m
  induction m with
  | zero =>
    intro j iv av x7 hj hm f1 f2
    exact hdone j iv av x7 (by omega) f1 f2
  | succ m ih =>
    intro j iv av x7 hj hm f1 f2
    by_cases hjn : j = b
    · exact hdone j iv av x7 hjn f1 f2
    refine pz_il (i := 21) rfl rfl ?_
    refine pz_il (i := 22) rfl rfl ?_
    refine pz_ii_ge (i := 23) rfl (fun c23 => ?_) (fun c23 => ?_)
    · exact absurd (le_ofI c23) (by omega)
    · refine pz_il (i := 24) rfl rfl ?_
      refine pz_bi (i := 25) rfl ?_
      refine pz_add (i := 26) rfl ?_
      refine pz_bi (i := 27) rfl ?_
      refine pz_il (i := 28) rfl rfl ?_
      refine pz_mul (i := 29) rfl ?_
      refine pz_add (i := 30) rfl ?_
      refine pz_is (i := 31) rfl ⟨rfl, Nat.le_of_ble_eq_true rfl⟩ rfl ?_
      refine pz_aln (i := 32) rfl rfl ?_
      refine pz_aln (i := 33) rfl rfl ?_
      refine pz_get (i := 34) rfl (gV_0 hv ..) ?_
      refine pz_il (i := 35) rfl rfl ?_
      refine pz_cI1 (i := 36) rfl (gc_2 ..) rfl (Nat.le_of_ble_eq_true rfl) rfl ?_
      refine sx_byteAt hr ?_
      refine ⟨_, rfl, ?_⟩
      refine pz_aln (i := 37) rfl rfl ?_
      refine pz_get (i := 38) rfl (gV_0 hv ..) ?_
      refine pz_il (i := 39) rfl rfl ?_
      refine pz_ic (i := 40) rfl ?_
      refine pz_add (i := 41) rfl ?_
      refine pz_cI1 (i := 42) rfl (gc_2 ..) rfl (Nat.le_of_ble_eq_true rfl) rfl ?_
      refine sx_byteAt hr ?_
      refine ⟨_, rfl, ?_⟩
      refine pz_aln (i := 43) rfl rfl ?_
      refine pz_get (i := 44) rfl (gV_0 hv ..) ?_
      refine pz_il (i := 45) rfl rfl ?_
      refine pz_bi (i := 46) rfl ?_
      refine pz_add (i := 47) rfl ?_
      refine pz_cI1 (i := 48) rfl (gc_2 ..) rfl (Nat.le_of_ble_eq_true rfl) rfl ?_
      refine sx_numberAt hr ?_
      refine ⟨_, rfl, ?_⟩
      refine pz_aln (i := 49) rfl rfl ?_
      refine pz_get (i := 50) rfl (gV_0 hv ..) ?_
      refine pz_il (i := 51) rfl rfl ?_
      refine pz_ic (i := 52) rfl ?_
      refine pz_add (i := 53) rfl ?_
      refine pz_cI1 (i := 54) rfl (gc_2 ..) rfl (Nat.le_of_ble_eq_true rfl) rfl ?_
      refine sx_numberAt hr ?_
      refine ⟨_, rfl, ?_⟩
      refine pz_cV4 (i := 55) rfl (gE_c he ..) rfl (Nat.le_of_ble_eq_true rfl) rfl ?_
      refine sw_Eset he (fun iv1 av1 g1 g2 => ?_)
      refine ⟨rfl, ?_⟩
      refine pz_inc (i := 56) rfl rfl rfl rfl ?_
      refine pz_go (i := 57) rfl ?_
      rw [nI_1]
      exact ih (j + 1) _ _ _ (by omega) (by omega) (frI_tr f1 g1 (fun _ h => h) (fun _ h => h)) (frA_tr f2 g2 (fun _ h => h) (fun _ h => h))
set_option maxRecDepth 20000 in
theorem lw_go (hr : 0 < rm ∧ rm ≤ 4096) {v e : Nat} {n : Int32} (hv : v < 2) (he : e < 5) {iv0 : Nat → Int32} {av0 : Nat → Nat → Int32} (hQ : ∀ iv av, frI iv0 iv [30 + e] → frA av0 av [10 + 3 * e + 0, 10 + 3 * e + 1, 10 + 3 * e + 2] → Q none (wX rm iv av r)) :
    ∀ (k : Nat) (iv : Nat → Int32) (av : Nat → Nat → Int32) (x4 x5 x6 x7 : Option Value), k ≤ 6 → frI iv0 iv [30 + e] → frA av0 av [10 + 3 * e + 0, 10 + 3 * e + 1, 10 + 3 * e + 2] → pz Lx xs (d + 2) rt_55 none Q 6 [some (.ref (oV v)), some (.int n), some (.ref (oE e)), some (.int (wv k)), x4, x5, x6, x7] [] (wX rm iv av r) := by
  intro k
  induction k with
  | zero =>
    intro iv av x4 x5 x6 x7 hk f1 f2
    refine pz_iln (i := 6) rfl rfl ?_
    refine pz_if_lt (i := 7) rfl (fun c7 => ?_) (fun c7 => ?_)
    · refine pz_vr (i := 60) rfl rfl ?_
      exact hQ iv av f1 f2
    · exact absurd (by decide) c7
  | succ k ih =>
    intro iv av x4 x5 x6 x7 hk f1 f2
    rw [wv_s]
    refine pz_iln (i := 6) rfl rfl ?_
    refine pz_if_lt (i := 7) rfl (fun c7 => ?_) (fun c7 => ?_)
    · exact absurd c7 (nI_pos (by omega))
    · refine pz_aln (i := 8) rfl rfl ?_
      refine pz_iln (i := 9) rfl rfl ?_
      refine pz_cI1 (i := 10) rfl (gV_c hv ..) rfl (Nat.le_of_ble_eq_true rfl) rfl ?_
      refine sx_tableStart hv (by omega) ?_
      refine ⟨_, rfl, ?_⟩
      refine pz_is (i := 11) rfl ⟨rfl, Nat.le_of_ble_eq_true rfl⟩ rfl ?_
      refine pz_aln (i := 12) rfl rfl ?_
      refine pz_get (i := 13) rfl (gV_0 hv ..) ?_
      refine pz_il (i := 14) rfl rfl ?_
      refine pz_ic (i := 15) rfl ?_
      refine pz_add (i := 16) rfl ?_
      refine pz_cI1 (i := 17) rfl (gc_2 ..) rfl (Nat.le_of_ble_eq_true rfl) rfl ?_
      refine sx_byteAt hr ?_
      obtain ⟨b, hb1, hb2⟩ := bx_any rm av (nI rm + av (4 + v) k * 1300 + 2)
      rw [hb2]
      refine ⟨_, rfl, ?_⟩
      refine pz_is (i := 18) rfl ⟨rfl, Nat.le_of_ble_eq_true rfl⟩ rfl ?_
      refine pz_ic (i := 19) rfl ?_
      refine pz_is (i := 20) rfl ⟨rfl, Nat.le_of_ble_eq_true rfl⟩ rfl ?_
      refine lw_gi hr hv he hb1 (fun iv1 av1 y7 g1 g2 => ?_) b 0 iv av x7 (by omega) (by omega) f1 f2
      refine pz_inc (i := 58) rfl rfl rfl rfl ?_
      refine pz_go (i := 59) rfl ?_
      rw [wv_dec]
      exact ih iv1 av1 _ _ _ _ (by omega) g1 g2
set_option maxRecDepth 20000 in
theorem sw_gatherTables (hr : 0 < rm ∧ rm ≤ 4096) {v e n : Nat} {iv : Nat → Int32} {av : Nat → Nat → Int32} (hv : v < 2) (he : e < 5) (hn : n ≤ 6)
    (hQ : ∀ iv' av', frI iv iv' [30 + e] → frA av av' [10 + 3 * e + 0, 10 + 3 * e + 1, 10 + 3 * e + 2] → Q none (wX rm iv' av' r)) : rx_R Lx xs (d + 3) 55 [.ref (oV v), .int (nI n), .ref (oE e)] (wX rm iv av r) Q := by
  refine pz_en (t := rt_55) ⟨Nat.le_of_ble_eq_true rfl, rfl⟩ rfl rfl ?_
  refine pz_aln (i := 0) rfl rfl ?_
  refine pz_cV0 (i := 1) rfl (gE_c he ..) rfl (Nat.le_of_ble_eq_true rfl) rfl ?_
  refine sx_Eclear he ?_
  refine ⟨rfl, ?_⟩
  refine pz_iln (i := 2) rfl rfl ?_
  refine pz_ic (i := 3) rfl ?_
  refine pz_sub (i := 4) rfl ?_
  rw [wv_sub]
  refine pz_isn (i := 5) rfl ⟨rfl, Nat.le_of_ble_eq_true rfl⟩ rfl ?_
  exact lw_go hr hv he hQ n _ _ none none none none hn (frI_up (frI_rfl _ _) (by simp)) (frA_up (frA_rfl _ _) (by simp))
theorem vX_any {iv : Nat → Int32} {av : Nat → Nat → Int32} {n : Nat} {mem : mP} (hn : n ≤ 6) (h : iv 10 = nI n) (hm : eX 0 iv av mem) : ∃ V : vW, vX 0 iv av V ∧ V.2.1 = mem ∧ ∀ i, V.2.2 i = uN (iv (10 + i)) := by
  refine ⟨((List.range n).map (fun i => (uN (av 4 i), 0, 0, m0)), mem, fun i => uN (iv (10 + i))), ⟨⟨?_, ?_, fun i t ht => ?_⟩, hm, fun i h1 h2 => ?_⟩, rfl, fun _ => rfl⟩
  · show iv 10 = nI ((List.range n).map _).length
    rw [List.length_map, List.length_range]
    exact h
  · show ((List.range n).map _).length ≤ 6
    rw [List.length_map, List.length_range]
    exact hn
  · rw [List.getElem?_map] at ht
    cases hr : (List.range n)[i]? with
    | none => rw [hr] at ht; cases ht
    | some j =>
      rw [hr] at ht
      have hj := (List.getElem?_eq_some_iff.mp hr)
      obtain ⟨h1, h2⟩ := hj
      rw [List.getElem_range] at h2
      subst h2
      cases ht
      exact (nI_uN _).symm
  · rw [Nat.mul_zero, Nat.add_zero]
    exact (nI_uN _).symm
end S66
