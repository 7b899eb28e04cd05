/-! PART B3: the reference: clearNew, gather, newCount, countOf, drop, insert -/
/-- the gathered entries of the reference -/
def wN (bv : Nat → Nat → Int32) (m : mP) : Prop := mOK m ∧ ∀ k, k < 120 → match m k with
  | none => bv 20 k = 0
  | some x => bv 20 k = nI x.1 ∧ bv 21 k = nI x.2.1 ∧ bv 22 k = nI x.2.2
theorem wN_ext {bv bv' : Nat → Nat → Int32} {m : mP} (h : wN bv m) (h0 : bv' 20 = bv 20) (h1 : bv' 21 = bv 21) (h2 : bv' 22 = bv 22) : wN bv' m := by
  unfold wN at h ⊢
  rw [h0, h1, h2]
  exact h
theorem wN_up {bv bv' : Nat → Nat → Int32} {m : mP} {key : Nat} {x : eN} (h : wN bv m) (hk : key < 120) (hx : 0 < x.1 ∧ x.1 < 3 ∧ x.2.1 < 2 ^ 30 ∧ x.2.2 < 2 ^ 30) (h0 : bv' 20 = upd (bv 20) key (nI x.1)) (h1 : bv' 21 = upd (bv 21) key (nI x.2.1)) (h2 : bv' 22 = upd (bv 22) key (nI x.2.2)) : wN bv' (upM m key x) := by
  obtain ⟨g1, g3⟩ := h
  refine ⟨mOK_up g1 hk hx, fun k hk' => ?_⟩
  rw [h0, h1, h2]
  unfold upM
  by_cases e : k = key
  · subst e
    rw [if_pos rfl, ui_s, ui_s, ui_s]
    exact ⟨rfl, rfl, rfl⟩
  · rw [if_neg e, ui_n e, ui_n e, ui_n e]
    exact g3 k hk'
theorem wN_0 {bv : Nat → Nat → Int32} {m : mP} (h : wN bv m) {k : Nat} (hk : k < 120) : (bv 20 k = 0 ↔ m k = none) := by
  have h3 := h.2 k hk
  cases he : m k with
  | none =>
    simp only [he] at h3
    exact ⟨fun _ => rfl, fun _ => h3⟩
  | some y =>
    simp only [he] at h3
    have := h.1.2 k y he
    rw [h3.1]
    exact ⟨fun z => absurd (eq_ofI (b := 0) z) (by omega), fun z => by cases z⟩
theorem wN_le {bv : Nat → Nat → Int32} {m : mP} (h : wN bv m) {k : Nat} (hk : k < 120) : (bv 20 k ≤ 0 ↔ m k = none) := by
  have h3 := h.2 k hk
  cases he : m k with
  | none =>
    simp only [he] at h3
    rw [h3]
    exact ⟨fun _ => rfl, fun _ => Int32.le_refl _⟩
  | some y =>
    simp only [he] at h3
    have := h.1.2 k y he
    rw [h3.1]
    exact ⟨fun z => absurd (le_ofI (b := 0) z) (by omega), fun z => by cases z⟩
/-- the first j entries of t where old has none -/
def mgB (old t : mP) (j : Nat) : mP := fun k => match old k with
  | some e => some e
  | none => if k ∈ (kS t).take j then t k else none
theorem take_mem {t : mP} {j k : Nat} (hj : j < (kS t).length) : k ∈ (kS t).take (j + 1) ↔ k ∈ (kS t).take j ∨ k = ksA t j := by
  rw [List.take_add_one, ksA_get hj]
  simp
theorem take_not {t : mP} {j : Nat} (hj : j < (kS t).length) : ksA t j ∉ (kS t).take j := fun z => by
  obtain ⟨i, hi, e⟩ := List.mem_iff_getElem.mp z
  rw [List.length_take] at hi
  rw [List.getElem_take] at e
  have h1 := ksA_get (m := t) (i := i) (by omega)
  rw [List.getElem?_eq_getElem (show i < (kS t).length by omega), e] at h1
  have h2 := ksA_mono (m := t) (show i < j by omega) hj
  have := Option.some.inj h1
  omega
theorem mgB_s {old t : mP} {j : Nat} {x : eN} (hj : j < (kS t).length) (hx : t (ksA t j) = some x) : mgB old t (j + 1) = if old (ksA t j) = none then upM (mgB old t j) (ksA t j) x else mgB old t j := by
  funext k
  by_cases hk : k = ksA t j
  · subst hk
    by_cases ho : old (ksA t j) = none
    · rw [if_pos ho]
      unfold mgB upM
      rw [ho, if_pos rfl]
      simp only
      rw [if_pos ((take_mem hj).mpr (Or.inr rfl)), hx]
    · rw [if_neg ho]
      unfold mgB
      cases h : old (ksA t j) with
      | none => exact absurd h ho
      | some e => rfl
  · have e : mgB old t (j + 1) k = mgB old t j k := by
      unfold mgB
      cases h : old k with
      | some e => rfl
      | none =>
        simp only
        by_cases hm : k ∈ (kS t).take j
        · rw [if_pos hm, if_pos ((take_mem hj).mpr (Or.inl hm))]
        · rw [if_neg hm, if_neg (fun z => ((take_mem hj).mp z).elim hm hk)]
    rw [e]
    split
    · unfold upM
      rw [if_neg hk]
    · rfl
theorem mgB_0 (old t : mP) : mgB old t 0 = old := by
  funext k
  unfold mgB
  cases h : old k with
  | some e => rfl
  | none => exact if_neg (by rw [List.take_zero]; exact List.not_mem_nil)
theorem mgB_all {old t : mP} (ht : mOK t) : mgB old t (kS t).length = fun k => match old k with
    | some e => some e
    | none => t k := by
  funext k
  unfold mgB
  cases h : old k with
  | some e => rfl
  | none =>
    simp only
    rw [List.take_length]
    by_cases hk : k ∈ kS t
    · exact if_pos hk
    · rw [if_neg hk]
      cases hs : t k with
      | none => rfl
      | some e =>
        exfalso
        apply hk
        refine kS_mem.mpr ⟨?_, by rw [hs]; rfl⟩
        rcases Nat.lt_or_ge k 120 with z | z
        · exact z
        · rw [ht.1 k z] at hs
          cases hs
theorem fnd_snoc (us : List tB) (t : tB) : (fun k => fnd (us ++ [t]) k) = fun k => match fnd us k with
    | some e => some e
    | none => t.2.2.2 k := by
  funext k
  rw [fnd_app]
  cases fnd us k with
  | some e => rfl
  | none =>
    show (match t.2.2.2 k with | some e => some e | none => none) = t.2.2.2 k
    cases t.2.2.2 k <;> rfl
section SB3
variable {Lx : Nat} {xs : Nat → Int32} {d rm : Nat} {iv : Nat → Int32} {av : Nat → Nat → Int32} {jv : Nat → Int32} {bv : Nat → Nat → Int32} {Q : rQ}
set_option maxRecDepth 20000 in
theorem lp_cn {bv0 : Nat → Nat → Int32} (hQ : ∀ bv', wN bv' m0 → frA bv0 bv' [20] → Q none (wX rm iv av (wM rm jv bv'))) : ∀ (m k : Nat) (bv : Nat → Nat → Int32), k + m = 120 → frA bv0 bv [20] → (∀ j, j < k → bv 20 j = 0) → pz Lx xs d rt_109 none Q 2 [some (.ref 54), some (.int (nI k))] [] (wX rm iv av (wM rm jv bv))
  | 0, k, bv, hk, f, h1 => by
    obtain rfl : k = 120 := by omega
    refine pz_iln (i := 2) rfl rfl ?_
    refine pz_bi (i := 3) rfl ?_
    refine pz_ii_ge (i := 4) rfl (fun c4 => ?_) (fun c4 => ?_)
    · refine pz_vr (i := 12) rfl rfl ?_
      exact hQ bv ⟨mOK_0, fun k hk => h1 k hk⟩ f
    · exact absurd (Int32.le_refl _) c4
  | m + 1, k, bv, hk, f, h1 => by
    have hk1 : k < 120 := by omega
    refine pz_iln (i := 2) rfl rfl ?_
    refine pz_bi (i := 3) rfl ?_
    refine pz_ii_ge (i := 4) rfl (fun c4 => ?_) (fun c4 => ?_)
    · exact absurd (le_ofI (a := 120) c4) (by omega)
    · refine pz_aln (i := 5) rfl rfl ?_
      refine pz_get (i := 6) rfl (gf_54_42 ..) ?_
      refine pz_iln (i := 7) rfl rfl ?_
      refine pz_ic (i := 8) rfl ?_
      refine pz_ias (i := 9) rfl (ga_75 ..) (in_ofI hk1) (pa_75 ..) ?_
      rw [cl_ofI (a := k)]
      refine pz_inc (i := 10) rfl rfl rfl rfl ?_
      rw [show nI k + 1 = nI (k + 1) from nI_add k 1]
      refine pz_go (i := 11) rfl ?_
      refine lp_cn hQ m (k + 1) _ (by omega) (frA_tr f (frA_up (frA_rfl _ [20]) (by decide)) (by decide) (by decide)) (fun j hj => ?_)
      rw [ua_s]
      by_cases e : j = k
      · subst e
        exact ui_s _ _ _
      · rw [ui_n e]
        exact h1 j (by omega)
set_option maxRecDepth 20000 in
theorem sm_clearNew (hQ : ∀ bv', wN bv' m0 → frA bv bv' [20] → Q none (wX rm iv av (wM rm jv bv'))) : rx_R Lx xs (d + 1) 109 [.ref 54] (wX rm iv av (wM rm jv bv)) Q := by
  refine pz_en (t := rt_109) ⟨Nat.le_of_ble_eq_true rfl, rfl⟩ rfl rfl ?_
  refine pz_ic (i := 0) rfl ?_
  refine pz_isn (i := 1) rfl ⟨rfl, Nat.le_of_ble_eq_true rfl⟩ rfl ?_
  exact lp_cn hQ 120 0 bv rfl (frA_rfl _ _) (fun j hj => absurd hj (Nat.not_lt_zero j))
set_option maxRecDepth 20000 in
theorem lq_ga (hr : 0 < rm ∧ rm ≤ 4096) {us : List tB} {i : Nat} {t : tB} (ht : us[i]? = some t) {bv0 : Nat → Nat → Int32} (hg : geo rm bv0) (hu : uM jv bv0 us) (hE0 : tE rm (bv0 2) t) {old : mP} (hQ : ∀ bv', wN bv' (mgB old t.2.2.2 (kS t.2.2.2).length) → frA bv0 bv' [20, 21, 22] → Q none (wX rm iv av (wM rm jv bv'))) : ∀ (m k : Nat) (bv : Nat → Nat → Int32) (x3 x4 : Option Value), ((x3 = none ∧ x4 = none) ∨ ∃ y z, x3 = some (.int y) ∧ x4 = some (.int z)) → k + m = (kS t.2.2.2).length → frA bv0 bv [20, 21, 22] → wN bv (mgB old t.2.2.2 k) → pz Lx xs (d + 4) rt_110 none Q 2 [some (.ref 54), some (.int (nI i)), some (.int (nI k)), x3, x4] [] (wX rm iv av (wM rm jv bv)) := by
  have hkl := kS_len t.2.2.2
  intro m
  induction m with
  | zero =>
    intro k bv x3 x4 hx hk f hw
    obtain rfl : k = (kS t.2.2.2).length := by omega
    have hgb : geo rm bv := fun a ha => by rw [f 0 (by decide), f 1 (by decide)]; exact hg a ha
    have hub : uM jv bv us := ⟨hu.1, hu.2.1, fun i t h => by rw [f 15 (by decide)]; exact hu.2.2 i t h⟩
    have h2 : bv 2 = bv0 2 := f 2 (by decide)
    have hcnt : bN (bv 2) (rm + t.1 * 1300 + 2) = (kS t.2.2.2).length := by rw [h2]; exact hE0.2.2.2.2.2.1
    refine pz_iln (i := 2) rfl rfl ?_
    refine pz_aln (i := 3) rfl rfl ?_
    refine pz_iln (i := 4) rfl rfl ?_
    refine pz_ic (i := 5) rfl ?_
    refine pz_cI2 (i := 6) rfl (gc_54 ..) rfl (Nat.le_of_ble_eq_true rfl) rfl ?_
    refine sm_tableByte hr hgb hub ht hE0.1 (q := 2) (by decide) ?_
    rw [hcnt]
    refine ⟨_, rfl, ?_⟩
    refine pz_ii_ge (i := 7) rfl (fun c7 => ?_) (fun c7 => ?_)
    · refine pz_vr (i := 56) rfl rfl ?_
      exact hQ bv hw f
    · exact absurd (Int32.le_refl _) c7
  | succ m ih =>
    intro k bv x3 x4 hx hk f hw
    have hlt : k < (kS t.2.2.2).length := by omega
    have hgb : geo rm bv := fun a ha => by rw [f 0 (by decide), f 1 (by decide)]; exact hg a ha
    have hub : uM jv bv us := ⟨hu.1, hu.2.1, fun i t h => by rw [f 15 (by decide)]; exact hu.2.2 i t h⟩
    have h2 : bv 2 = bv0 2 := f 2 (by decide)
    have hcnt : bN (bv 2) (rm + t.1 * 1300 + 2) = (kS t.2.2.2).length := by rw [h2]; exact hE0.2.2.2.2.2.1
    have hkm := ksA_mem hlt
    obtain ⟨e, he⟩ := Option.isSome_iff_exists.mp hkm.2
    have hen := hE0.2.2.2.2.2.2.2.2 k e hlt he
    rw [← h2] at hen
    have hok := hE0.2.2.2.1.2 _ e he
    have hmg := mgB_s (old := old) hlt he
    have hon : mgB old t.2.2.2 k (ksA t.2.2.2 k) = none ↔ old (ksA t.2.2.2 k) = none := by
      unfold mgB
      cases h : old (ksA t.2.2.2 k) with
      | some y => exact ⟨fun z => (by cases z), fun z => (by cases z)⟩
      | none => exact ⟨fun _ => rfl, fun _ => if_neg (take_not hlt)⟩
    have k8 : ∀ x3 x4 : Option Value, ((x3 = none ∧ x4 = none) ∨ ∃ y z, x3 = some (.int y) ∧ x4 = some (.int z)) → pz Lx xs (d + 4) rt_110 none Q 19 [some (.ref 54), some (.int (nI i)), some (.int (nI k)), some (.int (nI (16 + 10 * k))), some (.int (nI (ksA t.2.2.2 k)))] [] (wX rm iv av (wM rm jv bv)) := by
      intro _ _ _
      refine pz_aln (i := 19) rfl rfl ?_
      refine pz_get (i := 20) rfl (gf_54_42 ..) ?_
      refine pz_il (i := 21) rfl rfl ?_
      refine pz_ial (i := 22) rfl (ga_75 ..) (in_ofI hkm.1) ?_
      rw [cl_ofI (a := ksA t.2.2.2 k) (by have := hkm.1; omega)]
      refine pz_if_ne (i := 23) rfl (fun c23 => ?_) (fun c23 => ?_)
      · refine pz_inc (i := 54) rfl rfl rfl rfl ?_
        rw [show nI k + 1 = nI (k + 1) from nI_add k 1]
        refine pz_go (i := 55) rfl ?_
        first
          | (refine ih (k + 1) _ _ _ (Or.inr ⟨_, _, rfl, rfl⟩) (by omega) (frA_tr f (frA_up (frA_up (frA_up (frA_rfl _ [20, 21, 22]) (by decide)) (by decide)) (by decide)) (by decide) (by decide)) ?_
             rw [hmg, if_pos (hon.mp hnn)]
             refine wN_up hw hkm.1 hok ?_ ?_ ?_
             · rw [ua_n (by decide), ua_n (by decide), ua_s]
             · rw [ua_s, ua_n (by decide), ua_n (by decide)]
             · rw [ua_n (by decide), ua_s, ua_n (by decide)])
          | (refine ih (k + 1) _ _ _ (Or.inr ⟨_, _, rfl, rfl⟩) (by omega) f ?_
             rw [hmg, if_neg (fun z => c23 ((wN_0 hw hkm.1).mpr (hon.mpr z)))]
             exact hw)
      · have hnn := (wN_0 hw hkm.1).mp c23
        refine pz_aln (i := 24) rfl rfl ?_
        refine pz_get (i := 25) rfl (gf_54_42 ..) ?_
        refine pz_il (i := 26) rfl rfl ?_
        refine pz_aln (i := 27) rfl rfl ?_
        refine pz_iln (i := 28) rfl rfl ?_
        refine pz_iln (i := 29) rfl rfl ?_
        refine pz_ic (i := 30) rfl ?_
        refine pz_add (i := 31) rfl ?_
        rw [show nI (16 + 10 * k) + 1 = nI (16 + 10 * k + 1) from nI_add _ 1]
        refine pz_cI2 (i := 32) rfl (gc_54 ..) rfl (Nat.le_of_ble_eq_true rfl) rfl ?_
        refine sm_tableByte hr hgb hub ht hE0.1 (q := 16 + 10 * k + 1) (by omega) ?_
        rw [← Nat.add_assoc, ← Nat.add_assoc, hen.2.1]
        refine ⟨_, rfl, ?_⟩
        refine pz_ias (i := 33) rfl (ga_75 ..) (in_ofI hkm.1) (pa_75 ..) ?_
        rw [cl_ofI (a := ksA t.2.2.2 k) (by have := hkm.1; omega)]
        have fA : frA bv (up_a bv 20 (upd (bv 20) (ksA t.2.2.2 k) (nI e.1))) [20] := frA_up (frA_rfl _ _) (by decide)
        have hgb1 : geo rm (up_a bv 20 (upd (bv 20) (ksA t.2.2.2 k) (nI e.1))) := fun a ha => by rw [ua_n (by decide), ua_n (by decide)]; exact hgb a ha
        have hub1 : uM jv (up_a bv 20 (upd (bv 20) (ksA t.2.2.2 k) (nI e.1))) us := ⟨hub.1, hub.2.1, fun i t h => by rw [ua_n (by decide)]; exact hub.2.2 i t h⟩
        refine pz_aln (i := 34) rfl rfl ?_
        refine pz_get (i := 35) rfl (gf_54_44 ..) ?_
        refine pz_il (i := 36) rfl rfl ?_
        refine pz_aln (i := 37) rfl rfl ?_
        refine pz_iln (i := 38) rfl rfl ?_
        refine pz_iln (i := 39) rfl rfl ?_
        refine pz_ic (i := 40) rfl ?_
        refine pz_add (i := 41) rfl ?_
        rw [show nI (16 + 10 * k) + 2 = nI (16 + 10 * k + 2) from nI_add _ 2]
        refine pz_cI2 (i := 42) rfl (gc_54 ..) rfl (Nat.le_of_ble_eq_true rfl) rfl ?_
        refine sm_tableFour hr hgb1 hub1 ht hE0.1 (q := 16 + 10 * k + 2) (by omega) ?_
        rw [ua_n (by decide), ← Nat.add_assoc, ← Nat.add_assoc, hen.2.2.1]
        refine ⟨_, rfl, ?_⟩
        refine pz_ias (i := 43) rfl (ga_77 ..) (in_ofI hkm.1) (pa_77 ..) ?_
        rw [cl_ofI (a := ksA t.2.2.2 k) (by have := hkm.1; omega)]
        have hgb2 : geo rm (up_a (up_a bv 20 (upd (bv 20) (ksA t.2.2.2 k) (nI e.1))) 22 (upd ((up_a bv 20 (upd (bv 20) (ksA t.2.2.2 k) (nI e.1))) 22) (ksA t.2.2.2 k) (nI e.2.2))) := fun a ha => by rw [ua_n (by decide), ua_n (by decide)]; exact hgb1 a ha
        have hub2 : uM jv (up_a (up_a bv 20 (upd (bv 20) (ksA t.2.2.2 k) (nI e.1))) 22 (upd ((up_a bv 20 (upd (bv 20) (ksA t.2.2.2 k) (nI e.1))) 22) (ksA t.2.2.2 k) (nI e.2.2))) us := ⟨hub.1, hub.2.1, fun i t h => by rw [ua_n (by decide)]; exact hub1.2.2 i t h⟩
        refine pz_aln (i := 44) rfl rfl ?_
        refine pz_get (i := 45) rfl (gf_54_43 ..) ?_
        refine pz_il (i := 46) rfl rfl ?_
        refine pz_aln (i := 47) rfl rfl ?_
        refine pz_iln (i := 48) rfl rfl ?_
        refine pz_iln (i := 49) rfl rfl ?_
        refine pz_bi (i := 50) rfl ?_
        refine pz_add (i := 51) rfl ?_
        rw [show nI (16 + 10 * k) + 6 = nI (16 + 10 * k + 6) from nI_add _ 6]
        refine pz_cI2 (i := 52) rfl (gc_54 ..) rfl (Nat.le_of_ble_eq_true rfl) rfl ?_
        refine sm_tableFour hr hgb2 hub2 ht hE0.1 (q := 16 + 10 * k + 6) (by omega) ?_
        rw [ua_n (by decide), ua_n (by decide), ← Nat.add_assoc, ← Nat.add_assoc, hen.2.2.2]
        refine ⟨_, rfl, ?_⟩
        refine pz_ias (i := 53) rfl (ga_76 ..) (in_ofI hkm.1) (pa_76 ..) ?_
        rw [cl_ofI (a := ksA t.2.2.2 k) (by have := hkm.1; omega)]
        refine pz_inc (i := 54) rfl rfl rfl rfl ?_
        rw [show nI k + 1 = nI (k + 1) from nI_add k 1]
        refine pz_go (i := 55) rfl ?_
        first
          | (refine ih (k + 1) _ _ _ (Or.inr ⟨_, _, rfl, rfl⟩) (by omega) (frA_tr f (frA_up (frA_up (frA_up (frA_rfl _ [20, 21, 22]) (by decide)) (by decide)) (by decide)) (by decide) (by decide)) ?_
             rw [hmg, if_pos (hon.mp hnn)]
             refine wN_up hw hkm.1 hok ?_ ?_ ?_
             · rw [ua_n (by decide), ua_n (by decide), ua_s]
             · rw [ua_s, ua_n (by decide), ua_n (by decide)]
             · rw [ua_n (by decide), ua_s, ua_n (by decide)])
          | (refine ih (k + 1) _ _ _ (Or.inr ⟨_, _, rfl, rfl⟩) (by omega) f ?_
             rw [hmg, if_neg (fun z => c23 ((wN_0 hw hkm.1).mpr (hon.mpr z)))]
             exact hw)
    rcases hx with ⟨rfl, rfl⟩ | ⟨y3, y4, rfl, rfl⟩
    · refine pz_iln (i := 2) rfl rfl ?_
      refine pz_aln (i := 3) rfl rfl ?_
      refine pz_iln (i := 4) rfl rfl ?_
      refine pz_ic (i := 5) rfl ?_
      refine pz_cI2 (i := 6) rfl (gc_54 ..) rfl (Nat.le_of_ble_eq_true rfl) rfl ?_
      refine sm_tableByte hr hgb hub ht hE0.1 (q := 2) (by decide) ?_
      rw [hcnt]
      refine ⟨_, rfl, ?_⟩
      refine pz_ii_ge (i := 7) rfl (fun c7 => ?_) (fun c7 => ?_)
      · exact absurd (le_ofI c7) (by omega)
      · refine pz_bi (i := 8) rfl ?_
        refine pz_bi (i := 9) rfl ?_
        refine pz_iln (i := 10) rfl rfl ?_
        refine pz_mul (i := 11) rfl ?_
        rw [show (10 : Int32) * nI k = nI (10 * k) from pk_mul 10 k]
        refine pz_add (i := 12) rfl ?_
        rw [show (16 : Int32) + nI (10 * k) = nI (16 + 10 * k) from nI_add 16 _]
        refine pz_isn (i := 13) rfl ⟨rfl, Nat.le_of_ble_eq_true rfl⟩ rfl ?_
        refine pz_aln (i := 14) rfl rfl ?_
        refine pz_iln (i := 15) rfl rfl ?_
        refine pz_iln (i := 16) rfl rfl ?_
        refine pz_cI2 (i := 17) rfl (gc_54 ..) rfl (Nat.le_of_ble_eq_true rfl) rfl ?_
        refine sm_tableByte hr hgb hub ht hE0.1 (q := 16 + 10 * k) (by omega) ?_
        rw [← Nat.add_assoc, hen.1]
        refine ⟨_, rfl, ?_⟩
        refine pz_is (i := 18) rfl ⟨rfl, Nat.le_of_ble_eq_true rfl⟩ rfl ?_
        exact k8 none none (Or.inl ⟨rfl, rfl⟩)
    · refine pz_iln (i := 2) rfl rfl ?_
      refine pz_aln (i := 3) rfl rfl ?_
      refine pz_iln (i := 4) rfl rfl ?_
      refine pz_ic (i := 5) rfl ?_
      refine pz_cI2 (i := 6) rfl (gc_54 ..) rfl (Nat.le_of_ble_eq_true rfl) rfl ?_
      refine sm_tableByte hr hgb hub ht hE0.1 (q := 2) (by decide) ?_
      rw [hcnt]
      refine ⟨_, rfl, ?_⟩
      refine pz_ii_ge (i := 7) rfl (fun c7 => ?_) (fun c7 => ?_)
      · exact absurd (le_ofI c7) (by omega)
      · refine pz_bi (i := 8) rfl ?_
        refine pz_bi (i := 9) rfl ?_
        refine pz_iln (i := 10) rfl rfl ?_
        refine pz_mul (i := 11) rfl ?_
        rw [show (10 : Int32) * nI k = nI (10 * k) from pk_mul 10 k]
        refine pz_add (i := 12) rfl ?_
        rw [show (16 : Int32) + nI (10 * k) = nI (16 + 10 * k) from nI_add 16 _]
        refine pz_isn (i := 13) rfl ⟨rfl, Nat.le_of_ble_eq_true rfl⟩ rfl ?_
        refine pz_aln (i := 14) rfl rfl ?_
        refine pz_iln (i := 15) rfl rfl ?_
        refine pz_iln (i := 16) rfl rfl ?_
        refine pz_cI2 (i := 17) rfl (gc_54 ..) rfl (Nat.le_of_ble_eq_true rfl) rfl ?_
        refine sm_tableByte hr hgb hub ht hE0.1 (q := 16 + 10 * k) (by omega) ?_
        rw [← Nat.add_assoc, hen.1]
        refine ⟨_, rfl, ?_⟩
        refine pz_is (i := 18) rfl ⟨rfl, Nat.le_of_ble_eq_true rfl⟩ rfl ?_
        exact k8 none none (Or.inl ⟨rfl, rfl⟩)
set_option maxRecDepth 20000 in
theorem sm_gather (hr : 0 < rm ∧ rm ≤ 4096) {us : List tB} {i : Nat} {t : tB} (ht : us[i]? = some t) (hg : geo rm bv) (hu : uM jv bv us) (hE0 : tE rm (bv 2) t) {old : mP} (hw : wN bv old) (hQ : ∀ bv', wN bv' (fun k => match old k with | some e => some e | none => t.2.2.2 k) → frA bv bv' [20, 21, 22] → Q none (wX rm iv av (wM rm jv bv'))) : rx_R Lx xs (d + 5) 110 [.ref 54, .int (nI i)] (wX rm iv av (wM rm jv bv)) Q := by
  refine pz_en (t := rt_110) ⟨Nat.le_of_ble_eq_true rfl, rfl⟩ rfl rfl ?_
  rw [← mgB_all hE0.2.2.2.1] at hQ
  refine pz_ic (i := 0) rfl ?_
  refine pz_isn (i := 1) rfl ⟨rfl, Nat.le_of_ble_eq_true rfl⟩ rfl ?_
  exact lq_ga hr ht hg hu hE0 hQ (kS t.2.2.2).length 0 bv none none (Or.inl ⟨rfl, rfl⟩) (Nat.zero_add _) (frA_rfl _ _) (by rw [mgB_0]; exact hw)
def cnN (m : mP) (n : Nat) : Nat := ((List.range n).filter (fun k => (m k).isSome)).length
theorem cnN_s (m : mP) (n : Nat) : cnN m (n + 1) = cnN m n + if (m n).isSome then 1 else 0 := by
  unfold cnN
  rw [List.range_succ, List.filter_append, List.length_append]
  congr 1
  cases h : (m n).isSome <;> simp [h]
theorem cnN_le (m : mP) (n : Nat) : cnN m n ≤ n := by
  have := List.length_filter_le (fun k => (m k).isSome) (List.range n)
  rw [List.length_range] at this
  exact this
set_option maxRecDepth 20000 in
theorem lp_nc {m : mP} (hw : wN bv m) (hQ : Q (some (.int (nI (kS m).length))) (wX rm iv av (wM rm jv bv))) : ∀ (f k : Nat), k + f = 120 → pz Lx xs d rt_111 (some .int) Q 4 [some (.ref 54), some (.int (nI (cnN m k))), some (.int (nI k))] [] (wX rm iv av (wM rm jv bv))
  | 0, k, hk => by
    obtain rfl : k = 120 := by omega
    refine pz_iln (i := 4) rfl rfl ?_
    refine pz_bi (i := 5) rfl ?_
    refine pz_ii_ge (i := 6) rfl (fun c6 => ?_) (fun c6 => ?_)
    · refine pz_iln (i := 20) rfl rfl ?_
      refine pz_ir (i := 21) rfl rfl rfl ?_
      exact hQ
    · exact absurd (Int32.le_refl _) c6
  | f + 1, k, hk => by
    have hk1 : k < 120 := by omega
    have hle := cnN_le m k
    refine pz_iln (i := 4) rfl rfl ?_
    refine pz_bi (i := 5) rfl ?_
    refine pz_ii_ge (i := 6) rfl (fun c6 => ?_) (fun c6 => ?_)
    · exact absurd (le_ofI (a := 120) c6) (by omega)
    · refine pz_iln (i := 7) rfl rfl ?_
      refine pz_aln (i := 8) rfl rfl ?_
      refine pz_get (i := 9) rfl (gf_54_42 ..) ?_
      refine pz_iln (i := 10) rfl rfl ?_
      refine pz_ial (i := 11) rfl (ga_75 ..) (in_ofI hk1) ?_
      rw [cl_ofI (a := k)]
      refine pz_if_le (i := 12) rfl (fun c12 => ?_) (fun c12 => ?_)
      · refine pz_ic (i := 15) rfl ?_
        refine pz_add (i := 16) rfl ?_
        first
          | rw [show nI (cnN m k) + 1 = nI (cnN m k + 1) from nI_add _ 1]
          | rw [show nI (cnN m k) + 0 = nI (cnN m k + 0) from nI_add _ 0]
        refine pz_isn (i := 17) rfl ⟨rfl, Nat.le_of_ble_eq_true rfl⟩ rfl ?_
        refine pz_inc (i := 18) rfl rfl rfl rfl ?_
        rw [show nI k + 1 = nI (k + 1) from nI_add k 1]
        refine pz_go (i := 19) rfl ?_
        have h := lp_nc hw hQ f (k + 1) (by omega)
        rw [cnN_s] at h
        first
          | (rw [(wN_le hw hk1).mp c12] at h
             exact h)
          | (rw [if_pos (show (m k).isSome = true by cases he : m k with | none => exact absurd ((wN_le hw hk1).mpr he) c12 | some y => rfl)] at h
             exact h)
      · refine pz_ic (i := 13) rfl ?_
        refine pz_go (i := 14) rfl ?_
        refine pz_add (i := 16) rfl ?_
        first
          | rw [show nI (cnN m k) + 1 = nI (cnN m k + 1) from nI_add _ 1]
          | rw [show nI (cnN m k) + 0 = nI (cnN m k + 0) from nI_add _ 0]
        refine pz_isn (i := 17) rfl ⟨rfl, Nat.le_of_ble_eq_true rfl⟩ rfl ?_
        refine pz_inc (i := 18) rfl rfl rfl rfl ?_
        rw [show nI k + 1 = nI (k + 1) from nI_add k 1]
        refine pz_go (i := 19) rfl ?_
        have h := lp_nc hw hQ f (k + 1) (by omega)
        rw [cnN_s] at h
        first
          | (rw [(wN_le hw hk1).mp c12] at h
             exact h)
          | (rw [if_pos (show (m k).isSome = true by cases he : m k with | none => exact absurd ((wN_le hw hk1).mpr he) c12 | some y => rfl)] at h
             exact h)
set_option maxRecDepth 20000 in
theorem sm_newCount {m : mP} (hw : wN bv m) (hQ : Q (some (.int (nI (kS m).length))) (wX rm iv av (wM rm jv bv))) : rx_R Lx xs (d + 1) 111 [.ref 54] (wX rm iv av (wM rm jv bv)) Q := by
  refine pz_en (t := rt_111) ⟨Nat.le_of_ble_eq_true rfl, rfl⟩ rfl rfl ?_
  refine pz_ic (i := 0) rfl ?_
  refine pz_isn (i := 1) rfl ⟨rfl, Nat.le_of_ble_eq_true rfl⟩ rfl ?_
  refine pz_ic (i := 2) rfl ?_
  refine pz_isn (i := 3) rfl ⟨rfl, Nat.le_of_ble_eq_true rfl⟩ rfl ?_
  exact lp_nc hw hQ 120 0 rfl
def lvC (us : List tB) (l : Nat) : Nat := (us.filter (fun t => decide (t.2.1 = l))).length
theorem lvC_cons (t : tB) (us : List tB) (l : Nat) : lvC (t :: us) l = lvC us l + if t.2.1 = l then 1 else 0 := by
  unfold lvC
  rw [List.filter_cons]
  by_cases h : t.2.1 = l
  · rw [if_pos (decide_eq_true h), if_pos h]
    rfl
  · rw [if_neg (by rw [decide_eq_false h]; decide), if_neg h]
    rfl
theorem lvC_le (us : List tB) (l : Nat) : lvC us l ≤ us.length := List.length_filter_le _ _
theorem lvC_take {us : List tB} {i l : Nat} {t : tB} (h : us[i]? = some t) : lvC (us.take (i + 1)) l = lvC (us.take i) l + if t.2.1 = l then 1 else 0 := by
  rw [List.take_add_one, h]
  unfold lvC
  rw [List.filter_append, List.length_append]
  congr 1
  show ([t].filter _).length = _
  by_cases e : t.2.1 = l
  · rw [if_pos e, List.filter_cons, if_pos (decide_eq_true e)]
    rfl
  · rw [if_neg e, List.filter_cons, if_neg (by rw [decide_eq_false e]; decide)]
    rfl
set_option maxRecDepth 20000 in
theorem lp_co (hr : 0 < rm ∧ rm ≤ 4096) (hg : geo rm bv) {us : List tB} {l : Nat} (hl : l < 3) (hu : uM jv bv us) (hE : ∀ t ∈ us, tE rm (bv 2) t) (hQ : Q (some (.int (nI (lvC us l)))) (wX rm iv av (wM rm jv bv))) : ∀ (f k : Nat), k + f = us.length → pz Lx xs (d + 4) rt_115 (some .int) Q 4 [some (.ref 54), some (.int (nI l)), some (.int (nI (lvC (us.take k) l))), some (.int (nI k))] [] (wX rm iv av (wM rm jv bv))
  | 0, k, hk => by
    obtain rfl : k = us.length := by omega
    rw [List.take_length]
    refine pz_iln (i := 4) rfl rfl ?_
    refine pz_aln (i := 5) rfl rfl ?_
    refine pz_get (i := 6) rfl (gf_54_36 ..) ?_
    rw [hu.1]
    refine pz_ii_ge (i := 7) rfl (fun c7 => ?_) (fun c7 => ?_)
    · refine pz_iln (i := 21) rfl rfl ?_
      refine pz_ir (i := 22) rfl rfl rfl ?_
      exact hQ
    · exact absurd (Int32.le_refl _) c7
  | f + 1, k, hk => by
    have h6 := hu.2.1
    have hk1 : k < us.length := by omega
    have ht := List.getElem?_eq_getElem hk1
    have hEt := hE _ (List.mem_of_getElem? ht)
    have hl2 := hEt.2.1
    have hle := lvC_le (us.take k) l
    rw [List.length_take] at hle
    refine pz_iln (i := 4) rfl rfl ?_
    refine pz_aln (i := 5) rfl rfl ?_
    refine pz_get (i := 6) rfl (gf_54_36 ..) ?_
    rw [hu.1]
    refine pz_ii_ge (i := 7) rfl (fun c7 => ?_) (fun c7 => ?_)
    · exact absurd (le_ofI c7) (by omega)
    · refine pz_iln (i := 8) rfl rfl ?_
      refine pz_aln (i := 9) rfl rfl ?_
      refine pz_iln (i := 10) rfl rfl ?_
      refine pz_cI1 (i := 11) rfl (gc_54 ..) rfl (Nat.le_of_ble_eq_true rfl) rfl ?_
      refine sm_levelOf hr hg hu ht hEt.1 ?_
      rw [hEt.2.2.2.2.1]
      refine ⟨_, rfl, ?_⟩
      refine pz_iln (i := 12) rfl rfl ?_
      refine pz_ii_ne (i := 13) rfl (fun c13 => ?_) (fun c13 => ?_)
      · refine pz_ic (i := 16) rfl ?_
        refine pz_add (i := 17) rfl ?_
        first
          | rw [show nI (lvC (us.take k) l) + 1 = nI (lvC (us.take k) l + 1) from nI_add _ 1]
          | rw [show nI (lvC (us.take k) l) + 0 = nI (lvC (us.take k) l + 0) from nI_add _ 0]
        refine pz_isn (i := 18) rfl ⟨rfl, Nat.le_of_ble_eq_true rfl⟩ rfl ?_
        refine pz_inc (i := 19) rfl rfl rfl rfl ?_
        rw [show nI k + 1 = nI (k + 1) from nI_add k 1]
        refine pz_go (i := 20) rfl ?_
        have h := lp_co hr hg hl hu hE hQ f (k + 1) (by omega)
        rw [lvC_take ht] at h
        first
          | (rw [if_neg (ne_ofI c13)] at h
             exact h)
          | (rw [if_pos (eq_ofI c13)] at h
             exact h)
      · refine pz_ic (i := 14) rfl ?_
        refine pz_go (i := 15) rfl ?_
        refine pz_add (i := 17) rfl ?_
        first
          | rw [show nI (lvC (us.take k) l) + 1 = nI (lvC (us.take k) l + 1) from nI_add _ 1]
          | rw [show nI (lvC (us.take k) l) + 0 = nI (lvC (us.take k) l + 0) from nI_add _ 0]
        refine pz_isn (i := 18) rfl ⟨rfl, Nat.le_of_ble_eq_true rfl⟩ rfl ?_
        refine pz_inc (i := 19) rfl rfl rfl rfl ?_
        rw [show nI k + 1 = nI (k + 1) from nI_add k 1]
        refine pz_go (i := 20) rfl ?_
        have h := lp_co hr hg hl hu hE hQ f (k + 1) (by omega)
        rw [lvC_take ht] at h
        first
          | (rw [if_neg (ne_ofI c13)] at h
             exact h)
          | (rw [if_pos (eq_ofI c13)] at h
             exact h)
set_option maxRecDepth 20000 in
theorem sm_countOf (hr : 0 < rm ∧ rm ≤ 4096) (hg : geo rm bv) {us : List tB} {l : Nat} (hl : l < 3) (hu : uM jv bv us) (hE : ∀ t ∈ us, tE rm (bv 2) t) (hQ : Q (some (.int (nI (lvC us l)))) (wX rm iv av (wM rm jv bv))) : rx_R Lx xs (d + 5) 115 [.ref 54, .int (nI l)] (wX rm iv av (wM rm jv bv)) Q := by
  refine pz_en (t := rt_115) ⟨Nat.le_of_ble_eq_true rfl, rfl⟩ rfl rfl ?_
  refine pz_ic (i := 0) rfl ?_
  refine pz_isn (i := 1) rfl ⟨rfl, Nat.le_of_ble_eq_true rfl⟩ rfl ?_
  refine pz_ic (i := 2) rfl ?_
  refine pz_isn (i := 3) rfl ⟨rfl, Nat.le_of_ble_eq_true rfl⟩ rfl ?_
  exact lp_co hr hg hl hu hE hQ us.length 0 (Nat.zero_add _)
/-- the places that were put away -/
def pA (bv : Nat → Nat → Int32) (pa : List Nat) : Prop := ∀ q, q < 12 → (bv 16 q = 0 ↔ q ∉ pa)
theorem pA_ext {bv bv' : Nat → Nat → Int32} {pa : List Nat} (h : pA bv pa) (e : bv' 16 = bv 16) : pA bv' pa := by
  unfold pA at h ⊢
  rw [e]
  exact h
set_option maxRecDepth 20000 in
theorem lq_d1 {us : List tB} {n : Nat} (hn : n ≤ us.length) {bv0 : Nat → Nat → Int32} (hu : uM jv bv0 us) (h12 : ∀ t ∈ us, t.1 < 12) {pa : List Nat} (hQ : ∀ bv', frA bv0 bv' [16] → pA bv' (pa ++ pls (us.take n)) → pz Lx xs d rt_113 none Q 17 [some (.ref 54), some (.int 0), some (.int (nI n)), some (.int (nI n))] [] (wX rm iv av (wM rm jv bv'))) : ∀ (m k : Nat) (bv : Nat → Nat → Int32), k + m = n → frA bv0 bv [16] → pA bv (pa ++ pls (us.take k)) → pz Lx xs d rt_113 none Q 2 [some (.ref 54), some (.int 0), some (.int (nI n)), some (.int (nI k))] [] (wX rm iv av (wM rm jv bv))
  | 0, k, bv, hk, f, h1 => by
    obtain rfl : k = n := by omega
    refine pz_iln (i := 2) rfl rfl ?_
    refine pz_iln (i := 3) rfl rfl ?_
    refine pz_iln (i := 4) rfl rfl ?_
    refine pz_add (i := 5) rfl ?_
    rw [show (0 : Int32) + nI k = nI (0 + k) from nI_add 0 k, Nat.zero_add]
    refine pz_ii_ge (i := 6) rfl (fun c6 => ?_) (fun c6 => ?_)
    · exact hQ bv f h1
    · exact absurd (Int32.le_refl _) c6
  | m + 1, k, bv, hk, f, h1 => by
    have h6 := hu.2.1
    have hk1 : k < us.length := by omega
    have ht := List.getElem?_eq_getElem hk1
    have ht12 := h12 _ (List.mem_of_getElem? ht)
    have hp := hu.2.2 k _ ht
    refine pz_iln (i := 2) rfl rfl ?_
    refine pz_iln (i := 3) rfl rfl ?_
    refine pz_iln (i := 4) rfl rfl ?_
    refine pz_add (i := 5) rfl ?_
    rw [show (0 : Int32) + nI n = nI (0 + n) from nI_add 0 n, Nat.zero_add]
    refine pz_ii_ge (i := 6) rfl (fun c6 => ?_) (fun c6 => ?_)
    · exact absurd (le_ofI c6) (by omega)
    · refine pz_aln (i := 7) rfl rfl ?_
      refine pz_get (i := 8) rfl (gf_54_37 ..) ?_
      refine pz_aln (i := 9) rfl rfl ?_
      refine pz_get (i := 10) rfl (gf_54_35 ..) ?_
      refine pz_iln (i := 11) rfl rfl ?_
      refine pz_ial (i := 12) rfl (ga_70 ..) (in_ofI (by omega)) ?_
      rw [cl_ofI (a := k), f 15 (by decide), hp]
      refine pz_ic (i := 13) rfl ?_
      refine pz_bas (i := 14) rfl (ga_71 ..) rfl (in_ofI ht12) (pa_71 ..) ?_
      rw [cl_ofI (a := (us[k]).1) (by omega)]
      refine pz_inc (i := 15) rfl rfl rfl rfl ?_
      rw [show nI k + 1 = nI (k + 1) from nI_add k 1]
      refine pz_go (i := 16) rfl ?_
      refine lq_d1 hn hu h12 hQ m (k + 1) _ (by omega) (frA_tr f (frA_up (frA_rfl _ [16]) (by decide)) (by decide) (by decide)) (fun q hq => ?_)
      rw [ua_s, List.take_add_one, ht]
      have hmem : q ∈ pa ++ pls (us.take k ++ (some us[k]).toList) ↔ q ∈ pa ++ pls (us.take k) ∨ q = (us[k]).1 := by
        unfold pls
        rw [List.map_append, ← List.append_assoc, List.mem_append]
        exact or_congr Iff.rfl (by simp)
      rw [hmem]
      by_cases e : q = (us[k]).1
      · subst e
        rw [ui_s]
        exact ⟨fun z => absurd z (by decide), fun z => absurd (Or.inr rfl) z⟩
      · rw [ui_n e]
        refine (h1 q hq).trans ⟨fun z w => w.elim z e, fun z w => z (Or.inl w)⟩
set_option maxRecDepth 20000 in
theorem lq_d2 {us : List tB} {n : Nat} (hn : n ≤ us.length) {bv0 : Nat → Nat → Int32} (hu : uM jv bv0 us) (hQ : ∀ bv', frA bv0 bv' [15] → (∀ i t, (us.drop n)[i]? = some t → bv' 15 i = nI t.1) → pz Lx xs d rt_113 none Q 37 [some (.ref 54), some (.int 0), some (.int (nI n)), some (.int (nI (us.length - n)))] [] (wX rm iv av (wM rm jv bv'))) : ∀ (m k : Nat) (bv : Nat → Nat → Int32), k + n + m = us.length → frA bv0 bv [15] → (∀ i, i < k → ∀ t, us[i + n]? = some t → bv 15 i = nI t.1) → (∀ i, k ≤ i → bv 15 i = bv0 15 i) → pz Lx xs d rt_113 none Q 19 [some (.ref 54), some (.int 0), some (.int (nI n)), some (.int (nI k))] [] (wX rm iv av (wM rm jv bv))
  | 0, k, bv, hk, f, h1, h2 => by
    have h6 := hu.2.1
    have e : k = us.length - n := by omega
    have e2 : k + n = us.length := by omega
    refine pz_iln (i := 19) rfl rfl ?_
    refine pz_iln (i := 20) rfl rfl ?_
    refine pz_add (i := 21) rfl ?_
    rw [nI_add]
    refine pz_aln (i := 22) rfl rfl ?_
    refine pz_get (i := 23) rfl (gf_54_36 ..) ?_
    rw [hu.1]
    refine pz_ii_ge (i := 24) rfl (fun c24 => ?_) (fun c24 => ?_)
    · rw [e]
      refine hQ bv f (fun i t hi => ?_)
      rw [List.getElem?_drop] at hi
      have hi2 := (List.getElem?_eq_some_iff.mp hi).1
      exact h1 i (by omega) t (by rw [Nat.add_comm]; exact hi)
    · rw [e2] at c24
      exact absurd (Int32.le_refl _) c24
  | m + 1, k, bv, hk, f, h1, h2 => by
    have h6 := hu.2.1
    have hk1 : k + n < us.length := by omega
    have ht := List.getElem?_eq_getElem hk1
    have hp := hu.2.2 (k + n) _ ht
    have h15 : bv 15 (k + n) = bv0 15 (k + n) := h2 (k + n) (by omega)
    refine pz_iln (i := 19) rfl rfl ?_
    refine pz_iln (i := 20) rfl rfl ?_
    refine pz_add (i := 21) rfl ?_
    rw [nI_add]
    refine pz_aln (i := 22) rfl rfl ?_
    refine pz_get (i := 23) rfl (gf_54_36 ..) ?_
    rw [hu.1]
    refine pz_ii_ge (i := 24) rfl (fun c24 => ?_) (fun c24 => ?_)
    · exact absurd (le_ofI c24) (by omega)
    · refine pz_aln (i := 25) rfl rfl ?_
      refine pz_get (i := 26) rfl (gf_54_35 ..) ?_
      refine pz_iln (i := 27) rfl rfl ?_
      refine pz_aln (i := 28) rfl rfl ?_
      refine pz_get (i := 29) rfl (gf_54_35 ..) ?_
      refine pz_iln (i := 30) rfl rfl ?_
      refine pz_iln (i := 31) rfl rfl ?_
      refine pz_add (i := 32) rfl ?_
      rw [nI_add]
      refine pz_ial (i := 33) rfl (ga_70 ..) (in_ofI (by omega)) ?_
      rw [cl_ofI (a := k + n), h15, hp]
      refine pz_ias (i := 34) rfl (ga_70 ..) (in_ofI (by omega)) (pa_70 ..) ?_
      rw [cl_ofI (a := k)]
      refine pz_inc (i := 35) rfl rfl rfl rfl ?_
      rw [show nI k + 1 = nI (k + 1) from nI_add k 1]
      refine pz_go (i := 36) rfl ?_
      refine lq_d2 hn hu hQ m (k + 1) _ (by omega) (frA_tr f (frA_up (frA_rfl _ [15]) (by decide)) (by decide) (by decide)) (fun i hi t hti => ?_) (fun i hi => ?_)
      · rw [ua_s]
        by_cases e : i = k
        · subst e
          rw [ui_s]
          rw [ht] at hti
          rw [Option.some.inj hti]
        · rw [ui_n e]
          exact h1 i (by omega) t hti
      · rw [ua_s, ui_n (by omega)]
        exact h2 i (by omega)
set_option maxRecDepth 20000 in
theorem sm_drop {us : List tB} {n : Nat} (hn : n ≤ us.length) (hu : uM jv bv us) (h12 : ∀ t ∈ us, t.1 < 12) {pa : List Nat} (hp : pA bv pa) (hQ : ∀ jv' bv', uM jv' bv' (us.drop n) → pA bv' (pa ++ pls (us.take n)) → frI jv jv' [19] → frA bv bv' [15, 16] → Q none (wX rm iv av (wM rm jv' bv'))) : rx_R Lx xs (d + 1) 113 [.ref 54, .int 0, .int (nI n)] (wX rm iv av (wM rm jv bv)) Q := by
  refine pz_en (t := rt_113) ⟨Nat.le_of_ble_eq_true rfl, rfl⟩ rfl rfl ?_
  have h6 := hu.2.1
  refine pz_iln (i := 0) rfl rfl ?_
  refine pz_isn (i := 1) rfl ⟨rfl, Nat.le_of_ble_eq_true rfl⟩ rfl ?_
  refine lq_d1 hn hu h12 (pa := pa) (fun bv1 f1 p1 => ?_) n 0 bv (Nat.zero_add _) (frA_rfl _ _) (by rw [show us.take 0 = [] from rfl]; show pA bv (pa ++ []); rw [List.append_nil]; exact hp)
  have hu1 : uM jv bv1 us := ⟨hu.1, hu.2.1, fun i t h => by rw [f1 15 (by decide)]; exact hu.2.2 i t h⟩
  refine pz_iln (i := 17) rfl rfl ?_
  refine pz_isn (i := 18) rfl ⟨rfl, Nat.le_of_ble_eq_true rfl⟩ rfl ?_
  refine lq_d2 hn hu1 (fun bv2 f2 p2 => ?_) (us.length - n) 0 bv1 (by omega) (frA_rfl _ _) (fun i hi => absurd hi (Nat.not_lt_zero i)) (fun _ _ => rfl)
  refine pz_aln (i := 37) rfl rfl ?_
  refine pz_dup (i := 38) rfl rfl ?_
  refine pz_get (i := 39) rfl (gf_54_36 ..) ?_
  rw [hu.1]
  refine pz_iln (i := 40) rfl rfl ?_
  refine pz_sub (i := 41) rfl ?_
  rw [pk_sub hn]
  refine pz_put (i := 42) rfl (pf_54_36 ..) ⟨rfl, rfl⟩ ?_
  refine pz_vr (i := 43) rfl rfl ?_
  refine hQ _ bv2 ⟨?_, ?_, fun i t hi => p2 i t hi⟩ (pA_ext p1 (f2 16 (by decide))) (frI_up (frI_rfl _ _) (by decide)) (frA_tr f1 f2 (by decide) (by decide))
  · rw [ui_s, List.length_drop]
  · rw [List.length_drop]
    omega
set_option maxRecDepth 20000 in
theorem lq_in {us : List tB} {pl : Nat} (h5 : us.length ≤ 5) {bv0 : Nat → Nat → Int32} (hu : uM jv bv0 us) (hQ : ∀ bv', frA bv0 bv' [15] → (∀ i t, us[i]? = some t → bv' 15 (i + 1) = nI t.1) → pz Lx xs d rt_114 none Q 18 [some (.ref 54), some (.int 0), some (.int (nI pl)), some (.int (nI 0))] [] (wX rm iv av (wM rm jv bv'))) : ∀ (k : Nat) (bv : Nat → Nat → Int32), k ≤ us.length → frA bv0 bv [15] → (∀ i, k ≤ i → ∀ t, us[i]? = some t → bv 15 (i + 1) = nI t.1) → (∀ i, i ≤ k → bv 15 i = bv0 15 i) → pz Lx xs d rt_114 none Q 3 [some (.ref 54), some (.int 0), some (.int (nI pl)), some (.int (nI k))] [] (wX rm iv av (wM rm jv bv))
  | 0, bv, hk, f, h1, h2 => by
    refine pz_iln (i := 3) rfl rfl ?_
    refine pz_iln (i := 4) rfl rfl ?_
    refine pz_ii_le (i := 5) rfl (fun c5 => ?_) (fun c5 => ?_)
    · exact hQ bv f (fun i t hi => h1 i (Nat.zero_le _) t hi)
    · exact absurd (Int32.le_refl _) c5
  | k + 1, bv, hk, f, h1, h2 => by
    have hk1 : k < us.length := by omega
    have ht := List.getElem?_eq_getElem hk1
    have hp := hu.2.2 k _ ht
    have h15 : bv 15 k = bv0 15 k := h2 k (by omega)
    refine pz_iln (i := 3) rfl rfl ?_
    refine pz_iln (i := 4) rfl rfl ?_
    refine pz_ii_le (i := 5) rfl (fun c5 => ?_) (fun c5 => ?_)
    · exact absurd (le_ofI (b := 0) c5) (by omega)
    · refine pz_aln (i := 6) rfl rfl ?_
      refine pz_get (i := 7) rfl (gf_54_35 ..) ?_
      refine pz_iln (i := 8) rfl rfl ?_
      refine pz_aln (i := 9) rfl rfl ?_
      refine pz_get (i := 10) rfl (gf_54_35 ..) ?_
      refine pz_iln (i := 11) rfl rfl ?_
      refine pz_ic (i := 12) rfl ?_
      refine pz_sub (i := 13) rfl ?_
      rw [show nI (k + 1) - 1 = nI k from pk_sub (b := 1) (by omega)]
      refine pz_ial (i := 14) rfl (ga_70 ..) (in_ofI (by omega)) ?_
      rw [cl_ofI (a := k), h15, hp]
      refine pz_ias (i := 15) rfl (ga_70 ..) (in_ofI (by omega)) (pa_70 ..) ?_
      rw [cl_ofI (a := k + 1)]
      refine pz_inc (i := 16) rfl rfl rfl rfl ?_
      rw [show nI (k + 1) + (-1) = nI k from (Int32.sub_eq_add_neg ..).symm.trans (pk_sub (b := 1) (by omega))]
      refine pz_go (i := 17) rfl ?_
      refine lq_in h5 hu hQ k _ (by omega) (frA_tr f (frA_up (frA_rfl _ [15]) (by decide)) (by decide) (by decide)) (fun i hi t hti => ?_) (fun i hi => ?_)
      · rw [ua_s]
        by_cases e : i = k
        · subst e
          rw [ui_s]
          rw [ht] at hti
          rw [Option.some.inj hti]
        · rw [ui_n (by omega)]
          exact h1 i (by omega) t hti
      · rw [ua_s, ui_n (by omega)]
        exact h2 i (by omega)
set_option maxRecDepth 20000 in
theorem sm_insert {us : List tB} {t : tB} (h5 : us.length ≤ 5) (hu : uM jv bv us) (hQ : ∀ jv' bv', uM jv' bv' (t :: us) → frI jv jv' [19] → frA bv bv' [15] → Q none (wX rm iv av (wM rm jv' bv'))) : rx_R Lx xs (d + 1) 114 [.ref 54, .int 0, .int (nI t.1)] (wX rm iv av (wM rm jv bv)) Q := by
  refine pz_en (t := rt_114) ⟨Nat.le_of_ble_eq_true rfl, rfl⟩ rfl rfl ?_
  refine pz_aln (i := 0) rfl rfl ?_
  refine pz_get (i := 1) rfl (gf_54_36 ..) ?_
  rw [hu.1]
  refine pz_isn (i := 2) rfl ⟨rfl, Nat.le_of_ble_eq_true rfl⟩ rfl ?_
  refine lq_in h5 hu (fun bv1 f1 p1 => ?_) us.length bv (Nat.le_refl _) (frA_rfl _ _) (fun i hi t hti => absurd (List.getElem?_eq_some_iff.mp hti).1 (by omega)) (fun _ _ => rfl)
  refine pz_aln (i := 18) rfl rfl ?_
  refine pz_get (i := 19) rfl (gf_54_35 ..) ?_
  refine pz_iln (i := 20) rfl rfl ?_
  refine pz_iln (i := 21) rfl rfl ?_
  refine pz_ias (i := 22) rfl (ga_70 ..) (in_ofI (a := 0) (n := 12) (by decide)) (pa_70 ..) ?_
  rw [show (0 : Int32).toNatClampNeg = 0 from rfl]
  refine pz_aln (i := 23) rfl rfl ?_
  refine pz_dup (i := 24) rfl rfl ?_
  refine pz_get (i := 25) rfl (gf_54_36 ..) ?_
  rw [hu.1]
  refine pz_ic (i := 26) rfl ?_
  refine pz_add (i := 27) rfl ?_
  rw [show nI us.length + 1 = nI (us.length + 1) from nI_add _ 1]
  refine pz_put (i := 28) rfl (pf_54_36 ..) ⟨rfl, rfl⟩ ?_
  refine pz_vr (i := 29) rfl rfl ?_
  refine hQ _ _ ⟨ui_s _ _ _, by rw [List.length_cons]; omega, fun i u hi => ?_⟩ (frI_up (frI_rfl _ _) (by decide)) (frA_tr f1 (frA_up (frA_rfl _ [15]) (by decide)) (by decide) (by decide))
  rw [ua_s]
  cases i with
  | zero =>
    rw [ui_s]
    rw [show u = t from (Option.some.inj hi).symm]
  | succ i =>
    rw [ui_n (by omega)]
    exact p1 i u hi
end SB3
