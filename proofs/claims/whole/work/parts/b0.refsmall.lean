/-! PART B0: the reference: put4, sizeAt, isRecord, remember, append -/
/-- the reference behind a power failure -/
def ddM (rm : Nat) (jv : Nat → Int32) (bv : Nat → Nat → Int32) (jv' : Nat → Int32) (bv' : Nat → Nat → Int32) (s : dS) : Prop := dM rm jv' bv' (fl rm s s.2.2.2.1 s.2.2.2.2.1) ∧ jv' 6 = 0 ∧ jv' 10 = 0 ∧ jv' 11 = 0 ∧ jv' 7 = jv 7 ∧ jv' 8 = jv 8 ∧ jv' 9 = jv 9 ∧ bv' 10 = bv 10
/-- the reference where the pure disk is s: alive, and all but S, A as it was; or behind a power failure -/
def oM (rm : Nat) (jv : Nat → Int32) (bv : Nat → Nat → Int32) (jv' : Nat → Int32) (bv' : Nat → Nat → Int32) (s : dS) (S A : List Nat) : Prop := (s.2.2.2.2.2 = false → dM rm jv' bv' s ∧ frI jv jv' S ∧ frA bv bv' A) ∧ (s.2.2.2.2.2 = true → ddM rm jv bv jv' bv' s)
theorem oM_5 {rm : Nat} {jv jv' : Nat → Int32} {bv bv' : Nat → Nat → Int32} {s : dS} {S A : List Nat} (h : oM rm jv bv jv' bv' s S A) : jv' 5 = bB s.2.2.2.2.2 := by
  cases hs : s.2.2.2.2.2 with
  | false =>
    have := (h.1 hs).1.2.2.2.2.2.2.2.2.2.1
    rw [hs] at this
    exact this
  | true => exact (h.2 hs).1.2.2.2.2.2.2.2.2.2.1
theorem oM_tr {rm : Nat} {jv jv1 jv2 : Nat → Int32} {bv bv1 bv2 : Nat → Nat → Int32} {s2 : dS} {S1 A1 S2 A2 S A : List Nat} (f1 : frI jv jv1 S1) (f2 : frA bv bv1 A1) (h : oM rm jv1 bv1 jv2 bv2 s2 S2 A2) (g1 : ∀ x ∈ S1, x ∈ S) (g2 : ∀ x ∈ A1, x ∈ A) (g3 : ∀ x ∈ S2, x ∈ S) (g4 : ∀ x ∈ A2, x ∈ A) (n1 : 7 ∉ S1 ∧ 8 ∉ S1 ∧ 9 ∉ S1) (n2 : 10 ∉ A1) : oM rm jv bv jv2 bv2 s2 S A := by
  refine ⟨fun w => ⟨(h.1 w).1, frI_tr f1 (h.1 w).2.1 g1 g3, frA_tr f2 (h.1 w).2.2 g2 g4⟩, fun w => ?_⟩
  obtain ⟨d1, d2, d3, d4, d5, d6, d7, d8⟩ := h.2 w
  exact ⟨d1, d2, d3, d4, d5.trans (f1 7 n1.1), d6.trans (f1 8 n1.2.1), d7.trans (f1 9 n1.2.2), d8.trans (f2 10 n2)⟩
theorem oM_w {rm : Nat} {jv jv' : Nat → Int32} {bv bv' : Nat → Nat → Int32} {s : dS} {S A S' A' : List Nat} (h : oM rm jv bv jv' bv' s S A) (g1 : ∀ x ∈ S, x ∈ S') (g2 : ∀ x ∈ A, x ∈ A') : oM rm jv bv jv' bv' s S' A' := ⟨fun w => ⟨(h.1 w).1, fun j hj => (h.1 w).2.1 j (fun z => hj (g1 j z)), fun j hj => (h.1 w).2.2 j (fun z => hj (g2 j z))⟩, h.2⟩
theorem oM_dead {rm : Nat} {jv jv' : Nat → Int32} {bv bv' : Nat → Nat → Int32} {s : dS} {S A S' A' : List Nat} (h : oM rm jv bv jv' bv' s S A) (hd : s.2.2.2.2.2 = true) : oM rm jv bv jv' bv' s S' A' := ⟨fun w => (by rw [hd] at w; cases w), h.2⟩
theorem dM_ext {rm : Nat} {jv jv' : Nat → Int32} {bv bv' : Nat → Nat → Int32} {s : dS} (h : dM rm jv bv s) (hi : ∀ j, j ≤ 5 → jv' j = jv j) (ha : ∀ j, j ≤ 8 → bv' j = bv j) : dM rm jv' bv' s := by
  unfold dM geo at h ⊢
  rw [hi 0 (by omega), hi 1 (by omega), hi 2 (by omega), hi 3 (by omega), hi 4 (by omega), hi 5 (by omega), ha 0 (by omega), ha 1 (by omega), ha 2 (by omega), ha 3 (by omega), ha 4 (by omega), ha 5 (by omega), ha 6 (by omega), ha 7 (by omega), ha 8 (by omega)]
  exact h
theorem dM_fr {rm : Nat} {jv jv' : Nat → Int32} {bv bv' : Nat → Nat → Int32} {s : dS} {S A : List Nat} (h : dM rm jv bv s) (fi : frI jv jv' S) (fa : frA bv bv' A) (hS : ∀ x ∈ S, 5 < x) (hA : ∀ x ∈ A, 8 < x) : dM rm jv' bv' s := dM_ext h (fun j hj => fi j (fun z => by have := hS j z; omega)) (fun j hj => fa j (fun z => by have := hA j z; omega))
theorem b4_qL {rm : Nat} {bv : Nat → Nat → Int32} {c : Nat → Int32} (hc : bv 2 = c) (q : Nat) : b4M rm bv 0 q = nI (qL rm c q) := by
  have e : ∀ k, plM rm 0 k = k % rm := fun k => Nat.zero_add _
  unfold b4M qL
  rw [e, e, e, e, hc, bN_and, bN_and, bN_and, bN_and, q4_or (bN_lt _ _) (bN_lt _ _) (bN_lt _ _) (bN_lt _ _)]
section SB0
variable {Lx : Nat} {xs : Nat → Int32} {d rm : Nat} {iv : Nat → Int32} {av : Nat → Nat → Int32} {jv : Nat → Int32} {bv : Nat → Nat → Int32} {Q : rQ}
theorem sm_wrL (hr : 0 < rm ∧ rm ≤ 4096) {s : dS} (hd : dM rm jv bv s) (hdn : s.2.2.2.2.2 = false) {a q c : Nat} {l : List Nat} (ha : a < 3) (hq : q < 2 ^ 30) (hl : 0 < l.length) (hl2 : l.length ≤ 1300) (hgeo : wgeo a q l.length rm) (hpl : plM rm a q = c) (h23 : ∀ k, k < l.length → bv 23 k = lB l k) (hcap : cp s 1 l.length)
    (hQ : ∀ jv' bv', oM rm jv bv jv' bv' (wr s (wL c l)) [0, 1, 2] [2, 4, 5, 6, 7, 8] → Q none (wX rm iv av (wM rm jv' bv'))) : rx_R Lx xs (d + 4) 94 [.ref 54, .int (nI a), .int (nI q), .int (nI l.length)] (wX rm iv av (wM rm jv bv)) Q := by
  have hw : (wr s (wL c l)).2.2.2.2.2 = decide (s.2.2.1 = 1) := by
    unfold wr
    rw [hdn]
    rfl
  have hk : (wr s (wL c l)).2.2.2.1 = s.2.2.2.1 ∧ (wr s (wL c l)).2.2.2.2.1 = s.2.2.2.2.1 := by
    unfold wr
    rw [hdn]
    exact ⟨rfl, rfl⟩
  have hc := hcap hdn
  subst hpl
  refine sm_write hr hd hdn ha hq hl hl2 hgeo (lB_bt l) h23 ⟨by omega, hc.2⟩ (fun h1 jv' bv' k1 k2 k3 => hQ jv' bv' ⟨fun _ => ⟨k1, k2, k3⟩, fun w => ?_⟩) (fun h1 jv' bv' k1 k6 k10 k11 k20 k17 f1 f2 => hQ jv' bv' ⟨fun w => ?_, fun _ => ⟨?_, k6, k10, k11, f1 7 (by decide), f1 8 (by decide), f1 9 (by decide), f2 10 (by decide)⟩⟩)
  · rw [hw] at w
    exact absurd (of_decide_eq_true w) h1
  · rw [hw, decide_eq_true h1] at w
    cases w
  · rw [hk.1, hk.2]
    exact k1
theorem p4_s : ∀ k, k < 4 → ((24 : Int32) - 8 * nI k) = nI (24 - 8 * k) := by decide
theorem p4_m : ∀ k, k < 4 → ((nI (24 - 8 * k) &&& 31).toBitVec.smod 32).toNat = 24 - 8 * k := by decide
theorem p4_d (n : Nat) : ∀ k, k < 4 → n / 2 ^ (24 - 8 * k) % 256 = (n4 n).getD k 0 := fun k hk => by
  have : k = 0 ∨ k = 1 ∨ k = 2 ∨ k = 3 := by omega
  rcases this with h | h | h | h <;> subst h
  · rfl
  · rfl
  · rfl
  · show n / 2 ^ 0 % 256 = n % 256
    rw [Nat.pow_zero, Nat.div_one]
set_option maxRecDepth 20000 in
theorem lp_p4 {q : Nat} {v : Int32} (hq : q + 4 ≤ 1300) {bv0 : Nat → Nat → Int32} (hQ : ∀ bv', frA bv0 bv' [23] → (∀ j, j < 4 → bv' 23 (q + j) = lB (n4 (uN v)) j) → (∀ j, j < q ∨ q + 4 ≤ j → bv' 23 j = bv0 23 j) → Q none (wX rm iv av (wM rm jv bv'))) : ∀ (m k : Nat) (bv : Nat → Nat → Int32), k + m = 4 → frA bv0 bv [23] → (∀ j, j < k → bv 23 (q + j) = lB (n4 (uN v)) j) → (∀ j, j < q ∨ q + k ≤ j → bv 23 j = bv0 23 j) → pz Lx xs d rt_92 none Q 2 [some (.ref 54), some (.int (nI q)), some (.int v), some (.int (nI k))] [] (wX rm iv av (wM rm jv bv))
  | 0, k, bv, hk, f, h1, h2 => by
    obtain rfl : k = 4 := by omega
    refine pz_iln (i := 2) rfl rfl ?_
    refine pz_ic (i := 3) rfl ?_
    refine pz_ii_ge (i := 4) rfl (fun c4 => ?_) (fun c4 => ?_)
    · refine pz_vr (i := 21) rfl rfl ?_
      exact hQ bv f h1 h2
    · exact absurd (Int32.le_refl _) c4
  | m + 1, k, bv, hk, f, h1, h2 => by
    have hk4 : k < 4 := by omega
    refine pz_iln (i := 2) rfl rfl ?_
    refine pz_ic (i := 3) rfl ?_
    refine pz_ii_ge (i := 4) rfl (fun c4 => ?_) (fun c4 => ?_)
    · exact absurd (le_ofI (a := 4) c4) (by omega)
    · refine pz_aln (i := 5) rfl rfl ?_
      refine pz_get (i := 6) rfl (gf_54_45 ..) ?_
      refine pz_iln (i := 7) rfl rfl ?_
      refine pz_iln (i := 8) rfl rfl ?_
      refine pz_add (i := 9) rfl ?_
      rw [nI_add]
      refine pz_iln (i := 10) rfl rfl ?_
      refine pz_bi (i := 11) rfl ?_
      refine pz_bi (i := 12) rfl ?_
      refine pz_iln (i := 13) rfl rfl ?_
      refine pz_mul (i := 14) rfl ?_
      refine pz_sub (i := 15) rfl ?_
      rw [p4_s k hk4]
      refine pz_shr (i := 16) rfl ?_
      refine pz_i2b (i := 17) rfl ?_
      rw [sr_b v _ (24 - 8 * k) (p4_m k hk4) (by omega), p4_d _ k hk4]
      refine pz_bas (i := 18) rfl (ga_78 ..) rfl (in_ofI (by omega)) (pa_78 ..) ?_
      rw [cl_ofI (a := q + k)]
      refine pz_inc (i := 19) rfl rfl rfl rfl ?_
      rw [show nI k + 1 = nI (k + 1) from nI_add k 1]
      refine pz_go (i := 20) rfl ?_
      refine lp_p4 hq hQ m (k + 1) _ (by omega) (frA_tr f (frA_up (frA_rfl _ [23]) (by decide)) (by decide) (by decide)) (fun j hj => ?_) (fun j hj => ?_)
      · rw [ua_s]
        by_cases e : j = k
        · subst e
          rw [ui_s]
          exact bS_bt _
        · rw [ui_n (by omega)]
          exact h1 j (by omega)
      · rw [ua_s, ui_n (by omega)]
        exact h2 j (by omega)
set_option maxRecDepth 20000 in
theorem sm_put4 {q : Nat} {v : Int32} (hq : q + 4 ≤ 1300) (hQ : ∀ bv', frA bv bv' [23] → (∀ j, j < 4 → bv' 23 (q + j) = lB (n4 (uN v)) j) → (∀ j, j < q ∨ q + 4 ≤ j → bv' 23 j = bv 23 j) → Q none (wX rm iv av (wM rm jv bv'))) : rx_R Lx xs (d + 1) 92 [.ref 54, .int (nI q), .int v] (wX rm iv av (wM rm jv bv)) Q := by
  refine pz_en (t := rt_92) ⟨Nat.le_of_ble_eq_true rfl, rfl⟩ rfl rfl ?_
  refine pz_ic (i := 0) rfl ?_
  refine pz_isn (i := 1) rfl ⟨rfl, Nat.le_of_ble_eq_true rfl⟩ rfl ?_
  exact lp_p4 hq hQ 4 0 bv rfl (frA_rfl _ _) (fun j hj => absurd hj (Nat.not_lt_zero j)) (fun j _ => rfl)
set_option maxRecDepth 20000 in
theorem sm_sizeAt (hr : 0 < rm ∧ rm ≤ 4096) (hg : geo rm bv) {q : Nat} (hq : q + 2 < 2 ^ 31) (hQ : Q (some (.int (nI (12 + bN (bv 2) ((q + 2) % rm))))) (wX rm iv av (wM rm jv bv))) : rx_R Lx xs (d + 3) 99 [.ref 54, .int (nI q)] (wX rm iv av (wM rm jv bv)) Q := by
  refine pz_en (t := rt_99) ⟨Nat.le_of_ble_eq_true rfl, rfl⟩ rfl rfl ?_
  refine pz_bi (i := 0) rfl ?_
  refine pz_aln (i := 1) rfl rfl ?_
  refine pz_ic (i := 2) rfl ?_
  refine pz_iln (i := 3) rfl rfl ?_
  refine pz_ic (i := 4) rfl ?_
  refine pz_add (i := 5) rfl ?_
  rw [show nI q + 2 = nI (q + 2) from nI_add q 2]
  refine pz_cI2 (i := 6) rfl (gc_54 ..) rfl (Nat.le_of_ble_eq_true rfl) rfl ?_
  refine sm_byteAt hr hg (a := 0) (by decide) hq ?_
  rw [show plM rm 0 (q + 2) = (q + 2) % rm from Nat.zero_add _, bN_and]
  refine ⟨_, rfl, ?_⟩
  refine pz_add (i := 7) rfl ?_
  rw [show (12 : Int32) + nI (bN (bv 2) ((q + 2) % rm)) = nI (12 + bN (bv 2) ((q + 2) % rm)) from nI_add 12 _]
  refine pz_ir (i := 8) rfl rfl rfl ?_
  exact hQ
theorem isR_kind {x y : Nat} (hx : x < 256) : ((decide (x % 128 = 1) && decide (y ≤ 64)) || (decide (x % 128 = 2) && decide (y = 0))) = (decide (x = 1 ∨ x = 129 ∨ ((x = 2 ∨ x = 130) ∧ y = 0)) && decide (y ≤ 64)) := by
  have e1 : (x % 128 = 1) ↔ (x = 1 ∨ x = 129) := by omega
  have e2 : (x % 128 = 2) ↔ (x = 2 ∨ x = 130) := by omega
  rw [Bool.eq_iff_iff]
  simp only [Bool.or_eq_true, Bool.and_eq_true, decide_eq_true_eq, e1, e2]
  omega
theorem isR_iff {rm : Nat} {c : Nat → Int32} {q n : Nat} : isR rm c q n = true ↔ ((bN c (q % rm) = 1 ∨ bN c (q % rm) = 129 ∨ ((bN c (q % rm) = 2 ∨ bN c (q % rm) = 130) ∧ bN c ((q + 2) % rm) = 0)) ∧ bN c ((q + 2) % rm) ≤ 64 ∧ bN c ((q + 1) % rm) < 120 ∧ bN c ((q + 3) % rm) = 0 ∧ qL rm c (q + 4) = n ∧ qL rm c (q + 8) = n) := by
  unfold isR
  rw [isR_kind (bN_lt _ _)]
  simp only [Bool.and_eq_true, decide_eq_true_eq]
  constructor
  · rintro ⟨⟨⟨⟨⟨h1, h2⟩, h3⟩, h4⟩, h5⟩, h6⟩
    exact ⟨h1, h2, h3, h4, h5, h6⟩
  · rintro ⟨h1, h2, h3, h4, h5, h6⟩
    exact ⟨⟨⟨⟨⟨h1, h2⟩, h3⟩, h4⟩, h5⟩, h6⟩
theorem nI_qL {rm : Nat} {c : Nat → Int32} {q n : Nat} (hn : n < 2 ^ 31) : nI (qL rm c q) = nI n ↔ qL rm c q = n := by
  constructor
  · intro h
    have h1 : uN (nI (qL rm c q)) = uN (nI n) := by rw [h]
    have hq : qL rm c q < 4294967296 := q4_lt (bN_lt _ _) (bN_lt _ _) (bN_lt _ _) (bN_lt _ _)
    rw [uN_nI hq, uN_nI (by omega)] at h1
    exact h1
  · intro h
    rw [h]
set_option maxRecDepth 20000 in
theorem sm_isRecord (hr : 0 < rm ∧ rm ≤ 4096) (hg : geo rm bv) {q n tl : Nat} (hq : q < 2 ^ 30) (hn : n < 2 ^ 31) (ht : jv 13 = nI tl) (htl : tl < 2 ^ 30) (hrm : 512 ≤ rm) (hQ : Q (some (.int (if isR rm (bv 2) q n = true ∧ q + 12 + bN (bv 2) ((q + 2) % rm) + 12 ≤ tl + rm then 1 else 0))) (wX rm iv av (wM rm jv bv))) : rx_R Lx xs (d + 4) 98 [.ref 54, .int (nI q), .int (nI n)] (wX rm iv av (wM rm jv bv)) Q := by
  refine pz_en (t := rt_98) ⟨Nat.le_of_ble_eq_true rfl, rfl⟩ rfl rfl ?_
  have b0 := bN_lt (bv 2) (q % rm)
  have b1 := bN_lt (bv 2) ((q + 1) % rm)
  have b2 := bN_lt (bv 2) ((q + 2) % rm)
  have b3 := bN_lt (bv 2) ((q + 3) % rm)
  simp only [isR_iff] at hQ
  have key : ∀ z : Int32, (z = if (bN (bv 2) (q % rm) = 1 ∨ bN (bv 2) (q % rm) = 129 ∨ ((bN (bv 2) (q % rm) = 2 ∨ bN (bv 2) (q % rm) = 130) ∧ bN (bv 2) ((q + 2) % rm) = 0)) then 1 else 0) → pz Lx xs (d + 3) rt_98 (some .boolean) Q 29 [some (.ref 54), some (.int (nI q)), some (.int (nI n)), some (.int (nI (bN (bv 2) (q % rm)))), some (.int (nI (bN (bv 2) ((q + 2) % rm)))), none] [.int z] (wX rm iv av (wM rm jv bv)) := by
    intro z hz
    refine pz_is (i := 29) rfl ⟨rfl, Nat.le_of_ble_eq_true rfl⟩ rfl ?_
    refine pz_il (i := 30) rfl rfl ?_
    refine pz_if_eq (i := 31) rfl (fun c31 => ?_) (fun c31 => ?_)
    · refine pz_ic (i := 81) rfl ?_
      refine pz_ir (i := 82) rfl rfl rfl ?_
      first
        | (have g1 : ¬ z = 0 := c31
           have g2 := nle_ofI (a := 120) c39
           have g3 := nlt_ofI (a := 64) c42
           have g4 := eq_ofI (b := 0) c49
           have g5 := (nI_qL hn).mp c57
           have g6 := (nI_qL hn).mp c65
           have g7 := nlt_ofI c78
           have hk := Classical.byContradiction (fun w => g1 (by rw [hz, if_neg w]))
           rw [if_pos ⟨⟨hk, by omega, by omega, by omega, g5, g6⟩, by omega⟩] at hQ
           exact hQ)
        | (rw [if_neg (fun w => by have := lt_ofI c78; omega)] at hQ
           exact hQ)
        | (rw [if_neg (fun w => c65 ((nI_qL hn).mpr w.1.2.2.2.2.2))] at hQ
           exact hQ)
        | (rw [if_neg (fun w => c57 ((nI_qL hn).mpr w.1.2.2.2.2.1))] at hQ
           exact hQ)
        | (rw [if_neg (fun w => c49 (by rw [w.1.2.2.2.1]; rfl))] at hQ
           exact hQ)
        | (rw [if_neg (fun w => by have := lt_ofI (a := 64) c42; omega)] at hQ
           exact hQ)
        | (rw [if_neg (fun w => by have := le_ofI (a := 120) c39; omega)] at hQ
           exact hQ)
        | (rw [if_neg (fun w => by rw [hz, if_pos w.1.1] at c31; exact absurd c31 (by decide))] at hQ
           exact hQ)
    · refine pz_aln (i := 32) rfl rfl ?_
      refine pz_ic (i := 33) rfl ?_
      refine pz_iln (i := 34) rfl rfl ?_
      refine pz_ic (i := 35) rfl ?_
      refine pz_add (i := 36) rfl ?_
      rw [show nI q + 1 = nI (q + 1) from nI_add q 1]
      refine pz_cI2 (i := 37) rfl (gc_54 ..) rfl (Nat.le_of_ble_eq_true rfl) rfl ?_
      refine sm_byteAt hr hg (a := 0) (by decide) (by omega) ?_
      rw [show plM rm 0 (q + 1) = (q + 1) % rm from Nat.zero_add _, bN_and]
      refine ⟨_, rfl, ?_⟩
      refine pz_bi (i := 38) rfl ?_
      refine pz_ii_ge (i := 39) rfl (fun c39 => ?_) (fun c39 => ?_)
      · refine pz_ic (i := 81) rfl ?_
        refine pz_ir (i := 82) rfl rfl rfl ?_
        first
          | (have g1 : ¬ z = 0 := c31
             have g2 := nle_ofI (a := 120) c39
             have g3 := nlt_ofI (a := 64) c42
             have g4 := eq_ofI (b := 0) c49
             have g5 := (nI_qL hn).mp c57
             have g6 := (nI_qL hn).mp c65
             have g7 := nlt_ofI c78
             have hk := Classical.byContradiction (fun w => g1 (by rw [hz, if_neg w]))
             rw [if_pos ⟨⟨hk, by omega, by omega, by omega, g5, g6⟩, by omega⟩] at hQ
             exact hQ)
          | (rw [if_neg (fun w => by have := lt_ofI c78; omega)] at hQ
             exact hQ)
          | (rw [if_neg (fun w => c65 ((nI_qL hn).mpr w.1.2.2.2.2.2))] at hQ
             exact hQ)
          | (rw [if_neg (fun w => c57 ((nI_qL hn).mpr w.1.2.2.2.2.1))] at hQ
             exact hQ)
          | (rw [if_neg (fun w => c49 (by rw [w.1.2.2.2.1]; rfl))] at hQ
             exact hQ)
          | (rw [if_neg (fun w => by have := lt_ofI (a := 64) c42; omega)] at hQ
             exact hQ)
          | (rw [if_neg (fun w => by have := le_ofI (a := 120) c39; omega)] at hQ
             exact hQ)
          | (rw [if_neg (fun w => by rw [hz, if_pos w.1.1] at c31; exact absurd c31 (by decide))] at hQ
             exact hQ)
      · refine pz_il (i := 40) rfl rfl ?_
        refine pz_bi (i := 41) rfl ?_
        refine pz_ii_gt (i := 42) rfl (fun c42 => ?_) (fun c42 => ?_)
        · refine pz_ic (i := 81) rfl ?_
          refine pz_ir (i := 82) rfl rfl rfl ?_
          first
            | (have g1 : ¬ z = 0 := c31
               have g2 := nle_ofI (a := 120) c39
               have g3 := nlt_ofI (a := 64) c42
               have g4 := eq_ofI (b := 0) c49
               have g5 := (nI_qL hn).mp c57
               have g6 := (nI_qL hn).mp c65
               have g7 := nlt_ofI c78
               have hk := Classical.byContradiction (fun w => g1 (by rw [hz, if_neg w]))
               rw [if_pos ⟨⟨hk, by omega, by omega, by omega, g5, g6⟩, by omega⟩] at hQ
               exact hQ)
            | (rw [if_neg (fun w => by have := lt_ofI c78; omega)] at hQ
               exact hQ)
            | (rw [if_neg (fun w => c65 ((nI_qL hn).mpr w.1.2.2.2.2.2))] at hQ
               exact hQ)
            | (rw [if_neg (fun w => c57 ((nI_qL hn).mpr w.1.2.2.2.2.1))] at hQ
               exact hQ)
            | (rw [if_neg (fun w => c49 (by rw [w.1.2.2.2.1]; rfl))] at hQ
               exact hQ)
            | (rw [if_neg (fun w => by have := lt_ofI (a := 64) c42; omega)] at hQ
               exact hQ)
            | (rw [if_neg (fun w => by have := le_ofI (a := 120) c39; omega)] at hQ
               exact hQ)
            | (rw [if_neg (fun w => by rw [hz, if_pos w.1.1] at c31; exact absurd c31 (by decide))] at hQ
               exact hQ)
        · refine pz_aln (i := 43) rfl rfl ?_
          refine pz_ic (i := 44) rfl ?_
          refine pz_iln (i := 45) rfl rfl ?_
          refine pz_ic (i := 46) rfl ?_
          refine pz_add (i := 47) rfl ?_
          rw [show nI q + 3 = nI (q + 3) from nI_add q 3]
          refine pz_cI2 (i := 48) rfl (gc_54 ..) rfl (Nat.le_of_ble_eq_true rfl) rfl ?_
          refine sm_byteAt hr hg (a := 0) (by decide) (by omega) ?_
          rw [show plM rm 0 (q + 3) = (q + 3) % rm from Nat.zero_add _, bN_and]
          refine ⟨_, rfl, ?_⟩
          refine pz_if_ne (i := 49) rfl (fun c49 => ?_) (fun c49 => ?_)
          · refine pz_ic (i := 81) rfl ?_
            refine pz_ir (i := 82) rfl rfl rfl ?_
            first
              | (have g1 : ¬ z = 0 := c31
                 have g2 := nle_ofI (a := 120) c39
                 have g3 := nlt_ofI (a := 64) c42
                 have g4 := eq_ofI (b := 0) c49
                 have g5 := (nI_qL hn).mp c57
                 have g6 := (nI_qL hn).mp c65
                 have g7 := nlt_ofI c78
                 have hk := Classical.byContradiction (fun w => g1 (by rw [hz, if_neg w]))
                 rw [if_pos ⟨⟨hk, by omega, by omega, by omega, g5, g6⟩, by omega⟩] at hQ
                 exact hQ)
              | (rw [if_neg (fun w => by have := lt_ofI c78; omega)] at hQ
                 exact hQ)
              | (rw [if_neg (fun w => c65 ((nI_qL hn).mpr w.1.2.2.2.2.2))] at hQ
                 exact hQ)
              | (rw [if_neg (fun w => c57 ((nI_qL hn).mpr w.1.2.2.2.2.1))] at hQ
                 exact hQ)
              | (rw [if_neg (fun w => c49 (by rw [w.1.2.2.2.1]; rfl))] at hQ
                 exact hQ)
              | (rw [if_neg (fun w => by have := lt_ofI (a := 64) c42; omega)] at hQ
                 exact hQ)
              | (rw [if_neg (fun w => by have := le_ofI (a := 120) c39; omega)] at hQ
                 exact hQ)
              | (rw [if_neg (fun w => by rw [hz, if_pos w.1.1] at c31; exact absurd c31 (by decide))] at hQ
                 exact hQ)
          · refine pz_aln (i := 50) rfl rfl ?_
            refine pz_ic (i := 51) rfl ?_
            refine pz_iln (i := 52) rfl rfl ?_
            refine pz_ic (i := 53) rfl ?_
            refine pz_add (i := 54) rfl ?_
            rw [show nI q + 4 = nI (q + 4) from nI_add q 4]
            refine pz_cI2 (i := 55) rfl (gc_54 ..) rfl (Nat.le_of_ble_eq_true rfl) rfl ?_
            refine sm_four hr hg (a := 0) (by decide) (by omega) ?_
            rw [b4_qL rfl]
            refine ⟨_, rfl, ?_⟩
            refine pz_iln (i := 56) rfl rfl ?_
            refine pz_ii_ne (i := 57) rfl (fun c57 => ?_) (fun c57 => ?_)
            · refine pz_ic (i := 81) rfl ?_
              refine pz_ir (i := 82) rfl rfl rfl ?_
              first
                | (have g1 : ¬ z = 0 := c31
                   have g2 := nle_ofI (a := 120) c39
                   have g3 := nlt_ofI (a := 64) c42
                   have g4 := eq_ofI (b := 0) c49
                   have g5 := (nI_qL hn).mp c57
                   have g6 := (nI_qL hn).mp c65
                   have g7 := nlt_ofI c78
                   have hk := Classical.byContradiction (fun w => g1 (by rw [hz, if_neg w]))
                   rw [if_pos ⟨⟨hk, by omega, by omega, by omega, g5, g6⟩, by omega⟩] at hQ
                   exact hQ)
                | (rw [if_neg (fun w => by have := lt_ofI c78; omega)] at hQ
                   exact hQ)
                | (rw [if_neg (fun w => c65 ((nI_qL hn).mpr w.1.2.2.2.2.2))] at hQ
                   exact hQ)
                | (rw [if_neg (fun w => c57 ((nI_qL hn).mpr w.1.2.2.2.2.1))] at hQ
                   exact hQ)
                | (rw [if_neg (fun w => c49 (by rw [w.1.2.2.2.1]; rfl))] at hQ
                   exact hQ)
                | (rw [if_neg (fun w => by have := lt_ofI (a := 64) c42; omega)] at hQ
                   exact hQ)
                | (rw [if_neg (fun w => by have := le_ofI (a := 120) c39; omega)] at hQ
                   exact hQ)
                | (rw [if_neg (fun w => by rw [hz, if_pos w.1.1] at c31; exact absurd c31 (by decide))] at hQ
                   exact hQ)
            · refine pz_aln (i := 58) rfl rfl ?_
              refine pz_ic (i := 59) rfl ?_
              refine pz_iln (i := 60) rfl rfl ?_
              refine pz_bi (i := 61) rfl ?_
              refine pz_add (i := 62) rfl ?_
              rw [show nI q + 8 = nI (q + 8) from nI_add q 8]
              refine pz_cI2 (i := 63) rfl (gc_54 ..) rfl (Nat.le_of_ble_eq_true rfl) rfl ?_
              refine sm_four hr hg (a := 0) (by decide) (by omega) ?_
              rw [b4_qL rfl]
              refine ⟨_, rfl, ?_⟩
              refine pz_iln (i := 64) rfl rfl ?_
              refine pz_ii_ne (i := 65) rfl (fun c65 => ?_) (fun c65 => ?_)
              · refine pz_ic (i := 81) rfl ?_
                refine pz_ir (i := 82) rfl rfl rfl ?_
                first
                  | (have g1 : ¬ z = 0 := c31
                     have g2 := nle_ofI (a := 120) c39
                     have g3 := nlt_ofI (a := 64) c42
                     have g4 := eq_ofI (b := 0) c49
                     have g5 := (nI_qL hn).mp c57
                     have g6 := (nI_qL hn).mp c65
                     have g7 := nlt_ofI c78
                     have hk := Classical.byContradiction (fun w => g1 (by rw [hz, if_neg w]))
                     rw [if_pos ⟨⟨hk, by omega, by omega, by omega, g5, g6⟩, by omega⟩] at hQ
                     exact hQ)
                  | (rw [if_neg (fun w => by have := lt_ofI c78; omega)] at hQ
                     exact hQ)
                  | (rw [if_neg (fun w => c65 ((nI_qL hn).mpr w.1.2.2.2.2.2))] at hQ
                     exact hQ)
                  | (rw [if_neg (fun w => c57 ((nI_qL hn).mpr w.1.2.2.2.2.1))] at hQ
                     exact hQ)
                  | (rw [if_neg (fun w => c49 (by rw [w.1.2.2.2.1]; rfl))] at hQ
                     exact hQ)
                  | (rw [if_neg (fun w => by have := lt_ofI (a := 64) c42; omega)] at hQ
                     exact hQ)
                  | (rw [if_neg (fun w => by have := le_ofI (a := 120) c39; omega)] at hQ
                     exact hQ)
                  | (rw [if_neg (fun w => by rw [hz, if_pos w.1.1] at c31; exact absurd c31 (by decide))] at hQ
                     exact hQ)
              · refine pz_iln (i := 66) rfl rfl ?_
                refine pz_bi (i := 67) rfl ?_
                refine pz_add (i := 68) rfl ?_
                rw [show nI q + 12 = nI (q + 12) from nI_add q 12]
                refine pz_il (i := 69) rfl rfl ?_
                refine pz_add (i := 70) rfl ?_
                rw [nI_add]
                refine pz_aln (i := 71) rfl rfl ?_
                refine pz_get (i := 72) rfl (gf_54_29 ..) ?_
                rw [ht]
                refine pz_aln (i := 73) rfl rfl ?_
                refine pz_get (i := 74) rfl (gf_54_0 ..) ?_
                refine pz_add (i := 75) rfl ?_
                rw [nI_add]
                refine pz_bi (i := 76) rfl ?_
                refine pz_sub (i := 77) rfl ?_
                rw [show nI (tl + rm) - 12 = nI (tl + rm - 12) from pk_sub (b := 12) (by omega)]
                refine pz_ii_gt (i := 78) rfl (fun c78 => ?_) (fun c78 => ?_)
                · refine pz_ic (i := 81) rfl ?_
                  refine pz_ir (i := 82) rfl rfl rfl ?_
                  first
                    | (have g1 : ¬ z = 0 := c31
                       have g2 := nle_ofI (a := 120) c39
                       have g3 := nlt_ofI (a := 64) c42
                       have g4 := eq_ofI (b := 0) c49
                       have g5 := (nI_qL hn).mp c57
                       have g6 := (nI_qL hn).mp c65
                       have g7 := nlt_ofI c78
                       have hk := Classical.byContradiction (fun w => g1 (by rw [hz, if_neg w]))
                       rw [if_pos ⟨⟨hk, by omega, by omega, by omega, g5, g6⟩, by omega⟩] at hQ
                       exact hQ)
                    | (rw [if_neg (fun w => by have := lt_ofI c78; omega)] at hQ
                       exact hQ)
                    | (rw [if_neg (fun w => c65 ((nI_qL hn).mpr w.1.2.2.2.2.2))] at hQ
                       exact hQ)
                    | (rw [if_neg (fun w => c57 ((nI_qL hn).mpr w.1.2.2.2.2.1))] at hQ
                       exact hQ)
                    | (rw [if_neg (fun w => c49 (by rw [w.1.2.2.2.1]; rfl))] at hQ
                       exact hQ)
                    | (rw [if_neg (fun w => by have := lt_ofI (a := 64) c42; omega)] at hQ
                       exact hQ)
                    | (rw [if_neg (fun w => by have := le_ofI (a := 120) c39; omega)] at hQ
                       exact hQ)
                    | (rw [if_neg (fun w => by rw [hz, if_pos w.1.1] at c31; exact absurd c31 (by decide))] at hQ
                       exact hQ)
                · refine pz_ic (i := 79) rfl ?_
                  refine pz_go (i := 80) rfl ?_
                  refine pz_ir (i := 82) rfl rfl rfl ?_
                  first
                    | (have g1 : ¬ z = 0 := c31
                       have g2 := nle_ofI (a := 120) c39
                       have g3 := nlt_ofI (a := 64) c42
                       have g4 := eq_ofI (b := 0) c49
                       have g5 := (nI_qL hn).mp c57
                       have g6 := (nI_qL hn).mp c65
                       have g7 := nlt_ofI c78
                       have hk := Classical.byContradiction (fun w => g1 (by rw [hz, if_neg w]))
                       rw [if_pos ⟨⟨hk, by omega, by omega, by omega, g5, g6⟩, by omega⟩] at hQ
                       exact hQ)
                    | (rw [if_neg (fun w => by have := lt_ofI c78; omega)] at hQ
                       exact hQ)
                    | (rw [if_neg (fun w => c65 ((nI_qL hn).mpr w.1.2.2.2.2.2))] at hQ
                       exact hQ)
                    | (rw [if_neg (fun w => c57 ((nI_qL hn).mpr w.1.2.2.2.2.1))] at hQ
                       exact hQ)
                    | (rw [if_neg (fun w => c49 (by rw [w.1.2.2.2.1]; rfl))] at hQ
                       exact hQ)
                    | (rw [if_neg (fun w => by have := lt_ofI (a := 64) c42; omega)] at hQ
                       exact hQ)
                    | (rw [if_neg (fun w => by have := le_ofI (a := 120) c39; omega)] at hQ
                       exact hQ)
                    | (rw [if_neg (fun w => by rw [hz, if_pos w.1.1] at c31; exact absurd c31 (by decide))] at hQ
                       exact hQ)
  refine pz_aln (i := 0) rfl rfl ?_
  refine pz_ic (i := 1) rfl ?_
  refine pz_iln (i := 2) rfl rfl ?_
  refine pz_cI2 (i := 3) rfl (gc_54 ..) rfl (Nat.le_of_ble_eq_true rfl) rfl ?_
  refine sm_byteAt hr hg (a := 0) (by decide) (by omega) ?_
  rw [show plM rm 0 q = q % rm from Nat.zero_add _, bN_and]
  refine ⟨_, rfl, ?_⟩
  refine pz_isn (i := 4) rfl ⟨rfl, Nat.le_of_ble_eq_true rfl⟩ rfl ?_
  refine pz_aln (i := 5) rfl rfl ?_
  refine pz_ic (i := 6) rfl ?_
  refine pz_iln (i := 7) rfl rfl ?_
  refine pz_ic (i := 8) rfl ?_
  refine pz_add (i := 9) rfl ?_
  rw [show nI q + 2 = nI (q + 2) from nI_add q 2]
  refine pz_cI2 (i := 10) rfl (gc_54 ..) rfl (Nat.le_of_ble_eq_true rfl) rfl ?_
  refine sm_byteAt hr hg (a := 0) (by decide) (by omega) ?_
  rw [show plM rm 0 (q + 2) = (q + 2) % rm from Nat.zero_add _, bN_and]
  refine ⟨_, rfl, ?_⟩
  refine pz_is (i := 11) rfl ⟨rfl, Nat.le_of_ble_eq_true rfl⟩ rfl ?_
  refine pz_iln (i := 12) rfl rfl ?_
  refine pz_ic (i := 13) rfl ?_
  refine pz_ii_eq (i := 14) rfl (fun c14 => ?_) (fun c14 => ?_)
  · refine pz_ic (i := 26) rfl ?_
    refine pz_go (i := 27) rfl ?_
    refine key _ ?_
    first
      | (have e := eq_ofI (b := 1) c14
         exact (if_pos (Or.inl e)).symm)
      | (have e := eq_ofI (b := 129) c17
         exact (if_pos (Or.inr (Or.inl e))).symm)
      | (have e := eq_ofI (b := 2) c20
         have e2 := eq_ofI (b := 0) c25
         exact (if_pos (Or.inr (Or.inr ⟨Or.inl e, e2⟩))).symm)
      | (have e := eq_ofI (b := 130) c23
         have e2 := eq_ofI (b := 0) c25
         exact (if_pos (Or.inr (Or.inr ⟨Or.inr e, e2⟩))).symm)
      | (have e1 := ne_ofI (b := 1) c14
         have e2 := ne_ofI (b := 129) c17
         have e3 := ne_ofI (b := 0) c25
         exact (if_neg (fun w => by omega)).symm)
      | (have e1 := ne_ofI (b := 1) c14
         have e2 := ne_ofI (b := 129) c17
         have e3 := ne_ofI (b := 2) c20
         have e4 := ne_ofI (b := 130) c23
         exact (if_neg (fun w => by omega)).symm)
  · refine pz_iln (i := 15) rfl rfl ?_
    refine pz_si (i := 16) rfl ?_
    refine pz_ii_eq (i := 17) rfl (fun c17 => ?_) (fun c17 => ?_)
    · refine pz_ic (i := 26) rfl ?_
      refine pz_go (i := 27) rfl ?_
      refine key _ ?_
      first
        | (have e := eq_ofI (b := 1) c14
           exact (if_pos (Or.inl e)).symm)
        | (have e := eq_ofI (b := 129) c17
           exact (if_pos (Or.inr (Or.inl e))).symm)
        | (have e := eq_ofI (b := 2) c20
           have e2 := eq_ofI (b := 0) c25
           exact (if_pos (Or.inr (Or.inr ⟨Or.inl e, e2⟩))).symm)
        | (have e := eq_ofI (b := 130) c23
           have e2 := eq_ofI (b := 0) c25
           exact (if_pos (Or.inr (Or.inr ⟨Or.inr e, e2⟩))).symm)
        | (have e1 := ne_ofI (b := 1) c14
           have e2 := ne_ofI (b := 129) c17
           have e3 := ne_ofI (b := 0) c25
           exact (if_neg (fun w => by omega)).symm)
        | (have e1 := ne_ofI (b := 1) c14
           have e2 := ne_ofI (b := 129) c17
           have e3 := ne_ofI (b := 2) c20
           have e4 := ne_ofI (b := 130) c23
           exact (if_neg (fun w => by omega)).symm)
    · refine pz_iln (i := 18) rfl rfl ?_
      refine pz_ic (i := 19) rfl ?_
      refine pz_ii_eq (i := 20) rfl (fun c20 => ?_) (fun c20 => ?_)
      · refine pz_il (i := 24) rfl rfl ?_
        refine pz_if_ne (i := 25) rfl (fun c25 => ?_) (fun c25 => ?_)
        · refine pz_ic (i := 28) rfl ?_
          refine key _ ?_
          first
            | (have e := eq_ofI (b := 1) c14
               exact (if_pos (Or.inl e)).symm)
            | (have e := eq_ofI (b := 129) c17
               exact (if_pos (Or.inr (Or.inl e))).symm)
            | (have e := eq_ofI (b := 2) c20
               have e2 := eq_ofI (b := 0) c25
               exact (if_pos (Or.inr (Or.inr ⟨Or.inl e, e2⟩))).symm)
            | (have e := eq_ofI (b := 130) c23
               have e2 := eq_ofI (b := 0) c25
               exact (if_pos (Or.inr (Or.inr ⟨Or.inr e, e2⟩))).symm)
            | (have e1 := ne_ofI (b := 1) c14
               have e2 := ne_ofI (b := 129) c17
               have e3 := ne_ofI (b := 0) c25
               exact (if_neg (fun w => by omega)).symm)
            | (have e1 := ne_ofI (b := 1) c14
               have e2 := ne_ofI (b := 129) c17
               have e3 := ne_ofI (b := 2) c20
               have e4 := ne_ofI (b := 130) c23
               exact (if_neg (fun w => by omega)).symm)
        · refine pz_ic (i := 26) rfl ?_
          refine pz_go (i := 27) rfl ?_
          refine key _ ?_
          first
            | (have e := eq_ofI (b := 1) c14
               exact (if_pos (Or.inl e)).symm)
            | (have e := eq_ofI (b := 129) c17
               exact (if_pos (Or.inr (Or.inl e))).symm)
            | (have e := eq_ofI (b := 2) c20
               have e2 := eq_ofI (b := 0) c25
               exact (if_pos (Or.inr (Or.inr ⟨Or.inl e, e2⟩))).symm)
            | (have e := eq_ofI (b := 130) c23
               have e2 := eq_ofI (b := 0) c25
               exact (if_pos (Or.inr (Or.inr ⟨Or.inr e, e2⟩))).symm)
            | (have e1 := ne_ofI (b := 1) c14
               have e2 := ne_ofI (b := 129) c17
               have e3 := ne_ofI (b := 0) c25
               exact (if_neg (fun w => by omega)).symm)
            | (have e1 := ne_ofI (b := 1) c14
               have e2 := ne_ofI (b := 129) c17
               have e3 := ne_ofI (b := 2) c20
               have e4 := ne_ofI (b := 130) c23
               exact (if_neg (fun w => by omega)).symm)
      · refine pz_iln (i := 21) rfl rfl ?_
        refine pz_si (i := 22) rfl ?_
        refine pz_ii_ne (i := 23) rfl (fun c23 => ?_) (fun c23 => ?_)
        · refine pz_ic (i := 28) rfl ?_
          refine key _ ?_
          first
            | (have e := eq_ofI (b := 1) c14
               exact (if_pos (Or.inl e)).symm)
            | (have e := eq_ofI (b := 129) c17
               exact (if_pos (Or.inr (Or.inl e))).symm)
            | (have e := eq_ofI (b := 2) c20
               have e2 := eq_ofI (b := 0) c25
               exact (if_pos (Or.inr (Or.inr ⟨Or.inl e, e2⟩))).symm)
            | (have e := eq_ofI (b := 130) c23
               have e2 := eq_ofI (b := 0) c25
               exact (if_pos (Or.inr (Or.inr ⟨Or.inr e, e2⟩))).symm)
            | (have e1 := ne_ofI (b := 1) c14
               have e2 := ne_ofI (b := 129) c17
               have e3 := ne_ofI (b := 0) c25
               exact (if_neg (fun w => by omega)).symm)
            | (have e1 := ne_ofI (b := 1) c14
               have e2 := ne_ofI (b := 129) c17
               have e3 := ne_ofI (b := 2) c20
               have e4 := ne_ofI (b := 130) c23
               exact (if_neg (fun w => by omega)).symm)
        · refine pz_il (i := 24) rfl rfl ?_
          refine pz_if_ne (i := 25) rfl (fun c25 => ?_) (fun c25 => ?_)
          · refine pz_ic (i := 28) rfl ?_
            refine key _ ?_
            first
              | (have e := eq_ofI (b := 1) c14
                 exact (if_pos (Or.inl e)).symm)
              | (have e := eq_ofI (b := 129) c17
                 exact (if_pos (Or.inr (Or.inl e))).symm)
              | (have e := eq_ofI (b := 2) c20
                 have e2 := eq_ofI (b := 0) c25
                 exact (if_pos (Or.inr (Or.inr ⟨Or.inl e, e2⟩))).symm)
              | (have e := eq_ofI (b := 130) c23
                 have e2 := eq_ofI (b := 0) c25
                 exact (if_pos (Or.inr (Or.inr ⟨Or.inr e, e2⟩))).symm)
              | (have e1 := ne_ofI (b := 1) c14
                 have e2 := ne_ofI (b := 129) c17
                 have e3 := ne_ofI (b := 0) c25
                 exact (if_neg (fun w => by omega)).symm)
              | (have e1 := ne_ofI (b := 1) c14
                 have e2 := ne_ofI (b := 129) c17
                 have e3 := ne_ofI (b := 2) c20
                 have e4 := ne_ofI (b := 130) c23
                 exact (if_neg (fun w => by omega)).symm)
          · refine pz_ic (i := 26) rfl ?_
            refine pz_go (i := 27) rfl ?_
            refine key _ ?_
            first
              | (have e := eq_ofI (b := 1) c14
                 exact (if_pos (Or.inl e)).symm)
              | (have e := eq_ofI (b := 129) c17
                 exact (if_pos (Or.inr (Or.inl e))).symm)
              | (have e := eq_ofI (b := 2) c20
                 have e2 := eq_ofI (b := 0) c25
                 exact (if_pos (Or.inr (Or.inr ⟨Or.inl e, e2⟩))).symm)
              | (have e := eq_ofI (b := 130) c23
                 have e2 := eq_ofI (b := 0) c25
                 exact (if_pos (Or.inr (Or.inr ⟨Or.inr e, e2⟩))).symm)
              | (have e1 := ne_ofI (b := 1) c14
                 have e2 := ne_ofI (b := 129) c17
                 have e3 := ne_ofI (b := 0) c25
                 exact (if_neg (fun w => by omega)).symm)
              | (have e1 := ne_ofI (b := 1) c14
                 have e2 := ne_ofI (b := 129) c17
                 have e3 := ne_ofI (b := 2) c20
                 have e4 := ne_ofI (b := 130) c23
                 exact (if_neg (fun w => by omega)).symm)
/-- the memory of the reference -/
def eM (jv : Nat → Int32) (bv : Nat → Nat → Int32) (m : mP) : Prop := mOK m ∧ jv 20 = nI (kS m).length ∧ ∀ k, k < 120 → match m k with
  | none => bv 17 k = 0
  | some x => bv 17 k = nI x.1 ∧ bv 18 k = nI x.2.1 ∧ bv 19 k = nI x.2.2
theorem eM_ext {jv jv' : Nat → Int32} {bv bv' : Nat → Nat → Int32} {m : mP} (h : eM jv bv m) (hi : jv' 20 = jv 20) (h0 : bv' 17 = bv 17) (h1 : bv' 18 = bv 18) (h2 : bv' 19 = bv 19) : eM jv' bv' m := by
  unfold eM at h ⊢
  rw [hi, h0, h1, h2]
  exact h
theorem eM_up {jv jv' : Nat → Int32} {bv bv' : Nat → Nat → Int32} {m : mP} {key : Nat} {x : eN} (h : eM jv bv m) (hk : key < 120) (hx : 0 < x.1 ∧ x.1 < 3 ∧ x.2.1 < 2 ^ 30 ∧ x.2.2 < 2 ^ 30) (h0 : bv' 17 = upd (bv 17) key (nI x.1)) (h1 : bv' 18 = upd (bv 18) key (nI x.2.1)) (h2 : bv' 19 = upd (bv 19) key (nI x.2.2)) (hc : jv' 20 = nI (if m key = none then (kS m).length + 1 else (kS m).length)) : eM jv' bv' (upM m key x) := by
  obtain ⟨g1, g2, g3⟩ := h
  refine ⟨mOK_up g1 hk hx, ?_, fun k hk' => ?_⟩
  · rw [hc, kS_up hk]
  · rw [h0, h1, h2]
    unfold upM
    by_cases e : k = key
    · subst e
      rw [if_pos rfl, ui_s, ui_s, ui_s]
      exact ⟨rfl, rfl, rfl⟩
    · rw [if_neg e, ui_n e, ui_n e, ui_n e]
      exact g3 k hk' 
set_option maxRecDepth 20000 in
theorem sm_remember {m : mP} {key : Nat} {x : eN} (h : eM jv bv m) (hk : key < 120) (hx : 0 < x.1 ∧ x.1 < 3 ∧ x.2.1 < 2 ^ 30 ∧ x.2.2 < 2 ^ 30) (hQ : ∀ jv' bv', eM jv' bv' (upM m key x) → frI jv jv' [20] → frA bv bv' [17, 18, 19] → Q none (wX rm iv av (wM rm jv' bv'))) : rx_R Lx xs (d + 1) 101 [.ref 54, .int (nI key), .int (nI x.1), .int (nI x.2.1), .int (nI x.2.2)] (wX rm iv av (wM rm jv bv)) Q := by
  refine pz_en (t := rt_101) ⟨Nat.le_of_ble_eq_true rfl, rfl⟩ rfl rfl ?_
  have hz : (bv 17 key = 0 ↔ m key = none) := by
    have h3 := h.2.2 key hk
    cases he : m key with
    | none =>
      simp only [he] at h3
      exact ⟨fun _ => rfl, fun _ => h3⟩
    | some y =>
      simp only [he] at h3
      have := h.1.2 key y he
      rw [h3.1]
      exact ⟨fun z => absurd (eq_ofI (b := 0) z) (by omega), fun z => by cases z⟩
  have hkl := kS_len m
  refine pz_aln (i := 0) rfl rfl ?_
  refine pz_dup (i := 1) rfl rfl ?_
  refine pz_get (i := 2) rfl (gf_54_41 ..) ?_
  rw [h.2.1]
  refine pz_aln (i := 3) rfl rfl ?_
  refine pz_get (i := 4) rfl (gf_54_38 ..) ?_
  refine pz_iln (i := 5) rfl rfl ?_
  refine pz_ial (i := 6) rfl (ga_72 ..) (in_ofI hk) ?_
  rw [cl_ofI (a := key)]
  refine pz_if_ne (i := 7) rfl (fun c7 => ?_) (fun c7 => ?_)
  · refine pz_ic (i := 10) rfl ?_
    refine pz_add (i := 11) rfl ?_
    first
      | rw [show nI (kS m).length + 1 = nI ((kS m).length + 1) from nI_add _ 1]
      | rw [show nI (kS m).length + 0 = nI ((kS m).length + 0) from nI_add _ 0]
    refine pz_put (i := 12) rfl (pf_54_41 ..) ⟨rfl, rfl⟩ ?_
    refine pz_aln (i := 13) rfl rfl ?_
    refine pz_get (i := 14) rfl (gf_54_38 ..) ?_
    refine pz_iln (i := 15) rfl rfl ?_
    refine pz_iln (i := 16) rfl rfl ?_
    refine pz_ias (i := 17) rfl (ga_72 ..) (in_ofI hk) (pa_72 ..) ?_
    rw [cl_ofI (a := key)]
    refine pz_aln (i := 18) rfl rfl ?_
    refine pz_get (i := 19) rfl (gf_54_39 ..) ?_
    refine pz_iln (i := 20) rfl rfl ?_
    refine pz_iln (i := 21) rfl rfl ?_
    refine pz_ias (i := 22) rfl (ga_73 ..) (in_ofI hk) (pa_73 ..) ?_
    rw [cl_ofI (a := key)]
    refine pz_aln (i := 23) rfl rfl ?_
    refine pz_get (i := 24) rfl (gf_54_40 ..) ?_
    refine pz_iln (i := 25) rfl rfl ?_
    refine pz_il (i := 26) rfl rfl ?_
    refine pz_ias (i := 27) rfl (ga_74 ..) (in_ofI hk) (pa_74 ..) ?_
    rw [cl_ofI (a := key)]
    refine pz_vr (i := 28) rfl rfl ?_
    refine hQ _ _ (eM_up h hk hx ?_ ?_ ?_ ?_) (frI_up (frI_rfl _ _) (by decide)) (frA_up (frA_up (frA_up (frA_rfl _ _) (by decide)) (by decide)) (by decide))
    · rw [ua_n (by decide), ua_n (by decide), ua_s]
    · rw [ua_n (by decide), ua_s, ua_n (by decide)]
    · rw [ua_s, ua_n (by decide), ua_n (by decide)]
    · rw [ui_s]
      first
        | (rw [if_pos (hz.mp c7)])
        | (rw [if_neg (fun z => c7 (hz.mpr z))]
           rfl)
  · refine pz_ic (i := 8) rfl ?_
    refine pz_go (i := 9) rfl ?_
    refine pz_add (i := 11) rfl ?_
    first
      | rw [show nI (kS m).length + 1 = nI ((kS m).length + 1) from nI_add _ 1]
      | rw [show nI (kS m).length + 0 = nI ((kS m).length + 0) from nI_add _ 0]
    refine pz_put (i := 12) rfl (pf_54_41 ..) ⟨rfl, rfl⟩ ?_
    refine pz_aln (i := 13) rfl rfl ?_
    refine pz_get (i := 14) rfl (gf_54_38 ..) ?_
    refine pz_iln (i := 15) rfl rfl ?_
    refine pz_iln (i := 16) rfl rfl ?_
    refine pz_ias (i := 17) rfl (ga_72 ..) (in_ofI hk) (pa_72 ..) ?_
    rw [cl_ofI (a := key)]
    refine pz_aln (i := 18) rfl rfl ?_
    refine pz_get (i := 19) rfl (gf_54_39 ..) ?_
    refine pz_iln (i := 20) rfl rfl ?_
    refine pz_iln (i := 21) rfl rfl ?_
    refine pz_ias (i := 22) rfl (ga_73 ..) (in_ofI hk) (pa_73 ..) ?_
    rw [cl_ofI (a := key)]
    refine pz_aln (i := 23) rfl rfl ?_
    refine pz_get (i := 24) rfl (gf_54_40 ..) ?_
    refine pz_iln (i := 25) rfl rfl ?_
    refine pz_il (i := 26) rfl rfl ?_
    refine pz_ias (i := 27) rfl (ga_74 ..) (in_ofI hk) (pa_74 ..) ?_
    rw [cl_ofI (a := key)]
    refine pz_vr (i := 28) rfl rfl ?_
    refine hQ _ _ (eM_up h hk hx ?_ ?_ ?_ ?_) (frI_up (frI_rfl _ _) (by decide)) (frA_up (frA_up (frA_up (frA_rfl _ _) (by decide)) (by decide)) (by decide))
    · rw [ua_n (by decide), ua_n (by decide), ua_s]
    · rw [ua_n (by decide), ua_s, ua_n (by decide)]
    · rw [ua_s, ua_n (by decide), ua_n (by decide)]
    · rw [ui_s]
      first
        | (rw [if_pos (hz.mp c7)])
        | (rw [if_neg (fun z => c7 (hz.mpr z))]
           rfl)
end SB0
