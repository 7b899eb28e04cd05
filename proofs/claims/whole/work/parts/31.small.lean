/-! PART 31: small methods of the class -/
def bl_num (rm : Nat) (av : Nat → Nat → Int32) (q : Nat) : Int32 := (av 0 (q % rm) &&& 255) <<< ((24 : Int32) &&& 31) ||| (av 0 ((q + 1) % rm) &&& 255) <<< ((16 : Int32) &&& 31) ||| (av 0 ((q + 2) % rm) &&& 255) <<< ((8 : Int32) &&& 31) ||| (av 0 ((q + 3) % rm) &&& 255)
/-- is it a key -/
def kx_is (k : Int32) : Bool := decide (¬ k < 0) && decide (k < 120)
theorem kx_nat {k : Int32} (h : kx_is k = true) : ∃ n : Nat, n < 120 ∧ k = nI n := by
  simp only [kx_is, Bool.and_eq_true, decide_eq_true_eq] at h
  obtain ⟨j, hj, rfl⟩ := nI_of h.1
  exact ⟨j, (nI_ltI hj (by omega)).mp h.2, rfl⟩
theorem kx_of {n : Nat} (h : n < 120) : kx_is (nI n) = true := by
  simp only [kx_is, Bool.and_eq_true, decide_eq_true_eq]
  exact ⟨nI_pos (by omega), show nI n < nI 120 from nI_lt h (by omega)⟩
theorem kx_in {k : Int32} (h : kx_is k = true) : vp_in k 120 := by
  obtain ⟨n, hn, rfl⟩ := kx_nat h
  exact vp_in_nI hn (by omega)
theorem kx_f1 {k : Int32} (h : k < 0) : kx_is k = false := by simp [kx_is, h]
theorem kx_f2 {k : Int32} (h : 120 ≤ k) : kx_is k = false := by
  unfold kx_is
  rw [decide_eq_false (Int32.not_lt.mpr h), Bool.and_false]
theorem kx_t {k : Int32} (h1 : ¬ k < 0) (h2 : ¬ 120 ≤ k) : kx_is k = true := by
  unfold kx_is
  rw [decide_eq_true h1, decide_eq_true (Int32.not_le.mp h2)]
  rfl
def bB (b : Bool) : Int32 := if b then 1 else 0
theorem bB_n (b : Bool) : narrow .boolean (.int (bB b)) = .int (bB b) ∧ fits .boolean (.int (bB b)) = true := by cases b <;> exact ⟨rfl, rfl⟩
section S31
variable {Lx : Nat} {xs : Nat → Int32} {d rm : Nat} {iv : Nat → Int32} {av : Nat → Nat → Int32} {r : pW} {Q : rQ}
set_option maxRecDepth 20000 in
theorem sx_logNumber (hr : 0 < rm ∧ rm ≤ 4096) {q : Nat} (hq : q + 3 < 2 ^ 31) (hQ : Q (some (.int (bl_num rm av q))) (wX rm iv av r)) : rx_R Lx xs (d + 3) 12 [.ref 2, .int (nI q)] (wX rm iv av r) Q := by
  refine pz_en (t := rt_12) ⟨Nat.le_of_ble_eq_true rfl, rfl⟩ rfl rfl ?_
  refine pz_aln (i := 0) rfl rfl ?_
  refine pz_iln (i := 1) rfl rfl ?_
  refine pz_cI1 (i := 2) rfl (gc_2 ..) rfl (Nat.le_of_ble_eq_true rfl) rfl ?_
  refine sx_logByte hr (by omega) ?_
  refine ⟨_, rfl, ?_⟩
  refine pz_bi (i := 3) rfl ?_
  refine pz_shl (i := 4) rfl ?_
  refine pz_aln (i := 5) rfl rfl ?_
  refine pz_iln (i := 6) rfl rfl ?_
  refine pz_ic (i := 7) rfl ?_
  refine pz_add (i := 8) rfl ?_
  rw [show nI q + 1 = nI (q + 1) from nI_add q 1]
  refine pz_cI1 (i := 9) rfl (gc_2 ..) rfl (Nat.le_of_ble_eq_true rfl) rfl ?_
  refine sx_logByte hr (by omega) ?_
  refine ⟨_, rfl, ?_⟩
  refine pz_bi (i := 10) rfl ?_
  refine pz_shl (i := 11) rfl ?_
  refine pz_or (i := 12) rfl ?_
  refine pz_aln (i := 13) rfl rfl ?_
  refine pz_iln (i := 14) rfl rfl ?_
  refine pz_ic (i := 15) rfl ?_
  refine pz_add (i := 16) rfl ?_
  rw [show nI q + 2 = nI (q + 2) from nI_add q 2]
  refine pz_cI1 (i := 17) rfl (gc_2 ..) rfl (Nat.le_of_ble_eq_true rfl) rfl ?_
  refine sx_logByte hr (by omega) ?_
  refine ⟨_, rfl, ?_⟩
  refine pz_bi (i := 18) rfl ?_
  refine pz_shl (i := 19) rfl ?_
  refine pz_or (i := 20) rfl ?_
  refine pz_aln (i := 21) rfl rfl ?_
  refine pz_iln (i := 22) rfl rfl ?_
  refine pz_ic (i := 23) rfl ?_
  refine pz_add (i := 24) rfl ?_
  rw [show nI q + 3 = nI (q + 3) from nI_add q 3]
  refine pz_cI1 (i := 25) rfl (gc_2 ..) rfl (Nat.le_of_ble_eq_true rfl) rfl ?_
  refine sx_logByte hr (by omega) ?_
  refine ⟨_, rfl, ?_⟩
  refine pz_or (i := 26) rfl ?_
  refine pz_ir (i := 27) rfl rfl rfl ?_
  exact hQ
set_option maxRecDepth 20000 in
theorem sx_recordSize (hr : 0 < rm ∧ rm ≤ 4096) {q : Nat} (hq : q + 2 < 2 ^ 31) (hQ : Q (some (.int (12 + (av 0 ((q + 2) % rm) &&& 255)))) (wX rm iv av r)) : rx_R Lx xs (d + 3) 13 [.ref 2, .int (nI q)] (wX rm iv av r) Q := by
  refine pz_en (t := rt_13) ⟨Nat.le_of_ble_eq_true rfl, rfl⟩ rfl rfl ?_
  refine pz_bi (i := 0) rfl ?_
  refine pz_aln (i := 1) rfl rfl ?_
  refine pz_iln (i := 2) rfl rfl ?_
  refine pz_ic (i := 3) rfl ?_
  refine pz_add (i := 4) rfl ?_
  rw [show nI q + 2 = nI (q + 2) from nI_add q 2]
  refine pz_cI1 (i := 5) rfl (gc_2 ..) rfl (Nat.le_of_ble_eq_true rfl) rfl ?_
  refine sx_logByte hr (by omega) ?_
  refine ⟨_, rfl, ?_⟩
  refine pz_add (i := 6) rfl ?_
  refine pz_ir (i := 7) rfl rfl rfl ?_
  exact hQ
set_option maxRecDepth 20000 in
theorem sx_makeLasting (hQ : Q none (wX rm (if iv 5 = 0 then upd (upd iv 1 0) 0 0 else iv) av r)) : rx_R Lx xs (d + 1) 17 [.ref 2] (wX rm iv av r) Q := by
  refine pz_en (t := rt_17) ⟨Nat.le_of_ble_eq_true rfl, rfl⟩ rfl rfl ?_
  refine pz_aln (i := 0) rfl rfl ?_
  refine pz_get (i := 1) rfl (gf_2_10 ..) ?_
  refine pz_if_ne (i := 2) rfl (fun c2 => ?_) (fun c2 => ?_)
  · refine pz_vr (i := 9) rfl rfl ?_
    first | rwa [if_neg c2] at hQ | rwa [if_pos c2] at hQ
  · refine pz_aln (i := 3) rfl rfl ?_
    refine pz_ic (i := 4) rfl ?_
    refine pz_put (i := 5) rfl (pf_2_6 ..) ⟨rfl, rfl⟩ ?_
    refine pz_aln (i := 6) rfl rfl ?_
    refine pz_ic (i := 7) rfl ?_
    refine pz_put (i := 8) rfl (pf_2_5 ..) ⟨rfl, rfl⟩ ?_
    refine pz_vr (i := 9) rfl rfl ?_
    first | rwa [if_neg c2] at hQ | rwa [if_pos c2] at hQ
set_option maxRecDepth 20000 in
theorem sx_cellBehind (hr : 0 < rm ∧ rm ≤ 4096) {c : Nat} (hc : c < 2 ^ 30) (hQ : Q (some (.int (nI (if c + 1 = rm then 0 else c + 1)))) (wX rm iv av r)) : rx_R Lx xs (d + 1) 20 [.ref 2, .int (nI c)] (wX rm iv av r) Q := by
  refine pz_en (t := rt_20) ⟨Nat.le_of_ble_eq_true rfl, rfl⟩ rfl rfl ?_
  refine pz_iln (i := 0) rfl rfl ?_
  refine pz_ic (i := 1) rfl ?_
  refine pz_add (i := 2) rfl ?_
  rw [nI_1]
  refine pz_aln (i := 3) rfl rfl ?_
  refine pz_get (i := 4) rfl (gf_2_0 ..) ?_
  refine pz_ii_ne (i := 5) rfl (fun c5 => ?_) (fun c5 => ?_)
  · refine pz_iln (i := 8) rfl rfl ?_
    refine pz_ic (i := 9) rfl ?_
    refine pz_add (i := 10) rfl ?_
    rw [nI_1]
    refine pz_ir (i := 11) rfl rfl rfl ?_
    first | rwa [if_neg (fun z => c5 (by rw [z]))] at hQ | rwa [if_pos ((nI_eq (by omega) (by omega)).mp c5)] at hQ
  · refine pz_ic (i := 6) rfl ?_
    refine pz_go (i := 7) rfl ?_
    refine pz_ir (i := 11) rfl rfl rfl ?_
    first | rwa [if_neg (fun z => c5 (by rw [z]))] at hQ | rwa [if_pos ((nI_eq (by omega) (by omega)).mp c5)] at hQ
theorem hh_fc {P : Prop} (h : P) : P := h
set_option maxRecDepth 20000 in
theorem sx_Fclear {f : Nat} (hf : f < 3) (hQ : Q none (wX rm (upd (upd (upd (upd (upd (upd iv (40 + 10 * f + 0) 0) (40 + 10 * f + 1) 0) (40 + 10 * f + 2) 0) (40 + 10 * f + 3) 0) (40 + 10 * f + 4) 0) (40 + 10 * f + 5) 0) av r)) : rx_R Lx xs (d + 1) 28 [.ref (oF f)] (wX rm iv av r) Q := by
  refine pz_en (t := rt_28) ⟨Nat.le_of_ble_eq_true rfl, rfl⟩ rfl rfl ?_
  refine pz_aln (i := 0) rfl rfl ?_
  refine pz_ic (i := 1) rfl ?_
  refine pz_put (i := 2) rfl (pF_0 hf ..) ⟨rfl, rfl⟩ ?_
  refine pz_aln (i := 3) rfl rfl ?_
  refine pz_ic (i := 4) rfl ?_
  refine pz_put (i := 5) rfl (pF_1 hf ..) ⟨rfl, rfl⟩ ?_
  refine pz_aln (i := 6) rfl rfl ?_
  refine pz_ic (i := 7) rfl ?_
  refine pz_put (i := 8) rfl (pF_2 hf ..) ⟨rfl, rfl⟩ ?_
  refine pz_aln (i := 9) rfl rfl ?_
  refine pz_ic (i := 10) rfl ?_
  refine pz_put (i := 11) rfl (pF_3 hf ..) ⟨rfl, rfl⟩ ?_
  refine pz_aln (i := 12) rfl rfl ?_
  refine pz_ic (i := 13) rfl ?_
  refine pz_put (i := 14) rfl (pF_4 hf ..) ⟨rfl, rfl⟩ ?_
  refine pz_aln (i := 15) rfl rfl ?_
  refine pz_ic (i := 16) rfl ?_
  refine pz_put (i := 17) rfl (pF_5 hf ..) ⟨rfl, rfl⟩ ?_
  refine pz_vr (i := 18) rfl rfl ?_
  exact hQ
set_option maxRecDepth 20000 in
theorem sx_hasRoom {n : Int32} (hQ : Q (some (.int (bB (decide (iv 15 + n + 12 - iv 14 ≤ nI rm))))) (wX rm iv av r)) : rx_R Lx xs (d + 1) 33 [.ref 13, .int n] (wX rm iv av r) Q := by
  refine pz_en (t := rt_33) ⟨Nat.le_of_ble_eq_true rfl, rfl⟩ rfl rfl ?_
  refine pz_aln (i := 0) rfl rfl ?_
  refine pz_get (i := 1) rfl (gf_13_1 ..) ?_
  refine pz_get (i := 2) rfl (gf_7_8 ..) ?_
  refine pz_iln (i := 3) rfl rfl ?_
  refine pz_add (i := 4) rfl ?_
  refine pz_bi (i := 5) rfl ?_
  refine pz_add (i := 6) rfl ?_
  refine pz_aln (i := 7) rfl rfl ?_
  refine pz_get (i := 8) rfl (gf_13_1 ..) ?_
  refine pz_get (i := 9) rfl (gf_7_7 ..) ?_
  refine pz_sub (i := 10) rfl ?_
  refine pz_aln (i := 11) rfl rfl ?_
  refine pz_get (i := 12) rfl (gf_13_0 ..) ?_
  refine pz_get (i := 13) rfl (gf_2_0 ..) ?_
  refine pz_ii_gt (i := 14) rfl (fun c14 => ?_) (fun c14 => ?_)
  · refine pz_ic (i := 17) rfl ?_
    refine pz_ir (i := 18) rfl rfl rfl ?_
    first | rwa [decide_eq_false (Int32.not_le.mpr c14)] at hQ | rwa [decide_eq_true (Int32.not_lt.mp c14)] at hQ
  · refine pz_ic (i := 15) rfl ?_
    refine pz_go (i := 16) rfl ?_
    refine pz_ir (i := 18) rfl rfl rfl ?_
    first | rwa [decide_eq_false (Int32.not_le.mpr c14)] at hQ | rwa [decide_eq_true (Int32.not_lt.mp c14)] at hQ
set_option maxRecDepth 20000 in
theorem sx_isKey {k : Int32} {w : pW} (hQ : Q (some (.int (bB (kx_is k)))) w) : rx_R Lx xs (d + 1) 79 [.int k] w Q := by
  refine pz_en (t := rt_79) ⟨Nat.le_of_ble_eq_true rfl, rfl⟩ rfl rfl ?_
  refine pz_iln (i := 0) rfl rfl ?_
  refine pz_if_lt (i := 1) rfl (fun c1 => ?_) (fun c1 => ?_)
  · refine pz_ic (i := 7) rfl ?_
    refine pz_ir (i := 8) rfl rfl rfl ?_
    first | rwa [kx_f1 c1] at hQ | rwa [kx_f2 c4] at hQ | rwa [kx_t c1 c4] at hQ
  · refine pz_iln (i := 2) rfl rfl ?_
    refine pz_bi (i := 3) rfl ?_
    refine pz_ii_ge (i := 4) rfl (fun c4 => ?_) (fun c4 => ?_)
    · refine pz_ic (i := 7) rfl ?_
      refine pz_ir (i := 8) rfl rfl rfl ?_
      first | rwa [kx_f1 c1] at hQ | rwa [kx_f2 c4] at hQ | rwa [kx_t c1 c4] at hQ
    · refine pz_ic (i := 5) rfl ?_
      refine pz_go (i := 6) rfl ?_
      refine pz_ir (i := 8) rfl rfl rfl ?_
      first | rwa [kx_f1 c1] at hQ | rwa [kx_f2 c4] at hQ | rwa [kx_t c1 c4] at hQ
set_option maxRecDepth 20000 in
theorem sx_tableStart {v : Nat} (hv : v < 2) {i : Nat} (hi : i < 6) (hQ : Q (some (.int (nI rm + av (4 + v) i * 1300))) (wX rm iv av r)) : rx_R Lx xs (d + 2) 47 [.ref (oV v), .int (nI i)] (wX rm iv av r) Q := by
  refine pz_en (t := rt_47) ⟨Nat.le_of_ble_eq_true rfl, rfl⟩ rfl rfl ?_
  refine pz_aln (i := 0) rfl rfl ?_
  refine pz_get (i := 1) rfl (gV_0 hv ..) ?_
  refine pz_aln (i := 2) rfl rfl ?_
  refine pz_get (i := 3) rfl (gV_2 hv ..) ?_
  refine pz_iln (i := 4) rfl rfl ?_
  refine pz_ial (i := 5) rfl (gVp hv ..) (vp_in_nI hi (by omega)) ?_
  rw [nI_clamp (by omega)]
  refine pz_cI1 (i := 6) rfl (gc_2 ..) rfl (Nat.le_of_ble_eq_true rfl) rfl ?_
  refine sx_tableCell ?_
  refine ⟨_, rfl, ?_⟩
  refine pz_ir (i := 7) rfl rfl rfl ?_
  exact hQ
set_option maxRecDepth 20000 in
theorem sx_Ehas {e : Nat} (he : e < 5) {k : Int32} (hQ : Q (some (.int (bB (kx_is k && decide (¬ av (10 + 3 * e + 0) k.toNatClampNeg = 0))))) (wX rm iv av r)) : rx_R Lx xs (d + 2) 23 [.ref (oE e), .int k] (wX rm iv av r) Q := by
  refine pz_en (t := rt_23) ⟨Nat.le_of_ble_eq_true rfl, rfl⟩ rfl rfl ?_
  refine pz_iln (i := 0) rfl rfl ?_
  refine pz_sI1 (i := 1) rfl (by decide) (Nat.le_of_ble_eq_true rfl) rfl ?_
  refine sx_isKey ?_
  refine ⟨_, rfl, ?_⟩
  refine pz_if_eq (i := 2) rfl (fun c2 => ?_) (fun c2 => ?_)
  · refine pz_ic (i := 10) rfl ?_
    refine pz_ir (i := 11) rfl rfl rfl ?_
    cases hk : kx_is k
    · rw [hk] at hQ
      first | exact hQ | (rw [hk] at c2; exact absurd rfl c2)
    · rw [hk] at hQ
      first | (rw [hk] at c2; exact absurd c2 (by decide)) | (rw [decide_eq_false (fun z => z c7)] at hQ; exact hQ) | (rw [decide_eq_true c7] at hQ; exact hQ)
  · refine pz_aln (i := 3) rfl rfl ?_
    refine pz_get (i := 4) rfl (gE_0 he ..) ?_
    refine pz_iln (i := 5) rfl rfl ?_
    refine pz_ial (i := 6) rfl (gEa_0 he ..) (kx_in (by cases hk : kx_is k; rw [hk] at c2; exact absurd rfl c2; rfl)) ?_
    refine pz_if_eq (i := 7) rfl (fun c7 => ?_) (fun c7 => ?_)
    · refine pz_ic (i := 10) rfl ?_
      refine pz_ir (i := 11) rfl rfl rfl ?_
      cases hk : kx_is k
      · rw [hk] at hQ
        first | exact hQ | (rw [hk] at c2; exact absurd rfl c2)
      · rw [hk] at hQ
        first | (rw [hk] at c2; exact absurd c2 (by decide)) | (rw [decide_eq_false (fun z => z c7)] at hQ; exact hQ) | (rw [decide_eq_true c7] at hQ; exact hQ)
    · refine pz_ic (i := 8) rfl ?_
      refine pz_go (i := 9) rfl ?_
      refine pz_ir (i := 11) rfl rfl rfl ?_
      cases hk : kx_is k
      · rw [hk] at hQ
        first | exact hQ | (rw [hk] at c2; exact absurd rfl c2)
      · rw [hk] at hQ
        first | (rw [hk] at c2; exact absurd c2 (by decide)) | (rw [decide_eq_false (fun z => z c7)] at hQ; exact hQ) | (rw [decide_eq_true c7] at hQ; exact hQ)
end S31
