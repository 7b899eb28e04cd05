/-! PART 33: the batch, numbers into rows, filters -/
/-- the two bits of a key -/
def fB (k : Int32) : Int32 := (1 : Int32) <<< ((7 * k - 7 * k / 32 * 32) &&& 31) ||| (1 : Int32) <<< ((11 * k + 5 - (11 * k + 5) / 32 * 32) &&& 31)
/-- the four bytes of a number -/
def n3 (x : Int32) : Int32 := (x.toUInt32 >>> ((24 : Int32).toUInt32 &&& Int32.toUInt32 31)).toInt32.toInt8.toInt32
def n2 (x : Int32) : Int32 := (x.toUInt32 >>> ((16 : Int32).toUInt32 &&& Int32.toUInt32 31)).toInt32.toInt8.toInt32
def n1 (x : Int32) : Int32 := (x.toUInt32 >>> ((8 : Int32).toUInt32 &&& Int32.toUInt32 31)).toInt32.toInt8.toInt32
def n0 (x : Int32) : Int32 := x.toInt8.toInt32
def w4 (f : Nat → Int32) (q : Nat) (x : Int32) : Nat → Int32 := upd (upd (upd (upd f q (n3 x)) (q + 1) (n2 x)) (q + 2) (n1 x)) (q + 3) (n0 x)
section S33
variable {Lx : Nat} {xs : Nat → Int32} {d rm : Nat} {iv : Nat → Int32} {av : Nat → Nat → Int32} {r : pW} {Q : rQ}
set_option maxRecDepth 20000 in
theorem sx_filterBits {k : Int32} {w : pW} (hQ : Q (some (.int (fB k))) w) : rx_R Lx xs (d + 1) 53 [.int k] w Q := by
  refine pz_en (t := rt_53) ⟨Nat.le_of_ble_eq_true rfl, rfl⟩ rfl rfl ?_
  refine pz_ic (i := 0) rfl ?_
  refine pz_bi (i := 1) rfl ?_
  refine pz_iln (i := 2) rfl rfl ?_
  refine pz_mul (i := 3) rfl ?_
  refine pz_bi (i := 4) rfl ?_
  refine pz_rem (i := 5) rfl (by decide) ?_
  refine pz_shl (i := 6) rfl ?_
  refine pz_ic (i := 7) rfl ?_
  refine pz_bi (i := 8) rfl ?_
  refine pz_iln (i := 9) rfl rfl ?_
  refine pz_mul (i := 10) rfl ?_
  refine pz_ic (i := 11) rfl ?_
  refine pz_add (i := 12) rfl ?_
  refine pz_bi (i := 13) rfl ?_
  refine pz_rem (i := 14) rfl (by decide) ?_
  refine pz_shl (i := 15) rfl ?_
  refine pz_or (i := 16) rfl ?_
  refine pz_ir (i := 17) rfl rfl rfl ?_
  exact hQ
set_option maxRecDepth 20000 in
theorem sx_setH {q : Nat} (hq : q + 3 < 12) {x : Int32} (hQ : Q none (wX rm iv (up_a av 26 (w4 (av 26) q x)) r)) : rx_R Lx xs (d + 1) 40 [.ref 20, .int (nI q), .int x] (wX rm iv av r) Q := by
  refine pz_en (t := rt_40) ⟨Nat.le_of_ble_eq_true rfl, rfl⟩ rfl rfl ?_
  refine pz_aln (i := 0) rfl rfl ?_
  refine pz_iln (i := 1) rfl rfl ?_
  refine pz_iln (i := 2) rfl rfl ?_
  refine pz_bi (i := 3) rfl ?_
  refine pz_ush (i := 4) rfl ?_
  refine pz_i2b (i := 5) rfl ?_
  refine pz_bas (i := 6) rfl (ga_20 ..) rfl (in_ofI (by omega)) (pa_20 ..) ?_
  rw [cl_ofI (a := q)]
  refine pz_aln (i := 7) rfl rfl ?_
  refine pz_iln (i := 8) rfl rfl ?_
  refine pz_ic (i := 9) rfl ?_
  refine pz_add (i := 10) rfl ?_
  refine pz_iln (i := 11) rfl rfl ?_
  refine pz_bi (i := 12) rfl ?_
  refine pz_ush (i := 13) rfl ?_
  refine pz_i2b (i := 14) rfl ?_
  rw [show nI q + 1 = nI (q + 1) from nI_add q 1]
  refine pz_bas (i := 15) rfl (ga_20 ..) rfl (in_ofI (a := q + 1) (by omega)) (pa_20 ..) ?_
  rw [cl_ofI (a := q + 1), ua_uu, ua_s]
  refine pz_aln (i := 16) rfl rfl ?_
  refine pz_iln (i := 17) rfl rfl ?_
  refine pz_ic (i := 18) rfl ?_
  refine pz_add (i := 19) rfl ?_
  refine pz_iln (i := 20) rfl rfl ?_
  refine pz_bi (i := 21) rfl ?_
  refine pz_ush (i := 22) rfl ?_
  refine pz_i2b (i := 23) rfl ?_
  rw [show nI q + 2 = nI (q + 2) from nI_add q 2]
  refine pz_bas (i := 24) rfl (ga_20 ..) rfl (in_ofI (a := q + 2) (by omega)) (pa_20 ..) ?_
  rw [cl_ofI (a := q + 2), ua_uu, ua_s]
  refine pz_aln (i := 25) rfl rfl ?_
  refine pz_iln (i := 26) rfl rfl ?_
  refine pz_ic (i := 27) rfl ?_
  refine pz_add (i := 28) rfl ?_
  refine pz_iln (i := 29) rfl rfl ?_
  refine pz_i2b (i := 30) rfl ?_
  rw [show nI q + 3 = nI (q + 3) from nI_add q 3]
  refine pz_bas (i := 31) rfl (ga_20 ..) rfl (in_ofI (a := q + 3) (by omega)) (pa_20 ..) ?_
  rw [cl_ofI (a := q + 3), ua_uu, ua_s]
  refine pz_vr (i := 32) rfl rfl ?_
  have e : ∀ z : Int32, vp_nar (rx_tg 1) z.toInt8.toInt32 = z.toInt8.toInt32 := pk_vb
  rw [e, e, e, e]
  exact hQ
set_option maxRecDepth 20000 in
theorem sx_setP {q : Nat} (hq : q + 3 < 1300) {x : Int32} (hQ : Q none (wX rm iv (up_a av 27 (w4 (av 27) q x)) r)) : rx_R Lx xs (d + 1) 40 [.ref 21, .int (nI q), .int x] (wX rm iv av r) Q := by
  refine pz_en (t := rt_40) ⟨Nat.le_of_ble_eq_true rfl, rfl⟩ rfl rfl ?_
  refine pz_aln (i := 0) rfl rfl ?_
  refine pz_iln (i := 1) rfl rfl ?_
  refine pz_iln (i := 2) rfl rfl ?_
  refine pz_bi (i := 3) rfl ?_
  refine pz_ush (i := 4) rfl ?_
  refine pz_i2b (i := 5) rfl ?_
  refine pz_bas (i := 6) rfl (ga_21 ..) rfl (in_ofI (by omega)) (pa_21 ..) ?_
  rw [cl_ofI (a := q)]
  refine pz_aln (i := 7) rfl rfl ?_
  refine pz_iln (i := 8) rfl rfl ?_
  refine pz_ic (i := 9) rfl ?_
  refine pz_add (i := 10) rfl ?_
  refine pz_iln (i := 11) rfl rfl ?_
  refine pz_bi (i := 12) rfl ?_
  refine pz_ush (i := 13) rfl ?_
  refine pz_i2b (i := 14) rfl ?_
  rw [show nI q + 1 = nI (q + 1) from nI_add q 1]
  refine pz_bas (i := 15) rfl (ga_21 ..) rfl (in_ofI (a := q + 1) (by omega)) (pa_21 ..) ?_
  rw [cl_ofI (a := q + 1), ua_uu, ua_s]
  refine pz_aln (i := 16) rfl rfl ?_
  refine pz_iln (i := 17) rfl rfl ?_
  refine pz_ic (i := 18) rfl ?_
  refine pz_add (i := 19) rfl ?_
  refine pz_iln (i := 20) rfl rfl ?_
  refine pz_bi (i := 21) rfl ?_
  refine pz_ush (i := 22) rfl ?_
  refine pz_i2b (i := 23) rfl ?_
  rw [show nI q + 2 = nI (q + 2) from nI_add q 2]
  refine pz_bas (i := 24) rfl (ga_21 ..) rfl (in_ofI (a := q + 2) (by omega)) (pa_21 ..) ?_
  rw [cl_ofI (a := q + 2), ua_uu, ua_s]
  refine pz_aln (i := 25) rfl rfl ?_
  refine pz_iln (i := 26) rfl rfl ?_
  refine pz_ic (i := 27) rfl ?_
  refine pz_add (i := 28) rfl ?_
  refine pz_iln (i := 29) rfl rfl ?_
  refine pz_i2b (i := 30) rfl ?_
  rw [show nI q + 3 = nI (q + 3) from nI_add q 3]
  refine pz_bas (i := 31) rfl (ga_21 ..) rfl (in_ofI (a := q + 3) (by omega)) (pa_21 ..) ?_
  rw [cl_ofI (a := q + 3), ua_uu, ua_s]
  refine pz_vr (i := 32) rfl rfl ?_
  have e : ∀ z : Int32, vp_nar (rx_tg 1) z.toInt8.toInt32 = z.toInt8.toInt32 := pk_vb
  rw [e, e, e, e]
  exact hQ
/-- no record of the batch before i has the key of record i -/
def fK (f : Nat → Int32) (i : Nat) : Bool := (List.range i).all (fun j => decide (¬ f j = f i))
theorem lp_first {i : Nat} (hi : i < 8) : ∀ (m k : Nat), k ≤ i → i ≤ k + m → (∀ j, j < k → ¬ av 30 j = av 30 i) → Q (some (.int (bB (fK (av 30) i)))) (wX rm iv av r) → pz Lx xs d rt_2 (some .boolean) Q 2 [some (.ref 37), some (.int (nI i)), some (.int (nI k))] [] (wX rm iv av r) := by
  have hdone : (∀ j, j < i → ¬ av 30 j = av 30 i) → Q (some (.int (bB (fK (av 30) i)))) (wX rm iv av r) → pz Lx xs d rt_2 (some .boolean) Q 2 [some (.ref 37), some (.int (nI i)), some (.int (nI i))] [] (wX rm iv av r) := by
    intro h hQ
    have hf : fK (av 30) i = true := List.all_eq_true.mpr (fun j hj => by simpa using h j (List.mem_range.mp hj))
    rw [hf] at hQ
    refine pz_iln (i := 2) rfl rfl ?_
    refine pz_iln (i := 3) rfl rfl ?_
    refine pz_ii_ge (i := 4) rfl (fun c4 => ?_) (fun c4 => ?_)
    · refine pz_ic (i := 18) rfl ?_
      refine pz_ir (i := 19) rfl rfl rfl ?_
      exact hQ
    · exact absurd (Int32.le_refl _) c4
  intro m
  induction m with
  | zero =>
    intro k hk hm h hQ
    obtain rfl : k = i := by omega
    exact hdone h hQ
  | succ m ih =>
    intro k hk hm h hQ
    by_cases hki : k = i
    · subst hki
      exact hdone h hQ
    refine pz_iln (i := 2) rfl rfl ?_
    refine pz_iln (i := 3) rfl rfl ?_
    refine pz_ii_ge (i := 4) rfl (fun c4 => ?_) (fun c4 => ?_)
    · exact absurd (le_ofI c4) (by omega)
    · refine pz_aln (i := 5) rfl rfl ?_
      refine pz_get (i := 6) rfl (gf_37_1 ..) ?_
      refine pz_iln (i := 7) rfl rfl ?_
      refine pz_ial (i := 8) rfl (ga_39 ..) (in_ofI (by omega)) ?_
      rw [cl_ofI (a := k)]
      refine pz_aln (i := 9) rfl rfl ?_
      refine pz_get (i := 10) rfl (gf_37_1 ..) ?_
      refine pz_iln (i := 11) rfl rfl ?_
      refine pz_ial (i := 12) rfl (ga_39 ..) (in_ofI (by omega)) ?_
      rw [cl_ofI (a := i)]
      refine pz_ii_ne (i := 13) rfl (fun c13 => ?_) (fun c13 => ?_)
      · refine pz_inc (i := 16) rfl rfl rfl rfl ?_
        refine pz_go (i := 17) rfl ?_
        rw [nI_1]
        refine ih (k + 1) (by omega) (by omega) (fun j hj => ?_) hQ
        by_cases hjk : j = k
        · subst hjk
          exact c13
        · exact h j (by omega)
      · refine pz_ic (i := 14) rfl ?_
        refine pz_ir (i := 15) rfl rfl rfl ?_
        have hf : fK (av 30) i = false := by
          apply Bool.eq_false_iff.mpr
          intro z
          have := List.all_eq_true.mp z k (List.mem_range.mpr (by omega))
          simp only [decide_eq_true_eq] at this
          exact this c13
        rw [hf] at hQ
        exact hQ
set_option maxRecDepth 20000 in
theorem sx_isFirst {i : Nat} (hi : i < 8) (hQ : Q (some (.int (bB (fK (av 30) i)))) (wX rm iv av r)) : rx_R Lx xs (d + 1) 2 [.ref 37, .int (nI i)] (wX rm iv av r) Q := by
  refine pz_en (t := rt_2) ⟨Nat.le_of_ble_eq_true rfl, rfl⟩ rfl rfl ?_
  refine pz_ic (i := 0) rfl ?_
  refine pz_isn (i := 1) rfl ⟨rfl, Nat.le_of_ble_eq_true rfl⟩ rfl ?_
  exact lp_first hi i 0 (by omega) (by omega) (fun j hj => absurd hj (by omega)) hQ
def sB (f : Nat → Nat) : Nat → Nat
  | 0 => 0
  | k + 1 => sB f k + (12 + f k)
theorem sB_le {f : Nat → Nat} (h : ∀ j, j < 8 → f j ≤ 64) : ∀ k, k ≤ 8 → sB f k ≤ 76 * k
  | 0, _ => by simp [sB]
  | k + 1, hk => by
    have h1 := sB_le h k (by omega)
    have h2 := h k (by omega)
    simp only [sB]
    omega
theorem lp_bsize {n : Nat} {f : Nat → Nat} (hn : n ≤ 8) (hc : iv 7 = nI n) (hf : ∀ j, j < n → av 31 j = nI (f j)) (hQ : Q (some (.int (nI (sB f n)))) (wX rm iv av r)) : ∀ (m k : Nat), k ≤ n → n ≤ k + m → pz Lx xs d rt_3 (some .int) Q 4 [some (.ref 37), some (.int (nI (sB f k))), some (.int (nI k))] [] (wX rm iv av r) := by
  have hdone : pz Lx xs d rt_3 (some .int) Q 4 [some (.ref 37), some (.int (nI (sB f n))), some (.int (nI n))] [] (wX rm iv av r) := by
    refine pz_iln (i := 4) rfl rfl ?_
    refine pz_aln (i := 5) rfl rfl ?_
    refine pz_get (i := 6) rfl (gf_37_4 ..) ?_
    rw [hc]
    refine pz_ii_ge (i := 7) rfl (fun c7 => ?_) (fun c7 => ?_)
    · refine pz_iln (i := 19) rfl rfl ?_
      refine pz_ir (i := 20) rfl rfl rfl ?_
      exact hQ
    · exact absurd (Int32.le_refl _) c7
  intro m
  induction m with
  | zero =>
    intro k hk hm
    obtain rfl : k = n := by omega
    exact hdone
  | succ m ih =>
    intro k hk hm
    by_cases hkn : k = n
    · subst hkn
      exact hdone
    refine pz_iln (i := 4) rfl rfl ?_
    refine pz_aln (i := 5) rfl rfl ?_
    refine pz_get (i := 6) rfl (gf_37_4 ..) ?_
    rw [hc]
    refine pz_ii_ge (i := 7) rfl (fun c7 => ?_) (fun c7 => ?_)
    · exact absurd (le_ofI c7) (by omega)
    · refine pz_iln (i := 8) rfl rfl ?_
      refine pz_bi (i := 9) rfl ?_
      refine pz_aln (i := 10) rfl rfl ?_
      refine pz_get (i := 11) rfl (gf_37_2 ..) ?_
      refine pz_iln (i := 12) rfl rfl ?_
      refine pz_ial (i := 13) rfl (ga_40 ..) (in_ofI (by omega)) ?_
      rw [cl_ofI (a := k), hf k (by omega)]
      refine pz_add (i := 14) rfl ?_
      rw [show (12 : Int32) + nI (f k) = nI (12 + f k) from nI_add 12 (f k)]
      refine pz_add (i := 15) rfl ?_
      rw [nI_add]
      refine pz_isn (i := 16) rfl ⟨rfl, Nat.le_of_ble_eq_true rfl⟩ rfl ?_
      refine pz_inc (i := 17) rfl rfl rfl rfl ?_
      refine pz_go (i := 18) rfl ?_
      rw [nI_1]
      exact ih (k + 1) (by omega) (by omega)
set_option maxRecDepth 20000 in
theorem sx_Bsize {n : Nat} {f : Nat → Nat} (hn : n ≤ 8) (hc : iv 7 = nI n) (hf : ∀ j, j < n → av 31 j = nI (f j)) (hQ : Q (some (.int (nI (sB f n)))) (wX rm iv av r)) : rx_R Lx xs (d + 1) 3 [.ref 37] (wX rm iv av r) Q := by
  refine pz_en (t := rt_3) ⟨Nat.le_of_ble_eq_true rfl, rfl⟩ rfl rfl ?_
  refine pz_ic (i := 0) rfl ?_
  refine pz_isn (i := 1) rfl ⟨rfl, Nat.le_of_ble_eq_true rfl⟩ rfl ?_
  refine pz_ic (i := 2) rfl ?_
  refine pz_isn (i := 3) rfl ⟨rfl, Nat.le_of_ble_eq_true rfl⟩ rfl ?_
  exact lp_bsize hn hc hf hQ n 0 (by omega) (by omega)
/-- how many of the batch's records bring a new key -/
def cW (kd : Nat → Int32) (ky : Nat → Int32) : Nat → Nat
  | 0 => 0
  | i + 1 => cW kd ky i + (if (!(kx_is (ky i) && decide (¬ kd (ky i).toNatClampNeg = 0))) && fK ky i then 1 else 0)
theorem bB_t {b : Bool} (h : ¬ bB b = 0) : b = true := by
  cases b
  · exact absurd rfl h
  · rfl
theorem bB_f {b : Bool} (h : bB b = 0) : b = false := by
  cases b
  · rfl
  · exact absurd h (by decide)
theorem cW_a {kd ky : Nat → Int32} {i : Nat} (h : (kx_is (ky i) && decide (¬ kd (ky i).toNatClampNeg = 0)) = true) : cW kd ky (i + 1) = cW kd ky i := by
  show cW kd ky i + _ = _
  rw [h]
  rfl
theorem cW_b {kd ky : Nat → Int32} {i : Nat} (h : (kx_is (ky i) && decide (¬ kd (ky i).toNatClampNeg = 0)) = false) (h2 : fK ky i = false) : cW kd ky (i + 1) = cW kd ky i := by
  show cW kd ky i + _ = _
  rw [h, h2]
  rfl
theorem cW_c {kd ky : Nat → Int32} {i : Nat} (h : (kx_is (ky i) && decide (¬ kd (ky i).toNatClampNeg = 0)) = false) (h2 : fK ky i = true) : cW kd ky (i + 1) = cW kd ky i + 1 := by
  show cW kd ky i + _ = _
  rw [h, h2]
  rfl
theorem cW_le (kd ky : Nat → Int32) : ∀ n, cW kd ky n ≤ n
  | 0 => Nat.le_refl _
  | n + 1 => by
    have := cW_le kd ky n
    unfold cW
    split <;> omega
theorem lp_cwith {e : Nat} (he : e < 5) {n c0 : Nat} (hn : n ≤ 8) (hc : iv 7 = nI n) (hc0 : c0 < 2 ^ 20) (hQ : Q (some (.int (nI (c0 + cW (av (10 + 3 * e + 0)) (av 30) n)))) (wX rm iv av r)) : ∀ (m k : Nat), k ≤ n → n ≤ k + m → pz Lx xs (d + 2) rt_26 (some .int) Q 5 [some (.ref (oE e)), some (.ref 37), some (.int (nI (c0 + cW (av (10 + 3 * e + 0)) (av 30) k))), some (.int (nI k))] [] (wX rm iv av r) := by
  have hdone : pz Lx xs (d + 2) rt_26 (some .int) Q 5 [some (.ref (oE e)), some (.ref 37), some (.int (nI (c0 + cW (av (10 + 3 * e + 0)) (av 30) n))), some (.int (nI n))] [] (wX rm iv av r) := by
    refine pz_iln (i := 5) rfl rfl ?_
    refine pz_aln (i := 6) rfl rfl ?_
    refine pz_get (i := 7) rfl (gf_37_4 ..) ?_
    rw [hc]
    refine pz_ii_ge (i := 8) rfl (fun c8 => ?_) (fun c8 => ?_)
    · refine pz_iln (i := 23) rfl rfl ?_
      refine pz_ir (i := 24) rfl rfl rfl ?_
      exact hQ
    · exact absurd (Int32.le_refl _) c8
  intro m
  induction m with
  | zero =>
    intro k hk hm
    obtain rfl : k = n := by omega
    exact hdone
  | succ m ih =>
    intro k hk hm
    by_cases hkn : k = n
    · subst hkn
      exact hdone
    have hnext : ∀ z, z = cW (av (10 + 3 * e + 0)) (av 30) (k + 1) → pz Lx xs (d + 2) rt_26 (some .int) Q 21 [some (.ref (oE e)), some (.ref 37), some (.int (nI (c0 + z))), some (.int (nI k))] [] (wX rm iv av r) := by
      intro z hz
      refine pz_inc (i := 21) rfl rfl rfl rfl ?_
      refine pz_go (i := 22) rfl ?_
      rw [nI_1, hz]
      exact ih (k + 1) (by omega) (by omega)
    refine pz_iln (i := 5) rfl rfl ?_
    refine pz_aln (i := 6) rfl rfl ?_
    refine pz_get (i := 7) rfl (gf_37_4 ..) ?_
    rw [hc]
    refine pz_ii_ge (i := 8) rfl (fun c8 => ?_) (fun c8 => ?_)
    · exact absurd (le_ofI c8) (by omega)
    · refine pz_aln (i := 9) rfl rfl ?_
      refine pz_aln (i := 10) rfl rfl ?_
      refine pz_get (i := 11) rfl (gf_37_1 ..) ?_
      refine pz_iln (i := 12) rfl rfl ?_
      refine pz_ial (i := 13) rfl (ga_39 ..) (in_ofI (by omega)) ?_
      rw [cl_ofI (a := k)]
      refine pz_cI1 (i := 14) rfl (gE_c he ..) rfl (Nat.le_of_ble_eq_true rfl) rfl ?_
      refine sx_Ehas he ?_
      refine ⟨_, rfl, ?_⟩
      refine pz_if_ne (i := 15) rfl (fun c15 => ?_) (fun c15 => ?_)
      · first | exact hnext _ (cW_a (bB_t c15)).symm | exact hnext _ (cW_b (bB_f c15) (bB_f c19)).symm | exact hnext _ (cW_c (bB_f c15) (bB_t c19)).symm
      · refine pz_aln (i := 16) rfl rfl ?_
        refine pz_iln (i := 17) rfl rfl ?_
        refine pz_cI1 (i := 18) rfl (gc_37 ..) rfl (Nat.le_of_ble_eq_true rfl) rfl ?_
        refine sx_isFirst (by omega) ?_
        refine ⟨_, rfl, ?_⟩
        refine pz_if_eq (i := 19) rfl (fun c19 => ?_) (fun c19 => ?_)
        · first | exact hnext _ (cW_a (bB_t c15)).symm | exact hnext _ (cW_b (bB_f c15) (bB_f c19)).symm | exact hnext _ (cW_c (bB_f c15) (bB_t c19)).symm
        · refine pz_inc (i := 20) rfl rfl rfl rfl ?_
          rw [show nI (c0 + cW (av (10 + 3 * e + 0)) (av 30) k) + 1 = nI (c0 + (cW (av (10 + 3 * e + 0)) (av 30) k + 1)) from by rw [nI_1, Nat.add_assoc]]
          first | exact hnext _ (cW_a (bB_t c15)).symm | exact hnext _ (cW_b (bB_f c15) (bB_f c19)).symm | exact hnext _ (cW_c (bB_f c15) (bB_t c19)).symm
set_option maxRecDepth 20000 in
theorem sx_countWith {e : Nat} (he : e < 5) {n c0 : Nat} (hn : n ≤ 8) (hc : iv 7 = nI n) (hc0 : c0 < 2 ^ 20) (hce : iv (30 + e) = nI c0) (hQ : Q (some (.int (nI (c0 + cW (av (10 + 3 * e + 0)) (av 30) n)))) (wX rm iv av r)) : rx_R Lx xs (d + 3) 26 [.ref (oE e), .ref 37] (wX rm iv av r) Q := by
  refine pz_en (t := rt_26) ⟨Nat.le_of_ble_eq_true rfl, rfl⟩ rfl rfl ?_
  refine pz_aln (i := 0) rfl rfl ?_
  refine pz_get (i := 1) rfl (gE_3 he ..) ?_
  rw [hce]
  refine pz_isn (i := 2) rfl ⟨rfl, Nat.le_of_ble_eq_true rfl⟩ rfl ?_
  refine pz_ic (i := 3) rfl ?_
  refine pz_isn (i := 4) rfl ⟨rfl, Nat.le_of_ble_eq_true rfl⟩ rfl ?_
  exact lp_cwith he hn hc hc0 hQ n 0 (by omega) (by omega)
end S33
