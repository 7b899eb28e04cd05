/-! PART 51: places and levels of the tables of the class; Disk.cellOf -/
/-- the bits of the first k places -/
def plB (f : Nat → Int32) : Nat → Int32
  | 0 => 0
  | k + 1 => plB f k ||| (1 : Int32) <<< (f k &&& 31)
/-- bit j of a word -/
def bJ (x : Int32) (j : Nat) : Int32 := (x >>> (nI j &&& 31)) &&& 1
/-- the level byte of table i -/
def lvX (rm : Nat) (av : Nat → Nat → Int32) (i : Nat) : Int32 := bx_at rm av (nI rm + av 4 i * 1300 + 1)
section S51
variable {Lx : Nat} {xs : Nat → Int32} {d rm : Nat} {iv : Nat → Int32} {av : Nat → Nat → Int32} {r : pW} {Q : rQ}
theorem lp_piu {n : Nat} (hn : n ≤ 6) (hT : iv 10 = nI n) (hQ : Q (some (.int (plB (av 4) n))) (wX rm iv av r)) : ∀ (m k : Nat), k ≤ n → n ≤ k + m → pz Lx xs d rt_48 (some .int) Q 4 [some (.ref 7), some (.int (plB (av 4) k)), some (.int (nI k))] [] (wX rm iv av r) := by
  have hdone : pz Lx xs d rt_48 (some .int) Q 4 [some (.ref 7), some (.int (plB (av 4) n)), some (.int (nI n))] [] (wX rm iv av r) := by
    refine pz_iln (i := 4) rfl rfl ?_
    refine pz_aln (i := 5) rfl rfl ?_
    refine pz_get (i := 6) rfl (gf_7_3 ..) ?_
    rw [hT]
    refine pz_ii_ge (i := 7) rfl (fun c7 => ?_) (fun c7 => ?_)
    · refine pz_iln (i := 19) rfl rfl ?_
      refine pz_ir (i := 20) rfl rfl rfl ?_
      exact hQ
    · exact absurd (Int32.le_refl _) c7
  intro m
  induction m with
  | zero =>
    intro k hk hm
    obtain rfl : k = n := by omega
    exact hdone
  | succ m ih =>
    intro k hk hm
    by_cases hkn : k = n
    · subst hkn
      exact hdone
    refine pz_iln (i := 4) rfl rfl ?_
    refine pz_aln (i := 5) rfl rfl ?_
    refine pz_get (i := 6) rfl (gf_7_3 ..) ?_
    rw [hT]
    refine pz_ii_ge (i := 7) rfl (fun c7 => ?_) (fun c7 => ?_)
    · exact absurd (le_ofI c7) (by omega)
    · refine pz_iln (i := 8) rfl rfl ?_
      refine pz_ic (i := 9) rfl ?_
      refine pz_aln (i := 10) rfl rfl ?_
      refine pz_get (i := 11) rfl (gf_7_2 ..) ?_
      refine pz_iln (i := 12) rfl rfl ?_
      refine pz_ial (i := 13) rfl (ga_12 ..) (in_ofI (by omega)) ?_
      rw [cl_ofI (a := k)]
      refine pz_shl (i := 14) rfl ?_
      refine pz_or (i := 15) rfl ?_
      refine pz_isn (i := 16) rfl ⟨rfl, Nat.le_of_ble_eq_true rfl⟩ rfl ?_
      refine pz_inc (i := 17) rfl rfl rfl rfl ?_
      refine pz_go (i := 18) rfl ?_
      rw [nI_1]
      exact ih (k + 1) (by omega) (by omega)
set_option maxRecDepth 20000 in
theorem sx_placesInUse {n : Nat} (hn : n ≤ 6) (hT : iv 10 = nI n) (hQ : Q (some (.int (plB (av 4) n))) (wX rm iv av r)) : rx_R Lx xs (d + 1) 48 [.ref 7] (wX rm iv av r) Q := by
  refine pz_en (t := rt_48) ⟨Nat.le_of_ble_eq_true rfl, rfl⟩ rfl rfl ?_
  refine pz_ic (i := 0) rfl ?_
  refine pz_isn (i := 1) rfl ⟨rfl, Nat.le_of_ble_eq_true rfl⟩ rfl ?_
  refine pz_ic (i := 2) rfl ?_
  refine pz_isn (i := 3) rfl ⟨rfl, Nat.le_of_ble_eq_true rfl⟩ rfl ?_
  exact lp_piu hn hT hQ n 0 (by omega) (by omega)
theorem lp_lfp (hQ : ∀ p0, p0 ≤ 11 → (∀ j, j < p0 → ¬ bJ (iv 6) j = 0) → (p0 < 11 → bJ (iv 6) p0 = 0) → Q (some (.int (nI p0))) (wX rm iv av r)) : ∀ (m k : Nat), k ≤ 11 → 11 ≤ k + m → (∀ j, j < k → ¬ bJ (iv 6) j = 0) → pz Lx xs d rt_37 (some .int) Q 2 [some (.ref 13), some (.int (nI k))] [] (wX rm iv av r) := by
  have hdone : (∀ j, j < 11 → ¬ bJ (iv 6) j = 0) → pz Lx xs d rt_37 (some .int) Q 2 [some (.ref 13), some (.int (nI 11))] [] (wX rm iv av r) := by
    intro hb
    refine pz_iln (i := 2) rfl rfl ?_
    refine pz_bi (i := 3) rfl ?_
    refine pz_ii_ge (i := 4) rfl (fun c4 => ?_) (fun c4 => ?_)
    · refine pz_iln (i := 14) rfl rfl ?_
      refine pz_ir (i := 15) rfl rfl rfl ?_
      exact hQ 11 (Nat.le_refl _) hb (fun z => absurd z (by omega))
    · exact absurd (show nI 11 ≤ nI 11 from Int32.le_refl _) c4
  intro m
  induction m with
  | zero =>
    intro k hk hm hb
    obtain rfl : k = 11 := by omega
    exact hdone hb
  | succ m ih =>
    intro k hk hm hb
    by_cases hkn : k = 11
    · subst hkn
      exact hdone hb
    refine pz_iln (i := 2) rfl rfl ?_
    refine pz_bi (i := 3) rfl ?_
    refine pz_ii_ge (i := 4) rfl (fun c4 => ?_) (fun c4 => ?_)
    · exact absurd (le_ofI (a := 11) c4) (by omega)
    · refine pz_aln (i := 5) rfl rfl ?_
      refine pz_get (i := 6) rfl (gf_13_8 ..) ?_
      refine pz_iln (i := 7) rfl rfl ?_
      refine pz_shr (i := 8) rfl ?_
      refine pz_ic (i := 9) rfl ?_
      refine pz_and (i := 10) rfl ?_
      refine pz_if_eq (i := 11) rfl (fun c11 => ?_) (fun c11 => ?_)
      · refine pz_iln (i := 14) rfl rfl ?_
        refine pz_ir (i := 15) rfl rfl rfl ?_
        exact hQ k hk hb (fun _ => c11)
      · refine pz_inc (i := 12) rfl rfl rfl rfl ?_
        refine pz_go (i := 13) rfl ?_
        rw [nI_1]
        refine ih (k + 1) (by omega) (by omega) (fun j hj => ?_)
        by_cases hjk : j = k
        · subst hjk
          exact c11
        · exact hb j (by omega)
set_option maxRecDepth 20000 in
theorem sx_leastFree (hQ : ∀ p0, p0 ≤ 11 → (∀ j, j < p0 → ¬ bJ (iv 6) j = 0) → (p0 < 11 → bJ (iv 6) p0 = 0) → Q (some (.int (nI p0))) (wX rm iv av r)) : rx_R Lx xs (d + 1) 37 [.ref 13] (wX rm iv av r) Q := by
  refine pz_en (t := rt_37) ⟨Nat.le_of_ble_eq_true rfl, rfl⟩ rfl rfl ?_
  refine pz_ic (i := 0) rfl ?_
  refine pz_isn (i := 1) rfl ⟨rfl, Nat.le_of_ble_eq_true rfl⟩ rfl ?_
  exact lp_lfp hQ 11 0 (by omega) (by omega) (fun j hj => absurd hj (by omega))
theorem lp_tut (hr : 0 < rm ∧ rm ≤ 4096) {n lv : Nat} (hn : n ≤ 6) (hT : iv 10 = nI n) (hQ : ∀ c, c ≤ n → (∀ i, i < c → lvX rm av i ≤ nI lv) → (c < n → ¬ lvX rm av c ≤ nI lv) → Q (some (.int (nI c))) (wX rm iv av r)) : ∀ (m k : Nat), k ≤ n → n ≤ k + m → (∀ i, i < k → lvX rm av i ≤ nI lv) → pz Lx xs (d + 2) rt_49 (some .int) Q 2 [some (.ref 7), some (.int (nI lv)), some (.int (nI k))] [] (wX rm iv av r) := by
  have hdone : (∀ i, i < n → lvX rm av i ≤ nI lv) → pz Lx xs (d + 2) rt_49 (some .int) Q 2 [some (.ref 7), some (.int (nI lv)), some (.int (nI n))] [] (wX rm iv av r) := by
    intro hb
    refine pz_iln (i := 2) rfl rfl ?_
    refine pz_aln (i := 3) rfl rfl ?_
    refine pz_get (i := 4) rfl (gf_7_3 ..) ?_
    rw [hT]
    refine pz_ii_ge (i := 5) rfl (fun c5 => ?_) (fun c5 => ?_)
    · refine pz_iln (i := 18) rfl rfl ?_
      refine pz_ir (i := 19) rfl rfl rfl ?_
      exact hQ n (Nat.le_refl _) hb (fun z => absurd z (by omega))
    · exact absurd (Int32.le_refl _) c5
  intro m
  induction m with
  | zero =>
    intro k hk hm hb
    obtain rfl : k = n := by omega
    exact hdone hb
  | succ m ih =>
    intro k hk hm hb
    by_cases hkn : k = n
    · subst hkn
      exact hdone hb
    refine pz_iln (i := 2) rfl rfl ?_
    refine pz_aln (i := 3) rfl rfl ?_
    refine pz_get (i := 4) rfl (gf_7_3 ..) ?_
    rw [hT]
    refine pz_ii_ge (i := 5) rfl (fun c5 => ?_) (fun c5 => ?_)
    · exact absurd (le_ofI c5) (by omega)
    · refine pz_aln (i := 6) rfl rfl ?_
      refine pz_get (i := 7) rfl (gf_7_0 ..) ?_
      refine pz_aln (i := 8) rfl rfl ?_
      refine pz_iln (i := 9) rfl rfl ?_
      refine pz_cI1 (i := 10) rfl (gc_7 ..) rfl (Nat.le_of_ble_eq_true rfl) rfl ?_
      refine sx_tableStart (v := 0) (by omega) (by omega) ?_
      refine ⟨_, rfl, ?_⟩
      refine pz_ic (i := 11) rfl ?_
      refine pz_add (i := 12) rfl ?_
      refine pz_cI1 (i := 13) rfl (gc_2 ..) rfl (Nat.le_of_ble_eq_true rfl) rfl ?_
      refine sx_byteAt hr ?_
      refine ⟨_, rfl, ?_⟩
      refine pz_iln (i := 14) rfl rfl ?_
      refine pz_ii_gt (i := 15) rfl (fun c15 => ?_) (fun c15 => ?_)
      · refine pz_iln (i := 18) rfl rfl ?_
        refine pz_ir (i := 19) rfl rfl rfl ?_
        exact hQ k hk hb (fun _ z => absurd c15 (Int32.not_lt.mpr z))
      · refine pz_inc (i := 16) rfl rfl rfl rfl ?_
        refine pz_go (i := 17) rfl ?_
        rw [nI_1]
        refine ih (k + 1) (by omega) (by omega) (fun j hj => ?_)
        by_cases hjk : j = k
        · subst hjk
          exact Int32.not_lt.mp c15
        · exact hb j (by omega)
set_option maxRecDepth 20000 in
theorem sx_tablesUpTo (hr : 0 < rm ∧ rm ≤ 4096) {n lv : Nat} (hn : n ≤ 6) (hT : iv 10 = nI n) (hQ : ∀ c, c ≤ n → (∀ i, i < c → lvX rm av i ≤ nI lv) → (c < n → ¬ lvX rm av c ≤ nI lv) → Q (some (.int (nI c))) (wX rm iv av r)) : rx_R Lx xs (d + 3) 49 [.ref 7, .int (nI lv)] (wX rm iv av r) Q := by
  refine pz_en (t := rt_49) ⟨Nat.le_of_ble_eq_true rfl, rfl⟩ rfl rfl ?_
  refine pz_ic (i := 0) rfl ?_
  refine pz_isn (i := 1) rfl ⟨rfl, Nat.le_of_ble_eq_true rfl⟩ rfl ?_
  exact lp_tut hr hn hT hQ n 0 (by omega) (by omega) (fun j hj => absurd hj (by omega))
/-- places behind: the first k put away, one put first (or none) -/
def rpl (f : Nat → Int32) (n k : Nat) (b : Bool) (z : Int32) : Nat → Int32 := if b then upd (va_cpy f f k 1 (n - k)) 0 z else va_cpy f f k 0 (n - k)
set_option maxRecDepth 20000 in
theorem sx_replaceT {n k : Nat} (hn : n ≤ 6) (hk : k ≤ n) (hT : iv 10 = nI n) (hfit : 1 + (n - k) ≤ 6) {z : Int32} (hQ : Q none (wX rm (upd iv 10 (nI (1 + (n - k)))) (up_a av 4 (rpl (av 4) n k true z)) r)) : rx_R Lx xs (d + 1) 56 [.ref 7, .int (nI k), .int 1, .int z] (wX rm iv av r) Q := by
  refine pz_en (t := rt_56) ⟨Nat.le_of_ble_eq_true rfl, rfl⟩ rfl rfl ?_
  refine pz_aln (i := 0) rfl rfl ?_
  refine pz_get (i := 1) rfl (gf_7_3 ..) ?_
  refine pz_iln (i := 2) rfl rfl ?_
  rw [hT]
  refine pz_sub (i := 3) rfl ?_
  rw [pk_sub hk]
  refine pz_is (i := 4) rfl ⟨rfl, Nat.le_of_ble_eq_true rfl⟩ rfl ?_
  refine pz_iln (i := 5) rfl rfl ?_
  refine pz_if_eq (i := 6) rfl (fun c6 => ?_) (fun c6 => ?_)
  · exact absurd c6 (by decide)
  · refine pz_ic (i := 7) rfl ?_
    refine pz_go (i := 8) rfl ?_
    refine pz_is (i := 10) rfl ⟨rfl, Nat.le_of_ble_eq_true rfl⟩ rfl ?_
    refine pz_il (i := 11) rfl rfl ?_
    refine pz_if_lt (i := 12) rfl (fun c12 => ?_) (fun c12 => ?_)
    · exact absurd c12 (nI_pos (by omega))
    · refine pz_il (i := 13) rfl rfl ?_
      refine pz_il (i := 14) rfl rfl ?_
      refine pz_add (i := 15) rfl ?_
      rw [show (1 : Int32) + nI (n - k) = nI (1 + (n - k)) from nI_add 1 (n - k)]
      refine pz_aln (i := 16) rfl rfl ?_
      refine pz_get (i := 17) rfl (gf_7_2 ..) ?_
      refine pz_len (i := 18) rfl (ga_12 ..) (by decide) ?_
      refine pz_ii_le (i := 19) rfl (fun c19 => ?_) (fun c19 => ?_)
      · refine pz_aln (i := 21) rfl rfl ?_
        refine pz_get (i := 22) rfl (gf_7_2 ..) ?_
        refine pz_iln (i := 23) rfl rfl ?_
        refine pz_aln (i := 24) rfl rfl ?_
        refine pz_get (i := 25) rfl (gf_7_2 ..) ?_
        refine pz_il (i := 26) rfl rfl ?_
        refine pz_il (i := 27) rfl rfl ?_
        refine pz_cp (i := 28) rfl (ga_12 ..) (ga_12 ..) ⟨Nat.le_of_ble_eq_true rfl, nI_pos (by omega), nI_pos (n := 1) (by omega), nI_pos (by omega), ?_, ?_⟩ (pa_12 ..) ?_
        · rw [cl_ofI (a := k), cl_ofI (a := n - k)]; omega
        · rw [show ((1 : Int32)).toNatClampNeg = 1 from rfl, cl_ofI (a := n - k)]; omega
        rw [cl_ofI (a := k), cl_ofI (a := n - k), show ((1 : Int32)).toNatClampNeg = 1 from rfl]
        refine pz_iln (i := 29) rfl rfl ?_
        refine pz_if_eq (i := 30) rfl (fun c30 => ?_) (fun c30 => ?_)
        · exact absurd c30 (by decide)
        · refine pz_aln (i := 31) rfl rfl ?_
          refine pz_get (i := 32) rfl (gf_7_2 ..) ?_
          refine pz_ic (i := 33) rfl ?_
          refine pz_iln (i := 34) rfl rfl ?_
          refine pz_ias (i := 35) rfl (ga_12 ..) (in_ofI (a := 0) (by omega)) (pa_12 ..) ?_
          rw [ua_uu, ua_s]
          refine pz_aln (i := 36) rfl rfl ?_
          refine pz_il (i := 37) rfl rfl ?_
          refine pz_il (i := 38) rfl rfl ?_
          refine pz_add (i := 39) rfl ?_
          rw [show (1 : Int32) + nI (n - k) = nI (1 + (n - k)) from nI_add 1 (n - k)]
          refine pz_put (i := 40) rfl (pf_7_3 ..) ⟨rfl, rfl⟩ ?_
          refine pz_vr (i := 41) rfl rfl ?_
          exact hQ
      · exact absurd (nI_le hfit (by omega)) c19
set_option maxRecDepth 20000 in
theorem sx_replaceF {n k : Nat} (hn : n ≤ 6) (hk : k ≤ n) (hT : iv 10 = nI n) (hfit : 0 + (n - k) ≤ 6) {z : Int32} (hQ : Q none (wX rm (upd iv 10 (nI (0 + (n - k)))) (up_a av 4 (rpl (av 4) n k false z)) r)) : rx_R Lx xs (d + 1) 56 [.ref 7, .int (nI k), .int 0, .int z] (wX rm iv av r) Q := by
  refine pz_en (t := rt_56) ⟨Nat.le_of_ble_eq_true rfl, rfl⟩ rfl rfl ?_
  refine pz_aln (i := 0) rfl rfl ?_
  refine pz_get (i := 1) rfl (gf_7_3 ..) ?_
  refine pz_iln (i := 2) rfl rfl ?_
  rw [hT]
  refine pz_sub (i := 3) rfl ?_
  rw [pk_sub hk]
  refine pz_is (i := 4) rfl ⟨rfl, Nat.le_of_ble_eq_true rfl⟩ rfl ?_
  refine pz_iln (i := 5) rfl rfl ?_
  refine pz_if_eq (i := 6) rfl (fun c6 => ?_) (fun c6 => ?_)
  · refine pz_ic (i := 9) rfl ?_
    refine pz_is (i := 10) rfl ⟨rfl, Nat.le_of_ble_eq_true rfl⟩ rfl ?_
    refine pz_il (i := 11) rfl rfl ?_
    refine pz_if_lt (i := 12) rfl (fun c12 => ?_) (fun c12 => ?_)
    · exact absurd c12 (nI_pos (by omega))
    · refine pz_il (i := 13) rfl rfl ?_
      refine pz_il (i := 14) rfl rfl ?_
      refine pz_add (i := 15) rfl ?_
      rw [show (0 : Int32) + nI (n - k) = nI (0 + (n - k)) from nI_add 0 (n - k)]
      refine pz_aln (i := 16) rfl rfl ?_
      refine pz_get (i := 17) rfl (gf_7_2 ..) ?_
      refine pz_len (i := 18) rfl (ga_12 ..) (by decide) ?_
      refine pz_ii_le (i := 19) rfl (fun c19 => ?_) (fun c19 => ?_)
      · refine pz_aln (i := 21) rfl rfl ?_
        refine pz_get (i := 22) rfl (gf_7_2 ..) ?_
        refine pz_iln (i := 23) rfl rfl ?_
        refine pz_aln (i := 24) rfl rfl ?_
        refine pz_get (i := 25) rfl (gf_7_2 ..) ?_
        refine pz_il (i := 26) rfl rfl ?_
        refine pz_il (i := 27) rfl rfl ?_
        refine pz_cp (i := 28) rfl (ga_12 ..) (ga_12 ..) ⟨Nat.le_of_ble_eq_true rfl, nI_pos (by omega), nI_pos (n := 0) (by omega), nI_pos (by omega), ?_, ?_⟩ (pa_12 ..) ?_
        · rw [cl_ofI (a := k), cl_ofI (a := n - k)]; omega
        · rw [show ((0 : Int32)).toNatClampNeg = 0 from rfl, cl_ofI (a := n - k)]; omega
        rw [cl_ofI (a := k), cl_ofI (a := n - k), show ((0 : Int32)).toNatClampNeg = 0 from rfl]
        refine pz_iln (i := 29) rfl rfl ?_
        refine pz_if_eq (i := 30) rfl (fun c30 => ?_) (fun c30 => ?_)
        · refine pz_aln (i := 36) rfl rfl ?_
          refine pz_il (i := 37) rfl rfl ?_
          refine pz_il (i := 38) rfl rfl ?_
          refine pz_add (i := 39) rfl ?_
          rw [show (0 : Int32) + nI (n - k) = nI (0 + (n - k)) from nI_add 0 (n - k)]
          refine pz_put (i := 40) rfl (pf_7_3 ..) ⟨rfl, rfl⟩ ?_
          refine pz_vr (i := 41) rfl rfl ?_
          exact hQ
        · exact absurd rfl c30
      · exact absurd (nI_le hfit (by omega)) c19
  · exact absurd rfl c6
set_option maxRecDepth 20000 in
theorem sx_replace6 (hT : iv 10 = nI 6) {z : Int32} (hQ : Q none (wX rm iv av r)) : rx_R Lx xs (d + 1) 56 [.ref 7, .int (nI 0), .int 1, .int z] (wX rm iv av r) Q := by
  refine pz_en (t := rt_56) ⟨Nat.le_of_ble_eq_true rfl, rfl⟩ rfl rfl ?_
  refine pz_aln (i := 0) rfl rfl ?_
  refine pz_get (i := 1) rfl (gf_7_3 ..) ?_
  refine pz_iln (i := 2) rfl rfl ?_
  rw [hT]
  refine pz_sub (i := 3) rfl ?_
  rw [show nI 6 - nI 0 = nI 6 from rfl]
  refine pz_is (i := 4) rfl ⟨rfl, Nat.le_of_ble_eq_true rfl⟩ rfl ?_
  refine pz_iln (i := 5) rfl rfl ?_
  refine pz_if_eq (i := 6) rfl (fun c6 => ?_) (fun c6 => ?_)
  · exact absurd c6 (by decide)
  · refine pz_ic (i := 7) rfl ?_
    refine pz_go (i := 8) rfl ?_
    refine pz_is (i := 10) rfl ⟨rfl, Nat.le_of_ble_eq_true rfl⟩ rfl ?_
    refine pz_il (i := 11) rfl rfl ?_
    refine pz_if_lt (i := 12) rfl (fun c12 => ?_) (fun c12 => ?_)
    · exact absurd c12 (by decide)
    · refine pz_il (i := 13) rfl rfl ?_
      refine pz_il (i := 14) rfl rfl ?_
      refine pz_add (i := 15) rfl ?_
      refine pz_aln (i := 16) rfl rfl ?_
      refine pz_get (i := 17) rfl (gf_7_2 ..) ?_
      refine pz_len (i := 18) rfl (ga_12 ..) (by decide) ?_
      refine pz_ii_le (i := 19) rfl (fun c19 => ?_) (fun c19 => ?_)
      · exact absurd c19 (by decide)
      · refine pz_vr (i := 20) rfl rfl ?_
        exact hQ
end S51
