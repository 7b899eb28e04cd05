/-! PART 52: tables on a disk; a key in a table of the class -/
section S52
variable {Lx : Nat} {xs : Nat → Int32} {d rm : Nat} {iv : Nat → Int32} {av : Nat → Nat → Int32} {r : pW} {Q : rQ}
theorem lp_ec (hr : 0 < rm ∧ rm ≤ 4096) {v : Nat} (hv : v < 2) {b n key : Nat} {ks : Nat → Nat} (hb : b + 1216 ≤ rm + 15728) (hn : n ≤ 120) (hks : ∀ i, i < n → bN (av 0) (b + 16 + 10 * i) = ks i) (hmono : ∀ i j, i < j → j < n → ks i < ks j) (hkey : key < 120)
    (hQ1 : ∀ i, i < n → ks i = key → Q (some (.int (nI (b + 16 + 10 * i)))) (wX rm iv av r)) (hQ2 : (∀ i, i < n → ks i ≠ key) → Q (some (.int (-1))) (wX rm iv av r)) :
    ∀ (m l h t : Nat) (x6 x7 x8 : Option Value), l ≤ h → h ≤ n → h - l ≤ m → (h - l) + t ≤ 120 → (∀ i, i < l → ks i < key) → (∀ i, h ≤ i → i < n → key < ks i) → pz Lx xs (d + 1) rt_52 (some .int) Q 13 [some (.ref (oV v)), some (.int (nI b)), some (.int (nI key)), some (.int (nI l)), some (.int (wv h)), some (.int (nI t)), x6, x7, x8] [] (wX rm iv av r) := by
  have hnone : ∀ (l h t : Nat) (x6 x7 x8 : Option Value), l = h → h ≤ n → t ≤ 120 → (∀ i, i < l → ks i < key) → (∀ i, h ≤ i → i < n → key < ks i) → pz Lx xs (d + 1) rt_52 (some .int) Q 13 [some (.ref (oV v)), some (.int (nI b)), some (.int (nI key)), some (.int (nI l)), some (.int (wv h)), some (.int (nI t)), x6, x7, x8] [] (wX rm iv av r) := by
    intro l h t x6 x7 x8 hlh hhn ht h1 h2
    subst hlh
    have hno : ∀ i, i < n → ks i ≠ key := fun i hi e => by
      rcases Nat.lt_or_ge i l with q | q
      · have := h1 i q
        omega
      · have := h2 i q hi
        omega
    have hgt : wv l < nI l := by
      cases l with
      | zero => decide
      | succ l => rw [wv_s]; exact nI_lt (by omega) (by omega)
    refine pz_il (i := 13) rfl rfl ?_
    refine pz_bi (i := 14) rfl ?_
    refine pz_ii_ge (i := 15) rfl (fun c15 => ?_) (fun c15 => ?_)
    · refine pz_ic (i := 57) rfl ?_
      refine pz_ir (i := 58) rfl rfl rfl ?_
      exact hQ2 hno
    · refine pz_iln (i := 16) rfl rfl ?_
      refine pz_il (i := 17) rfl rfl ?_
      refine pz_ii_gt (i := 18) rfl (fun c18 => ?_) (fun c18 => ?_)
      · refine pz_ic (i := 57) rfl ?_
        refine pz_ir (i := 58) rfl rfl rfl ?_
        exact hQ2 hno
      · exact absurd hgt c18
  intro m
  induction m with
  | zero =>
    intro l h t x6 x7 x8 hlh hhn hm ht h1 h2
    exact hnone l h t x6 x7 x8 (by omega) hhn (by omega) h1 h2
  | succ m ih =>
    intro l h t x6 x7 x8 hlh hhn hm ht h1 h2
    by_cases hle : l = h
    · exact hnone l h t x6 x7 x8 hle hhn (by omega) h1 h2
    obtain ⟨h', rfl⟩ : ∃ h', h = h' + 1 := ⟨h - 1, by omega⟩
    rw [wv_s]
    have hmid : (l + h') / 2 < n ∧ l ≤ (l + h') / 2 ∧ (l + h') / 2 ≤ h' := by omega
    generalize hmi : (l + h') / 2 = mi at hmid
    refine pz_il (i := 13) rfl rfl ?_
    refine pz_bi (i := 14) rfl ?_
    refine pz_ii_ge (i := 15) rfl (fun c15 => ?_) (fun c15 => ?_)
    · exact absurd (le_ofI (a := 120) c15) (by omega)
    · refine pz_iln (i := 16) rfl rfl ?_
      refine pz_il (i := 17) rfl rfl ?_
      refine pz_ii_gt (i := 18) rfl (fun c18 => ?_) (fun c18 => ?_)
      · exact absurd (lt_ofI c18) (by omega)
      · refine pz_iln (i := 19) rfl rfl ?_
        refine pz_il (i := 20) rfl rfl ?_
        refine pz_add (i := 21) rfl ?_
        rw [nI_add]
        refine pz_ic (i := 22) rfl ?_
        refine pz_div (i := 23) rfl (by decide) ?_
        rw [show nI (l + h') / 2 = nI mi from by rw [← hmi]; exact pk_div (d := 2) (by omega) (by omega) (by omega)]
        refine pz_is (i := 24) rfl ⟨rfl, Nat.le_of_ble_eq_true rfl⟩ rfl ?_
        refine pz_iln (i := 25) rfl rfl ?_
        refine pz_bi (i := 26) rfl ?_
        refine pz_add (i := 27) rfl ?_
        rw [show nI b + 16 = nI (b + 16) from nI_add b 16]
        refine pz_bi (i := 28) rfl ?_
        refine pz_il (i := 29) rfl rfl ?_
        refine pz_mul (i := 30) rfl ?_
        rw [show (10 : Int32) * nI mi = nI (10 * mi) from pk_mul 10 mi]
        refine pz_add (i := 31) rfl ?_
        rw [nI_add]
        refine pz_is (i := 32) rfl ⟨rfl, Nat.le_of_ble_eq_true rfl⟩ rfl ?_
        refine pz_aln (i := 33) rfl rfl ?_
        refine pz_get (i := 34) rfl (gV_0 hv ..) ?_
        refine pz_il (i := 35) rfl rfl ?_
        refine pz_cI1 (i := 36) rfl (gc_2 ..) rfl (Nat.le_of_ble_eq_true rfl) rfl ?_
        refine sx_byteAt hr ?_
        rw [bx_atN (by omega) hr.2, hks mi hmid.1]
        refine ⟨_, rfl, ?_⟩
        refine pz_is (i := 37) rfl ⟨rfl, Nat.le_of_ble_eq_true rfl⟩ rfl ?_
        refine pz_il (i := 38) rfl rfl ?_
        refine pz_iln (i := 39) rfl rfl ?_
        refine pz_ii_ne (i := 40) rfl (fun c40 => ?_) (fun c40 => ?_)
        · refine pz_il (i := 43) rfl rfl ?_
          refine pz_iln (i := 44) rfl rfl ?_
          refine pz_ii_ge (i := 45) rfl (fun c45 => ?_) (fun c45 => ?_)
          · refine pz_il (i := 51) rfl rfl ?_
            refine pz_ic (i := 52) rfl ?_
            refine pz_sub (i := 53) rfl ?_
            rw [wv_sub]
            refine pz_is (i := 54) rfl ⟨rfl, Nat.le_of_ble_eq_true rfl⟩ rfl ?_
            refine pz_inc (i := 55) rfl rfl rfl rfl ?_
            refine pz_go (i := 56) rfl ?_
            rw [nI_1]
            have hkb : ks mi < 256 := by have := hks mi hmid.1; have := bN_lt (av 0) (b + 16 + 10 * mi); omega
            first | (have hc := nle_ofI c45; exact ih (mi + 1) (h' + 1) (t + 1) _ _ _ (by omega) (by omega) (by omega) (by omega) (fun i hi => by rcases Nat.lt_or_ge i mi with q | q; exact Nat.lt_trans (hmono i mi q hmid.1) (by omega); have hE : i = mi := (by omega); subst hE; omega) h2) | (have hc := le_ofI c45; have hne : ks mi ≠ key := ne_ofI c40; exact ih l mi (t + 1) _ _ _ (by omega) (by omega) (by omega) (by omega) h1 (fun i hi hin => by rcases Nat.lt_or_ge mi i with q | q; exact Nat.lt_trans (show key < ks mi by omega) (hmono mi i q hin); have hE : i = mi := (by omega); subst hE; omega))
          · refine pz_il (i := 46) rfl rfl ?_
            refine pz_ic (i := 47) rfl ?_
            refine pz_add (i := 48) rfl ?_
            rw [nI_1]
            refine pz_isn (i := 49) rfl ⟨rfl, Nat.le_of_ble_eq_true rfl⟩ rfl ?_
            refine pz_go (i := 50) rfl ?_
            refine pz_inc (i := 55) rfl rfl rfl rfl ?_
            refine pz_go (i := 56) rfl ?_
            rw [nI_1]
            have hkb : ks mi < 256 := by have := hks mi hmid.1; have := bN_lt (av 0) (b + 16 + 10 * mi); omega
            first | (have hc := nle_ofI c45; exact ih (mi + 1) (h' + 1) (t + 1) _ _ _ (by omega) (by omega) (by omega) (by omega) (fun i hi => by rcases Nat.lt_or_ge i mi with q | q; exact Nat.lt_trans (hmono i mi q hmid.1) (by omega); have hE : i = mi := (by omega); subst hE; omega) h2) | (have hc := le_ofI c45; have hne : ks mi ≠ key := ne_ofI c40; exact ih l mi (t + 1) _ _ _ (by omega) (by omega) (by omega) (by omega) h1 (fun i hi hin => by rcases Nat.lt_or_ge mi i with q | q; exact Nat.lt_trans (show key < ks mi by omega) (hmono mi i q hin); have hE : i = mi := (by omega); subst hE; omega))
        · refine pz_il (i := 41) rfl rfl ?_
          refine pz_ir (i := 42) rfl rfl rfl ?_
          exact hQ1 mi hmid.1 (eq_ofI c40 (by have := hks mi hmid.1; have := bN_lt (av 0) (b + 16 + 10 * mi); omega) (by omega))
set_option maxRecDepth 20000 in
theorem sx_entryCell (hr : 0 < rm ∧ rm ≤ 4096) {v : Nat} (hv : v < 2) {b n key : Nat} {ks : Nat → Nat} (hb : b + 1216 ≤ rm + 15728) (hn : n ≤ 120) (hnb : bN (av 0) (b + 2) = n) (hks : ∀ i, i < n → bN (av 0) (b + 16 + 10 * i) = ks i) (hmono : ∀ i j, i < j → j < n → ks i < ks j) (hkey : key < 120)
    (hQ1 : ∀ i, i < n → ks i = key → Q (some (.int (nI (b + 16 + 10 * i)))) (wX rm iv av r)) (hQ2 : (∀ i, i < n → ks i ≠ key) → Q (some (.int (-1))) (wX rm iv av r)) : rx_R Lx xs (d + 2) 52 [.ref (oV v), .int (nI b), .int (nI key)] (wX rm iv av r) Q := by
  refine pz_en (t := rt_52) ⟨Nat.le_of_ble_eq_true rfl, rfl⟩ rfl rfl ?_
  refine pz_ic (i := 0) rfl ?_
  refine pz_isn (i := 1) rfl ⟨rfl, Nat.le_of_ble_eq_true rfl⟩ rfl ?_
  refine pz_aln (i := 2) rfl rfl ?_
  refine pz_get (i := 3) rfl (gV_0 hv ..) ?_
  refine pz_iln (i := 4) rfl rfl ?_
  refine pz_ic (i := 5) rfl ?_
  refine pz_add (i := 6) rfl ?_
  rw [show nI b + 2 = nI (b + 2) from nI_add b 2]
  refine pz_cI1 (i := 7) rfl (gc_2 ..) rfl (Nat.le_of_ble_eq_true rfl) rfl ?_
  refine sx_byteAt hr ?_
  rw [bx_atN (by omega) hr.2, hnb]
  refine ⟨_, rfl, ?_⟩
  refine pz_ic (i := 8) rfl ?_
  refine pz_sub (i := 9) rfl ?_
  rw [wv_sub]
  refine pz_is (i := 10) rfl ⟨rfl, Nat.le_of_ble_eq_true rfl⟩ rfl ?_
  refine pz_ic (i := 11) rfl ?_
  refine pz_is (i := 12) rfl ⟨rfl, Nat.le_of_ble_eq_true rfl⟩ rfl ?_
  exact lp_ec hr hv hb hn hks hmono hkey hQ1 hQ2 n 0 n 0 _ _ _ (by omega) (by omega) (by omega) (by omega) (fun i hi => absurd hi (by omega)) (fun i h1 h2 => absurd h1 (by omega))
end S52
