/-! PART 25: numbers: what a comparison of the machine says of Nats -/
theorem le_ofI {a b : Nat} (h : nI a ≤ nI b) (ha : a < 2 ^ 31 := by omega) (hb : b < 2 ^ 31 := by omega) : a ≤ b := (nI_leI ha hb).mp h
theorem lt_ofI {a b : Nat} (h : nI a < nI b) (ha : a < 2 ^ 31 := by omega) (hb : b < 2 ^ 31 := by omega) : a < b := (nI_ltI ha hb).mp h
theorem nle_ofI {a b : Nat} (h : ¬ nI a ≤ nI b) (ha : a < 2 ^ 31 := by omega) (hb : b < 2 ^ 31 := by omega) : b < a := Nat.lt_of_not_le fun z => h ((nI_leI ha hb).mpr z)
theorem nlt_ofI {a b : Nat} (h : ¬ nI a < nI b) (ha : a < 2 ^ 31 := by omega) (hb : b < 2 ^ 31 := by omega) : b ≤ a := Nat.le_of_not_lt fun z => h ((nI_ltI ha hb).mpr z)
theorem eq_ofI {a b : Nat} (h : nI a = nI b) (ha : a < 2 ^ 31 := by omega) (hb : b < 2 ^ 31 := by omega) : a = b := (nI_eq ha hb).mp h
theorem ne_ofI {a b : Nat} (h : ¬ nI a = nI b) : a ≠ b := fun z => h (by rw [z])
theorem in_ofI {a n : Nat} (h : a < n) (hn : n < 2 ^ 31 := by omega) : vp_in (nI a) n := vp_in_nI h hn
theorem cl_ofI {a : Nat} (h : a < 2 ^ 31 := by omega) : (nI a).toNatClampNeg = a := nI_clamp h
