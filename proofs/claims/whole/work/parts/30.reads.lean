/-! PART 30: the disk of the class: reads -/
/-- byte at a cell, 0 outside -/
def bx_at (rm : Nat) (av : Nat → Nat → Int32) (c : Int32) : Int32 := if c < 0 ∨ nI (rm + 15728) ≤ c then 0 else av 0 c.toNatClampNeg &&& 255
def bx_num (rm : Nat) (av : Nat → Nat → Int32) (c : Int32) : Int32 := bx_at rm av c <<< ((24 : Int32) &&& 31) ||| bx_at rm av (c + 1) <<< ((16 : Int32) &&& 31) ||| bx_at rm av (c + 2) <<< ((8 : Int32) &&& 31) ||| bx_at rm av (c + 3)
section S30
variable {Lx : Nat} {xs : Nat → Int32} {d rm : Nat} {iv : Nat → Int32} {av : Nat → Nat → Int32} {r : pW} {Q : rQ}
set_option maxRecDepth 20000 in
theorem sx_logCell (hr : 0 < rm ∧ rm ≤ 4096) {q : Nat} (hq : q < 2 ^ 31) (hQ : Q (some (.int (nI (q % rm)))) (wX rm iv av r)) : rx_R Lx xs (d + 1) 6 [.ref 2, .int (nI q)] (wX rm iv av r) Q := by
  refine pz_en (t := rt_6) ⟨Nat.le_of_ble_eq_true rfl, rfl⟩ rfl rfl ?_
  refine pz_iln (i := 0) rfl rfl ?_
  refine pz_aln (i := 1) rfl rfl ?_
  refine pz_get (i := 2) rfl (gf_2_0 ..) ?_
  refine pz_rem (i := 3) rfl (nI_ne0 hr.1 (by omega)) ?_
  rw [pk_rem hq hr.1 (by omega)]
  refine pz_isn (i := 4) rfl ⟨rfl, Nat.le_of_ble_eq_true rfl⟩ rfl ?_
  refine pz_iln (i := 5) rfl rfl ?_
  refine pz_if_ge (i := 6) rfl (fun c6 => ?_) (fun c6 => ?_)
  · refine pz_iln (i := 12) rfl rfl ?_
    refine pz_ir (i := 13) rfl rfl rfl ?_
    exact hQ
  · exact absurd (nI_pos' (Nat.lt_trans (Nat.mod_lt q hr.1) (by omega))) c6
set_option maxRecDepth 20000 in
theorem sx_byteAt (hr : 0 < rm ∧ rm ≤ 4096) {c : Int32} (hQ : Q (some (.int (bx_at rm av c))) (wX rm iv av r)) : rx_R Lx xs (d + 1) 9 [.ref 2, .int c] (wX rm iv av r) Q := by
  refine pz_en (t := rt_9) ⟨Nat.le_of_ble_eq_true rfl, rfl⟩ rfl rfl ?_
  refine pz_iln (i := 0) rfl rfl ?_
  refine pz_if_lt (i := 1) rfl (fun c1 => ?_) (fun c1 => ?_)
  · refine pz_ic (i := 7) rfl ?_
    refine pz_go (i := 8) rfl ?_
    refine pz_ir (i := 15) rfl rfl rfl ?_
    unfold bx_at at hQ
    first | rwa [if_pos (Or.inl c1)] at hQ | rwa [if_pos (Or.inr (Int32.not_lt.mp c6))] at hQ | (rw [if_neg (fun z => z.elim c1 (fun z => Int32.not_le.mpr c6 z))] at hQ; exact hQ)
  · refine pz_iln (i := 2) rfl rfl ?_
    refine pz_aln (i := 3) rfl rfl ?_
    refine pz_get (i := 4) rfl (gf_2_1 ..) ?_
    refine pz_len (i := 5) rfl (ga_3 ..) (by decide) ?_
    refine pz_ii_lt (i := 6) rfl (fun c6 => ?_) (fun c6 => ?_)
    · refine pz_aln (i := 9) rfl rfl ?_
      refine pz_get (i := 10) rfl (gf_2_1 ..) ?_
      refine pz_iln (i := 11) rfl rfl ?_
      refine pz_bal (i := 12) rfl (ga_3 ..) rfl (by refine fun z => z.elim c1 (fun z => ?_); obtain ⟨j, hj, rfl⟩ := nI_of c1; rw [nI_clamp hj] at z; exact absurd c6 (nI_nlt z hj)) ?_
      refine pz_si (i := 13) rfl ?_
      refine pz_and (i := 14) rfl ?_
      refine pz_ir (i := 15) rfl rfl rfl ?_
      unfold bx_at at hQ
      first | rwa [if_pos (Or.inl c1)] at hQ | rwa [if_pos (Or.inr (Int32.not_lt.mp c6))] at hQ | (rw [if_neg (fun z => z.elim c1 (fun z => Int32.not_le.mpr c6 z))] at hQ; exact hQ)
    · refine pz_ic (i := 7) rfl ?_
      refine pz_go (i := 8) rfl ?_
      refine pz_ir (i := 15) rfl rfl rfl ?_
      unfold bx_at at hQ
      first | rwa [if_pos (Or.inl c1)] at hQ | rwa [if_pos (Or.inr (Int32.not_lt.mp c6))] at hQ | (rw [if_neg (fun z => z.elim c1 (fun z => Int32.not_le.mpr c6 z))] at hQ; exact hQ)
set_option maxRecDepth 20000 in
theorem sx_numberAt (hr : 0 < rm ∧ rm ≤ 4096) {c : Int32} (hQ : Q (some (.int (bx_num rm av c))) (wX rm iv av r)) : rx_R Lx xs (d + 2) 10 [.ref 2, .int c] (wX rm iv av r) Q := by
  refine pz_en (t := rt_10) ⟨Nat.le_of_ble_eq_true rfl, rfl⟩ rfl rfl ?_
  refine pz_aln (i := 0) rfl rfl ?_
  refine pz_iln (i := 1) rfl rfl ?_
  refine pz_cI1 (i := 2) rfl (gc_2 ..) rfl (Nat.le_of_ble_eq_true rfl) rfl ?_
  refine sx_byteAt hr ?_
  refine ⟨_, rfl, ?_⟩
  refine pz_bi (i := 3) rfl ?_
  refine pz_shl (i := 4) rfl ?_
  refine pz_aln (i := 5) rfl rfl ?_
  refine pz_iln (i := 6) rfl rfl ?_
  refine pz_ic (i := 7) rfl ?_
  refine pz_add (i := 8) rfl ?_
  refine pz_cI1 (i := 9) rfl (gc_2 ..) rfl (Nat.le_of_ble_eq_true rfl) rfl ?_
  refine sx_byteAt hr ?_
  refine ⟨_, rfl, ?_⟩
  refine pz_bi (i := 10) rfl ?_
  refine pz_shl (i := 11) rfl ?_
  refine pz_or (i := 12) rfl ?_
  refine pz_aln (i := 13) rfl rfl ?_
  refine pz_iln (i := 14) rfl rfl ?_
  refine pz_ic (i := 15) rfl ?_
  refine pz_add (i := 16) rfl ?_
  refine pz_cI1 (i := 17) rfl (gc_2 ..) rfl (Nat.le_of_ble_eq_true rfl) rfl ?_
  refine sx_byteAt hr ?_
  refine ⟨_, rfl, ?_⟩
  refine pz_bi (i := 18) rfl ?_
  refine pz_shl (i := 19) rfl ?_
  refine pz_or (i := 20) rfl ?_
  refine pz_aln (i := 21) rfl rfl ?_
  refine pz_iln (i := 22) rfl rfl ?_
  refine pz_ic (i := 23) rfl ?_
  refine pz_add (i := 24) rfl ?_
  refine pz_cI1 (i := 25) rfl (gc_2 ..) rfl (Nat.le_of_ble_eq_true rfl) rfl ?_
  refine sx_byteAt hr ?_
  refine ⟨_, rfl, ?_⟩
  refine pz_or (i := 26) rfl ?_
  refine pz_ir (i := 27) rfl rfl rfl ?_
  exact hQ
set_option maxRecDepth 20000 in
theorem sx_tableCell {q : Int32} (hQ : Q (some (.int (nI rm + q * 1300))) (wX rm iv av r)) : rx_R Lx xs (d + 1) 7 [.ref 2, .int q] (wX rm iv av r) Q := by
  refine pz_en (t := rt_7) ⟨Nat.le_of_ble_eq_true rfl, rfl⟩ rfl rfl ?_
  refine pz_aln (i := 0) rfl rfl ?_
  refine pz_get (i := 1) rfl (gf_2_0 ..) ?_
  refine pz_iln (i := 2) rfl rfl ?_
  refine pz_si (i := 3) rfl ?_
  refine pz_mul (i := 4) rfl ?_
  refine pz_add (i := 5) rfl ?_
  refine pz_ir (i := 6) rfl rfl rfl ?_
  exact hQ
set_option maxRecDepth 20000 in
theorem sx_rootCell {q : Int32} (hQ : Q (some (.int (nI rm + 15600 + (q &&& 1) * 64))) (wX rm iv av r)) : rx_R Lx xs (d + 1) 8 [.ref 2, .int q] (wX rm iv av r) Q := by
  refine pz_en (t := rt_8) ⟨Nat.le_of_ble_eq_true rfl, rfl⟩ rfl rfl ?_
  refine pz_aln (i := 0) rfl rfl ?_
  refine pz_get (i := 1) rfl (gf_2_0 ..) ?_
  refine pz_si (i := 2) rfl ?_
  refine pz_add (i := 3) rfl ?_
  refine pz_iln (i := 4) rfl rfl ?_
  refine pz_ic (i := 5) rfl ?_
  refine pz_and (i := 6) rfl ?_
  refine pz_bi (i := 7) rfl ?_
  refine pz_mul (i := 8) rfl ?_
  refine pz_add (i := 9) rfl ?_
  refine pz_ir (i := 10) rfl rfl rfl ?_
  exact hQ
set_option maxRecDepth 20000 in
theorem sx_logByte (hr : 0 < rm ∧ rm ≤ 4096) {q : Nat} (hq : q < 2 ^ 31) (hQ : Q (some (.int (av 0 (q % rm) &&& 255))) (wX rm iv av r)) : rx_R Lx xs (d + 2) 11 [.ref 2, .int (nI q)] (wX rm iv av r) Q := by
  refine pz_en (t := rt_11) ⟨Nat.le_of_ble_eq_true rfl, rfl⟩ rfl rfl ?_
  refine pz_aln (i := 0) rfl rfl ?_
  refine pz_get (i := 1) rfl (gf_2_1 ..) ?_
  refine pz_aln (i := 2) rfl rfl ?_
  refine pz_iln (i := 3) rfl rfl ?_
  refine pz_cI1 (i := 4) rfl (gc_2 ..) rfl (Nat.le_of_ble_eq_true rfl) rfl ?_
  refine sx_logCell hr hq ?_
  refine ⟨_, rfl, ?_⟩
  refine pz_bal (i := 5) rfl (ga_3 ..) rfl (vp_in_nI (Nat.lt_of_lt_of_le (Nat.mod_lt q hr.1) (by omega)) (by omega)) ?_
  rw [nI_clamp (Nat.lt_trans (Nat.mod_lt q hr.1) (by omega))]
  refine pz_si (i := 6) rfl ?_
  refine pz_and (i := 7) rfl ?_
  refine pz_ir (i := 8) rfl rfl rfl ?_
  exact hQ
end S30
