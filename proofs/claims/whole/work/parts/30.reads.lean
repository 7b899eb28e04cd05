/-! PART 30: the disk of the class: reads -/
/-- byte at a cell, 0 outside -/
def bx_at (rm : Nat) (av : Nat → Nat → Int32) (c : Int32) : Int32 := if c < 0 ∨ nI (rm + 15728) ≤ c then 0 else av 0 c.toNatClampNeg &&& 255
def bx_num (rm : Nat) (av : Nat → Nat → Int32) (c : Int32) : Int32 := bx_at rm av c <<< ((24 : Int32) &&& 31) ||| bx_at rm av (c + 1) <<< ((16 : Int32) &&& 31) ||| bx_at rm av (c + 2) <<< ((8 : Int32) &&& 31) ||| bx_at rm av (c + 3)
section S30
variable {Lx : Nat} {xs : Nat → Int32} {d rm : Nat} {iv : Nat → Int32} {av : Nat → Nat → Int32} {r : pW} {Q : rQ}
set_option maxRecDepth 20000 in
theorem sx_logCell (hr : 0 < rm ∧ rm ≤ 4096) {q : Nat} (hq : q < 2 ^ 31) (hQ : Q (some (.int (nI (q % rm)))) (wX rm iv av r)) : rx_R Lx xs (d + 1) 6 [.ref 2, .int (nI q)] (wX rm iv av r) Q := by
  refine pz_en (t := rt_6) ⟨Nat.le_of_ble_eq_true rfl, rfl⟩ rfl rfl ?_
  refine pz_iln rfl rfl ?_
  refine pz_aln rfl rfl ?_
  refine pz_get rfl (gf_2_0 ..) ?_
  refine pz_rem rfl (nI_ne0 hr.1 (by omega)) ?_
  rw [pk_rem hq hr.1 (by omega)]
  refine pz_isn rfl ⟨rfl, Nat.le_of_ble_eq_true rfl⟩ rfl ?_
  refine pz_iln rfl rfl ?_
  refine pz_if_ge rfl (fun c6 => ?_) (fun c6 => ?_)
  · refine pz_iln rfl rfl ?_
    refine pz_ir rfl rfl rfl ?_
    exact hQ
  · exact absurd (nI_pos' (Nat.lt_trans (Nat.mod_lt q hr.1) (by omega))) c6
set_option maxRecDepth 20000 in
theorem sx_byteAt (hr : 0 < rm ∧ rm ≤ 4096) {c : Int32} (hQ : Q (some (.int (bx_at rm av c))) (wX rm iv av r)) : rx_R Lx xs (d + 1) 9 [.ref 2, .int c] (wX rm iv av r) Q := by
  refine pz_en (t := rt_9) ⟨Nat.le_of_ble_eq_true rfl, rfl⟩ rfl rfl ?_
  refine pz_iln rfl rfl ?_
  refine pz_if_lt rfl (fun c1 => ?_) (fun c1 => ?_)
  · refine pz_ic rfl ?_
    refine pz_go rfl ?_
    refine pz_ir rfl rfl rfl ?_
    unfold bx_at at hQ
    first | rwa [if_pos (Or.inl c1)] at hQ | rwa [if_pos (Or.inr (Int32.not_lt.mp c6))] at hQ | (rw [if_neg (fun z => z.elim c1 (fun z => Int32.not_le.mpr c6 z))] at hQ; exact hQ)
  · refine pz_iln rfl rfl ?_
    refine pz_aln rfl rfl ?_
    refine pz_get rfl (gf_2_1 ..) ?_
    refine pz_len rfl (ga_3 ..) (by decide) ?_
    refine pz_ii_lt rfl (fun c6 => ?_) (fun c6 => ?_)
    · refine pz_aln rfl rfl ?_
      refine pz_get rfl (gf_2_1 ..) ?_
      refine pz_iln rfl rfl ?_
      refine pz_bal rfl (ga_3 ..) rfl (by refine fun z => z.elim c1 (fun z => ?_); obtain ⟨j, hj, rfl⟩ := nI_of c1; rw [nI_clamp hj] at z; exact absurd c6 (nI_nlt z hj)) ?_
      refine pz_si rfl ?_
      refine pz_and rfl ?_
      refine pz_ir rfl rfl rfl ?_
      unfold bx_at at hQ
      first | rwa [if_pos (Or.inl c1)] at hQ | rwa [if_pos (Or.inr (Int32.not_lt.mp c6))] at hQ | (rw [if_neg (fun z => z.elim c1 (fun z => Int32.not_le.mpr c6 z))] at hQ; exact hQ)
    · refine pz_ic rfl ?_
      refine pz_go rfl ?_
      refine pz_ir rfl rfl rfl ?_
      unfold bx_at at hQ
      first | rwa [if_pos (Or.inl c1)] at hQ | rwa [if_pos (Or.inr (Int32.not_lt.mp c6))] at hQ | (rw [if_neg (fun z => z.elim c1 (fun z => Int32.not_le.mpr c6 z))] at hQ; exact hQ)
set_option maxRecDepth 20000 in
theorem sx_numberAt (hr : 0 < rm ∧ rm ≤ 4096) {c : Int32} (hQ : Q (some (.int (bx_num rm av c))) (wX rm iv av r)) : rx_R Lx xs (d + 2) 10 [.ref 2, .int c] (wX rm iv av r) Q := by
  refine pz_en (t := rt_10) ⟨Nat.le_of_ble_eq_true rfl, rfl⟩ rfl rfl ?_
  refine pz_aln rfl rfl ?_
  refine pz_iln rfl rfl ?_
  refine pz_cI1 rfl (gc_2 ..) rfl (Nat.le_of_ble_eq_true rfl) rfl ?_
  refine sx_byteAt hr ?_
  refine ⟨_, rfl, ?_⟩
  refine pz_bi rfl ?_
  refine pz_shl rfl ?_
  refine pz_aln rfl rfl ?_
  refine pz_iln rfl rfl ?_
  refine pz_ic rfl ?_
  refine pz_add rfl ?_
  refine pz_cI1 rfl (gc_2 ..) rfl (Nat.le_of_ble_eq_true rfl) rfl ?_
  refine sx_byteAt hr ?_
  refine ⟨_, rfl, ?_⟩
  refine pz_bi rfl ?_
  refine pz_shl rfl ?_
  refine pz_or rfl ?_
  refine pz_aln rfl rfl ?_
  refine pz_iln rfl rfl ?_
  refine pz_ic rfl ?_
  refine pz_add rfl ?_
  refine pz_cI1 rfl (gc_2 ..) rfl (Nat.le_of_ble_eq_true rfl) rfl ?_
  refine sx_byteAt hr ?_
  refine ⟨_, rfl, ?_⟩
  refine pz_bi rfl ?_
  refine pz_shl rfl ?_
  refine pz_or rfl ?_
  refine pz_aln rfl rfl ?_
  refine pz_iln rfl rfl ?_
  refine pz_ic rfl ?_
  refine pz_add rfl ?_
  refine pz_cI1 rfl (gc_2 ..) rfl (Nat.le_of_ble_eq_true rfl) rfl ?_
  refine sx_byteAt hr ?_
  refine ⟨_, rfl, ?_⟩
  refine pz_or rfl ?_
  refine pz_ir rfl rfl rfl ?_
  exact hQ
set_option maxRecDepth 20000 in
theorem sx_tableCell {q : Int32} (hQ : Q (some (.int (nI rm + q * 1300))) (wX rm iv av r)) : rx_R Lx xs (d + 1) 7 [.ref 2, .int q] (wX rm iv av r) Q := by
  refine pz_en (t := rt_7) ⟨Nat.le_of_ble_eq_true rfl, rfl⟩ rfl rfl ?_
  refine pz_aln rfl rfl ?_
  refine pz_get rfl (gf_2_0 ..) ?_
  refine pz_iln rfl rfl ?_
  refine pz_si rfl ?_
  refine pz_mul rfl ?_
  refine pz_add rfl ?_
  refine pz_ir rfl rfl rfl ?_
  exact hQ
set_option maxRecDepth 20000 in
theorem sx_rootCell {q : Int32} (hQ : Q (some (.int (nI rm + 15600 + (q &&& 1) * 64))) (wX rm iv av r)) : rx_R Lx xs (d + 1) 8 [.ref 2, .int q] (wX rm iv av r) Q := by
  refine pz_en (t := rt_8) ⟨Nat.le_of_ble_eq_true rfl, rfl⟩ rfl rfl ?_
  refine pz_aln rfl rfl ?_
  refine pz_get rfl (gf_2_0 ..) ?_
  refine pz_si rfl ?_
  refine pz_add rfl ?_
  refine pz_iln rfl rfl ?_
  refine pz_ic rfl ?_
  refine pz_and rfl ?_
  refine pz_bi rfl ?_
  refine pz_mul rfl ?_
  refine pz_add rfl ?_
  refine pz_ir rfl rfl rfl ?_
  exact hQ
set_option maxRecDepth 20000 in
theorem sx_logByte (hr : 0 < rm ∧ rm ≤ 4096) {q : Nat} (hq : q < 2 ^ 31) (hQ : Q (some (.int (av 0 (q % rm) &&& 255))) (wX rm iv av r)) : rx_R Lx xs (d + 2) 11 [.ref 2, .int (nI q)] (wX rm iv av r) Q := by
  refine pz_en (t := rt_11) ⟨Nat.le_of_ble_eq_true rfl, rfl⟩ rfl rfl ?_
  refine pz_aln rfl rfl ?_
  refine pz_get rfl (gf_2_1 ..) ?_
  refine pz_aln rfl rfl ?_
  refine pz_iln rfl rfl ?_
  refine pz_cI1 rfl (gc_2 ..) rfl (Nat.le_of_ble_eq_true rfl) rfl ?_
  refine sx_logCell hr hq ?_
  refine ⟨_, rfl, ?_⟩
  refine pz_bal rfl (ga_3 ..) rfl (vp_in_nI (Nat.lt_of_lt_of_le (Nat.mod_lt q hr.1) (by omega)) (by omega)) ?_
  rw [nI_clamp (Nat.lt_trans (Nat.mod_lt q hr.1) (by omega))]
  refine pz_si rfl ?_
  refine pz_and rfl ?_
  refine pz_ir rfl rfl rfl ?_
  exact hQ
end S30
