/-! PART C5: the law: the loop, the start -/
section SC5
variable {Lx : Nat} {xs : Nat → Int32} {rm : Nat} {Q : rQ}
theorem lw_b1 (K n : Nat) : K + 10000 ≤ K + 10000 * (n + 1) := by omega
theorem lw_b2 (K n : Nat) : K + 10000 + 10000 * n = K + 10000 * (n + 1) := by omega
theorem lw_in {i q : Nat} (hL : Lx ≤ 2049) (h : i + 4 ≤ Lx) (hq : q < 4) : vp_in (nI i + nI q) Lx := by
  rw [nI_add]
  exact in_ofI (by omega)
theorem lw_le {i : Nat} (hL : Lx ≤ 2049) (hi : i ≤ 3000) (h : ¬ nI Lx - 4 < nI i) : i + 4 ≤ Lx := by
  by_cases h4 : 4 ≤ Lx
  · have e : nI Lx - 4 = nI (Lx - 4) := by
      have := nI_add (Lx - 4) 4
      rw [show Lx - 4 + 4 = Lx by omega] at this
      rw [← this]
      exact Int32.add_sub_cancel _ _
    rw [e] at h
    have := le_ofI (Int32.not_lt.mp h)
    omega
  · exfalso
    have h0 : (0 : Int32) ≤ nI i := Int32.not_lt.mp (nI_pos (by omega))
    have h1 := Int32.le_trans h0 (Int32.not_lt.mp h)
    have hc : Lx = 0 ∨ Lx = 1 ∨ Lx = 2 ∨ Lx = 3 := by omega
    rcases hc with rfl | rfl | rfl | rfl <;> exact absurd h1 (by decide)
set_option maxRecDepth 20000 in
theorem lw_loop (hr : 512 ≤ rm ∧ rm ≤ 4096) (hL : Lx ≤ 2049) (hQ : ∀ w, Q (some (.int 1)) w) (n : Nat) : ∀ (i K : Nat) (iv : Nat → Int32) (av : Nat → Nat → Int32) (jv : Nat → Int32) (bv : Nat → Nat → Int32), Lx < i + 4 + 4 * n → i ≤ Lx + 4 → K + 10000 * n < 2 ^ 30 - 6000 → onS rm K iv av jv bv → pz Lx xs 12 rt_149 (some .boolean) Q 16 [some (.ref 0), some (.ref 1), some (.ref 54), some (.int (nI i))] [] (wX rm iv av (wM rm jv bv)) := by
  induction n with
  | zero =>
    intro i K iv av jv bv hn hiL hK hS
    refine pz_iln (i := 16) rfl rfl ?_
    refine pz_aln (i := 17) rfl rfl ?_
    refine pz_ln0 (i := 18) rfl ?_
    refine pz_ic (i := 19) rfl ?_
    refine pz_sub (i := 20) rfl ?_
    refine pz_ii_gt (i := 21) rfl (fun c => ?_) (fun c => ?_)
    · refine pz_ic (i := 401) rfl ?_
      refine pz_ir (i := 402) rfl rfl rfl ?_
      exact hQ _
    · exact absurd (lw_le hL (by omega) c) (by omega)
  | succ n ih =>
    intro i K iv av jv bv hn hiL hK hS
    have hb : K + 10000 < 2 ^ 30 - 6000 := Nat.lt_of_le_of_lt (lw_b1 K n) hK
    have k9 : ∀ iv' av' jv' bv', onS rm (K + 10000) iv' av' jv' bv' → i + 4 ≤ Lx → pz Lx xs 12 rt_149 (some .boolean) Q 399 [some (.ref 0), some (.ref 1), some (.ref 54), some (.int (nI i))] [] (wX rm iv' av' (wM rm jv' bv')) := fun iv' av' jv' bv' h hi4 => by
      refine pz_inc (i := 399) rfl rfl rfl rfl ?_
      refine pz_go (i := 400) rfl ?_
      have h2 := ih (i + 4) (K + 10000) iv' av' jv' bv' (by clear hK hb; omega) (by clear hK hb; omega) (Nat.lt_of_le_of_lt (Nat.le_of_eq (lw_b2 K n)) hK) h
      rw [← show nI i + 4 = nI (i + 4) from nI_add i 4] at h2
      exact h2
    refine pz_iln (i := 16) rfl rfl ?_
    refine pz_aln (i := 17) rfl rfl ?_
    refine pz_ln0 (i := 18) rfl ?_
    refine pz_ic (i := 19) rfl ?_
    refine pz_sub (i := 20) rfl ?_
    refine pz_ii_gt (i := 21) rfl (fun c => ?_) (fun c => ?_)
    · refine pz_ic (i := 401) rfl ?_
      refine pz_ir (i := 402) rfl rfl rfl ?_
      exact hQ _
    · have hi4 : i + 4 ≤ Lx := lw_le hL (by omega) c
      have h0 : vp_in (nI i) Lx := in_ofI (by omega)
      have h1 : vp_in (nI i + 1) Lx := lw_in (q := 1) hL hi4 (by decide)
      have h2 : vp_in (nI i + 2) Lx := lw_in (q := 2) hL hi4 (by decide)
      have h3 : vp_in (nI i + 3) Lx := lw_in (q := 3) hL hi4 (by decide)
      have kk := fun iv' av' jv' bv' h => k9 iv' av' jv' bv' h hi4
      refine pz_aln (i := 22) rfl rfl ?_
      refine pz_iln (i := 23) rfl rfl ?_
      refine pz_ia0 (i := 24) rfl h0 ?_
      refine pz_bi (i := 25) rfl ?_
      refine pz_and (i := 26) rfl ?_
      generalize xs (nI i).toNatClampNeg &&& 31 = z
      refine pz_tsw (i := 27) rfl (fun _ => ?_) (fun g1 g2 => ?_)
      · show pz Lx xs 12 rt_149 (some .boolean) Q 399 _ [] _
        obtain ⟨a, hx, hm, hi⟩ := hS
        exact kk iv av jv bv ⟨a, hx, hm, inV_up hi⟩
      · obtain ⟨k, hk, rfl⟩ := sw_n (n := 20) (by decide) g1 g2
        have hc : k = 0 ∨ k = 1 ∨ k = 2 ∨ k = 3 ∨ k = 4 ∨ k = 5 ∨ k = 6 ∨ k = 7 ∨ k = 8 ∨ k = 9 ∨ k = 10 ∨ k = 11 ∨ k = 12 ∨ k = 13 ∨ k = 14 ∨ k = 15 ∨ k = 16 ∨ k = 17 ∨ k = 18 ∨ k = 19 ∨ k = 20 := by omega
        rcases hc with rfl | rfl | rfl | rfl | rfl | rfl | rfl | rfl | rfl | rfl | rfl | rfl | rfl | rfl | rfl | rfl | rfl | rfl | rfl | rfl | rfl
        · show pz Lx xs 12 rt_149 (some .boolean) Q 28 _ [] _
          exact lw_type hr hb hS h1 h2 h3 kk
        · show pz Lx xs 12 rt_149 (some .boolean) Q 79 _ [] _
          exact lw_put hr hb hS h1 h2 h3 kk
        · show pz Lx xs 12 rt_149 (some .boolean) Q 96 _ [] _
          exact lw_remove hr hb hS h1 h2 h3 kk
        · show pz Lx xs 12 rt_149 (some .boolean) Q 113 _ [] _
          exact lw_begin hr hb hS h1 h2 h3 kk
        · show pz Lx xs 12 rt_149 (some .boolean) Q 120 _ [] _
          exact lw_commit hr hb hS h1 h2 h3 kk
        · show pz Lx xs 12 rt_149 (some .boolean) Q 127 _ [] _
          exact lw_cancel hr hb hS h1 h2 h3 kk
        · show pz Lx xs 12 rt_149 (some .boolean) Q 134 _ [] _
          exact lw_get hr hb hS h1 h2 h3 kk
        · show pz Lx xs 12 rt_149 (some .boolean) Q 151 _ [] _
          exact lw_read hr hb hS h1 h2 h3 kk
        · show pz Lx xs 12 rt_149 (some .boolean) Q 168 _ [] _
          exact lw_next hr hb hS h1 h2 h3 kk
        · show pz Lx xs 12 rt_149 (some .boolean) Q 185 _ [] _
          exact lw_sync hr hb hS h1 h2 h3 kk
        · show pz Lx xs 12 rt_149 (some .boolean) Q 192 _ [] _
          exact lw_checkpoint hr hb hS h1 h2 h3 kk
        · show pz Lx xs 12 rt_149 (some .boolean) Q 199 _ [] _
          exact lw_collect hr hb hS h1 h2 h3 kk
        · show pz Lx xs 12 rt_149 (some .boolean) Q 216 _ [] _
          exact lw_crash hr hb hS h1 h2 h3 kk
        · show pz Lx xs 12 rt_149 (some .boolean) Q 243 _ [] _
          exact lw_fail hr hb hS h1 h2 h3 kk
        · show pz Lx xs 12 rt_149 (some .boolean) Q 280 _ [] _
          exact lw_spare hr hb hS h1 h2 h3 kk
        · show pz Lx xs 12 rt_149 (some .boolean) Q 287 _ [] _
          exact lw_open hr hb hS h1 h2 h3 kk
        · show pz Lx xs 12 rt_149 (some .boolean) Q 294 _ [] _
          exact lw_told hr hb hS h1 h2 h3 kk
        · show pz Lx xs 12 rt_149 (some .boolean) Q 311 _ [] _
          exact lw_table hr hb hS h1 h2 h3 kk
        · show pz Lx xs 12 rt_149 (some .boolean) Q 338 _ [] _
          exact lw_entry hr hb hS h1 h2 h3 kk
        · show pz Lx xs 12 rt_149 (some .boolean) Q 365 _ [] _
          exact lw_cell hr hb hS h1 h2 h3 kk
        · show pz Lx xs 12 rt_149 (some .boolean) Q 392 _ [] _
          exact lw_check hr hb hS h1 h2 h3 kk
set_option maxRecDepth 20000 in
theorem lw_cell0 {d : Nat} {w : pW} (hL : Lx ≤ 2049) (hQ : Q (some (.int (if nI Lx ≤ 0 then 0 else xs 0))) w) : rx_R Lx xs (d + 1) 148 [.ref 0, .int 0] w Q := by
  refine pz_en (t := rt_148) ⟨Nat.le_of_ble_eq_true rfl, rfl⟩ rfl rfl ?_
  refine pz_iln (i := 0) rfl rfl ?_
  refine pz_aln (i := 1) rfl rfl ?_
  refine pz_ln0 (i := 2) rfl ?_
  refine pz_ii_ge (i := 3) rfl (fun c => ?_) (fun c => ?_)
  · refine pz_ic (i := 8) rfl ?_
    refine pz_ir (i := 9) rfl rfl rfl ?_
    rw [if_pos c] at hQ
    exact hQ
  · have h0 : 0 < Lx := Nat.pos_of_ne_zero (fun z => c (by rw [z]; decide))
    refine pz_aln (i := 4) rfl rfl ?_
    refine pz_iln (i := 5) rfl rfl ?_
    refine pz_ia0 (i := 6) rfl (in_ofI (a := 0) h0) ?_
    refine pz_go (i := 7) rfl ?_
    refine pz_ir (i := 9) rfl rfl rfl ?_
    rw [if_neg c] at hQ
    exact hQ
set_option maxRecDepth 20000 in
theorem lw_run (hL : Lx ≤ 2049) : rx_P (rx_R Lx xs 12) Lx xs rt_149 (some .boolean) (600000, 7302250) (fun r _ => r = some (.int 1)) 0 (rx_l0 [.ref 0] 4) [] [] 0 0 := by
  show py (600000, 7302250) Lx xs 12 rt_149 (some .boolean) (fun r _ => r = some (.int 1)) 0 [some (.ref 0), none, none, none] [] [] 0 0
  generalize hy : (if nI Lx ≤ 0 then 0 else xs 0) = y
  obtain ⟨rm, hr, hm1, hm2⟩ := rm_ex y
  refine y_nw (i := 0) (o := 1) (fs := [.null, .null, .null, .null, .null, .null, .null, .int 0, .null, .int 0, .null, .int 0, .null, .null]) (w' := [.inr (6, [.null, .null, .null, .null, .null, .null, .null, .int 0, .null, .int 0, .null, .int 0, .null, .null])]) rfl rfl ⟨by decide, by decide⟩ rfl rfl ?_
  refine y_dup (i := 1) rfl rfl ?_
  refine y_aln (i := 2) rfl rfl ?_
  refine y_ic (i := 3) rfl ?_
  refine y_cs (i := 4) (as := [.ref 0, .int 0]) rfl rfl rfl (Nat.le_of_ble_eq_true rfl) rfl ⟨by decide, by decide⟩ ?_
  refine lw_cell0 hL ?_
  rw [hy]
  refine ⟨_, rfl, ?_⟩
  refine y_sp (i := 5) (o := 1) (as := [.int y]) rfl rfl (Nat.le_of_ble_eq_true rfl) ⟨by decide, by decide⟩ ?_
  refine ct_X hr hm1 (fun iv av hx => ⟨rfl, ?_⟩)
  refine y_asn (i := 6) rfl ⟨rfl, Nat.le_of_ble_eq_true rfl⟩ rfl ?_
  refine y_nw (i := 7) (o := 54) (fs := [.int 0, .null, .null, .null, .null, .null, .null, .null, .null, .null, .int 0, .int 0, .int 0, .int 0, .int 0, .int 0, .null, .int 0, .null, .int 0, .int 0, .int 0, .int 0, .int 0, .null, .null, .null, .null, .int 0, .int 0, .int 0, .int 0, .int 0, .int 0, .int 0, .null, .int 0, .null, .null, .null, .null, .int 0, .null, .null, .null, .null, .int 0, .int 0, .int 0, .int 0, .null]) (w' := wX rm iv av [.inr (7, [.int 0, .null, .null, .null, .null, .null, .null, .null, .null, .null, .int 0, .int 0, .int 0, .int 0, .int 0, .int 0, .null, .int 0, .null, .int 0, .int 0, .int 0, .int 0, .int 0, .null, .null, .null, .null, .int 0, .int 0, .int 0, .int 0, .int 0, .int 0, .int 0, .null, .int 0, .null, .null, .null, .null, .int 0, .null, .null, .null, .null, .int 0, .int 0, .int 0, .int 0, .null])]) rfl rfl ⟨by decide, by decide⟩ rfl rfl ?_
  refine y_dup (i := 8) rfl rfl ?_
  refine y_aln (i := 9) rfl rfl ?_
  refine y_ic (i := 10) rfl ?_
  refine y_cs (i := 11) (as := [.ref 0, .int 0]) rfl rfl rfl (Nat.le_of_ble_eq_true rfl) rfl ⟨by decide, by decide⟩ ?_
  refine lw_cell0 hL ?_
  rw [hy]
  refine ⟨_, rfl, ?_⟩
  refine y_sp (i := 12) (o := 54) (as := [.int y]) rfl rfl (Nat.le_of_ble_eq_true rfl) ⟨by decide, by decide⟩ ?_
  refine ct_M hr hm2 (fun jv bv hm => ⟨rfl, ?_⟩)
  refine y_asn (i := 13) rfl ⟨rfl, Nat.le_of_ble_eq_true rfl⟩ rfl ?_
  refine py_pz (by decide) (by decide) ?_
  refine pz_ic (i := 14) rfl ?_
  refine pz_isn (i := 15) rfl ⟨rfl, Nat.le_of_ble_eq_true rfl⟩ rfl ?_
  exact lw_loop hr hL (fun w => rfl) 512 1 1 iv av jv bv (by omega) (by omega) (by decide) ⟨a00 rm, hx, hm, (a00_r hr).2.2⟩
end SC5
