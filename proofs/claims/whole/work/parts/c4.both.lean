/-! PART C4: the law: each call of both -/
section SC4a
variable {Lx : Nat} {xs : Nat → Int32} {d : Nat} {t : List (List rI)} {ret : Option FieldType} {Q : rQ} {i j pc ln : Nat} {info : List Nat} {v : Int32} {L : List (Option Value)} {st : List Value} {w : pW}
theorem pz_lshl {x : Int64} {y : Int32} (h : rx_e t i = (pc, .lshl, ln, info, v)) (k : pz Lx xs d t ret Q (i + 1) L (.long (x <<< (y.toInt64 &&& 63)) :: st) w) : pz Lx xs d t ret Q i L (.int y :: .long x :: st) w := pz_st (by unfold rx_st; rw [h]; exact k)
theorem pz_land {x y : Int64} (h : rx_e t i = (pc, .land, ln, info, v)) (k : pz Lx xs d t ret Q (i + 1) L (.long (x &&& y) :: st) w) : pz Lx xs d t ret Q i L (.long y :: .long x :: st) w := pz_st (by unfold rx_st; rw [h]; exact k)
theorem pz_lor {x y : Int64} (h : rx_e t i = (pc, .lor, ln, info, v)) (k : pz Lx xs d t ret Q (i + 1) L (.long (x ||| y) :: st) w) : pz Lx xs d t ret Q i L (.long y :: .long x :: st) w := pz_st (by unfold rx_st; rw [h]; exact k)
theorem pz_ia0 {x : Int32} (h : rx_e t i = (pc, .iaload, ln, info, v)) (hi : vp_in x Lx) (k : pz Lx xs d t ret Q (i + 1) L (.int (xs x.toNatClampNeg) :: st) w) : pz Lx xs d t ret Q i L (.int x :: .ref 0 :: st) w := pz_st (by
  unfold rx_st
  rw [h]
  exact ⟨rfl, hi, k⟩)
theorem pz_ln0 (h : rx_e t i = (pc, .arraylength, ln, info, v)) (k : pz Lx xs d t ret Q (i + 1) L (.int (nI Lx) :: st) w) : pz Lx xs d t ret Q i L (.ref 0 :: st) w := pz_st (by
  unfold rx_st
  rw [h]
  exact k)
end SC4a
theorem inV_wP {rm K : Nat} {a : aS} (hr : 512 ≤ rm ∧ rm ≤ 4096) (hb : K + 10000 < 2 ^ 30 - 6000) (h : inV rm K a) : wP rm a := fun w b h8 ho => by
  obtain ⟨h1, l1, l2, h2, h3, h4⟩ := h.1 w
  rw [h4]
  exact (lv_sto hr hb h1 w h2 h3 h8 ho).2.2.1
theorem inV_up {rm K : Nat} {a : aS} (h : inV rm K a) : inV rm (K + 10000) a := inV_K h (Nat.le_add_right _ _)
/-- both in one state -/
def onS (rm K : Nat) (iv : Nat → Int32) (av : Nat → Nat → Int32) (jv : Nat → Int32) (bv : Nat → Nat → Int32) : Prop := ∃ a, xS rm iv av a ∧ mS rm jv bv a ∧ inV rm K a
section SC4
variable {Lx : Nat} {xs : Nat → Int32} {rm K : Nat} {y : Int32} {iv : Nat → Int32} {av : Nat → Nat → Int32} {jv : Nat → Int32} {bv : Nat → Nat → Int32} {Q : rQ}
set_option maxRecDepth 20000 in
theorem lw_type (hr : 512 ≤ rm ∧ rm ≤ 4096) (hb : K + 10000 < 2 ^ 30 - 6000) (hS : onS rm K iv av jv bv) (h1 : vp_in (y + 1) Lx) (h2 : vp_in (y + 2) Lx) (h3 : vp_in (y + 3) Lx) (k : ∀ iv' av' jv' bv', onS rm (K + 10000) iv' av' jv' bv' → pz Lx xs 12 rt_149 (some .boolean) Q 399 [some (.ref 0), some (.ref 1), some (.ref 54), some (.int y)] [] (wX rm iv' av' (wM rm jv' bv'))) : pz Lx xs 12 rt_149 (some .boolean) Q 28 [some (.ref 0), some (.ref 1), some (.ref 54), some (.int y)] [] (wX rm iv av (wM rm jv bv)) := by
  obtain ⟨a, hx, hm, hi⟩ := hS
  refine pz_aln (i := 28) rfl rfl ?_
  refine pz_aln (i := 29) rfl rfl ?_
  refine pz_iln (i := 30) rfl rfl ?_
  refine pz_ic (i := 31) rfl ?_
  refine pz_add (i := 32) rfl ?_
  refine pz_ia0 (i := 33) rfl h1 ?_
  refine pz_i2l (i := 34) rfl ?_
  refine pz_bi (i := 35) rfl ?_
  refine pz_lshl (i := 36) rfl ?_
  refine pz_aln (i := 37) rfl rfl ?_
  refine pz_iln (i := 38) rfl rfl ?_
  refine pz_ic (i := 39) rfl ?_
  refine pz_add (i := 40) rfl ?_
  refine pz_ia0 (i := 41) rfl h2 ?_
  refine pz_i2l (i := 42) rfl ?_
  refine pz_l2 (i := 43) rfl ?_
  refine pz_land (i := 44) rfl ?_
  refine pz_lor (i := 45) rfl ?_
  refine pz_aln (i := 46) rfl rfl ?_
  refine pz_iln (i := 47) rfl rfl ?_
  refine pz_ic (i := 48) rfl ?_
  refine pz_add (i := 49) rfl ?_
  refine pz_ia0 (i := 50) rfl h3 ?_
  refine pz_cI2 (i := 51) rfl (gc_1 ..) rfl (Nat.le_of_ble_eq_true rfl) rfl ?_
  refine sx_type hr hx (fun iv1 av1 hx1 => ?_)
  refine ⟨_, rfl, ?_⟩
  refine pz_aln (i := 52) rfl rfl ?_
  refine pz_aln (i := 53) rfl rfl ?_
  refine pz_iln (i := 54) rfl rfl ?_
  refine pz_ic (i := 55) rfl ?_
  refine pz_add (i := 56) rfl ?_
  refine pz_ia0 (i := 57) rfl h1 ?_
  refine pz_i2l (i := 58) rfl ?_
  refine pz_bi (i := 59) rfl ?_
  refine pz_lshl (i := 60) rfl ?_
  refine pz_aln (i := 61) rfl rfl ?_
  refine pz_iln (i := 62) rfl rfl ?_
  refine pz_ic (i := 63) rfl ?_
  refine pz_add (i := 64) rfl ?_
  refine pz_ia0 (i := 65) rfl h2 ?_
  refine pz_i2l (i := 66) rfl ?_
  refine pz_l2 (i := 67) rfl ?_
  refine pz_land (i := 68) rfl ?_
  refine pz_lor (i := 69) rfl ?_
  refine pz_aln (i := 70) rfl rfl ?_
  refine pz_iln (i := 71) rfl rfl ?_
  refine pz_ic (i := 72) rfl ?_
  refine pz_add (i := 73) rfl ?_
  refine pz_ia0 (i := 74) rfl h3 ?_
  refine pz_cI2 (i := 75) rfl (gc_54 ..) rfl (Nat.le_of_ble_eq_true rfl) rfl ?_
  refine sm_type hr hm (fun jv1 bv1 hm1 => ?_)
  refine ⟨_, rfl, ?_⟩
  refine pz_ii_eq (i := 76) rfl (fun c76 => ?_) (fun c76 => ?_)
  · exact k iv1 av1 jv1 bv1 ⟨_, hx1, hm1, inV_up (inV_type hi)⟩
  · exact absurd rfl c76
set_option maxRecDepth 20000 in
theorem lw_put (hr : 512 ≤ rm ∧ rm ≤ 4096) (hb : K + 10000 < 2 ^ 30 - 6000) (hS : onS rm K iv av jv bv) (h1 : vp_in (y + 1) Lx) (h2 : vp_in (y + 2) Lx) (h3 : vp_in (y + 3) Lx) (k : ∀ iv' av' jv' bv', onS rm (K + 10000) iv' av' jv' bv' → pz Lx xs 12 rt_149 (some .boolean) Q 399 [some (.ref 0), some (.ref 1), some (.ref 54), some (.int y)] [] (wX rm iv' av' (wM rm jv' bv'))) : pz Lx xs 12 rt_149 (some .boolean) Q 79 [some (.ref 0), some (.ref 1), some (.ref 54), some (.int y)] [] (wX rm iv av (wM rm jv bv)) := by
  obtain ⟨a, hx, hm, hi⟩ := hS
  refine pz_aln (i := 79) rfl rfl ?_
  refine pz_aln (i := 80) rfl rfl ?_
  refine pz_iln (i := 81) rfl rfl ?_
  refine pz_ic (i := 82) rfl ?_
  refine pz_add (i := 83) rfl ?_
  refine pz_ia0 (i := 84) rfl h1 ?_
  refine pz_cI1 (i := 85) rfl (gc_1 ..) rfl (Nat.le_of_ble_eq_true rfl) rfl ?_
  refine sx_put hr hx (inV_wB hr hb hi) (fun iv1 av1 hx1 => ?_)
  refine ⟨_, rfl, ?_⟩
  refine pz_aln (i := 86) rfl rfl ?_
  refine pz_aln (i := 87) rfl rfl ?_
  refine pz_iln (i := 88) rfl rfl ?_
  refine pz_ic (i := 89) rfl ?_
  refine pz_add (i := 90) rfl ?_
  refine pz_ia0 (i := 91) rfl h1 ?_
  refine pz_cI1 (i := 92) rfl (gc_54 ..) rfl (Nat.le_of_ble_eq_true rfl) rfl ?_
  refine sm_put hr hm (inV_wB hr hb hi) (inV_wP hr hb hi) (fun jv1 bv1 hm1 => ?_)
  refine ⟨_, rfl, ?_⟩
  refine pz_ii_eq (i := 93) rfl (fun c93 => ?_) (fun c93 => ?_)
  · exact k iv1 av1 jv1 bv1 ⟨_, hx1, hm1, inV_put hr hb hi⟩
  · exact absurd rfl c93
set_option maxRecDepth 20000 in
theorem lw_remove (hr : 512 ≤ rm ∧ rm ≤ 4096) (hb : K + 10000 < 2 ^ 30 - 6000) (hS : onS rm K iv av jv bv) (h1 : vp_in (y + 1) Lx) (h2 : vp_in (y + 2) Lx) (h3 : vp_in (y + 3) Lx) (k : ∀ iv' av' jv' bv', onS rm (K + 10000) iv' av' jv' bv' → pz Lx xs 12 rt_149 (some .boolean) Q 399 [some (.ref 0), some (.ref 1), some (.ref 54), some (.int y)] [] (wX rm iv' av' (wM rm jv' bv'))) : pz Lx xs 12 rt_149 (some .boolean) Q 96 [some (.ref 0), some (.ref 1), some (.ref 54), some (.int y)] [] (wX rm iv av (wM rm jv bv)) := by
  obtain ⟨a, hx, hm, hi⟩ := hS
  refine pz_aln (i := 96) rfl rfl ?_
  refine pz_aln (i := 97) rfl rfl ?_
  refine pz_iln (i := 98) rfl rfl ?_
  refine pz_ic (i := 99) rfl ?_
  refine pz_add (i := 100) rfl ?_
  refine pz_ia0 (i := 101) rfl h1 ?_
  refine pz_cI1 (i := 102) rfl (gc_1 ..) rfl (Nat.le_of_ble_eq_true rfl) rfl ?_
  refine sx_remove hr hx (inV_wB hr hb hi) (fun iv1 av1 hx1 => ?_)
  refine ⟨_, rfl, ?_⟩
  refine pz_aln (i := 103) rfl rfl ?_
  refine pz_aln (i := 104) rfl rfl ?_
  refine pz_iln (i := 105) rfl rfl ?_
  refine pz_ic (i := 106) rfl ?_
  refine pz_add (i := 107) rfl ?_
  refine pz_ia0 (i := 108) rfl h1 ?_
  refine pz_cI1 (i := 109) rfl (gc_54 ..) rfl (Nat.le_of_ble_eq_true rfl) rfl ?_
  refine sm_remove hr hm (inV_wB hr hb hi) (inV_wP hr hb hi) (fun jv1 bv1 hm1 => ?_)
  refine ⟨_, rfl, ?_⟩
  refine pz_ii_eq (i := 110) rfl (fun c110 => ?_) (fun c110 => ?_)
  · exact k iv1 av1 jv1 bv1 ⟨_, hx1, hm1, inV_remove hr hb hi⟩
  · exact absurd rfl c110
set_option maxRecDepth 20000 in
theorem lw_begin (hr : 512 ≤ rm ∧ rm ≤ 4096) (hb : K + 10000 < 2 ^ 30 - 6000) (hS : onS rm K iv av jv bv) (h1 : vp_in (y + 1) Lx) (h2 : vp_in (y + 2) Lx) (h3 : vp_in (y + 3) Lx) (k : ∀ iv' av' jv' bv', onS rm (K + 10000) iv' av' jv' bv' → pz Lx xs 12 rt_149 (some .boolean) Q 399 [some (.ref 0), some (.ref 1), some (.ref 54), some (.int y)] [] (wX rm iv' av' (wM rm jv' bv'))) : pz Lx xs 12 rt_149 (some .boolean) Q 113 [some (.ref 0), some (.ref 1), some (.ref 54), some (.int y)] [] (wX rm iv av (wM rm jv bv)) := by
  obtain ⟨a, hx, hm, hi⟩ := hS
  refine pz_aln (i := 113) rfl rfl ?_
  refine pz_cI0 (i := 114) rfl (gc_1 ..) rfl (Nat.le_of_ble_eq_true rfl) rfl ?_
  refine sx_begin hr hx (fun iv1 av1 hx1 => ?_)
  refine ⟨_, rfl, ?_⟩
  refine pz_aln (i := 115) rfl rfl ?_
  refine pz_cI0 (i := 116) rfl (gc_54 ..) rfl (Nat.le_of_ble_eq_true rfl) rfl ?_
  refine sm_begin hr hm (fun jv1 bv1 hm1 => ?_)
  refine ⟨_, rfl, ?_⟩
  refine pz_ii_eq (i := 117) rfl (fun c117 => ?_) (fun c117 => ?_)
  · exact k iv1 av1 jv1 bv1 ⟨_, hx1, hm1, inV_up (inV_begin hi)⟩
  · exact absurd rfl c117
set_option maxRecDepth 20000 in
theorem lw_commit (hr : 512 ≤ rm ∧ rm ≤ 4096) (hb : K + 10000 < 2 ^ 30 - 6000) (hS : onS rm K iv av jv bv) (h1 : vp_in (y + 1) Lx) (h2 : vp_in (y + 2) Lx) (h3 : vp_in (y + 3) Lx) (k : ∀ iv' av' jv' bv', onS rm (K + 10000) iv' av' jv' bv' → pz Lx xs 12 rt_149 (some .boolean) Q 399 [some (.ref 0), some (.ref 1), some (.ref 54), some (.int y)] [] (wX rm iv' av' (wM rm jv' bv'))) : pz Lx xs 12 rt_149 (some .boolean) Q 120 [some (.ref 0), some (.ref 1), some (.ref 54), some (.int y)] [] (wX rm iv av (wM rm jv bv)) := by
  obtain ⟨a, hx, hm, hi⟩ := hS
  refine pz_aln (i := 120) rfl rfl ?_
  refine pz_cI0 (i := 121) rfl (gc_1 ..) rfl (Nat.le_of_ble_eq_true rfl) rfl ?_
  refine sx_commit hr hx (inV_wB hr hb hi) (fun iv1 av1 hx1 => ?_)
  refine ⟨_, rfl, ?_⟩
  refine pz_aln (i := 122) rfl rfl ?_
  refine pz_cI0 (i := 123) rfl (gc_54 ..) rfl (Nat.le_of_ble_eq_true rfl) rfl ?_
  refine sm_commit hr hm (inV_wB hr hb hi) (inV_wP hr hb hi) (fun jv1 bv1 hm1 => ?_)
  refine ⟨_, rfl, ?_⟩
  refine pz_ii_eq (i := 124) rfl (fun c124 => ?_) (fun c124 => ?_)
  · exact k iv1 av1 jv1 bv1 ⟨_, hx1, hm1, inV_commit hr hb hi⟩
  · exact absurd rfl c124
set_option maxRecDepth 20000 in
theorem lw_cancel (hr : 512 ≤ rm ∧ rm ≤ 4096) (hb : K + 10000 < 2 ^ 30 - 6000) (hS : onS rm K iv av jv bv) (h1 : vp_in (y + 1) Lx) (h2 : vp_in (y + 2) Lx) (h3 : vp_in (y + 3) Lx) (k : ∀ iv' av' jv' bv', onS rm (K + 10000) iv' av' jv' bv' → pz Lx xs 12 rt_149 (some .boolean) Q 399 [some (.ref 0), some (.ref 1), some (.ref 54), some (.int y)] [] (wX rm iv' av' (wM rm jv' bv'))) : pz Lx xs 12 rt_149 (some .boolean) Q 127 [some (.ref 0), some (.ref 1), some (.ref 54), some (.int y)] [] (wX rm iv av (wM rm jv bv)) := by
  obtain ⟨a, hx, hm, hi⟩ := hS
  refine pz_aln (i := 127) rfl rfl ?_
  refine pz_cI0 (i := 128) rfl (gc_1 ..) rfl (Nat.le_of_ble_eq_true rfl) rfl ?_
  refine sx_cancel hr hx (fun iv1 av1 hx1 => ?_)
  refine ⟨_, rfl, ?_⟩
  refine pz_aln (i := 129) rfl rfl ?_
  refine pz_cI0 (i := 130) rfl (gc_54 ..) rfl (Nat.le_of_ble_eq_true rfl) rfl ?_
  refine sm_cancel hr hm (fun jv1 bv1 hm1 => ?_)
  refine ⟨_, rfl, ?_⟩
  refine pz_ii_eq (i := 131) rfl (fun c131 => ?_) (fun c131 => ?_)
  · exact k iv1 av1 jv1 bv1 ⟨_, hx1, hm1, inV_up (inV_cancel hi)⟩
  · exact absurd rfl c131
set_option maxRecDepth 20000 in
theorem lw_get (hr : 512 ≤ rm ∧ rm ≤ 4096) (hb : K + 10000 < 2 ^ 30 - 6000) (hS : onS rm K iv av jv bv) (h1 : vp_in (y + 1) Lx) (h2 : vp_in (y + 2) Lx) (h3 : vp_in (y + 3) Lx) (k : ∀ iv' av' jv' bv', onS rm (K + 10000) iv' av' jv' bv' → pz Lx xs 12 rt_149 (some .boolean) Q 399 [some (.ref 0), some (.ref 1), some (.ref 54), some (.int y)] [] (wX rm iv' av' (wM rm jv' bv'))) : pz Lx xs 12 rt_149 (some .boolean) Q 134 [some (.ref 0), some (.ref 1), some (.ref 54), some (.int y)] [] (wX rm iv av (wM rm jv bv)) := by
  obtain ⟨a, hx, hm, hi⟩ := hS
  refine pz_aln (i := 134) rfl rfl ?_
  refine pz_aln (i := 135) rfl rfl ?_
  refine pz_iln (i := 136) rfl rfl ?_
  refine pz_ic (i := 137) rfl ?_
  refine pz_add (i := 138) rfl ?_
  refine pz_ia0 (i := 139) rfl h1 ?_
  refine pz_cI1 (i := 140) rfl (gc_1 ..) rfl (Nat.le_of_ble_eq_true rfl) rfl ?_
  refine sx_get hr hx (inV_wB hr hb hi) (inV_wE hi) (fun iv1 av1 hx1 => ?_)
  refine ⟨_, rfl, ?_⟩
  refine pz_aln (i := 141) rfl rfl ?_
  refine pz_aln (i := 142) rfl rfl ?_
  refine pz_iln (i := 143) rfl rfl ?_
  refine pz_ic (i := 144) rfl ?_
  refine pz_add (i := 145) rfl ?_
  refine pz_ia0 (i := 146) rfl h1 ?_
  refine pz_cI1 (i := 147) rfl (gc_54 ..) rfl (Nat.le_of_ble_eq_true rfl) rfl ?_
  refine sm_get hr hm (inV_wB hr hb hi) (inV_wE hi) (fun jv1 bv1 hm1 => ?_)
  refine ⟨_, rfl, ?_⟩
  refine pz_ii_eq (i := 148) rfl (fun c148 => ?_) (fun c148 => ?_)
  · exact k iv1 av1 jv1 bv1 ⟨_, hx1, hm1, inV_up (inV_get hi)⟩
  · exact absurd rfl c148
set_option maxRecDepth 20000 in
theorem lw_read (hr : 512 ≤ rm ∧ rm ≤ 4096) (hb : K + 10000 < 2 ^ 30 - 6000) (hS : onS rm K iv av jv bv) (h1 : vp_in (y + 1) Lx) (h2 : vp_in (y + 2) Lx) (h3 : vp_in (y + 3) Lx) (k : ∀ iv' av' jv' bv', onS rm (K + 10000) iv' av' jv' bv' → pz Lx xs 12 rt_149 (some .boolean) Q 399 [some (.ref 0), some (.ref 1), some (.ref 54), some (.int y)] [] (wX rm iv' av' (wM rm jv' bv'))) : pz Lx xs 12 rt_149 (some .boolean) Q 151 [some (.ref 0), some (.ref 1), some (.ref 54), some (.int y)] [] (wX rm iv av (wM rm jv bv)) := by
  obtain ⟨a, hx, hm, hi⟩ := hS
  refine pz_aln (i := 151) rfl rfl ?_
  refine pz_aln (i := 152) rfl rfl ?_
  refine pz_iln (i := 153) rfl rfl ?_
  refine pz_ic (i := 154) rfl ?_
  refine pz_add (i := 155) rfl ?_
  refine pz_ia0 (i := 156) rfl h1 ?_
  refine pz_cI1 (i := 157) rfl (gc_1 ..) rfl (Nat.le_of_ble_eq_true rfl) rfl ?_
  refine sx_read hr hx (fun iv1 av1 hx1 => ?_)
  refine ⟨_, rfl, ?_⟩
  refine pz_aln (i := 158) rfl rfl ?_
  refine pz_aln (i := 159) rfl rfl ?_
  refine pz_iln (i := 160) rfl rfl ?_
  refine pz_ic (i := 161) rfl ?_
  refine pz_add (i := 162) rfl ?_
  refine pz_ia0 (i := 163) rfl h1 ?_
  refine pz_cI1 (i := 164) rfl (gc_54 ..) rfl (Nat.le_of_ble_eq_true rfl) rfl ?_
  refine sm_read hr hm (fun jv1 bv1 hm1 => ?_)
  refine ⟨_, rfl, ?_⟩
  refine pz_ii_eq (i := 165) rfl (fun c165 => ?_) (fun c165 => ?_)
  · exact k iv1 av1 jv1 bv1 ⟨_, hx1, hm1, inV_up hi⟩
  · exact absurd rfl c165
set_option maxRecDepth 20000 in
theorem lw_next (hr : 512 ≤ rm ∧ rm ≤ 4096) (hb : K + 10000 < 2 ^ 30 - 6000) (hS : onS rm K iv av jv bv) (h1 : vp_in (y + 1) Lx) (h2 : vp_in (y + 2) Lx) (h3 : vp_in (y + 3) Lx) (k : ∀ iv' av' jv' bv', onS rm (K + 10000) iv' av' jv' bv' → pz Lx xs 12 rt_149 (some .boolean) Q 399 [some (.ref 0), some (.ref 1), some (.ref 54), some (.int y)] [] (wX rm iv' av' (wM rm jv' bv'))) : pz Lx xs 12 rt_149 (some .boolean) Q 168 [some (.ref 0), some (.ref 1), some (.ref 54), some (.int y)] [] (wX rm iv av (wM rm jv bv)) := by
  obtain ⟨a, hx, hm, hi⟩ := hS
  refine pz_aln (i := 168) rfl rfl ?_
  refine pz_aln (i := 169) rfl rfl ?_
  refine pz_iln (i := 170) rfl rfl ?_
  refine pz_ic (i := 171) rfl ?_
  refine pz_add (i := 172) rfl ?_
  refine pz_ia0 (i := 173) rfl h1 ?_
  refine pz_cI1 (i := 174) rfl (gc_1 ..) rfl (Nat.le_of_ble_eq_true rfl) rfl ?_
  refine sx_next hr hx (inV_wB hr hb hi) (fun iv1 av1 hx1 => ?_)
  refine ⟨_, rfl, ?_⟩
  refine pz_aln (i := 175) rfl rfl ?_
  refine pz_aln (i := 176) rfl rfl ?_
  refine pz_iln (i := 177) rfl rfl ?_
  refine pz_ic (i := 178) rfl ?_
  refine pz_add (i := 179) rfl ?_
  refine pz_ia0 (i := 180) rfl h1 ?_
  refine pz_cI1 (i := 181) rfl (gc_54 ..) rfl (Nat.le_of_ble_eq_true rfl) rfl ?_
  refine sm_next hr hm (inV_wB hr hb hi) (fun jv1 bv1 hm1 => ?_)
  refine ⟨_, rfl, ?_⟩
  refine pz_ii_eq (i := 182) rfl (fun c182 => ?_) (fun c182 => ?_)
  · exact k iv1 av1 jv1 bv1 ⟨_, hx1, hm1, inV_up (show inV rm K (aNext _ a).2 by unfold aNext; split <;> exact hi)⟩
  · exact absurd rfl c182
set_option maxRecDepth 20000 in
theorem lw_sync (hr : 512 ≤ rm ∧ rm ≤ 4096) (hb : K + 10000 < 2 ^ 30 - 6000) (hS : onS rm K iv av jv bv) (h1 : vp_in (y + 1) Lx) (h2 : vp_in (y + 2) Lx) (h3 : vp_in (y + 3) Lx) (k : ∀ iv' av' jv' bv', onS rm (K + 10000) iv' av' jv' bv' → pz Lx xs 12 rt_149 (some .boolean) Q 399 [some (.ref 0), some (.ref 1), some (.ref 54), some (.int y)] [] (wX rm iv' av' (wM rm jv' bv'))) : pz Lx xs 12 rt_149 (some .boolean) Q 185 [some (.ref 0), some (.ref 1), some (.ref 54), some (.int y)] [] (wX rm iv av (wM rm jv bv)) := by
  obtain ⟨a, hx, hm, hi⟩ := hS
  refine pz_aln (i := 185) rfl rfl ?_
  refine pz_cI0 (i := 186) rfl (gc_1 ..) rfl (Nat.le_of_ble_eq_true rfl) rfl ?_
  refine sx_syncF hr hx (fun iv1 av1 hx1 => ?_)
  refine ⟨_, rfl, ?_⟩
  refine pz_aln (i := 187) rfl rfl ?_
  refine pz_cI0 (i := 188) rfl (gc_54 ..) rfl (Nat.le_of_ble_eq_true rfl) rfl ?_
  refine sm_sync hr hm (fun jv1 bv1 hm1 => ?_)
  refine ⟨_, rfl, ?_⟩
  refine pz_ii_eq (i := 189) rfl (fun c189 => ?_) (fun c189 => ?_)
  · exact k iv1 av1 jv1 bv1 ⟨_, hx1, hm1, inV_up (inV_sync hb hi)⟩
  · exact absurd rfl c189
set_option maxRecDepth 20000 in
theorem lw_checkpoint (hr : 512 ≤ rm ∧ rm ≤ 4096) (hb : K + 10000 < 2 ^ 30 - 6000) (hS : onS rm K iv av jv bv) (h1 : vp_in (y + 1) Lx) (h2 : vp_in (y + 2) Lx) (h3 : vp_in (y + 3) Lx) (k : ∀ iv' av' jv' bv', onS rm (K + 10000) iv' av' jv' bv' → pz Lx xs 12 rt_149 (some .boolean) Q 399 [some (.ref 0), some (.ref 1), some (.ref 54), some (.int y)] [] (wX rm iv' av' (wM rm jv' bv'))) : pz Lx xs 12 rt_149 (some .boolean) Q 192 [some (.ref 0), some (.ref 1), some (.ref 54), some (.int y)] [] (wX rm iv av (wM rm jv bv)) := by
  obtain ⟨a, hx, hm, hi⟩ := hS
  refine pz_aln (i := 192) rfl rfl ?_
  refine pz_cI0 (i := 193) rfl (gc_1 ..) rfl (Nat.le_of_ble_eq_true rfl) rfl ?_
  refine sx_checkpointF hr hx (inV_wB hr hb hi) (fun iv1 av1 hx1 => ?_)
  refine ⟨_, rfl, ?_⟩
  refine pz_aln (i := 194) rfl rfl ?_
  refine pz_cI0 (i := 195) rfl (gc_54 ..) rfl (Nat.le_of_ble_eq_true rfl) rfl ?_
  refine sm_checkpoint hr hm (inV_wB hr hb hi) (fun jv1 bv1 hm1 => ?_)
  refine ⟨_, rfl, ?_⟩
  refine pz_ii_eq (i := 196) rfl (fun c196 => ?_) (fun c196 => ?_)
  · exact k iv1 av1 jv1 bv1 ⟨_, hx1, hm1, inV_checkpoint hr hb hi⟩
  · exact absurd rfl c196
set_option maxRecDepth 20000 in
theorem lw_collect (hr : 512 ≤ rm ∧ rm ≤ 4096) (hb : K + 10000 < 2 ^ 30 - 6000) (hS : onS rm K iv av jv bv) (h1 : vp_in (y + 1) Lx) (h2 : vp_in (y + 2) Lx) (h3 : vp_in (y + 3) Lx) (k : ∀ iv' av' jv' bv', onS rm (K + 10000) iv' av' jv' bv' → pz Lx xs 12 rt_149 (some .boolean) Q 399 [some (.ref 0), some (.ref 1), some (.ref 54), some (.int y)] [] (wX rm iv' av' (wM rm jv' bv'))) : pz Lx xs 12 rt_149 (some .boolean) Q 199 [some (.ref 0), some (.ref 1), some (.ref 54), some (.int y)] [] (wX rm iv av (wM rm jv bv)) := by
  obtain ⟨a, hx, hm, hi⟩ := hS
  refine pz_aln (i := 199) rfl rfl ?_
  refine pz_aln (i := 200) rfl rfl ?_
  refine pz_iln (i := 201) rfl rfl ?_
  refine pz_ic (i := 202) rfl ?_
  refine pz_add (i := 203) rfl ?_
  refine pz_ia0 (i := 204) rfl h1 ?_
  refine pz_cI1 (i := 205) rfl (gc_1 ..) rfl (Nat.le_of_ble_eq_true rfl) rfl ?_
  refine sx_collectF hr hx (inV_wB hr hb hi) (inV_cl hr hb hi) (fun iv1 av1 hx1 => ?_)
  refine ⟨_, rfl, ?_⟩
  refine pz_aln (i := 206) rfl rfl ?_
  refine pz_aln (i := 207) rfl rfl ?_
  refine pz_iln (i := 208) rfl rfl ?_
  refine pz_ic (i := 209) rfl ?_
  refine pz_add (i := 210) rfl ?_
  refine pz_ia0 (i := 211) rfl h1 ?_
  refine pz_cI1 (i := 212) rfl (gc_54 ..) rfl (Nat.le_of_ble_eq_true rfl) rfl ?_
  refine sm_collect hr hm (inV_cl hr hb hi) (fun jv1 bv1 hm1 => ?_)
  refine ⟨_, rfl, ?_⟩
  refine pz_ii_eq (i := 213) rfl (fun c213 => ?_) (fun c213 => ?_)
  · exact k iv1 av1 jv1 bv1 ⟨_, hx1, hm1, inV_collect hr hb hi⟩
  · exact absurd rfl c213
set_option maxRecDepth 20000 in
theorem lw_crash (hr : 512 ≤ rm ∧ rm ≤ 4096) (hb : K + 10000 < 2 ^ 30 - 6000) (hS : onS rm K iv av jv bv) (h1 : vp_in (y + 1) Lx) (h2 : vp_in (y + 2) Lx) (h3 : vp_in (y + 3) Lx) (k : ∀ iv' av' jv' bv', onS rm (K + 10000) iv' av' jv' bv' → pz Lx xs 12 rt_149 (some .boolean) Q 399 [some (.ref 0), some (.ref 1), some (.ref 54), some (.int y)] [] (wX rm iv' av' (wM rm jv' bv'))) : pz Lx xs 12 rt_149 (some .boolean) Q 216 [some (.ref 0), some (.ref 1), some (.ref 54), some (.int y)] [] (wX rm iv av (wM rm jv bv)) := by
  obtain ⟨a, hx, hm, hi⟩ := hS
  refine pz_aln (i := 216) rfl rfl ?_
  refine pz_aln (i := 217) rfl rfl ?_
  refine pz_iln (i := 218) rfl rfl ?_
  refine pz_ic (i := 219) rfl ?_
  refine pz_add (i := 220) rfl ?_
  refine pz_ia0 (i := 221) rfl h1 ?_
  refine pz_aln (i := 222) rfl rfl ?_
  refine pz_iln (i := 223) rfl rfl ?_
  refine pz_ic (i := 224) rfl ?_
  refine pz_add (i := 225) rfl ?_
  refine pz_ia0 (i := 226) rfl h2 ?_
  refine pz_cI2 (i := 227) rfl (gc_1 ..) rfl (Nat.le_of_ble_eq_true rfl) rfl ?_
  refine sx_crash hr hx (fun iv1 av1 hx1 => ?_)
  refine ⟨_, rfl, ?_⟩
  refine pz_aln (i := 228) rfl rfl ?_
  refine pz_aln (i := 229) rfl rfl ?_
  refine pz_iln (i := 230) rfl rfl ?_
  refine pz_ic (i := 231) rfl ?_
  refine pz_add (i := 232) rfl ?_
  refine pz_ia0 (i := 233) rfl h1 ?_
  refine pz_aln (i := 234) rfl rfl ?_
  refine pz_iln (i := 235) rfl rfl ?_
  refine pz_ic (i := 236) rfl ?_
  refine pz_add (i := 237) rfl ?_
  refine pz_ia0 (i := 238) rfl h2 ?_
  refine pz_cI2 (i := 239) rfl (gc_54 ..) rfl (Nat.le_of_ble_eq_true rfl) rfl ?_
  refine sm_crash hr hm (fun jv1 bv1 hm1 => ?_)
  refine ⟨_, rfl, ?_⟩
  refine pz_ii_eq (i := 240) rfl (fun c240 => ?_) (fun c240 => ?_)
  · exact k iv1 av1 jv1 bv1 ⟨_, hx1, hm1, inV_up (inV_crash hi)⟩
  · exact absurd rfl c240
set_option maxRecDepth 20000 in
theorem lw_fail (hr : 512 ≤ rm ∧ rm ≤ 4096) (hb : K + 10000 < 2 ^ 30 - 6000) (hS : onS rm K iv av jv bv) (h1 : vp_in (y + 1) Lx) (h2 : vp_in (y + 2) Lx) (h3 : vp_in (y + 3) Lx) (k : ∀ iv' av' jv' bv', onS rm (K + 10000) iv' av' jv' bv' → pz Lx xs 12 rt_149 (some .boolean) Q 399 [some (.ref 0), some (.ref 1), some (.ref 54), some (.int y)] [] (wX rm iv' av' (wM rm jv' bv'))) : pz Lx xs 12 rt_149 (some .boolean) Q 243 [some (.ref 0), some (.ref 1), some (.ref 54), some (.int y)] [] (wX rm iv av (wM rm jv bv)) := by
  obtain ⟨a, hx, hm, hi⟩ := hS
  refine pz_aln (i := 243) rfl rfl ?_
  refine pz_aln (i := 244) rfl rfl ?_
  refine pz_iln (i := 245) rfl rfl ?_
  refine pz_ic (i := 246) rfl ?_
  refine pz_add (i := 247) rfl ?_
  refine pz_ia0 (i := 248) rfl h1 ?_
  refine pz_aln (i := 249) rfl rfl ?_
  refine pz_iln (i := 250) rfl rfl ?_
  refine pz_ic (i := 251) rfl ?_
  refine pz_add (i := 252) rfl ?_
  refine pz_ia0 (i := 253) rfl h2 ?_
  refine pz_aln (i := 254) rfl rfl ?_
  refine pz_iln (i := 255) rfl rfl ?_
  refine pz_ic (i := 256) rfl ?_
  refine pz_add (i := 257) rfl ?_
  refine pz_ia0 (i := 258) rfl h3 ?_
  refine pz_cI3 (i := 259) rfl (gc_1 ..) rfl (Nat.le_of_ble_eq_true rfl) rfl ?_
  refine sx_fail hr hx (fun iv1 av1 hx1 => ?_)
  refine ⟨_, rfl, ?_⟩
  refine pz_aln (i := 260) rfl rfl ?_
  refine pz_aln (i := 261) rfl rfl ?_
  refine pz_iln (i := 262) rfl rfl ?_
  refine pz_ic (i := 263) rfl ?_
  refine pz_add (i := 264) rfl ?_
  refine pz_ia0 (i := 265) rfl h1 ?_
  refine pz_aln (i := 266) rfl rfl ?_
  refine pz_iln (i := 267) rfl rfl ?_
  refine pz_ic (i := 268) rfl ?_
  refine pz_add (i := 269) rfl ?_
  refine pz_ia0 (i := 270) rfl h2 ?_
  refine pz_aln (i := 271) rfl rfl ?_
  refine pz_iln (i := 272) rfl rfl ?_
  refine pz_ic (i := 273) rfl ?_
  refine pz_add (i := 274) rfl ?_
  refine pz_ia0 (i := 275) rfl h3 ?_
  refine pz_cI3 (i := 276) rfl (gc_54 ..) rfl (Nat.le_of_ble_eq_true rfl) rfl ?_
  refine sm_fail hr hm (fun jv1 bv1 hm1 => ?_)
  refine ⟨_, rfl, ?_⟩
  refine pz_ii_eq (i := 277) rfl (fun c277 => ?_) (fun c277 => ?_)
  · exact k iv1 av1 jv1 bv1 ⟨_, hx1, hm1, inV_up (inV_fail hi)⟩
  · exact absurd rfl c277
set_option maxRecDepth 20000 in
theorem lw_spare (hr : 512 ≤ rm ∧ rm ≤ 4096) (hb : K + 10000 < 2 ^ 30 - 6000) (hS : onS rm K iv av jv bv) (h1 : vp_in (y + 1) Lx) (h2 : vp_in (y + 2) Lx) (h3 : vp_in (y + 3) Lx) (k : ∀ iv' av' jv' bv', onS rm (K + 10000) iv' av' jv' bv' → pz Lx xs 12 rt_149 (some .boolean) Q 399 [some (.ref 0), some (.ref 1), some (.ref 54), some (.int y)] [] (wX rm iv' av' (wM rm jv' bv'))) : pz Lx xs 12 rt_149 (some .boolean) Q 280 [some (.ref 0), some (.ref 1), some (.ref 54), some (.int y)] [] (wX rm iv av (wM rm jv bv)) := by
  obtain ⟨a, hx, hm, hi⟩ := hS
  refine pz_aln (i := 280) rfl rfl ?_
  refine pz_cI0 (i := 281) rfl (gc_1 ..) rfl (Nat.le_of_ble_eq_true rfl) rfl ?_
  refine sx_spare hr hx (fun iv1 av1 hx1 => ?_)
  refine ⟨_, rfl, ?_⟩
  refine pz_aln (i := 282) rfl rfl ?_
  refine pz_cI0 (i := 283) rfl (gc_54 ..) rfl (Nat.le_of_ble_eq_true rfl) rfl ?_
  refine sm_spare hr hm (fun jv1 bv1 hm1 => ?_)
  refine ⟨_, rfl, ?_⟩
  refine pz_ii_eq (i := 284) rfl (fun c284 => ?_) (fun c284 => ?_)
  · exact k iv1 av1 jv1 bv1 ⟨_, hx1, hm1, inV_up (inV_spare hi)⟩
  · exact absurd rfl c284
set_option maxRecDepth 20000 in
theorem lw_open (hr : 512 ≤ rm ∧ rm ≤ 4096) (hb : K + 10000 < 2 ^ 30 - 6000) (hS : onS rm K iv av jv bv) (h1 : vp_in (y + 1) Lx) (h2 : vp_in (y + 2) Lx) (h3 : vp_in (y + 3) Lx) (k : ∀ iv' av' jv' bv', onS rm (K + 10000) iv' av' jv' bv' → pz Lx xs 12 rt_149 (some .boolean) Q 399 [some (.ref 0), some (.ref 1), some (.ref 54), some (.int y)] [] (wX rm iv' av' (wM rm jv' bv'))) : pz Lx xs 12 rt_149 (some .boolean) Q 287 [some (.ref 0), some (.ref 1), some (.ref 54), some (.int y)] [] (wX rm iv av (wM rm jv bv)) := by
  obtain ⟨a, hx, hm, hi⟩ := hS
  obtain ⟨Wv, all, lg, hO, hV⟩ : ∃ Wv all lg, (dwn a = true → rtI rm (cu rm a.1.1) Wv ∧ lgI rm (cu rm a.1.1) Wv all) ∧ inV rm K (aOpen rm Wv all lg a).2 := by
    by_cases hd : dwn a = true
    · obtain ⟨Wv, all, lg, g1, g2, g3, _⟩ := inV_open hr hb hi hd
      exact ⟨Wv, all, lg, fun _ => ⟨g1, g2⟩, g3⟩
    · refine ⟨w00, [], [], fun w => absurd w hd, ?_⟩
      unfold aOpen
      rw [if_neg hd]
      exact hi
  refine pz_aln (i := 287) rfl rfl ?_
  refine pz_cI0 (i := 288) rfl (gc_1 ..) rfl (Nat.le_of_ble_eq_true rfl) rfl ?_
  refine sx_open hr (W := Wv) (all := all) (lg := lg) hx (fun w => ⟨(hi.2.1 w).2.1, hO w⟩) (fun iv1 av1 hx1 => ?_)
  refine ⟨_, rfl, ?_⟩
  refine pz_aln (i := 289) rfl rfl ?_
  refine pz_cI0 (i := 290) rfl (gc_54 ..) rfl (Nat.le_of_ble_eq_true rfl) rfl ?_
  refine sm_open hr (Wv := Wv) (all := all) (lg := lg) hm (fun w => ⟨(hi.2.1 w).2.1, (hi.2.1 w).2.2, hO w⟩) (fun jv1 bv1 hm1 => ?_)
  refine ⟨_, rfl, ?_⟩
  refine pz_ii_eq (i := 291) rfl (fun c291 => ?_) (fun c291 => ?_)
  · exact k iv1 av1 jv1 bv1 ⟨_, hx1, hm1, inV_up hV⟩
  · exact absurd rfl c291
set_option maxRecDepth 20000 in
theorem lw_told (hr : 512 ≤ rm ∧ rm ≤ 4096) (hb : K + 10000 < 2 ^ 30 - 6000) (hS : onS rm K iv av jv bv) (h1 : vp_in (y + 1) Lx) (h2 : vp_in (y + 2) Lx) (h3 : vp_in (y + 3) Lx) (k : ∀ iv' av' jv' bv', onS rm (K + 10000) iv' av' jv' bv' → pz Lx xs 12 rt_149 (some .boolean) Q 399 [some (.ref 0), some (.ref 1), some (.ref 54), some (.int y)] [] (wX rm iv' av' (wM rm jv' bv'))) : pz Lx xs 12 rt_149 (some .boolean) Q 294 [some (.ref 0), some (.ref 1), some (.ref 54), some (.int y)] [] (wX rm iv av (wM rm jv bv)) := by
  obtain ⟨a, hx, hm, hi⟩ := hS
  refine pz_aln (i := 294) rfl rfl ?_
  refine pz_aln (i := 295) rfl rfl ?_
  refine pz_iln (i := 296) rfl rfl ?_
  refine pz_ic (i := 297) rfl ?_
  refine pz_add (i := 298) rfl ?_
  refine pz_ia0 (i := 299) rfl h1 ?_
  refine pz_cI1 (i := 300) rfl (gc_1 ..) rfl (Nat.le_of_ble_eq_true rfl) rfl ?_
  refine sx_told hr hx (inV_wB hr hb hi) (fun iv1 av1 hx1 => ?_)
  refine ⟨_, rfl, ?_⟩
  refine pz_aln (i := 301) rfl rfl ?_
  refine pz_aln (i := 302) rfl rfl ?_
  refine pz_iln (i := 303) rfl rfl ?_
  refine pz_ic (i := 304) rfl ?_
  refine pz_add (i := 305) rfl ?_
  refine pz_ia0 (i := 306) rfl h1 ?_
  refine pz_cI1 (i := 307) rfl (gc_54 ..) rfl (Nat.le_of_ble_eq_true rfl) rfl ?_
  refine sm_told hr hm (inV_wB hr hb hi) (fun jv1 bv1 hm1 => ?_)
  refine ⟨_, rfl, ?_⟩
  refine pz_ii_eq (i := 308) rfl (fun c308 => ?_) (fun c308 => ?_)
  · exact k iv1 av1 jv1 bv1 ⟨_, hx1, hm1, inV_up hi⟩
  · exact absurd rfl c308
set_option maxRecDepth 20000 in
theorem lw_table (hr : 512 ≤ rm ∧ rm ≤ 4096) (hb : K + 10000 < 2 ^ 30 - 6000) (hS : onS rm K iv av jv bv) (h1 : vp_in (y + 1) Lx) (h2 : vp_in (y + 2) Lx) (h3 : vp_in (y + 3) Lx) (k : ∀ iv' av' jv' bv', onS rm (K + 10000) iv' av' jv' bv' → pz Lx xs 12 rt_149 (some .boolean) Q 399 [some (.ref 0), some (.ref 1), some (.ref 54), some (.int y)] [] (wX rm iv' av' (wM rm jv' bv'))) : pz Lx xs 12 rt_149 (some .boolean) Q 311 [some (.ref 0), some (.ref 1), some (.ref 54), some (.int y)] [] (wX rm iv av (wM rm jv bv)) := by
  obtain ⟨a, hx, hm, hi⟩ := hS
  refine pz_aln (i := 311) rfl rfl ?_
  refine pz_aln (i := 312) rfl rfl ?_
  refine pz_iln (i := 313) rfl rfl ?_
  refine pz_ic (i := 314) rfl ?_
  refine pz_add (i := 315) rfl ?_
  refine pz_ia0 (i := 316) rfl h1 ?_
  refine pz_aln (i := 317) rfl rfl ?_
  refine pz_iln (i := 318) rfl rfl ?_
  refine pz_ic (i := 319) rfl ?_
  refine pz_add (i := 320) rfl ?_
  refine pz_ia0 (i := 321) rfl h2 ?_
  refine pz_cI2 (i := 322) rfl (gc_1 ..) rfl (Nat.le_of_ble_eq_true rfl) rfl ?_
  refine sx_table hr hx (inV_wB hr hb hi) (inV_kS hi) (fun iv1 av1 hx1 => ?_)
  refine ⟨_, rfl, ?_⟩
  refine pz_aln (i := 323) rfl rfl ?_
  refine pz_aln (i := 324) rfl rfl ?_
  refine pz_iln (i := 325) rfl rfl ?_
  refine pz_ic (i := 326) rfl ?_
  refine pz_add (i := 327) rfl ?_
  refine pz_ia0 (i := 328) rfl h1 ?_
  refine pz_aln (i := 329) rfl rfl ?_
  refine pz_iln (i := 330) rfl rfl ?_
  refine pz_ic (i := 331) rfl ?_
  refine pz_add (i := 332) rfl ?_
  refine pz_ia0 (i := 333) rfl h2 ?_
  refine pz_cI2 (i := 334) rfl (gc_54 ..) rfl (Nat.le_of_ble_eq_true rfl) rfl ?_
  refine sm_table hr hm (inV_wB hr hb hi) (inV_kS hi) (fun jv1 bv1 hm1 => ?_)
  refine ⟨_, rfl, ?_⟩
  refine pz_ii_eq (i := 335) rfl (fun c335 => ?_) (fun c335 => ?_)
  · exact k iv1 av1 jv1 bv1 ⟨_, hx1, hm1, inV_up hi⟩
  · exact absurd rfl c335
set_option maxRecDepth 20000 in
theorem lw_entry (hr : 512 ≤ rm ∧ rm ≤ 4096) (hb : K + 10000 < 2 ^ 30 - 6000) (hS : onS rm K iv av jv bv) (h1 : vp_in (y + 1) Lx) (h2 : vp_in (y + 2) Lx) (h3 : vp_in (y + 3) Lx) (k : ∀ iv' av' jv' bv', onS rm (K + 10000) iv' av' jv' bv' → pz Lx xs 12 rt_149 (some .boolean) Q 399 [some (.ref 0), some (.ref 1), some (.ref 54), some (.int y)] [] (wX rm iv' av' (wM rm jv' bv'))) : pz Lx xs 12 rt_149 (some .boolean) Q 338 [some (.ref 0), some (.ref 1), some (.ref 54), some (.int y)] [] (wX rm iv av (wM rm jv bv)) := by
  obtain ⟨a, hx, hm, hi⟩ := hS
  refine pz_aln (i := 338) rfl rfl ?_
  refine pz_aln (i := 339) rfl rfl ?_
  refine pz_iln (i := 340) rfl rfl ?_
  refine pz_ic (i := 341) rfl ?_
  refine pz_add (i := 342) rfl ?_
  refine pz_ia0 (i := 343) rfl h1 ?_
  refine pz_aln (i := 344) rfl rfl ?_
  refine pz_iln (i := 345) rfl rfl ?_
  refine pz_ic (i := 346) rfl ?_
  refine pz_add (i := 347) rfl ?_
  refine pz_ia0 (i := 348) rfl h2 ?_
  refine pz_cI2 (i := 349) rfl (gc_1 ..) rfl (Nat.le_of_ble_eq_true rfl) rfl ?_
  refine sx_entry hr hx (inV_wB hr hb hi) (fun iv1 av1 hx1 => ?_)
  refine ⟨_, rfl, ?_⟩
  refine pz_aln (i := 350) rfl rfl ?_
  refine pz_aln (i := 351) rfl rfl ?_
  refine pz_iln (i := 352) rfl rfl ?_
  refine pz_ic (i := 353) rfl ?_
  refine pz_add (i := 354) rfl ?_
  refine pz_ia0 (i := 355) rfl h1 ?_
  refine pz_aln (i := 356) rfl rfl ?_
  refine pz_iln (i := 357) rfl rfl ?_
  refine pz_ic (i := 358) rfl ?_
  refine pz_add (i := 359) rfl ?_
  refine pz_ia0 (i := 360) rfl h2 ?_
  refine pz_cI2 (i := 361) rfl (gc_54 ..) rfl (Nat.le_of_ble_eq_true rfl) rfl ?_
  refine sm_entry hr hm (inV_wB hr hb hi) (fun jv1 bv1 hm1 => ?_)
  refine ⟨_, rfl, ?_⟩
  refine pz_ii_eq (i := 362) rfl (fun c362 => ?_) (fun c362 => ?_)
  · exact k iv1 av1 jv1 bv1 ⟨_, hx1, hm1, inV_up hi⟩
  · exact absurd rfl c362
set_option maxRecDepth 20000 in
theorem lw_cell (hr : 512 ≤ rm ∧ rm ≤ 4096) (hb : K + 10000 < 2 ^ 30 - 6000) (hS : onS rm K iv av jv bv) (h1 : vp_in (y + 1) Lx) (h2 : vp_in (y + 2) Lx) (h3 : vp_in (y + 3) Lx) (k : ∀ iv' av' jv' bv', onS rm (K + 10000) iv' av' jv' bv' → pz Lx xs 12 rt_149 (some .boolean) Q 399 [some (.ref 0), some (.ref 1), some (.ref 54), some (.int y)] [] (wX rm iv' av' (wM rm jv' bv'))) : pz Lx xs 12 rt_149 (some .boolean) Q 365 [some (.ref 0), some (.ref 1), some (.ref 54), some (.int y)] [] (wX rm iv av (wM rm jv bv)) := by
  obtain ⟨a, hx, hm, hi⟩ := hS
  refine pz_aln (i := 365) rfl rfl ?_
  refine pz_aln (i := 366) rfl rfl ?_
  refine pz_iln (i := 367) rfl rfl ?_
  refine pz_ic (i := 368) rfl ?_
  refine pz_add (i := 369) rfl ?_
  refine pz_ia0 (i := 370) rfl h1 ?_
  refine pz_aln (i := 371) rfl rfl ?_
  refine pz_iln (i := 372) rfl rfl ?_
  refine pz_ic (i := 373) rfl ?_
  refine pz_add (i := 374) rfl ?_
  refine pz_ia0 (i := 375) rfl h2 ?_
  refine pz_cI2 (i := 376) rfl (gc_1 ..) rfl (Nat.le_of_ble_eq_true rfl) rfl ?_
  refine sx_cell hr hx (fun iv1 av1 hx1 => ?_)
  refine ⟨_, rfl, ?_⟩
  refine pz_aln (i := 377) rfl rfl ?_
  refine pz_aln (i := 378) rfl rfl ?_
  refine pz_iln (i := 379) rfl rfl ?_
  refine pz_ic (i := 380) rfl ?_
  refine pz_add (i := 381) rfl ?_
  refine pz_ia0 (i := 382) rfl h1 ?_
  refine pz_aln (i := 383) rfl rfl ?_
  refine pz_iln (i := 384) rfl rfl ?_
  refine pz_ic (i := 385) rfl ?_
  refine pz_add (i := 386) rfl ?_
  refine pz_ia0 (i := 387) rfl h2 ?_
  refine pz_cI2 (i := 388) rfl (gc_54 ..) rfl (Nat.le_of_ble_eq_true rfl) rfl ?_
  refine sm_cell hr hm (fun jv1 bv1 hm1 => ?_)
  refine ⟨_, rfl, ?_⟩
  refine pz_ii_eq (i := 389) rfl (fun c389 => ?_) (fun c389 => ?_)
  · exact k iv1 av1 jv1 bv1 ⟨_, hx1, hm1, inV_up hi⟩
  · exact absurd rfl c389
set_option maxRecDepth 20000 in
theorem lw_check (hr : 512 ≤ rm ∧ rm ≤ 4096) (hb : K + 10000 < 2 ^ 30 - 6000) (hS : onS rm K iv av jv bv) (h1 : vp_in (y + 1) Lx) (h2 : vp_in (y + 2) Lx) (h3 : vp_in (y + 3) Lx) (k : ∀ iv' av' jv' bv', onS rm (K + 10000) iv' av' jv' bv' → pz Lx xs 12 rt_149 (some .boolean) Q 399 [some (.ref 0), some (.ref 1), some (.ref 54), some (.int y)] [] (wX rm iv' av' (wM rm jv' bv'))) : pz Lx xs 12 rt_149 (some .boolean) Q 392 [some (.ref 0), some (.ref 1), some (.ref 54), some (.int y)] [] (wX rm iv av (wM rm jv bv)) := by
  obtain ⟨a, hx, hm, hi⟩ := hS
  refine pz_aln (i := 392) rfl rfl ?_
  refine pz_cI0 (i := 393) rfl (gc_1 ..) rfl (Nat.le_of_ble_eq_true rfl) rfl ?_
  refine sx_checkF hr hx (inV_wB hr hb hi) (inV_wE hi) (inV_rt hb hi) (fun iv1 av1 hx1 => ?_)
  refine ⟨_, rfl, ?_⟩
  refine pz_aln (i := 394) rfl rfl ?_
  refine pz_cI0 (i := 395) rfl (gc_54 ..) rfl (Nat.le_of_ble_eq_true rfl) rfl ?_
  refine sm_check hr hm (fun jv1 bv1 hm1 => ?_)
  refine ⟨_, rfl, ?_⟩
  refine pz_ii_eq (i := 396) rfl (fun c396 => ?_) (fun c396 => ?_)
  · exact k iv1 av1 jv1 bv1 ⟨_, hx1, hm1, inV_up hi⟩
  · exact absurd rfl c396
end SC4
