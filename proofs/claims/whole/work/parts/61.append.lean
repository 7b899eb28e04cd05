/-! PART 61: Keeper.append -/
/-- room for k writes of b bytes among those that are not lasting -/
def cp (s : dS) (k b : Nat) : Prop := s.2.2.2.2.2 = false → s.2.1.length + k ≤ 1024 ∧ tot s.2.1 + b ≤ 8192
theorem wr_al {s : dS} {x : wR} (h : (wr s x).2.2.2.2.2 = false) : s.2.2.2.2.2 = false ∧ (wr s x).2.1 = s.2.1 ++ [x] := by
  unfold wr at h ⊢
  cases hs : s.2.2.2.2.2 with
  | true => rw [hs, if_pos rfl, hs] at h; cases h
  | false => exact ⟨rfl, by rw [if_neg (by decide)]⟩
theorem cp_wr {s : dS} {x : wR} {k b : Nat} (h : cp s (k + 1) (x.2.1 + b)) : cp (wr s x) k b := fun hz => by
  obtain ⟨h1, h2⟩ := wr_al hz
  obtain ⟨h3, h4⟩ := h h1
  rw [h2, List.length_append, tot_app]
  simp only [List.length_cons, List.length_nil]
  omega
theorem cp_le {s : dS} {k b k' b' : Nat} (h : cp s k b) (hk : k' ≤ k) (hb : b' ≤ b) : cp s k' b' := fun hz => by
  have := h hz
  omega
theorem lB_z (n j : Nat) : lB (List.replicate n 0) j = 0 := by
  unfold lB
  have : (List.replicate n 0).getD j 0 = 0 := by
    rw [List.getD_eq_getElem?_getD]
    cases h : (List.replicate n 0)[j]? with
    | none => rfl
    | some x => exact (List.mem_replicate.mp (List.mem_of_getElem? h)).2
  rw [this]
  rfl
def z12 : List Nat := List.replicate 12 0
/-- the header of a record -/
def hdB (k key len n : Nat) : List Nat := k :: key :: len :: 0 :: (n4 n ++ n4 n)
theorem kd_and {kd gg : Nat} (h : kd < 3) (hg : gg = 0 ∨ gg = 128) : nI (kd + gg) &&& (-129) = nI kd := by
  have : kd = 0 ∨ kd = 1 ∨ kd = 2 := by omega
  rcases this with rfl | rfl | rfl <;> rcases hg with rfl | rfl <;> decide
/-- the disk behind an append -/
def apS (rm : Nat) (s : dS) (k key : Nat) (val : List Nat) (h n : Nat) : dS :=
  wr (if val.length = 0 then wr s (wL ((h + 12 + val.length) % rm) z12) else wr (wr s (wL ((h + 12 + val.length) % rm) z12)) (wL ((h + 12) % rm) val)) (wL (h % rm) (hdB k key val.length n))
/-- the view behind it -/
def apV (V : vW) (kd key len : Nat) : vW := (V.1, upM V.2.1 key (kd, V.2.2 6, V.2.2 5), vs (vs V.2.2 5 (V.2.2 5 + 12 + len)) 6 (V.2.2 6 + 1))
theorem wokL {rm q : Nat} (hr : 0 < rm) {l : List Nat} (hl : l.length ≤ rm) : wok rm (wL (q % rm) l) := Or.inl ⟨Nat.mod_lt _ hr, hl⟩
section S61
variable {Lx : Nat} {xs : Nat → Int32} {d rm : Nat} {iv : Nat → Int32} {av : Nat → Nat → Int32} {r : pW} {Q : rQ}
set_option maxRecDepth 20000 in
theorem lp_ap3 (hr : 512 ≤ rm ∧ rm ≤ 4096) {kd gg key ρ len : Nat} (hkd : 0 < kd ∧ kd < 3) (hgg : gg = 0 ∨ gg = 128) (hkey : key < 120) (hlen : len ≤ 64) {V : vW} {s : dS} (hd : dX rm iv av s) (hV : vX 0 iv av V) (hz : kz av) (hc : cp s 1 12) (hb : V.2.2 5 < 2 ^ 30 - 200 ∧ V.2.2 6 < 2 ^ 30 - 200)
    (hQ : ∀ iv' av', dX rm iv' av' (wr s (wL (V.2.2 5 % rm) (hdB (kd + gg) key len (V.2.2 6)))) → vX 0 iv' av' (apV V kd key len) → kz av' → frI iv iv' [0, 1, 2, 5, 15, 16, 30] → frA av av' [0, 1, 2, 3, 10, 11, 12, 26] → Q none (wX rm iv' av' r)) : pz Lx xs (d + 2) rt_34 none Q 33 [some (.ref 13), some (.int (nI (kd + gg))), some (.int (nI key)), some (.ref (ρ + 1)), some (.int (nI len))] [] (wX rm iv av r) := by
  have hr' : 0 < rm ∧ rm ≤ 4096 := ⟨by omega, hr.2⟩
  have e15 : iv 15 = nI (V.2.2 5) := hV.2.2 5 (by decide) (by decide)
  have e16 : iv 16 = nI (V.2.2 6) := hV.2.2 6 (by decide) (by decide)
  refine pz_aln (i := 33) rfl rfl ?_
  refine pz_get (i := 34) rfl (gf_13_5 ..) ?_
  refine pz_ic (i := 35) rfl ?_
  refine pz_iln (i := 36) rfl rfl ?_
  refine pz_i2b (i := 37) rfl ?_
  refine pz_bas (i := 38) rfl (ga_20 ..) rfl (in_ofI (a := 0) (n := 12) (by decide)) (pa_20 ..) ?_
  refine pz_aln (i := 39) rfl rfl ?_
  refine pz_get (i := 40) rfl (gf_13_5 ..) ?_
  refine pz_ic (i := 41) rfl ?_
  refine pz_iln (i := 42) rfl rfl ?_
  refine pz_i2b (i := 43) rfl ?_
  refine pz_bas (i := 44) rfl (ga_20 ..) rfl (in_ofI (a := 1) (n := 12) (by decide)) (pa_20 ..) ?_
  refine pz_aln (i := 45) rfl rfl ?_
  refine pz_get (i := 46) rfl (gf_13_5 ..) ?_
  refine pz_ic (i := 47) rfl ?_
  refine pz_il (i := 48) rfl rfl ?_
  refine pz_i2b (i := 49) rfl ?_
  refine pz_bas (i := 50) rfl (ga_20 ..) rfl (in_ofI (a := 2) (n := 12) (by decide)) (pa_20 ..) ?_
  refine pz_aln (i := 51) rfl rfl ?_
  refine pz_get (i := 52) rfl (gf_13_5 ..) ?_
  refine pz_ic (i := 53) rfl ?_
  refine pz_aln (i := 54) rfl rfl ?_
  refine pz_get (i := 55) rfl (gf_13_1 ..) ?_
  refine pz_get (i := 56) rfl (gf_7_9 ..) ?_
  refine pz_sV3 (i := 57) rfl (by decide) (Nat.le_of_ble_eq_true rfl) rfl ?_
  refine sx_setH (q := 4) (by decide) ?_
  refine ⟨rfl, ?_⟩
  refine pz_aln (i := 58) rfl rfl ?_
  refine pz_get (i := 59) rfl (gf_13_5 ..) ?_
  refine pz_bi (i := 60) rfl ?_
  refine pz_aln (i := 61) rfl rfl ?_
  refine pz_get (i := 62) rfl (gf_13_1 ..) ?_
  refine pz_get (i := 63) rfl (gf_7_9 ..) ?_
  refine pz_sV3 (i := 64) rfl (by decide) (Nat.le_of_ble_eq_true rfl) rfl ?_
  refine sx_setH (q := 8) (by decide) ?_
  refine ⟨rfl, ?_⟩
  refine pz_aln (i := 65) rfl rfl ?_
  refine pz_get (i := 66) rfl (gf_13_0 ..) ?_
  refine pz_aln (i := 67) rfl rfl ?_
  refine pz_get (i := 68) rfl (gf_13_0 ..) ?_
  refine pz_aln (i := 69) rfl rfl ?_
  refine pz_get (i := 70) rfl (gf_13_1 ..) ?_
  refine pz_get (i := 71) rfl (gf_7_8 ..) ?_
  rw [e15]
  refine pz_cI1 (i := 72) rfl (gc_2 ..) rfl (Nat.le_of_ble_eq_true rfl) rfl ?_
  refine sx_logCell hr' (q := V.2.2 5) (by omega) ?_
  refine ⟨_, rfl, ?_⟩
  refine pz_aln (i := 73) rfl rfl ?_
  refine pz_get (i := 74) rfl (gf_13_5 ..) ?_
  refine pz_ic (i := 75) rfl ?_
  refine pz_bi (i := 76) rfl ?_
  refine pz_cV4 (i := 77) rfl (gc_2 ..) rfl (Nat.le_of_ble_eq_true rfl) rfl ?_
  refine sx_write hr' (ρ := 19) (a := 26) (na := 12) (from0 := 0) (n := 12) (g := lB (hdB (kd + gg) key len (V.2.2 6))) (fun _ _ => ga_20 ..) (by decide) (by decide) (by decide) (fun k hk => ?_) (lB_bt _) (wokL (l := hdB (kd + gg) key len (V.2.2 6)) hr'.1 (by show 12 ≤ rm; omega)) (s := s) (dX_ext hd (fun j hj => rfl) (fun j hj => ?_)) (fun h => ?_) (fun iv1 av1 hd1 fi1 fa1 => ?_)
  · rw [Nat.zero_add]
    have hcase : k = 0 ∨ k = 1 ∨ k = 2 ∨ k = 3 ∨ k = 4 ∨ k = 5 ∨ k = 6 ∨ k = 7 ∨ k = 8 ∨ k = 9 ∨ k = 10 ∨ k = 11 := by omega
    have huN : uN (iv 16) = V.2.2 6 := by rw [e16]; exact uN_nI (by omega)
    rcases hcase with rfl | rfl | rfl | rfl | rfl | rfl | rfl | rfl | rfl | rfl | rfl | rfl
    · exact pk_vb _
    · exact pk_vb _
    · exact pk_vb _
    · exact hz.2
    · show n3 (iv 16) = _; rw [n3_b, huN]; rfl
    · show n2 (iv 16) = _; rw [n2_b, huN]; rfl
    · show n1 (iv 16) = _; rw [n1_b, huN]; rfl
    · show n0 (iv 16) = _; rw [n0_b, huN]; rfl
    · show n3 (iv 16) = _; rw [n3_b, huN]; rfl
    · show n2 (iv 16) = _; rw [n2_b, huN]; rfl
    · show n1 (iv 16) = _; rw [n1_b, huN]; rfl
    · show n0 (iv 16) = _; rw [n0_b, huN]; rfl
  · rw [ua_n (by omega), ua_n (by omega), ua_n (by omega), ua_n (by omega), ua_n (by omega)]
  · have := hc h
    omega
  have f15 : iv1 15 = nI (V.2.2 5) := (fi1 15 (by decide)).trans e15
  have f16 : iv1 16 = nI (V.2.2 6) := (fi1 16 (by decide)).trans e16
  refine ⟨rfl, ?_⟩
  refine pz_aln (i := 78) rfl rfl ?_
  refine pz_get (i := 79) rfl (gf_13_1 ..) ?_
  refine pz_get (i := 80) rfl (gf_7_1 ..) ?_
  refine pz_iln (i := 81) rfl rfl ?_
  refine pz_iln (i := 82) rfl rfl ?_
  refine pz_si (i := 83) rfl ?_
  refine pz_and (i := 84) rfl ?_
  rw [kd_and hkd.2 hgg]
  refine pz_aln (i := 85) rfl rfl ?_
  refine pz_get (i := 86) rfl (gf_13_1 ..) ?_
  refine pz_get (i := 87) rfl (gf_7_9 ..) ?_
  rw [f16]
  refine pz_aln (i := 88) rfl rfl ?_
  refine pz_get (i := 89) rfl (gf_13_1 ..) ?_
  refine pz_get (i := 90) rfl (gf_7_8 ..) ?_
  rw [f15]
  refine pz_cV4 (i := 91) rfl (gc_8 ..) rfl (Nat.le_of_ble_eq_true rfl) rfl ?_
  refine sx_Eset (e := 0) (by decide) hkey ?_
  refine ⟨rfl, ?_⟩
  refine pz_aln (i := 92) rfl rfl ?_
  refine pz_get (i := 93) rfl (gf_13_1 ..) ?_
  refine pz_dup (i := 94) rfl rfl ?_
  refine pz_get (i := 95) rfl (gf_7_8 ..) ?_
  rw [show se_iv iv1 av1 0 key 15 = nI (V.2.2 5) from (se_fi 15 (by decide)).trans f15]
  refine pz_bi (i := 96) rfl ?_
  refine pz_il (i := 97) rfl rfl ?_
  refine pz_add (i := 98) rfl ?_
  rw [show (12 : Int32) + nI len = nI (12 + len) from nI_add 12 len]
  refine pz_add (i := 99) rfl ?_
  rw [nI_add]
  refine pz_put (i := 100) rfl (pf_7_8 ..) ⟨rfl, rfl⟩ ?_
  refine pz_aln (i := 101) rfl rfl ?_
  refine pz_get (i := 102) rfl (gf_13_1 ..) ?_
  refine pz_dup (i := 103) rfl rfl ?_
  refine pz_get (i := 104) rfl (gf_7_9 ..) ?_
  rw [show upd (se_iv iv1 av1 0 key) 15 (nI (V.2.2 5 + (12 + len))) 16 = nI (V.2.2 6) from (ui_n (by decide)).trans ((se_fi 16 (by decide)).trans f16)]
  refine pz_ic (i := 105) rfl ?_
  refine pz_add (i := 106) rfl ?_
  rw [nI_1]
  refine pz_put (i := 107) rfl (pf_7_9 ..) ⟨rfl, rfl⟩ ?_
  refine pz_vr (i := 108) rfl rfl ?_
  refine hQ _ _ (dX_ext hd1 (fun j hj => ?_) (fun j hj => ?_)) ⟨?_, ?_, ?_⟩ ⟨?_, ?_⟩ ?_ ?_
  · rw [ui_n (by omega), ui_n (by omega), se_fi j (by simp only [List.mem_cons, List.not_mem_nil, or_false]; omega)]
  · rw [se_fr j (by simp only [List.mem_cons, List.not_mem_nil, or_false, not_or]; omega)]
  · refine ⟨?_, hV.1.2.1, fun i t ht => ?_⟩
    · show upd (upd (se_iv iv1 av1 0 key) 15 _) 16 _ 10 = _
      rw [ui_n (by decide), ui_n (by decide), se_fi 10 (by decide), fi1 10 (by decide)]
      exact hV.1.1
    · show se_av av1 0 key _ _ _ 4 i = _
      rw [se_fr 4 (by decide), fa1 4 (by decide)]
      exact hV.1.2.2 i t ht
  · have hx := eX_set (e := 0) (iv := iv1) (av := av1) (m := V.2.1) (k := key) (x := (kd, V.2.2 6, V.2.2 5)) (eX_ext hV.2.1 (fi1 30 (by decide)) (fa1 10 (by decide)) (fa1 11 (by decide)) (fa1 12 (by decide))) hkey ⟨hkd.1, hkd.2, by dsimp only; omega, by dsimp only; omega⟩
    exact eX_ext hx rfl rfl rfl rfl
  · intro i h1 h2
    show upd (upd (se_iv iv1 av1 0 key) 15 _) 16 _ (10 + 10 * 0 + i) = nI (vs (vs V.2.2 5 _) 6 _ i)
    by_cases h6 : i = 6
    · subst h6
      rw [vs_s]
      exact ui_s _ _ _
    · rw [vs_n h6, ui_n (by omega)]
      by_cases h5 : i = 5
      · subst h5
        rw [vs_s, show V.2.2 5 + 12 + len = V.2.2 5 + (12 + len) by omega]
        exact ui_s _ _ _
      · rw [vs_n h5, ui_n (by omega), se_fi (10 + 10 * 0 + i) (by simp only [List.mem_cons, List.not_mem_nil, or_false]; omega), fi1 (10 + 10 * 0 + i) (by simp only [List.mem_cons, List.not_mem_nil, or_false, not_or]; omega)]
        exact hV.2.2 i h1 h2
  · intro j hj
    rw [se_fr 25 (by decide), fa1 25 (by decide)]
    exact hz.1 j hj
  · rw [se_fr 26 (by decide), fa1 26 (by decide)]
    exact hz.2
  · exact frI_up (frI_up (frI_tr fi1 se_fi (by decide) (by decide)) (by decide)) (by decide)
  · exact frA_tr (frA_tr (frA_up (frA_up (frA_up (frA_up (frA_up (frA_rfl av [26]) (by decide)) (by decide)) (by decide)) (by decide)) (by decide)) fa1 (S := [0, 1, 2, 3, 10, 11, 12, 26]) (by decide) (by decide)) se_fr (by decide) (by decide)
set_option maxRecDepth 20000 in
theorem sx_append (hr : 512 ≤ rm ∧ rm ≤ 4096) {kd gg key ρ a : Nat} {val : List Nat} (hkd : 0 < kd ∧ kd < 3) (hgg : gg = 0 ∨ gg = 128) (hkey : key < 120) (hlen : val.length ≤ 64) (hrow : ∀ iv' av', gt_a (wX rm iv' av' r) (ρ + 1) = some (1, 64, .inl (av' a))) (ha : 3 < a) (hval : ∀ k, k < val.length → av a k = lB val k) {V : vW} {s : dS} (hd : dX rm iv av s) (hV : vX 0 iv av V) (hz : kz av) (hc : cp s 3 (24 + val.length)) (hb : V.2.2 5 < 2 ^ 30 - 200 ∧ V.2.2 6 < 2 ^ 30 - 200)
    (hQ : ∀ iv' av', dX rm iv' av' (apS rm s (kd + gg) key val (V.2.2 5) (V.2.2 6)) → vX 0 iv' av' (apV V kd key val.length) → kz av' → frI iv iv' [0, 1, 2, 5, 15, 16, 30] → frA av av' [0, 1, 2, 3, 10, 11, 12, 26] → Q none (wX rm iv' av' r)) : rx_R Lx xs (d + 3) 34 [.ref 13, .int (nI (kd + gg)), .int (nI key), .ref (ρ + 1), .int (nI val.length)] (wX rm iv av r) Q := by
  refine pz_en (t := rt_34) ⟨Nat.le_of_ble_eq_true rfl, rfl⟩ rfl rfl ?_
  have hr' : 0 < rm ∧ rm ≤ 4096 := ⟨by omega, hr.2⟩
  have e15 : iv 15 = nI (V.2.2 5) := hV.2.2 5 (by decide) (by decide)
  unfold apS at hQ
  refine pz_aln (i := 0) rfl rfl ?_
  refine pz_get (i := 1) rfl (gf_13_0 ..) ?_
  refine pz_aln (i := 2) rfl rfl ?_
  refine pz_get (i := 3) rfl (gf_13_0 ..) ?_
  refine pz_aln (i := 4) rfl rfl ?_
  refine pz_get (i := 5) rfl (gf_13_1 ..) ?_
  refine pz_get (i := 6) rfl (gf_7_8 ..) ?_
  rw [e15]
  refine pz_bi (i := 7) rfl ?_
  refine pz_add (i := 8) rfl ?_
  rw [show nI (V.2.2 5) + 12 = nI (V.2.2 5 + 12) from nI_add _ 12]
  refine pz_il (i := 9) rfl rfl ?_
  refine pz_add (i := 10) rfl ?_
  rw [nI_add]
  refine pz_cI1 (i := 11) rfl (gc_2 ..) rfl (Nat.le_of_ble_eq_true rfl) rfl ?_
  refine sx_logCell hr' (q := V.2.2 5 + 12 + val.length) (by omega) ?_
  refine ⟨_, rfl, ?_⟩
  refine pz_aln (i := 12) rfl rfl ?_
  refine pz_get (i := 13) rfl (gf_13_4 ..) ?_
  refine pz_ic (i := 14) rfl ?_
  refine pz_bi (i := 15) rfl ?_
  refine pz_cV4 (i := 16) rfl (gc_2 ..) rfl (Nat.le_of_ble_eq_true rfl) rfl ?_
  refine sx_write hr' (ρ := 18) (a := 25) (na := 12) (from0 := 0) (n := 12) (g := lB z12) (fun _ _ => ga_19 ..) (by decide) (by decide) (by decide) (fun k hk => ?_) (lB_bt _) (wokL (l := z12) hr'.1 (by show 12 ≤ rm; omega)) (s := s) hd (fun h => by have := hc h; omega) (fun iv1 av1 hd1 fi1 fa1 => ?_)
  · rw [Nat.zero_add, hz.1 k hk]
    exact (lB_z 12 k).symm
  have f15 : iv1 15 = nI (V.2.2 5) := (fi1 15 (by decide)).trans e15
  have hV1 : vX 0 iv1 av1 V := by
    refine ⟨⟨(fi1 10 (by decide)).trans hV.1.1, hV.1.2.1, fun i t ht => ?_⟩, eX_ext hV.2.1 (fi1 30 (by decide)) (fa1 10 (by decide)) (fa1 11 (by decide)) (fa1 12 (by decide)), fun i h1 h2 => ?_⟩
    · rw [fa1 (4 + 0) (by decide)]
      exact hV.1.2.2 i t ht
    · rw [fi1 (10 + 10 * 0 + i) (by simp only [List.mem_cons, List.not_mem_nil, or_false, not_or]; omega)]
      exact hV.2.2 i h1 h2
  have hz1 : kz av1 := ⟨fun j hj => by rw [fa1 25 (by decide)]; exact hz.1 j hj, by rw [fa1 26 (by decide)]; exact hz.2⟩
  have hc1 : cp (wr s (wL ((V.2.2 5 + 12 + val.length) % rm) z12)) 2 (12 + val.length) := cp_wr (cp_le hc (Nat.le_refl _) (by show 12 + (12 + val.length) ≤ _; omega))
  refine ⟨rfl, ?_⟩
  refine pz_il (i := 17) rfl rfl ?_
  refine pz_if_le (i := 18) rfl (fun c18 => ?_) (fun c18 => ?_)
  · have hl0 : val.length = 0 := by have := le_ofI (b := 0) c18; omega
    rw [if_pos hl0] at hQ
    exact lp_ap3 hr hkd hgg hkey hlen hd1 hV1 hz1 (cp_le hc1 (by decide) (by omega)) hb (fun iv2 av2 g1 g2 g3 g4 g5 => hQ iv2 av2 g1 g2 g3 (frI_tr fi1 g4 (by decide) (by decide)) (frA_tr fa1 g5 (by decide) (by decide)))
  · have hl0 : ¬ val.length = 0 := by have := nle_ofI (b := 0) c18; omega
    rw [if_neg hl0] at hQ
    refine pz_aln (i := 19) rfl rfl ?_
    refine pz_get (i := 20) rfl (gf_13_0 ..) ?_
    refine pz_aln (i := 21) rfl rfl ?_
    refine pz_get (i := 22) rfl (gf_13_0 ..) ?_
    refine pz_aln (i := 23) rfl rfl ?_
    refine pz_get (i := 24) rfl (gf_13_1 ..) ?_
    refine pz_get (i := 25) rfl (gf_7_8 ..) ?_
    rw [f15]
    refine pz_bi (i := 26) rfl ?_
    refine pz_add (i := 27) rfl ?_
    rw [show nI (V.2.2 5) + 12 = nI (V.2.2 5 + 12) from nI_add _ 12]
    refine pz_cI1 (i := 28) rfl (gc_2 ..) rfl (Nat.le_of_ble_eq_true rfl) rfl ?_
    refine sx_logCell hr' (q := V.2.2 5 + 12) (by omega) ?_
    refine ⟨_, rfl, ?_⟩
    refine pz_aln (i := 29) rfl rfl ?_
    refine pz_ic (i := 30) rfl ?_
    refine pz_il (i := 31) rfl rfl ?_
    refine pz_cV4 (i := 32) rfl (gc_2 ..) rfl (Nat.le_of_ble_eq_true rfl) rfl ?_
    refine sx_write hr' (ρ := ρ) (a := a) (na := 64) (from0 := 0) (n := val.length) (g := lB val) hrow ha (by omega) (by decide) (fun k hk => ?_) (lB_bt _) (wokL (l := val) hr'.1 (by omega)) (s := wr s (wL ((V.2.2 5 + 12 + val.length) % rm) z12)) hd1 (fun h => by have := hc1 h; omega) (fun iv2 av2 hd2 fi2 fa2 => ?_)
    · rw [Nat.zero_add, fa1 a (by simp only [List.mem_cons, List.not_mem_nil, or_false, not_or]; omega)]
      exact hval k hk
    have hV2 : vX 0 iv2 av2 V := by
      refine ⟨⟨(fi2 10 (by decide)).trans hV1.1.1, hV1.1.2.1, fun i t ht => ?_⟩, eX_ext hV1.2.1 (fi2 30 (by decide)) (fa2 10 (by decide)) (fa2 11 (by decide)) (fa2 12 (by decide)), fun i h1 h2 => ?_⟩
      · rw [fa2 (4 + 0) (by decide)]
        exact hV1.1.2.2 i t ht
      · rw [fi2 (10 + 10 * 0 + i) (by simp only [List.mem_cons, List.not_mem_nil, or_false, not_or]; omega)]
        exact hV1.2.2 i h1 h2
    have hz2 : kz av2 := ⟨fun j hj => by rw [fa2 25 (by decide)]; exact hz1.1 j hj, by rw [fa2 26 (by decide)]; exact hz1.2⟩
    refine ⟨rfl, ?_⟩
    exact lp_ap3 hr hkd hgg hkey hlen hd2 hV2 hz2 (cp_wr (cp_le hc1 (by decide) (by show val.length + 12 ≤ _; omega))) hb (fun iv3 av3 g1 g2 g3 g4 g5 => hQ iv3 av3 g1 g2 g3 (frI_tr fi1 (frI_tr fi2 g4 (S := [0, 1, 2, 5, 15, 16, 30]) (by decide) (by decide)) (by decide) (by decide)) (frA_tr fa1 (frA_tr fa2 g5 (S := [0, 1, 2, 3, 10, 11, 12, 26]) (by decide) (by decide)) (by decide) (by decide)))
end S61
