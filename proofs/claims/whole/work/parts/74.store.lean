/-! PART 74: Keeper.store -/
theorem sB_bZ {b : List bR} : ∀ k, k ≤ b.length → sB (fun j => (b.getD j (0, 0, [])).2.2.length) k = bZ (b.take k)
  | 0, _ => by simp [sB, bZ]
  | k + 1, hk => by
    show sB _ k + (12 + (b.getD k (0, 0, [])).2.2.length) = _
    rw [sB_bZ k (by omega), List.take_add_one, List.getD_eq_getElem?_getD, List.getElem?_eq_getElem (show k < b.length by omega)]
    show bZ (b.take k) + (12 + (b[k]'(by omega)).2.2.length) = ((b.take k ++ [b[k]'(by omega)]).map (fun x => 12 + x.2.2.length)).sum
    rw [List.map_append, List.sum_append]
    rfl
theorem bZ_le {b : List bR} (h : ∀ x ∈ b, x.2.2.length ≤ 64) : bZ b ≤ 76 * b.length := by
  induction b with
  | nil => exact Nat.le_refl _
  | cons x l ih =>
    have h1 := ih (fun y hy => h y (List.mem_cons_of_mem _ hy))
    have h2 := h x List.mem_cons_self
    show 12 + x.2.2.length + bZ l ≤ 76 * (l.length + 1)
    omega
theorem bX_mem {iv : Nat → Int32} {av : Nat → Nat → Int32} {b : List bR} (h : bX iv av b) : ∀ x ∈ b, bOK x := fun x hx => by
  obtain ⟨i, hi⟩ := List.getElem?_of_mem hx
  exact (h.2.2 i x hi).1
theorem bX_get {iv : Nat → Int32} {av : Nat → Nat → Int32} {b : List bR} (h : bX iv av b) {i : Nat} (hi : i < b.length) : bOK (b.getD i (0, 0, [])) ∧ av 29 i = nI (b.getD i (0, 0, [])).1 ∧ av 30 i = nI (bK b i) ∧ av 31 i = nI (b.getD i (0, 0, [])).2.2.length ∧ ∀ k, k < (b.getD i (0, 0, [])).2.2.length → av (32 + i) k = lB (b.getD i (0, 0, [])).2.2 k := by
  refine h.2.2 i _ ?_
  rw [List.getD_eq_getElem?_getD, List.getElem?_eq_getElem hi]
  rfl
theorem cW_cWN {iv : Nat → Int32} {av : Nat → Nat → Int32} {b : List bR} {mem : mP} (hb : bX iv av b) (hm : eX 0 iv av mem) : ∀ k, k ≤ b.length → cW (av 10) (av 30) k = cWN mem (bK b) k
  | 0, _ => rfl
  | k + 1, hk => by
    have ih := cW_cWN hb hm k (by omega)
    obtain ⟨⟨_, _, o3, _, _⟩, _, a30, _, _⟩ := bX_get hb (i := k) (by omega)
    have hkk : bK b k < 120 := o3
    have hz := eX_zero hm hkk
    have hfk : fK (av 30) k = (List.range k).all (fun j => decide (¬ bK b j = bK b k)) := by
      unfold fK
      apply all_cg
      intro j hj
      have hj' := List.mem_range.mp hj
      obtain ⟨⟨_, _, p3, _, _⟩, _, a30', _, _⟩ := bX_get hb (i := j) (by omega)
      have hkj : bK b j < 120 := p3
      rw [a30, a30']
      apply decide_eq_decide.mpr
      rw [nI_eq (by omega) (by omega)]
    show cW (av 10) (av 30) k + _ = cWN mem (bK b) k + _
    rw [ih, a30, kx_of hkk, Bool.true_and, cl_ofI (a := bK b k), hfk]
    congr 1
    cases hmk : mem (bK b k) with
    | none =>
      rw [decide_eq_false (fun z => z (hz.mpr hmk))]
      rfl
    | some x =>
      have hne : ¬ av (10 + 3 * 0 + 0) (bK b k) = 0 := fun z => by rw [hz.mp z] at hmk; cases hmk
      rw [decide_eq_true (show ¬ av 10 (bK b k) = 0 from hne)]
      rfl
/-- what storing a batch wants of the disk -/
def bnd (V : vW) : Prop := (∀ i, 1 ≤ i → i ≤ 7 → V.2.2 i < 2 ^ 30 - 2000) ∧ V.2.2 4 ≤ V.2.2 5
def stJ (b : List bR) (q : dS × vW) : Prop := q.1.2.2.2.2.2 = false → bnd q.2 ∧ cp q.1 (3 * b.length) (szW b)
def stI (rm : Nat) (b : List bR) (s : dS) (V : vW) (lg : List lR) : Prop :=
  ckI rm s V ∧ bnd V ∧ ((ckM rm s V b).1.2.2.2.2.2 = false → bnd (ckM rm s V b).2 ∧
    ((ckM rm s V b).2.2.2 5 + (bZ b + 176) + 12 ≤ (ckM rm s V b).2.2.2 4 + rm → stJ b (ckM rm s V b)) ∧
    (¬ (ckM rm s V b).2.2.2 5 + (bZ b + 176) + 12 ≤ (ckM rm s V b).2.2.2 4 + rm → paI rm 1000 ((ckM rm s V b).2.2.2 5) 1 (ckM rm s V b).1 (ckM rm s V b).2 lg ∧
      ((stP rm (ckM rm s V b) lg).1.2.2.2.2.2 = false → bnd (stP rm (ckM rm s V b) lg).2.1 ∧ ckI rm (stP rm (ckM rm s V b) lg).1 (stP rm (ckM rm s V b) lg).2.1 ∧
        ((stP rm (ckM rm s V b) lg).2.1.2.2 5 + (bZ b + 176) + 12 ≤ (stP rm (ckM rm s V b) lg).2.1.2.2 4 + rm → stJ b (ckM rm (stP rm (ckM rm s V b) lg).1 (stP rm (ckM rm s V b) lg).2.1 b)))))
/-- small numbers, as the class keeps them when the power has failed -/
def sm3 (V : vW) : Prop := V.2.2 4 < 2 ^ 30 ∧ V.2.2 5 < 2 ^ 30 - 1300 ∧ V.2.2 6 < 2 ^ 30 - 1300
section S74
variable {Lx : Nat} {xs : Nat → Int32} {d rm : Nat} {r : pW} {Q : rQ} {b : List bR} {iv0 : Nat → Int32} {av0 : Nat → Nat → Int32}
theorem bX_fr {iv : Nat → Int32} {av : Nat → Nat → Int32} (hb : bX iv0 av0 b) (f1 : frI iv0 iv [0, 1, 2, 5, 6, 10, 11, 12, 13, 14, 15, 16, 17, 30, 31, 40, 41, 42, 43, 44, 45]) (f2 : frA av0 av [0, 1, 2, 3, 4, 10, 11, 12, 13, 14, 15, 26, 27, 28]) : bX iv av b := bX_ext hb (f1 7 (by decide)) (fun j h1 h2 => f2 j (by simp only [List.mem_cons, List.not_mem_nil, or_false, not_or]; omega))
set_option maxRecDepth 20000 in
theorem lx_57 (hr : 512 ≤ rm ∧ rm ≤ 4096) {iv : Nat → Int32} {av : Nat → Nat → Int32} (hb : bX iv0 av0 b) (f1 : frI iv0 iv [0, 1, 2, 5, 6, 10, 11, 12, 13, 14, 15, 16, 17, 30, 31, 40, 41, 42, 43, 44, 45]) (f2 : frA av0 av [0, 1, 2, 3, 4, 10, 11, 12, 13, 14, 15, 26, 27, 28]) {q : dS × vW} {V : vW} {y2 : Int32} {x3 x4 x5 : Option Value} (hd : dX rm iv av q.1) (hV : vX 0 iv av V) (hz : kz av) (hex : q.1.2.2.2.2.2 = false → V = q.2) (hs : sm3 V) (hJ : stJ b q)
    (hQ : ∀ iv' av' V' z, dX rm iv' av' (stA rm b q).1 → vX 0 iv' av' V' → kz av' → ((stA rm b q).1.2.2.2.2.2 = false → V' = (stA rm b q).2.1 ∧ z = if (stA rm b q).2.2 then nI b.length else -3) → frI iv0 iv' [0, 1, 2, 5, 6, 10, 11, 12, 13, 14, 15, 16, 17, 30, 31, 40, 41, 42, 43, 44, 45] → frA av0 av' [0, 1, 2, 3, 4, 10, 11, 12, 13, 14, 15, 26, 27, 28] → Q (some (.int z)) (wX rm iv' av' r)) : pz Lx xs (d + 6) rt_31 (some .int) Q 57 [some (.ref 13), some (.ref 37), some (.int y2), x3, x4, x5] [] (wX rm iv av r) := by
  have hb' := bX_fr hb f1 f2
  have h8 := hb'.2.1
  have hcp : cp q.1 (3 * b.length) (szW b) := fun h => (hJ h).2 h
  have hu : aaS rm b q.1 V = aaS rm b q.1 q.2 := by
    cases h : q.1.2.2.2.2.2 with
    | false => rw [hex h]
    | true => rw [aaS_dead b _ _ h, aaS_dead b _ _ h]
  refine pz_aln (i := 57) rfl rfl ?_
  refine pz_aln (i := 58) rfl rfl ?_
  refine pz_cV1 (i := 59) rfl (gc_13 ..) rfl (Nat.le_of_ble_eq_true rfl) rfl ?_
  refine sx_appendAll hr hb' hd hV hz hcp (by have := hs.2; omega) (fun iv2 av2 k1 k2 k3 k4 k5 => ?_)
  refine ⟨rfl, ?_⟩
  refine pz_aln (i := 60) rfl rfl ?_
  refine pz_get (i := 61) rfl (gf_37_4 ..) ?_
  rw [show iv2 7 = nI b.length from (k4 7 (by decide)).trans hb'.1]
  refine pz_ir (i := 62) rfl rfl rfl ?_
  rw [hu] at k1
  refine hQ iv2 av2 _ _ k1 k2 k3 (fun h => ?_) (frI_tr f1 k4 (by decide) (by decide)) (frA_tr f2 k5 (by decide) (by decide))
  have hq : q.1.2.2.2.2.2 = false := by
    cases h2 : q.1.2.2.2.2.2 with
    | false => rfl
    | true =>
      have h3 : (stA rm b q).1 = q.1 := stA_dead h2
      rw [h3, h2] at h
      cases h
  rw [hex hq]
  exact ⟨rfl, rfl⟩
set_option maxRecDepth 20000 in
theorem lx_48 (hr : 512 ≤ rm ∧ rm ≤ 4096) {iv : Nat → Int32} {av : Nat → Nat → Int32} (hb : bX iv0 av0 b) (f1 : frI iv0 iv [0, 1, 2, 5, 6, 10, 11, 12, 13, 14, 15, 16, 17, 30, 31, 40, 41, 42, 43, 44, 45]) (f2 : frA av0 av [0, 1, 2, 3, 4, 10, 11, 12, 13, 14, 15, 26, 27, 28]) {q : dS × vW} {V : vW} {y2 : Int32} {x3 x4 x5 : Option Value} (hd : dX rm iv av q.1) (hV : vX 0 iv av V) (hz : kz av) (hex : q.1.2.2.2.2.2 = false → V = q.2 ∧ ckI rm q.1 q.2 ∧ bnd q.2) (hs : sm3 V) (hJ : stJ b (ckM rm q.1 q.2 b))
    (hQ : ∀ iv' av' V' z, dX rm iv' av' (stA rm b (ckM rm q.1 q.2 b)).1 → vX 0 iv' av' V' → kz av' → ((stA rm b (ckM rm q.1 q.2 b)).1.2.2.2.2.2 = false → V' = (stA rm b (ckM rm q.1 q.2 b)).2.1 ∧ z = if (stA rm b (ckM rm q.1 q.2 b)).2.2 then nI b.length else -3) → frI iv0 iv' [0, 1, 2, 5, 6, 10, 11, 12, 13, 14, 15, 16, 17, 30, 31, 40, 41, 42, 43, 44, 45] → frA av0 av' [0, 1, 2, 3, 4, 10, 11, 12, 13, 14, 15, 26, 27, 28] → Q (some (.int z)) (wX rm iv' av' r)) : pz Lx xs (d + 6) rt_31 (some .int) Q 48 [some (.ref 13), some (.ref 37), some (.int y2), x3, x4, x5] [] (wX rm iv av r) := by
  have hb' := bX_fr hb f1 f2
  have h8 := hb'.2.1
  have hkl := kS_len V.2.1
  have hwh : (kS V.2.1).length + cW (av (10 + 3 * 0 + 0)) (av 30) b.length = wh V b := by
    rw [show av (10 + 3 * 0 + 0) = av 10 from rfl, cW_cWN hb' hV.2.1 _ (Nat.le_refl _)]
    rfl
  have hwl : wh V b ≤ 128 := by
    rw [← hwh]
    have := cW_le (av (10 + 3 * 0 + 0)) (av 30) b.length
    omega
  have hdead : q.1.2.2.2.2.2 = true → ∀ V', (ckM rm q.1 V' b).1 = q.1 := fun h V' => ckM_dead h
  refine pz_aln (i := 48) rfl rfl ?_
  refine pz_get (i := 49) rfl (gf_13_1 ..) ?_
  refine pz_get (i := 50) rfl (gf_7_1 ..) ?_
  refine pz_aln (i := 51) rfl rfl ?_
  refine pz_cI1 (i := 52) rfl (gc_8 ..) rfl (Nat.le_of_ble_eq_true rfl) rfl ?_
  refine sx_countWith (e := 0) (by decide) hb'.2.1 hb'.1 (by omega) hV.2.1.2.1 ?_
  rw [hwh]
  refine ⟨_, rfl, ?_⟩
  refine pz_bi (i := 53) rfl ?_
  refine pz_ii_le (i := 54) rfl (fun c54 => ?_) (fun c54 => ?_)
  · first
      | (have h24 : wh V b ≤ 24 := le_ofI (b := 24) c54 (by omega) (by decide)
         refine lx_57 hr hb f1 f2 (q := ckM rm q.1 q.2 b) (V := V) ?_ hV hz (fun h => ?_) hs hJ hQ
         · cases h : q.1.2.2.2.2.2 with
           | true => rw [hdead h]; exact hd
           | false =>
             unfold ckM
             rw [← (hex h).1, if_pos h24]
             exact hd
         · cases h2 : q.1.2.2.2.2.2 with
           | true => rw [hdead h2, h2] at h; cases h
           | false =>
             unfold ckM
             rw [← (hex h2).1, if_pos h24])
      | (refine lx_57 hr hb (frI_tr f1 k7 (by decide) (by decide)) (frA_tr f2 k8 (by decide) (by decide)) (q := ckM rm q.1 q.2 b) (V := V1) ?_ k2 k6 (fun h => ?_) ⟨by rw [k4 4 (by simp)]; exact hs.1, by rw [k4 5 (by simp)]; exact hs.2.1, by rw [k4 6 (by simp)]; exact hs.2.2⟩ hJ hQ
         · cases h : q.1.2.2.2.2.2 with
           | true => rw [hdead h]; rw [ck_dead h] at k1; exact k1
           | false =>
             unfold ckM
             rw [← (hex h).1, if_neg h24]
             exact k1
         · cases h2 : q.1.2.2.2.2.2 with
           | true => rw [hdead h2, h2] at h; cases h
           | false =>
             unfold ckM at h ⊢
             rw [← (hex h2).1, if_neg h24] at h ⊢
             exact k5 h)
  · have h24 : ¬ wh V b ≤ 24 := fun z => c54 (nI_le z (by decide))
    refine pz_aln (i := 55) rfl rfl ?_
    refine pz_cV0 (i := 56) rfl (gc_13 ..) rfl (Nat.le_of_ble_eq_true rfl) rfl ?_
    refine sx_makeCheckpoint (V := V) hr hd hV hz (fun h => by rw [(hex h).1]; exact (hex h).2.1) (fun h i h1 h2 => by rw [(hex h).1]; have := (hex h).2.2.1 i h1 h2; omega) ⟨by have := hs.1; omega, by have := hs.2.1; omega, by have := hs.2.2; omega⟩ (fun iv1 av1 V1 k1 k2 k3 k4 k5 k6 k7 k8 => ?_)
    refine ⟨rfl, ?_⟩
    first
      | (have h24 : wh V b ≤ 24 := le_ofI (b := 24) c54 (by omega) (by decide)
         refine lx_57 hr hb f1 f2 (q := ckM rm q.1 q.2 b) (V := V) ?_ hV hz (fun h => ?_) hs hJ hQ
         · cases h : q.1.2.2.2.2.2 with
           | true => rw [hdead h]; exact hd
           | false =>
             unfold ckM
             rw [← (hex h).1, if_pos h24]
             exact hd
         · cases h2 : q.1.2.2.2.2.2 with
           | true => rw [hdead h2, h2] at h; cases h
           | false =>
             unfold ckM
             rw [← (hex h2).1, if_pos h24])
      | (refine lx_57 hr hb (frI_tr f1 k7 (by decide) (by decide)) (frA_tr f2 k8 (by decide) (by decide)) (q := ckM rm q.1 q.2 b) (V := V1) ?_ k2 k6 (fun h => ?_) ⟨by rw [k4 4 (by simp)]; exact hs.1, by rw [k4 5 (by simp)]; exact hs.2.1, by rw [k4 6 (by simp)]; exact hs.2.2⟩ hJ hQ
         · cases h : q.1.2.2.2.2.2 with
           | true => rw [hdead h]; rw [ck_dead h] at k1; exact k1
           | false =>
             unfold ckM
             rw [← (hex h).1, if_neg h24]
             exact k1
         · cases h2 : q.1.2.2.2.2.2 with
           | true => rw [hdead h2, h2] at h; cases h
           | false =>
             unfold ckM at h ⊢
             rw [← (hex h2).1, if_neg h24] at h ⊢
             exact k5 h)
theorem hr_dec {rm : Nat} {V : vW} {iv : Nat → Int32} {av : Nat → Nat → Int32} {z : Nat} (hr : rm ≤ 4096) (hV : vX 0 iv av V) (hb : bnd V) (hz : z < 2 ^ 20) : decide (iv 15 + nI z + 12 - iv 14 ≤ nI rm) = decide (V.2.2 5 + z + 12 ≤ V.2.2 4 + rm) := by
  have h15 : iv 15 = nI (V.2.2 5) := hV.2.2 5 (by decide) (by decide)
  have h14 : iv 14 = nI (V.2.2 4) := hV.2.2 4 (by decide) (by decide)
  have b5 := hb.1 5 (by decide) (by decide)
  have b4 := hb.2
  rw [h15, h14, nI_add, show nI (V.2.2 5 + z) + 12 = nI (V.2.2 5 + z + 12) from nI_add _ 12, pk_sub (by omega)]
  apply decide_eq_decide.mpr
  rw [nI_leI (by omega) (by omega)]
  omega
set_option maxRecDepth 20000 in
theorem lx_42 (hr : 512 ≤ rm ∧ rm ≤ 4096) {iv : Nat → Int32} {av : Nat → Nat → Int32} (hb : bX iv0 av0 b) (f1 : frI iv0 iv [0, 1, 2, 5, 6, 10, 11, 12, 13, 14, 15, 16, 17, 30, 31, 40, 41, 42, 43, 44, 45]) (f2 : frA av0 av [0, 1, 2, 3, 4, 10, 11, 12, 13, 14, 15, 26, 27, 28]) {q : dS × vW × List lR} {V : vW} {x3 x4 x5 : Option Value} (hd : dX rm iv av q.1) (hV : vX 0 iv av V) (hz : kz av) (hex : q.1.2.2.2.2.2 = false → V = q.2.1 ∧ ckI rm q.1 q.2.1 ∧ bnd q.2.1) (hs : sm3 V) (hJ : q.1.2.2.2.2.2 = false → q.2.1.2.2 5 + (bZ b + 176) + 12 ≤ q.2.1.2.2 4 + rm → stJ b (ckM rm q.1 q.2.1 b))
    (hQ : ∀ iv' av' V' z, dX rm iv' av' (stQ rm b q).1 → vX 0 iv' av' V' → kz av' → ((stQ rm b q).1.2.2.2.2.2 = false → V' = (stQ rm b q).2.1 ∧ z = if (stQ rm b q).2.2 then nI b.length else -3) → frI iv0 iv' [0, 1, 2, 5, 6, 10, 11, 12, 13, 14, 15, 16, 17, 30, 31, 40, 41, 42, 43, 44, 45] → frA av0 av' [0, 1, 2, 3, 4, 10, 11, 12, 13, 14, 15, 26, 27, 28] → Q (some (.int z)) (wX rm iv' av' r)) : pz Lx xs (d + 6) rt_31 (some .int) Q 42 [some (.ref 13), some (.ref 37), some (.int (nI (bZ b + 176))), x3, x4, x5] [] (wX rm iv av r) := by
  have hbz : bZ b ≤ 76 * b.length := bZ_le (fun x hx => (bX_mem hb x hx).2.2.2.1)
  have h8 := hb.2.1
  unfold stQ at hQ
  refine pz_aln (i := 42) rfl rfl ?_
  refine pz_iln (i := 43) rfl rfl ?_
  refine pz_cI1 (i := 44) rfl (gc_13 ..) rfl (Nat.le_of_ble_eq_true rfl) rfl ?_
  refine sx_hasRoom ?_
  refine ⟨_, rfl, ?_⟩
  refine pz_if_ne (i := 45) rfl (fun c45 => ?_) (fun c45 => ?_)
  · split at hQ
    · rename_i hroom
      refine lx_48 hr hb f1 f2 (q := (q.1, q.2.1)) hd hV hz hex hs ?_ hQ
      cases h : q.1.2.2.2.2.2 with
      | false => exact hJ h hroom
      | true =>
        intro z
        have : (ckM rm q.1 q.2.1 b).1 = q.1 := ckM_dead h
        rw [this, h] at z
        cases z
    · rename_i hroom
      cases h : q.1.2.2.2.2.2 with
      | false =>
        rw [hr_dec hr.2 hV (by rw [(hex h).1]; exact (hex h).2.2) (by omega)] at c45
        have := bB_t c45
        rw [(hex h).1] at this
        exact absurd (of_decide_eq_true this) hroom
      | true =>
        refine lx_48 hr hb f1 f2 (q := (q.1, q.2.1)) hd hV hz hex hs ?_ (fun iv2 av2 V2 z k1 k2 k3 k4 k5 k6 => ?_)
        · intro z
          have : (ckM rm q.1 q.2.1 b).1 = q.1 := ckM_dead h
          rw [this, h] at z
          cases z
        · have e : (stA rm b (ckM rm q.1 q.2.1 b)).1 = q.1 := by
            rw [stA_dead (by rw [ckM_dead h]; exact h), ckM_dead h]
          rw [e] at k1
          refine hQ iv2 av2 V2 z k1 k2 k3 (fun w => ?_) k5 k6
          have w' : q.1.2.2.2.2.2 = false := w
          rw [h] at w'
          cases w'
  · refine pz_bi (i := 46) rfl ?_
    refine pz_ir (i := 47) rfl rfl rfl ?_
    split at hQ
    · rename_i hroom
      cases h : q.1.2.2.2.2.2 with
      | false =>
        rw [hr_dec hr.2 hV (by rw [(hex h).1]; exact (hex h).2.2) (by omega)] at c45
        have := bB_f c45
        rw [(hex h).1] at this
        exact absurd hroom (of_decide_eq_false this)
      | true =>
        have e : (stA rm b (ckM rm q.1 q.2.1 b)).1 = q.1 := by
          rw [stA_dead (by rw [ckM_dead h]; exact h), ckM_dead h]
        refine hQ iv av V _ (by rw [e]; exact hd) hV hz (fun z => ?_) f1 f2
        rw [e, h] at z
        cases z
    · exact hQ iv av V _ hd hV hz (fun h => ⟨(hex h).1, rfl⟩) f1 f2
set_option maxRecDepth 20000 in
theorem lx_26 (hr : 512 ≤ rm ∧ rm ≤ 4096) {g : Nat} (hg : g < 2 ^ 30) : ∀ (m k : Nat) (s : dS) (V V1 : vW) (lg : List lR) (iv : Nat → Int32) (av : Nat → Nat → Int32), m ≤ 1000 → k < 2 ^ 20 → frI iv0 iv [0, 1, 2, 5, 6, 10, 11, 12, 13, 14, 15, 16, 17, 30, 31, 40, 41, 42, 43, 44, 45] → frA av0 av [0, 1, 2, 3, 4, 10, 11, 12, 13, 14, 15, 26, 27, 28] → dX rm iv av s → vX 0 iv av V1 → kz av → (s.2.2.2.2.2 = false → V1 = V ∧ paI rm m g k s V lg) → sm3 V1 → (∀ iv' av' V' x4 x5, dX rm iv' av' (pas rm m g k s V lg).1 → vX 0 iv' av' V' → kz av' → ((pas rm m g k s V lg).1.2.2.2.2.2 = false → V' = (pas rm m g k s V lg).2.1) → sm3 V' → frI iv0 iv' [0, 1, 2, 5, 6, 10, 11, 12, 13, 14, 15, 16, 17, 30, 31, 40, 41, 42, 43, 44, 45] → frA av0 av' [0, 1, 2, 3, 4, 10, 11, 12, 13, 14, 15, 26, 27, 28] → pz Lx xs (d + 6) rt_31 (some .int) Q 42 [some (.ref 13), some (.ref 37), some (.int (nI (bZ b + 176))), some (.int (nI g)), x4, x5] [] (wX rm iv' av' r)) → pz Lx xs (d + 6) rt_31 (some .int) Q 26 [some (.ref 13), some (.ref 37), some (.int (nI (bZ b + 176))), some (.int (nI g)), some (.int (nI k)), some (.int (nI (1000 - m)))] [] (wX rm iv av r) := by
  intro m
  induction m with
  | zero =>
    intro k s V V1 lg iv av hm hk f1 f2 hd hV hz hex hs hnext
    refine pz_il (i := 26) rfl rfl ?_
    refine pz_si (i := 27) rfl ?_
    refine pz_ii_ge (i := 28) rfl (fun c28 => ?_) (fun c28 => ?_)
    · exact hnext iv av V1 _ _ hd hV hz (fun h => (hex h).1) hs f1 f2
    · exact absurd (Int32.le_refl _) c28
  | succ m ih =>
    intro k s V V1 lg iv av hm hk f1 f2 hd hV hz hex hs hnext
    have e14 : iv 14 = nI (V1.2.2 4) := hV.2.2 4 (by decide) (by decide)
    have hs4 := hs.1
    have hout : (k = 0 ∨ g ≤ V1.2.2 4) → ∀ x4 x5, pz Lx xs (d + 6) rt_31 (some .int) Q 42 [some (.ref 13), some (.ref 37), some (.int (nI (bZ b + 176))), some (.int (nI g)), x4, x5] [] (wX rm iv av r) := by
      intro hor x4 x5
      cases h : s.2.2.2.2.2 with
      | true =>
        refine hnext iv av V1 x4 x5 (by rw [pas_dead _ _ _ _ _ _ h]; exact hd) hV hz (fun z => ?_) hs f1 f2
        rw [pas_dead _ _ _ _ _ _ h, h] at z
        cases z
      | false =>
        have hp : pas rm (m + 1) g k s V lg = (s, V, lg) := by
          unfold pas
          rw [← (hex h).1, if_pos hor]
        rw [hp] at hnext
        exact hnext iv av V1 x4 x5 hd hV hz (fun _ => (hex h).1) hs f1 f2
    refine pz_il (i := 26) rfl rfl ?_
    refine pz_si (i := 27) rfl ?_
    refine pz_ii_ge (i := 28) rfl (fun c28 => ?_) (fun c28 => ?_)
    · exact absurd (le_ofI (a := 1000) c28) (by omega)
    · refine pz_il (i := 29) rfl rfl ?_
      refine pz_if_le (i := 30) rfl (fun c30 => ?_) (fun c30 => ?_)
      · exact hout (Or.inl (by have := le_ofI (b := 0) c30 (by omega) (by decide); omega)) _ _
      · refine pz_aln (i := 31) rfl rfl ?_
        refine pz_get (i := 32) rfl (gf_13_1 ..) ?_
        refine pz_get (i := 33) rfl (gf_7_7 ..) ?_
        rw [e14]
        refine pz_iln (i := 34) rfl rfl ?_
        refine pz_ii_ge (i := 35) rfl (fun c35 => ?_) (fun c35 => ?_)
        · exact hout (Or.inr (le_ofI c35 (by omega) (by omega))) _ _
        · have hk0 : ¬ k = 0 := fun z => c30 (by rw [z]; exact Int32.le_refl _)
          have hgt : ¬ g ≤ V1.2.2 4 := fun z => c35 (nI_le z (by omega))
          refine pz_aln (i := 36) rfl rfl ?_
          refine pz_si (i := 37) rfl ?_
          refine pz_cI1 (i := 38) rfl (gc_13 ..) rfl (Nat.le_of_ble_eq_true rfl) rfl ?_
          refine sx_collectTail hr (n := 1000) (lg := lg) (s := s) (V := V1) ⟨by decide, by decide⟩ (fun h => ?_) ⟨hs.1, by have := hs.2.1; omega, by have := hs.2.2; omega⟩ hd hV hz (fun iv1 av1 V2 k1 k2 k3 k4 k5 k6 k7 => ⟨_, rfl, ?_⟩)
          · have h2 := (hex h).2
            rw [← (hex h).1] at h2
            unfold paI at h2
            rcases h2 with h3 | h3 | h3 | h3
            · exact absurd h3 hk0
            · exact absurd h3 hgt
            · rw [h] at h3; cases h3
            · exact h3.1
          refine pz_is (i := 39) rfl ⟨rfl, Nat.le_of_ble_eq_true rfl⟩ rfl ?_
          refine pz_inc (i := 40) rfl rfl rfl rfl ?_
          refine pz_go (i := 41) rfl ?_
          rw [show nI (1000 - (m + 1)) + 1 = nI (1000 - m) by rw [nI_1]; congr 1; omega]
          have hs2 : sm3 V2 := ⟨k5.1, k5.2.1, k5.2.2⟩
          cases h : s.2.2.2.2.2 with
          | true =>
            obtain ⟨e1, e2⟩ := cl_dead (rm := rm) (n := 1000) (lg := lg) (V := V1) h
            rw [e1] at k1
            rw [e2]
            refine ih 0 s V V2 lg iv1 av1 (by omega) (by decide) (frI_tr f1 k6 (by decide) (by decide)) (frA_tr f2 k7 (by decide) (by decide)) k1 k2 k3 (fun z => by rw [h] at z; cases z) hs2 (fun iv2 av2 V3 x4 x5 j1 j2 j3 j4 j5 j6 j7 => ?_)
            refine hnext iv2 av2 V3 x4 x5 (by rw [pas_dead _ _ _ _ _ _ h]; rw [pas_dead _ _ _ _ _ _ h] at j1; exact j1) j2 j3 (fun z => ?_) j5 j6 j7
            rw [pas_dead _ _ _ _ _ _ h, h] at z
            cases z
          | false =>
            obtain ⟨hVV, hpa⟩ := hex h
            subst hVV
            have hp : pas rm (m + 1) g k s V1 lg = pas rm m g (cl rm 1000 lg s V1).2.2 (cl rm 1000 lg s V1).1 (cl rm 1000 lg s V1).2.1 (clN rm 1000 lg s V1) := by
              show (if k = 0 ∨ g ≤ V1.2.2 4 then (s, V1, lg) else _) = _
              rw [if_neg (fun z => z.elim hk0 hgt)]
            rw [hp] at hnext
            have hpb : clI rm 1000 lg s V1 ∧ paI rm m g (cl rm 1000 lg s V1).2.2 (cl rm 1000 lg s V1).1 (cl rm 1000 lg s V1).2.1 (clN rm 1000 lg s V1) := by
              unfold paI at hpa
              rcases hpa with h3 | h3 | h3 | h3
              · exact absurd h3 hk0
              · exact absurd h3 hgt
              · rw [h] at h3; cases h3
              · exact h3
            exact ih _ _ _ V2 _ iv1 av1 (by omega) (Nat.lt_of_le_of_lt cl_n (by decide)) (frI_tr f1 k6 (by decide) (by decide)) (frA_tr f2 k7 (by decide) (by decide)) k1 k2 k3 (fun z => ⟨k4 z, hpb.2⟩) hs2 hnext
set_option maxRecDepth 20000 in
theorem lx_14 (hr : 512 ≤ rm ∧ rm ≤ 4096) {iv : Nat → Int32} {av : Nat → Nat → Int32} (hb : bX iv0 av0 b) (f1 : frI iv0 iv [0, 1, 2, 5, 6, 10, 11, 12, 13, 14, 15, 16, 17, 30, 31, 40, 41, 42, 43, 44, 45]) (f2 : frA av0 av [0, 1, 2, 3, 4, 10, 11, 12, 13, 14, 15, 26, 27, 28]) {q : dS × vW} {V : vW} {lg : List lR} {x3 x4 x5 : Option Value} (hx : x3 = none ∧ x4 = none ∧ x5 = none) (hd : dX rm iv av q.1) (hV : vX 0 iv av V) (hz : kz av) (hs : sm3 V) (hI : q.1.2.2.2.2.2 = false → V = q.2 ∧ bnd q.2 ∧ (q.2.2.2 5 + (bZ b + 176) + 12 ≤ q.2.2.2 4 + rm → stJ b q) ∧
    (¬ q.2.2.2 5 + (bZ b + 176) + 12 ≤ q.2.2.2 4 + rm → paI rm 1000 (q.2.2.2 5) 1 q.1 q.2 lg ∧ ((stP rm q lg).1.2.2.2.2.2 = false → bnd (stP rm q lg).2.1 ∧ ckI rm (stP rm q lg).1 (stP rm q lg).2.1 ∧ ((stP rm q lg).2.1.2.2 5 + (bZ b + 176) + 12 ≤ (stP rm q lg).2.1.2.2 4 + rm → stJ b (ckM rm (stP rm q lg).1 (stP rm q lg).2.1 b)))))
    (hQ : ∀ iv' av' V' z, dX rm iv' av' (stO rm b q lg).1 → vX 0 iv' av' V' → kz av' → ((stO rm b q lg).1.2.2.2.2.2 = false → V' = (stO rm b q lg).2.1 ∧ z = if (stO rm b q lg).2.2 then nI b.length else -3) → frI iv0 iv' [0, 1, 2, 5, 6, 10, 11, 12, 13, 14, 15, 16, 17, 30, 31, 40, 41, 42, 43, 44, 45] → frA av0 av' [0, 1, 2, 3, 4, 10, 11, 12, 13, 14, 15, 26, 27, 28] → Q (some (.int z)) (wX rm iv' av' r)) : pz Lx xs (d + 6) rt_31 (some .int) Q 14 [some (.ref 13), some (.ref 37), some (.int (nI (bZ b + 176))), x3, x4, x5] [] (wX rm iv av r) := by
  obtain ⟨rfl, rfl, rfl⟩ := hx
  have hbz : bZ b ≤ 76 * b.length := bZ_le (fun x hx => (bX_mem hb x hx).2.2.2.1)
  have h8 := hb.2.1
  have e15 : iv 15 = nI (V.2.2 5) := hV.2.2 5 (by decide) (by decide)
  have hs5 := hs.2.1
  cases h : q.1.2.2.2.2.2 with
  | true =>
    have e0 : (stO rm b q lg).1 = q.1 := stO_dead h
    have hQ2 : ∀ iv' av' V' z, dX rm iv' av' q.1 → vX 0 iv' av' V' → kz av' → frI iv0 iv' [0, 1, 2, 5, 6, 10, 11, 12, 13, 14, 15, 16, 17, 30, 31, 40, 41, 42, 43, 44, 45] → frA av0 av' [0, 1, 2, 3, 4, 10, 11, 12, 13, 14, 15, 26, 27, 28] → Q (some (.int z)) (wX rm iv' av' r) := fun iv2 av2 V2 z k1 k2 k3 k4 k5 => hQ iv2 av2 V2 z (by rw [e0]; exact k1) k2 k3 (fun w => by rw [e0, h] at w; cases w) k4 k5
    have hno : ∀ {P : Prop}, q.1.2.2.2.2.2 = false → P := fun w => by rw [h] at w; cases w
    refine pz_aln (i := 14) rfl rfl ?_
    refine pz_iln (i := 15) rfl rfl ?_
    refine pz_cI1 (i := 16) rfl (gc_13 ..) rfl (Nat.le_of_ble_eq_true rfl) rfl ?_
    refine sx_hasRoom ?_
    refine ⟨_, rfl, ?_⟩
    refine pz_if_ne (i := 17) rfl (fun c17 => ?_) (fun c17 => ?_)
    · refine lx_57 hr hb f1 f2 hd hV hz (fun w => hno w) hs (fun w => hno w) (fun iv2 av2 V2 z k1 k2 k3 k4 k5 k6 => ?_)
      rw [stA_dead h] at k1
      exact hQ2 iv2 av2 V2 z k1 k2 k3 k5 k6
    · refine pz_aln (i := 18) rfl rfl ?_
      refine pz_get (i := 19) rfl (gf_13_1 ..) ?_
      refine pz_get (i := 20) rfl (gf_7_8 ..) ?_
      rw [e15]
      refine pz_isn (i := 21) rfl ⟨rfl, Nat.le_of_ble_eq_true rfl⟩ rfl ?_
      refine pz_ic (i := 22) rfl ?_
      refine pz_is (i := 23) rfl ⟨rfl, Nat.le_of_ble_eq_true rfl⟩ rfl ?_
      refine pz_ic (i := 24) rfl ?_
      refine pz_is (i := 25) rfl ⟨rfl, Nat.le_of_ble_eq_true rfl⟩ rfl ?_
      refine lx_26 hr (g := V.2.2 5) (by omega) 1000 1 q.1 q.2 V lg iv av (by decide) (by decide) f1 f2 hd hV hz (fun w => hno w) hs (fun iv2 av2 V2 x4 x5 k1 k2 k3 k4 k5 k6 k7 => ?_)
      rw [pas_dead _ _ _ _ _ _ h] at k1
      refine lx_42 hr hb k6 k7 (q := (q.1, q.2, lg)) k1 k2 k3 (fun w => hno w) k5 (fun w => hno w) (fun iv3 av3 V3 z j1 j2 j3 j4 j5 j6 => ?_)
      rw [stQ_dead h] at j1
      exact hQ2 iv3 av3 V3 z j1 j2 j3 j5 j6
  | false =>
    obtain ⟨hVq, hbn, hJ1, hJ2⟩ := hI h
    subst hVq
    have hdec := hr_dec (z := bZ b + 176) hr.2 hV hbn (by omega)
    unfold stO at hQ
    refine pz_aln (i := 14) rfl rfl ?_
    refine pz_iln (i := 15) rfl rfl ?_
    refine pz_cI1 (i := 16) rfl (gc_13 ..) rfl (Nat.le_of_ble_eq_true rfl) rfl ?_
    refine sx_hasRoom ?_
    rw [hdec]
    refine ⟨_, rfl, ?_⟩
    refine pz_if_ne (i := 17) rfl (fun c17 => ?_) (fun c17 => ?_)
    · have hroom := of_decide_eq_true (bB_t c17)
      rw [if_pos hroom] at hQ
      exact lx_57 hr hb f1 f2 hd hV hz (fun _ => rfl) hs (hJ1 hroom) hQ
    · refine pz_aln (i := 18) rfl rfl ?_
      refine pz_get (i := 19) rfl (gf_13_1 ..) ?_
      refine pz_get (i := 20) rfl (gf_7_8 ..) ?_
      rw [e15]
      refine pz_isn (i := 21) rfl ⟨rfl, Nat.le_of_ble_eq_true rfl⟩ rfl ?_
      refine pz_ic (i := 22) rfl ?_
      refine pz_is (i := 23) rfl ⟨rfl, Nat.le_of_ble_eq_true rfl⟩ rfl ?_
      refine pz_ic (i := 24) rfl ?_
      refine pz_is (i := 25) rfl ⟨rfl, Nat.le_of_ble_eq_true rfl⟩ rfl ?_
      have hroom := of_decide_eq_false (bB_f c17)
      rw [if_neg hroom] at hQ
      obtain ⟨hpa, hpb⟩ := hJ2 hroom
      refine lx_26 hr (g := q.2.2.2 5) (by omega) 1000 1 q.1 q.2 q.2 lg iv av (by decide) (by decide) f1 f2 hd hV hz (fun _ => ⟨rfl, hpa⟩) hs (fun iv2 av2 V2 x4 x5 k1 k2 k3 k4 k5 k6 k7 => ?_)
      exact lx_42 hr hb k6 k7 (q := stP rm q lg) k1 k2 k3 (fun w => ⟨k4 w, (hpb w).2.1, (hpb w).1⟩) k5 (fun w => (hpb w).2.2) hQ
set_option maxRecDepth 20000 in
theorem sx_store (hr : 512 ≤ rm ∧ rm ≤ 4096) {V : vW} {s : dS} {lg : List lR} (hb : bX iv0 av0 b) (hd : dX rm iv0 av0 s) (hV : vX 0 iv0 av0 V) (hz : kz av0) (hal : s.2.2.2.2.2 = false) (hI : stI rm b s V lg)
    (hQ : ∀ iv' av' V' z, dX rm iv' av' (sto rm b s V lg).1 → vX 0 iv' av' V' → kz av' → ((sto rm b s V lg).1.2.2.2.2.2 = false → V' = (sto rm b s V lg).2.1 ∧ z = if (sto rm b s V lg).2.2 then nI b.length else -3) → frI iv0 iv' [0, 1, 2, 5, 6, 10, 11, 12, 13, 14, 15, 16, 17, 30, 31, 40, 41, 42, 43, 44, 45] → frA av0 av' [0, 1, 2, 3, 4, 10, 11, 12, 13, 14, 15, 26, 27, 28] → Q (some (.int z)) (wX rm iv' av' r)) : rx_R Lx xs (d + 7) 31 [.ref 13, .ref 37] (wX rm iv0 av0 r) Q := by
  refine pz_en (t := rt_31) ⟨Nat.le_of_ble_eq_true rfl, rfl⟩ rfl rfl ?_
  have hkl := kS_len V.2.1
  have h8 := hb.2.1
  obtain ⟨hck, hbn, hI2⟩ := hI
  have hs : sm3 V := ⟨by have := hbn.1 4 (by decide) (by decide); omega, by have := hbn.1 5 (by decide) (by decide); omega, by have := hbn.1 6 (by decide) (by decide); omega⟩
  have hwh : (kS V.2.1).length + cW (av0 (10 + 3 * 0 + 0)) (av0 30) b.length = wh V b := by
    rw [show av0 (10 + 3 * 0 + 0) = av0 10 from rfl, cW_cWN hb hV.2.1 _ (Nat.le_refl _)]
    rfl
  have hwl : wh V b ≤ 128 := by
    rw [← hwh]
    have := cW_le (av0 (10 + 3 * 0 + 0)) (av0 30) b.length
    omega
  have hsz : sB (fun j => (b.getD j (0, 0, [])).2.2.length) b.length = bZ b := by rw [sB_bZ _ (Nat.le_refl _), List.take_length]
  unfold sto at hQ
  refine pz_aln (i := 0) rfl rfl ?_
  refine pz_cI0 (i := 1) rfl (gc_37 ..) rfl (Nat.le_of_ble_eq_true rfl) rfl ?_
  refine sx_Bsize (f := fun j => (b.getD j (0, 0, [])).2.2.length) hb.2.1 hb.1 (fun j hj => (bX_get hb hj).2.2.2.1) ?_
  rw [hsz]
  refine ⟨_, rfl, ?_⟩
  refine pz_si (i := 2) rfl ?_
  refine pz_add (i := 3) rfl ?_
  rw [show nI (bZ b) + 176 = nI (bZ b + 176) from nI_add _ 176]
  refine pz_isn (i := 4) rfl ⟨rfl, Nat.le_of_ble_eq_true rfl⟩ rfl ?_
  refine pz_aln (i := 5) rfl rfl ?_
  refine pz_get (i := 6) rfl (gf_13_1 ..) ?_
  refine pz_get (i := 7) rfl (gf_7_1 ..) ?_
  refine pz_aln (i := 8) rfl rfl ?_
  refine pz_cI1 (i := 9) rfl (gc_8 ..) rfl (Nat.le_of_ble_eq_true rfl) rfl ?_
  refine sx_countWith (e := 0) (by decide) hb.2.1 hb.1 (by omega) hV.2.1.2.1 ?_
  rw [hwh]
  refine ⟨_, rfl, ?_⟩
  refine pz_bi (i := 10) rfl ?_
  refine pz_ii_le (i := 11) rfl (fun c11 => ?_) (fun c11 => ?_)
  · first
      | (have h24 : wh V b ≤ 24 := le_ofI (b := 24) c11 (by omega) (by decide)
         have hM : ckM rm s V b = (s, V) := if_pos h24
         exact lx_14 hr hb (frI_rfl _ _) (frA_rfl _ _) (q := ckM rm s V b) ⟨rfl, rfl, rfl⟩ (by rw [hM]; exact hd) hV hz hs (fun w => ⟨by rw [hM], hI2 w⟩) hQ)
      | exact lx_14 hr hb (frI_w k7 (by decide)) (frA_w k8 (by decide)) (q := ckM rm s V b) ⟨rfl, rfl, rfl⟩ (by rw [hM]; exact k1) k2 k6 ⟨by rw [k4 4 (by simp)]; exact hs.1, by rw [k4 5 (by simp)]; exact hs.2.1, by rw [k4 6 (by simp)]; exact hs.2.2⟩ (fun w => ⟨by rw [hM] at w ⊢; exact k5 w, hI2 w⟩) hQ
  · have h24 : ¬ wh V b ≤ 24 := fun z => c11 (nI_le z (by decide))
    have hM : ckM rm s V b = ck rm s V := if_neg h24
    refine pz_aln (i := 12) rfl rfl ?_
    refine pz_cV0 (i := 13) rfl (gc_13 ..) rfl (Nat.le_of_ble_eq_true rfl) rfl ?_
    refine sx_makeCheckpoint hr hd hV hz (fun _ => hck) (fun _ i h1 h2 => by have := hbn.1 i h1 h2; omega) ⟨by have := hs.1; omega, by have := hs.2.1; omega, by have := hs.2.2; omega⟩ (fun iv1 av1 V1 k1 k2 k3 k4 k5 k6 k7 k8 => ?_)
    refine ⟨rfl, ?_⟩
    first
      | (have h24 : wh V b ≤ 24 := le_ofI (b := 24) c11 (by omega) (by decide)
         have hM : ckM rm s V b = (s, V) := if_pos h24
         exact lx_14 hr hb (frI_rfl _ _) (frA_rfl _ _) (q := ckM rm s V b) ⟨rfl, rfl, rfl⟩ (by rw [hM]; exact hd) hV hz hs (fun w => ⟨by rw [hM], hI2 w⟩) hQ)
      | exact lx_14 hr hb (frI_w k7 (by decide)) (frA_w k8 (by decide)) (q := ckM rm s V b) ⟨rfl, rfl, rfl⟩ (by rw [hM]; exact k1) k2 k6 ⟨by rw [k4 4 (by simp)]; exact hs.1, by rw [k4 5 (by simp)]; exact hs.2.1, by rw [k4 6 (by simp)]; exact hs.2.2⟩ (fun w => ⟨by rw [hM] at w ⊢; exact k5 w, hI2 w⟩) hQ
end S74
