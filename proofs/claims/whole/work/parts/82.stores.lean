/-! PART 82: the class: isThere, put, remove, commit, checkpoint, collect, open, type -/
/-- what a batch wants of the disk -/
def wB (rm : Nat) (a : aS) : Prop := dwn a = false → ∀ b : List bR, b.length ≤ 8 → (∀ x ∈ b, bOK x) → stI rm b a.1.1 a.1.2.1 a.1.2.2
theorem thr_f {f : Nat} {iv : Nat → Int32} {V : vW} {k : Nat} (hk : k < 120) (h : fAll f iv V.2.1 V.1 (nI k)) (hok : ∀ e, ent V.2.1 V.1 k = some e → e.1 < 3) : thr V k = decide (iv (40 + 10 * f + 0) = 1) := by
  unfold fAll at h
  rw [if_pos (kx_of hk), cl_ofI (a := k)] at h
  unfold thr
  cases he : ent V.2.1 V.1 k with
  | none =>
    have h1 := h.1
    rw [he] at h1
    rw [show iv (40 + 10 * f + 0) = 0 from h1]
    rfl
  | some e =>
    have h1 := h.1
    rw [he] at h1
    have h2 := hok e he
    rw [show iv (40 + 10 * f + 0) = nI e.1 from h1.1]
    show decide (e.1 = 1) = decide (nI e.1 = nI 1)
    exact decide_eq_decide.mpr ⟨fun z => by rw [z], fun z => eq_ofI z⟩
section S82
variable {Lx : Nat} {xs : Nat → Int32} {d rm : Nat} {iv : Nat → Int32} {av : Nat → Nat → Int32} {r : pW} {Q : rQ}
set_option maxRecDepth 20000 in
theorem sx_isThere (hr : 0 < rm ∧ rm ≤ 4096) {V : vW} {k : Nat} (hk : k < 120) (hV : vX 0 iv av V) (htE : ∀ t ∈ V.1, tE rm (av 0) t) (hQ : ∀ iv', frI iv iv' [60, 61, 62, 63, 64, 65] → Q (some (.int (bB (thr V k)))) (wX rm iv' av r)) : rx_R Lx xs (d + 5) 80 [.ref 1, .int (nI k)] (wX rm iv av r) Q := by
  refine pz_en (t := rt_80) ⟨Nat.le_of_ble_eq_true rfl, rfl⟩ rfl rfl ?_
  refine pz_aln (i := 0) rfl rfl ?_
  refine pz_get (i := 1) rfl (gf_1_1 ..) ?_
  refine pz_iln (i := 2) rfl rfl ?_
  refine pz_aln (i := 3) rfl rfl ?_
  refine pz_get (i := 4) rfl (gf_1_13 ..) ?_
  refine pz_cV2 (i := 5) rfl (gc_7 ..) rfl (Nat.le_of_ble_eq_true rfl) rfl ?_
  refine sx_find hr (v := 0) (f := 2) (by decide) (by decide) hV.1 htE hV.2.1 (fun iv1 hf f1 => ?_)
  have ht := thr_f hk hf (fun e he => (ent_ok hV.2.1.1 (fun t ht => (htE t ht).2.2.2.1) he).2.1)
  refine ⟨rfl, ?_⟩
  refine pz_aln (i := 6) rfl rfl ?_
  refine pz_get (i := 7) rfl (gf_1_13 ..) ?_
  refine pz_get (i := 8) rfl (gf_53_0 ..) ?_
  refine pz_ic (i := 9) rfl ?_
  refine pz_ii_ne (i := 10) rfl (fun c10 => ?_) (fun c10 => ?_)
  · refine pz_ic (i := 13) rfl ?_
    refine pz_ir (i := 14) rfl rfl rfl ?_
    have h := hQ iv1 f1
    rw [ht] at h
    first
      | (rw [decide_eq_true (by exact c10)] at h
         exact h)
      | (rw [decide_eq_false (by exact c10)] at h
         exact h)
  · refine pz_ic (i := 11) rfl ?_
    refine pz_go (i := 12) rfl ?_
    refine pz_ir (i := 14) rfl rfl rfl ?_
    have h := hQ iv1 f1
    rw [ht] at h
    first
      | (rw [decide_eq_true (by exact c10)] at h
         exact h)
      | (rw [decide_eq_false (by exact c10)] at h
         exact h)
set_option maxRecDepth 20000 in
theorem sx_put (hr : 512 ≤ rm ∧ rm ≤ 4096) {a : aS} {key : Int32} (hx : xS rm iv av a) (hI : wB rm a) (hQ : ∀ iv' av', xS rm iv' av' (aPut rm key a).2 → Q (some (.int (aPut rm key a).1)) (wX rm iv' av' r)) : rx_R Lx xs (d + 8) 59 [.ref 1, .int key] (wX rm iv av r) Q := by
  refine pz_en (t := rt_59) ⟨Nat.le_of_ble_eq_true rfl, rfl⟩ rfl rfl ?_
  unfold aPut at hQ
  obtain ⟨hd, hz, hT, hG, hV⟩ := id hx
  have h5 : iv 5 = bB (dwn a) := hd.2.2.2.2.2.2.2.2.1
  refine pz_aln (i := 0) rfl rfl ?_
  refine pz_get (i := 1) rfl (gf_1_0 ..) ?_
  refine pz_get (i := 2) rfl (gf_2_10 ..) ?_
  rw [h5]
  refine pz_if_eq (i := 3) rfl (fun c3 => ?_) (fun c3 => ?_)
  · have hl := bB_f c3
    have hal : a.1.1.2.2.2.2.2 = false := hl
    rw [if_neg (show ¬ dwn a = true by rw [hl]; decide)] at hQ
    refine pz_iln (i := 6) rfl rfl ?_
    refine pz_sI1 (i := 7) rfl (by decide) (Nat.le_of_ble_eq_true rfl) rfl ?_
    refine sx_isKey ?_
    refine ⟨_, rfl, ?_⟩
    refine pz_if_eq (i := 8) rfl (fun c8 => ?_) (fun c8 => ?_)
    · refine pz_ic (i := 14) rfl ?_
      refine pz_ir (i := 15) rfl rfl rfl ?_
      first
        | rw [if_pos (Or.inl (bB_f c8))] at hQ
        | rw [if_pos (Or.inr (eq_ofI (b := 8) c13 (by have := hT.1.2.1; omega) (by decide)))] at hQ
      exact hQ iv av hx
    · refine pz_aln (i := 9) rfl rfl ?_
      refine pz_get (i := 10) rfl (gf_1_6 ..) ?_
      refine pz_get (i := 11) rfl (gf_37_4 ..) ?_
      rw [hT.1.1]
      refine pz_bi (i := 12) rfl ?_
      refine pz_ii_ne (i := 13) rfl (fun c13 => ?_) (fun c13 => ?_)
      · have h8l := hT.1.2.1
        have hk1 := bB_t c8
        have h8 := ne_ofI (b := 8) c13
        rw [if_neg (fun z => z.elim (fun w => by rw [hk1] at w; cases w) h8)] at hQ
        obtain ⟨k, hk, rfl⟩ := kx_nat hk1
        rw [cl_ofI (a := k)] at hQ
        have hok : bOK (1, k, a.2.1.2.2) := ⟨Nat.zero_lt_one, (by decide : 1 < 3), hk, hT.2.2.2.2.1, hT.2.2.2.2.2.1⟩
        unfold aLay at hQ
        refine pz_aln (i := 16) rfl rfl ?_
        refine pz_get (i := 17) rfl (gf_1_6 ..) ?_
        refine pz_ic (i := 18) rfl ?_
        refine pz_iln (i := 19) rfl rfl ?_
        refine pz_aln (i := 20) rfl rfl ?_
        refine pz_get (i := 21) rfl (gf_1_8 ..) ?_
        refine pz_aln (i := 22) rfl rfl ?_
        refine pz_get (i := 23) rfl (gf_1_9 ..) ?_
        rw [hT.2.2.2.1]
        refine pz_cV4 (i := 24) rfl (gc_37 ..) rfl (Nat.le_of_ble_eq_true rfl) rfl ?_
        refine sx_add (kd := 1) (key := k) (val := a.2.1.2.2) hT.1 (by omega) hok hT.2.2.2.2.2.2 (fun iv1 av1 hb1 f1 f2 => ?_)
        refine ⟨rfl, ?_⟩
        refine pz_aln (i := 25) rfl rfl ?_
        refine pz_ic (i := 26) rfl ?_
        refine pz_put (i := 27) rfl (pf_1_9 ..) ⟨rfl, rfl⟩ ?_
        have g1 : frI iv (upd iv1 9 0) [7, 9] := frI_up (frI_tr f1 (frI_rfl _ []) (by decide) (by decide)) (by decide)
        have g2 : frA av av1 [29, 30, 31, 32, 33, 34, 35, 36, 37, 38, 39] := f2
        have hb2 : bX (upd iv1 9 0) av1 (a.2.1.1 ++ [(1, k, a.2.1.2.2)]) := bX_ext hb1 (ui_n (by decide)) (fun _ _ _ => rfl)
        have k9 : (upd iv1 9 0) 9 = nI 0 := ui_s _ _ _
        have hd2 := dX_fr hd g1 g2 (by decide) (by decide)
        have hz2 := kz_ext hz g2 (by decide)
        have hG2 := gX_fr hG g1 g2 (by decide) (by decide)
        have hV2 := vX_ext (hV hl) g1 g2 (by decide) (by decide)
        refine pz_aln (i := 28) rfl rfl ?_
        refine pz_get (i := 29) rfl (gf_1_7 ..) ?_
        rw [g1 8 (by decide), hT.2.1]
        refine pz_if_eq (i := 30) rfl (fun c30 => ?_) (fun c30 => ?_)
        · refine pz_aln (i := 35) rfl rfl ?_
          refine pz_aln (i := 36) rfl rfl ?_
          refine pz_get (i := 37) rfl (gf_1_2 ..) ?_
          refine pz_aln (i := 38) rfl rfl ?_
          refine pz_get (i := 39) rfl (gf_1_6 ..) ?_
          refine pz_cI1 (i := 40) rfl (gc_13 ..) rfl (Nat.le_of_ble_eq_true rfl) rfl ?_
          have hbg := bB_f c30
          rw [if_neg (show ¬ a.2.1.2.1 = true by rw [hbg]; decide)] at hQ
          have hok2 : ∀ x ∈ a.2.1.1 ++ [(1, k, a.2.1.2.2)], bOK x := fun x hx => bX_mem hb2 x hx
          refine sx_store hr hb2 hd2 hV2 hz2 hal (hI hl _ hb2.2.1 hok2) (fun iv3 av3 V3 z k1 k2 k3 k4 q1 q2 => ?_)
          refine ⟨_, rfl, ?_⟩
          refine pz_cI1 (i := 41) rfl (gc_1 ..) rfl (Nat.le_of_ble_eq_true rfl) rfl ?_
          refine sx_batchOver hr (D := stD rm (a.2.1.1 ++ [(1, k, a.2.1.2.2)]) a.1) (b := []) (T2 := false) (tp := []) (z := if (sto rm (a.2.1.1 ++ [(1, k, a.2.1.2.2)]) a.1.1 a.1.2.1 a.1.2.2).2.2 then nI (a.2.1.1 ++ [(1, k, a.2.1.2.2)]).length else -3) k1 k3 ((q1 9 (by decide)).trans k9) (Nat.zero_le _) (fun x hx => by cases hx) (fun k hk => absurd hk (Nat.not_lt_zero k)) (gX_fr hG2 q1 q2 (by decide) (by decide)) (fun w => ?_) (fun iv4 av4 k4 => ?_)
          · obtain ⟨e1, e2⟩ := k4 w
            subst e1
            exact ⟨k2, e2⟩
          refine ⟨_, rfl, ?_⟩
          refine pz_ir (i := 42) rfl rfl rfl ?_
          first
            | exact hQ iv4 av4 k4
            | (have hbg := bB_t c30
               rw [if_pos hbg] at hQ
               rw [List.length_append]
               exact hQ _ av1 ⟨hd2, hz2, ⟨hb2, by rw [g1 8 (by decide), hT.2.1, hbg], fun w => (by cases w), k9, Nat.zero_le _, fun x hx => (by cases hx), fun k hk => absurd hk (Nat.not_lt_zero k)⟩, hG2, fun _ => hV2⟩)
        · refine pz_aln (i := 31) rfl rfl ?_
          refine pz_get (i := 32) rfl (gf_1_6 ..) ?_
          refine pz_get (i := 33) rfl (gf_37_4 ..) ?_
          rw [hb2.1]
          refine pz_go (i := 34) rfl ?_
          refine pz_ir (i := 42) rfl rfl rfl ?_
          first
            | exact hQ iv4 av4 k4
            | (have hbg := bB_t c30
               rw [if_pos hbg] at hQ
               rw [List.length_append]
               exact hQ _ av1 ⟨hd2, hz2, ⟨hb2, by rw [g1 8 (by decide), hT.2.1, hbg], fun w => (by cases w), k9, Nat.zero_le _, fun x hx => (by cases hx), fun k hk => absurd hk (Nat.not_lt_zero k)⟩, hG2, fun _ => hV2⟩)
      · refine pz_ic (i := 14) rfl ?_
        refine pz_ir (i := 15) rfl rfl rfl ?_
        first
          | rw [if_pos (Or.inl (bB_f c8))] at hQ
          | rw [if_pos (Or.inr (eq_ofI (b := 8) c13 (by have := hT.1.2.1; omega) (by decide)))] at hQ
        exact hQ iv av hx
  · refine pz_bi (i := 4) rfl ?_
    refine pz_ir (i := 5) rfl rfl rfl ?_
    rw [if_pos (bB_t c3)] at hQ
    exact hQ iv av hx
set_option maxRecDepth 20000 in
theorem lp_rm (hr : 512 ≤ rm ∧ rm ≤ 4096) {a : aS} {k : Nat} (hk : k < 120) (hx : xS rm iv av a) (hl : dwn a = false) (h8 : a.2.1.1.length < 8) (hI : wB rm a) (hQ : ∀ iv' av', xS rm iv' av' (aLay rm (2, k, []) a a.2.1.2.2).2 → Q (some (.int (aLay rm (2, k, []) a a.2.1.2.2).1)) (wX rm iv' av' r)) : pz Lx xs (d + 7) rt_60 (some .int) Q 25 [some (.ref 1), some (.int (nI k))] [] (wX rm iv av r) := by
  obtain ⟨hd, hz, hT, hG, hV⟩ := id hx
  have hal : a.1.1.2.2.2.2.2 = false := hl
  have hok : bOK (2, k, []) := ⟨(by decide : 0 < 2), (by decide : 2 < 3), hk, Nat.zero_le _, fun x hx => (by cases hx)⟩
  unfold aLay at hQ
  refine pz_aln (i := 25) rfl rfl ?_
  refine pz_get (i := 26) rfl (gf_1_6 ..) ?_
  refine pz_ic (i := 27) rfl ?_
  refine pz_iln (i := 28) rfl rfl ?_
  refine pz_aln (i := 29) rfl rfl ?_
  refine pz_get (i := 30) rfl (gf_1_8 ..) ?_
  refine pz_ic (i := 31) rfl ?_
  refine pz_cV4 (i := 32) rfl (gc_37 ..) rfl (Nat.le_of_ble_eq_true rfl) rfl ?_
  refine sx_add (kd := 2) (key := k) (val := []) hT.1 h8 hok (fun k hk => absurd hk (Nat.not_lt_zero k)) (fun iv1 av1 hb1 f1 f2 => ?_)
  have hd2 := dX_fr hd f1 f2 (by decide) (by decide)
  have hz2 := kz_ext hz f2 (by decide)
  have hG2 := gX_fr hG f1 f2 (by decide) (by decide)
  have hV2 := vX_ext (hV hl) f1 f2 (by decide) (by decide)
  have k9 : iv1 9 = nI a.2.1.2.2.length := (f1 9 (by decide)).trans hT.2.2.2.1
  have k40 : ∀ k, k < a.2.1.2.2.length → av1 40 k = lB a.2.1.2.2 k := fun k hk => by rw [f2 40 (by decide)]; exact hT.2.2.2.2.2.2 k hk
  refine ⟨rfl, ?_⟩
  refine pz_aln (i := 33) rfl rfl ?_
  refine pz_get (i := 34) rfl (gf_1_7 ..) ?_
  rw [f1 8 (by decide), hT.2.1]
  refine pz_if_eq (i := 35) rfl (fun c35 => ?_) (fun c35 => ?_)
  · refine pz_aln (i := 40) rfl rfl ?_
    refine pz_aln (i := 41) rfl rfl ?_
    refine pz_get (i := 42) rfl (gf_1_2 ..) ?_
    refine pz_aln (i := 43) rfl rfl ?_
    refine pz_get (i := 44) rfl (gf_1_6 ..) ?_
    refine pz_cI1 (i := 45) rfl (gc_13 ..) rfl (Nat.le_of_ble_eq_true rfl) rfl ?_
    have hbg := bB_f c35
    rw [if_neg (show ¬ a.2.1.2.1 = true by rw [hbg]; decide)] at hQ
    refine sx_store hr hb1 hd2 hV2 hz2 hal (hI hl _ hb1.2.1 (fun x hx => bX_mem hb1 x hx)) (fun iv3 av3 V3 z k1 k2 k3 k4 q1 q2 => ?_)
    refine ⟨_, rfl, ?_⟩
    refine pz_cI1 (i := 46) rfl (gc_1 ..) rfl (Nat.le_of_ble_eq_true rfl) rfl ?_
    refine sx_batchOver hr (D := stD rm (a.2.1.1 ++ [(2, k, [])]) a.1) (b := []) (T2 := false) (tp := a.2.1.2.2) (z := if (sto rm (a.2.1.1 ++ [(2, k, [])]) a.1.1 a.1.2.1 a.1.2.2).2.2 then nI (a.2.1.1 ++ [(2, k, [])]).length else -3) k1 k3 ((q1 9 (by decide)).trans k9) hT.2.2.2.2.1 hT.2.2.2.2.2.1 (fun k hk => by rw [q2 40 (by decide)]; exact k40 k hk) (gX_fr hG2 q1 q2 (by decide) (by decide)) (fun w => ?_) (fun iv4 av4 k4 => ?_)
    · obtain ⟨e1, e2⟩ := k4 w
      subst e1
      exact ⟨k2, e2⟩
    refine ⟨_, rfl, ?_⟩
    refine pz_ir (i := 47) rfl rfl rfl ?_
    first
      | exact hQ iv4 av4 k4
      | (have hbg := bB_t c35
         rw [if_pos hbg] at hQ
         rw [List.length_append]
         exact hQ _ av1 ⟨hd2, hz2, ⟨hb1, by rw [f1 8 (by decide), hT.2.1, hbg], fun w => (by cases w), k9, hT.2.2.2.2.1, hT.2.2.2.2.2.1, k40⟩, hG2, fun _ => hV2⟩)
  · refine pz_aln (i := 36) rfl rfl ?_
    refine pz_get (i := 37) rfl (gf_1_6 ..) ?_
    refine pz_get (i := 38) rfl (gf_37_4 ..) ?_
    rw [hb1.1]
    refine pz_go (i := 39) rfl ?_
    refine pz_ir (i := 47) rfl rfl rfl ?_
    first
      | exact hQ iv4 av4 k4
      | (have hbg := bB_t c35
         rw [if_pos hbg] at hQ
         rw [List.length_append]
         exact hQ _ av1 ⟨hd2, hz2, ⟨hb1, by rw [f1 8 (by decide), hT.2.1, hbg], fun w => (by cases w), k9, hT.2.2.2.2.1, hT.2.2.2.2.2.1, k40⟩, hG2, fun _ => hV2⟩)
set_option maxRecDepth 20000 in
theorem sx_remove (hr : 512 ≤ rm ∧ rm ≤ 4096) {a : aS} {key : Int32} (hx : xS rm iv av a) (hI : wB rm a) (hQ : ∀ iv' av', xS rm iv' av' (aRemove rm key a).2 → Q (some (.int (aRemove rm key a).1)) (wX rm iv' av' r)) : rx_R Lx xs (d + 8) 60 [.ref 1, .int key] (wX rm iv av r) Q := by
  refine pz_en (t := rt_60) ⟨Nat.le_of_ble_eq_true rfl, rfl⟩ rfl rfl ?_
  unfold aRemove at hQ
  obtain ⟨hd, hz, hT, hG, hV⟩ := id hx
  have h5 : iv 5 = bB (dwn a) := hd.2.2.2.2.2.2.2.2.1
  refine pz_aln (i := 0) rfl rfl ?_
  refine pz_get (i := 1) rfl (gf_1_0 ..) ?_
  refine pz_get (i := 2) rfl (gf_2_10 ..) ?_
  rw [h5]
  refine pz_if_eq (i := 3) rfl (fun c3 => ?_) (fun c3 => ?_)
  · have hl := bB_f c3
    have hal : a.1.1.2.2.2.2.2 = false := hl
    rw [if_neg (show ¬ dwn a = true by rw [hl]; decide)] at hQ
    refine pz_iln (i := 6) rfl rfl ?_
    refine pz_sI1 (i := 7) rfl (by decide) (Nat.le_of_ble_eq_true rfl) rfl ?_
    refine sx_isKey ?_
    refine ⟨_, rfl, ?_⟩
    refine pz_if_eq (i := 8) rfl (fun c8 => ?_) (fun c8 => ?_)
    · refine pz_ic (i := 14) rfl ?_
      refine pz_ir (i := 15) rfl rfl rfl ?_
      first
        | rw [if_pos (Or.inl (bB_f c8))] at hQ
        | rw [if_pos (Or.inr (eq_ofI (b := 8) c13 (by have := hT.1.2.1; omega) (by decide)))] at hQ
      exact hQ iv av hx
    · refine pz_aln (i := 9) rfl rfl ?_
      refine pz_get (i := 10) rfl (gf_1_6 ..) ?_
      refine pz_get (i := 11) rfl (gf_37_4 ..) ?_
      rw [hT.1.1]
      refine pz_bi (i := 12) rfl ?_
      refine pz_ii_ne (i := 13) rfl (fun c13 => ?_) (fun c13 => ?_)
      · have h8l := hT.1.2.1
        have hk1 := bB_t c8
        have h8 := ne_ofI (b := 8) c13
        rw [if_neg (fun z => z.elim (fun w => by rw [hk1] at w; cases w) h8)] at hQ
        obtain ⟨k, hk, rfl⟩ := kx_nat hk1
        rw [cl_ofI (a := k)] at hQ
        have hck := (hI hl [] (Nat.zero_le _) (fun x hx => (by cases hx))).1
        refine pz_aln (i := 16) rfl rfl ?_
        refine pz_get (i := 17) rfl (gf_1_7 ..) ?_
        rw [hT.2.1]
        refine pz_if_ne (i := 18) rfl (fun c18 => ?_) (fun c18 => ?_)
        · first
            | exact lp_rm hr hk hx hl (by omega) hI (by rw [if_neg (show ¬ (a.2.1.2.1 = false ∧ thr a.1.2.1 k = false) from fun z => c18 (by rw [z.1]; rfl))] at hQ; exact hQ)
            | exact lp_rm hr hk hx0 hl (by omega) hI (by rw [if_neg (show ¬ (a.2.1.2.1 = false ∧ thr a.1.2.1 k = false) from fun z => c22 (by rw [z.2]; rfl))] at hQ; exact hQ)
        · refine pz_aln (i := 19) rfl rfl ?_
          refine pz_iln (i := 20) rfl rfl ?_
          refine pz_cI1 (i := 21) rfl (gc_1 ..) rfl (Nat.le_of_ble_eq_true rfl) rfl ?_
          refine sx_isThere ⟨by omega, hr.2⟩ hk (hV hl) (fun t ht => by rw [show av 0 = cu rm a.1.1 from hd.1]; exact hck.1 t ht) (fun iv0 f0 => ?_)
          have hx0 : xS rm iv0 av a := ⟨dX_fr hd f0 (frA_rfl av []) (by decide) (by decide), hz, tX_fr hT f0 (frA_rfl av []) (by decide) (by decide), gX_fr hG f0 (frA_rfl av []) (by decide) (by decide), fun w => vX_ext (hV hl) f0 (frA_rfl av []) (by decide) (by decide)⟩
          refine ⟨_, rfl, ?_⟩
          refine pz_if_ne (i := 22) rfl (fun c22 => ?_) (fun c22 => ?_)
          · first
              | exact lp_rm hr hk hx hl (by omega) hI (by rw [if_neg (show ¬ (a.2.1.2.1 = false ∧ thr a.1.2.1 k = false) from fun z => c18 (by rw [z.1]; rfl))] at hQ; exact hQ)
              | exact lp_rm hr hk hx0 hl (by omega) hI (by rw [if_neg (show ¬ (a.2.1.2.1 = false ∧ thr a.1.2.1 k = false) from fun z => c22 (by rw [z.2]; rfl))] at hQ; exact hQ)
          · refine pz_ic (i := 23) rfl ?_
            refine pz_ir (i := 24) rfl rfl rfl ?_
            rw [if_pos ⟨bB_f c18, bB_f c22⟩] at hQ
            exact hQ iv0 av hx0
      · refine pz_ic (i := 14) rfl ?_
        refine pz_ir (i := 15) rfl rfl rfl ?_
        first
          | rw [if_pos (Or.inl (bB_f c8))] at hQ
          | rw [if_pos (Or.inr (eq_ofI (b := 8) c13 (by have := hT.1.2.1; omega) (by decide)))] at hQ
        exact hQ iv av hx
  · refine pz_bi (i := 4) rfl ?_
    refine pz_ir (i := 5) rfl rfl rfl ?_
    rw [if_pos (bB_t c3)] at hQ
    exact hQ iv av hx
set_option maxRecDepth 20000 in
theorem sx_commit (hr : 512 ≤ rm ∧ rm ≤ 4096) {a : aS} (hx : xS rm iv av a) (hI : wB rm a) (hQ : ∀ iv' av', xS rm iv' av' (aCommit rm a).2 → Q (some (.int (aCommit rm a).1)) (wX rm iv' av' r)) : rx_R Lx xs (d + 8) 62 [.ref 1] (wX rm iv av r) Q := by
  refine pz_en (t := rt_62) ⟨Nat.le_of_ble_eq_true rfl, rfl⟩ rfl rfl ?_
  unfold aCommit at hQ
  obtain ⟨hd, hz, hT, hG, hV⟩ := id hx
  have h5 : iv 5 = bB (dwn a) := hd.2.2.2.2.2.2.2.2.1
  refine pz_aln (i := 0) rfl rfl ?_
  refine pz_get (i := 1) rfl (gf_1_0 ..) ?_
  refine pz_get (i := 2) rfl (gf_2_10 ..) ?_
  rw [h5]
  refine pz_if_eq (i := 3) rfl (fun c3 => ?_) (fun c3 => ?_)
  · have hl := bB_f c3
    have hal : a.1.1.2.2.2.2.2 = false := hl
    rw [if_neg (show ¬ dwn a = true by rw [hl]; decide)] at hQ
    refine pz_aln (i := 6) rfl rfl ?_
    refine pz_get (i := 7) rfl (gf_1_6 ..) ?_
    refine pz_get (i := 8) rfl (gf_37_4 ..) ?_
    rw [hT.1.1]
    refine pz_if_ne (i := 9) rfl (fun c9 => ?_) (fun c9 => ?_)
    · refine pz_aln (i := 14) rfl rfl ?_
      refine pz_aln (i := 15) rfl rfl ?_
      refine pz_get (i := 16) rfl (gf_1_2 ..) ?_
      refine pz_aln (i := 17) rfl rfl ?_
      refine pz_get (i := 18) rfl (gf_1_6 ..) ?_
      refine pz_cI1 (i := 19) rfl (gc_13 ..) rfl (Nat.le_of_ble_eq_true rfl) rfl ?_
      rw [if_neg (ne_ofI (b := 0) c9)] at hQ
      refine sx_store hr hT.1 hd (hV hl) hz hal (hI hl _ hT.1.2.1 (fun x hx => bX_mem hT.1 x hx)) (fun iv3 av3 V3 z k1 k2 k3 k4 q1 q2 => ?_)
      refine ⟨_, rfl, ?_⟩
      refine pz_cI1 (i := 20) rfl (gc_1 ..) rfl (Nat.le_of_ble_eq_true rfl) rfl ?_
      refine sx_batchOver hr (D := stD rm a.2.1.1 a.1) (b := []) (T2 := false) (tp := a.2.1.2.2) (z := if (sto rm a.2.1.1 a.1.1 a.1.2.1 a.1.2.2).2.2 then nI a.2.1.1.length else -3) k1 k3 ((q1 9 (by decide)).trans hT.2.2.2.1) hT.2.2.2.2.1 hT.2.2.2.2.2.1 (fun k hk => by rw [q2 40 (by decide)]; exact hT.2.2.2.2.2.2 k hk) (gX_fr hG q1 q2 (by decide) (by decide)) (fun w => ?_) (fun iv4 av4 k4 => ?_)
      · obtain ⟨e1, e2⟩ := k4 w
        subst e1
        exact ⟨k2, e2⟩
      refine ⟨_, rfl, ?_⟩
      refine pz_ir (i := 21) rfl rfl rfl ?_
      exact hQ iv4 av4 k4
    · refine pz_aln (i := 10) rfl rfl ?_
      refine pz_ic (i := 11) rfl ?_
      refine pz_cI1 (i := 12) rfl (gc_1 ..) rfl (Nat.le_of_ble_eq_true rfl) rfl ?_
      rw [if_pos (eq_ofI (b := 0) c9 (by have := hT.1.2.1; omega) (by decide))] at hQ
      refine sx_batchOver hr (D := a.1) (b := []) (T2 := false) (z := -1) hd hz hT.2.2.2.1 hT.2.2.2.2.1 hT.2.2.2.2.2.1 hT.2.2.2.2.2.2 hG (fun w => ⟨hV hl, rfl⟩) (fun iv1 av1 k1 => ?_)
      unfold fin at k1
      rw [if_neg (by rw [hal]; decide)] at k1
      have e9 : (fin rm a.1 ([], false, a.2.1.2.2) a.2.2 (-1)).1 = -1 := by
        unfold fin
        rw [if_neg (by rw [hal]; decide)]
      rw [e9]
      refine ⟨_, rfl, ?_⟩
      refine pz_ir (i := 13) rfl rfl rfl ?_
      exact hQ iv1 av1 k1
  · refine pz_bi (i := 4) rfl ?_
    refine pz_ir (i := 5) rfl rfl rfl ?_
    rw [if_pos (bB_t c3)] at hQ
    exact hQ iv av hx
set_option maxRecDepth 20000 in
theorem sx_checkpointF (hr : 512 ≤ rm ∧ rm ≤ 4096) {a : aS} (hx : xS rm iv av a) (hI : wB rm a) (hQ : ∀ iv' av', xS rm iv' av' (aCheckpoint rm a).2 → Q (some (.int (aCheckpoint rm a).1)) (wX rm iv' av' r)) : rx_R Lx xs (d + 7) 68 [.ref 1] (wX rm iv av r) Q := by
  refine pz_en (t := rt_68) ⟨Nat.le_of_ble_eq_true rfl, rfl⟩ rfl rfl ?_
  unfold aCheckpoint at hQ
  obtain ⟨hd, hz, hT, hG, hV⟩ := id hx
  have h5 : iv 5 = bB (dwn a) := hd.2.2.2.2.2.2.2.2.1
  refine pz_aln (i := 0) rfl rfl ?_
  refine pz_get (i := 1) rfl (gf_1_0 ..) ?_
  refine pz_get (i := 2) rfl (gf_2_10 ..) ?_
  rw [h5]
  refine pz_if_eq (i := 3) rfl (fun c3 => ?_) (fun c3 => ?_)
  · have hl := bB_f c3
    have hal : a.1.1.2.2.2.2.2 = false := hl
    rw [if_neg (show ¬ dwn a = true by rw [hl]; decide)] at hQ
    refine pz_aln (i := 6) rfl rfl ?_
    refine pz_get (i := 7) rfl (gf_1_2 ..) ?_
    refine pz_cV0 (i := 8) rfl (gc_13 ..) rfl (Nat.le_of_ble_eq_true rfl) rfl ?_
    obtain ⟨hck, hbd, _⟩ := hI hl [] (Nat.zero_le _) (fun x hx => (by cases hx))
    have hbd1 := hbd.1
    refine sx_makeCheckpoint hr hd (hV hl) hz (fun _ => hck) (fun _ i i1 i2 => by have := hbd1 i i1 i2; omega) ⟨by have := hbd1 4 (by decide) (by decide); omega, by have := hbd1 5 (by decide) (by decide); omega, by have := hbd1 6 (by decide) (by decide); omega⟩ (fun iv1 av1 V1 k1 k2 _ _ k3 k4 q1 q2 => ?_)
    refine ⟨rfl, ?_⟩
    refine pz_aln (i := 9) rfl rfl ?_
    refine pz_aln (i := 10) rfl rfl ?_
    refine pz_get (i := 11) rfl (gf_1_1 ..) ?_
    refine pz_get (i := 12) rfl (gf_7_3 ..) ?_
    rw [show iv1 10 = nI V1.1.length from k2.1.1]
    refine pz_cI1 (i := 13) rfl (gc_1 ..) rfl (Nat.le_of_ble_eq_true rfl) rfl ?_
    refine sx_ended hr (D := ((ck rm a.1.1 a.1.2.1).1, (ck rm a.1.1 a.1.2.1).2, a.1.2.2)) (z := nI (ck rm a.1.1 a.1.2.1).2.1.length) k1 k4 (tX_fr hT q1 q2 (by decide) (by decide)) (gX_fr hG q1 q2 (by decide) (by decide)) (fun w => ?_) (fun iv4 av4 k5 => ?_)
    · have e1 := k3 w
      subst e1
      exact ⟨k2, rfl⟩
    refine ⟨_, rfl, ?_⟩
    refine pz_ir (i := 14) rfl rfl rfl ?_
    exact hQ iv4 av4 k5
  · refine pz_bi (i := 4) rfl ?_
    refine pz_ir (i := 5) rfl rfl rfl ?_
    rw [if_pos (bB_t c3)] at hQ
    exact hQ iv av hx
set_option maxRecDepth 20000 in
theorem sx_collectF (hr : 512 ≤ rm ∧ rm ≤ 4096) {a : aS} {n : Int32} (hx : xS rm iv av a) (hI : wB rm a) (hC : dwn a = false → ∀ k, k ≤ 1000 → clI rm k a.1.2.2 a.1.1 a.1.2.1) (hQ : ∀ iv' av', xS rm iv' av' (aCollect rm n a).2 → Q (some (.int (aCollect rm n a).1)) (wX rm iv' av' r)) : rx_R Lx xs (d + 7) 69 [.ref 1, .int n] (wX rm iv av r) Q := by
  refine pz_en (t := rt_69) ⟨Nat.le_of_ble_eq_true rfl, rfl⟩ rfl rfl ?_
  unfold aCollect at hQ
  obtain ⟨hd, hz, hT, hG, hV⟩ := id hx
  have h5 : iv 5 = bB (dwn a) := hd.2.2.2.2.2.2.2.2.1
  refine pz_aln (i := 0) rfl rfl ?_
  refine pz_get (i := 1) rfl (gf_1_0 ..) ?_
  refine pz_get (i := 2) rfl (gf_2_10 ..) ?_
  rw [h5]
  refine pz_if_eq (i := 3) rfl (fun c3 => ?_) (fun c3 => ?_)
  · have hl := bB_f c3
    have hal : a.1.1.2.2.2.2.2 = false := hl
    rw [if_neg (show ¬ dwn a = true by rw [hl]; decide)] at hQ
    refine pz_iln (i := 6) rfl rfl ?_
    refine pz_ic (i := 7) rfl ?_
    refine pz_ii_lt (i := 8) rfl (fun c8 => ?_) (fun c8 => ?_)
    · refine pz_ic (i := 12) rfl ?_
      refine pz_ir (i := 13) rfl rfl rfl ?_
      first
        | rw [if_pos (Or.inl c8)] at hQ
        | rw [if_pos (Or.inr (Int32.not_le.mp c11))] at hQ
      exact hQ iv av hx
    · refine pz_iln (i := 9) rfl rfl ?_
      refine pz_si (i := 10) rfl ?_
      refine pz_ii_le (i := 11) rfl (fun c11 => ?_) (fun c11 => ?_)
      · rw [if_neg (fun z => z.elim c8 (fun w => (Int32.not_le.mpr w) c11))] at hQ
        obtain ⟨k, hk, rfl⟩ := nI_of2 (M := 1000) (n := 1000) (by decide) (fun w => c8 (Int32.lt_trans w (by decide))) c11
        have hk1 : 0 < k := by
          rcases Nat.eq_zero_or_pos k with z | z
          · exact absurd (show nI k < 1 by rw [z]; decide) c8
          · exact z
        rw [cl_ofI (a := k)] at hQ
        refine pz_aln (i := 14) rfl rfl ?_
        refine pz_aln (i := 15) rfl rfl ?_
        refine pz_get (i := 16) rfl (gf_1_2 ..) ?_
        refine pz_iln (i := 17) rfl rfl ?_
        refine pz_cI1 (i := 18) rfl (gc_13 ..) rfl (Nat.le_of_ble_eq_true rfl) rfl ?_
        obtain ⟨_, hbd, _⟩ := hI hl [] (Nat.zero_le _) (fun x hx => (by cases hx))
        have hbd1 := hbd.1
        refine sx_collectTail hr (lg := a.1.2.2) ⟨hk1, hk⟩ (fun _ => hC hl k hk) ⟨by have := hbd1 4 (by decide) (by decide); omega, by have := hbd1 5 (by decide) (by decide); omega, by have := hbd1 6 (by decide) (by decide); omega⟩ hd (hV hl) hz (fun iv1 av1 V1 k1 k2 k3 k4 _ q1 q2 => ?_)
        refine ⟨_, rfl, ?_⟩
        refine pz_cI1 (i := 19) rfl (gc_1 ..) rfl (Nat.le_of_ble_eq_true rfl) rfl ?_
        refine sx_ended hr (D := ((cl rm k a.1.2.2 a.1.1 a.1.2.1).1, (cl rm k a.1.2.2 a.1.1 a.1.2.1).2.1, clN rm k a.1.2.2 a.1.1 a.1.2.1)) (z := nI (cl rm k a.1.2.2 a.1.1 a.1.2.1).2.2) k1 k3 (tX_fr hT q1 q2 (by decide) (by decide)) (gX_fr hG q1 q2 (by decide) (by decide)) (fun w => ?_) (fun iv4 av4 k5 => ?_)
        · have e1 := k4 w
          subst e1
          exact ⟨k2, rfl⟩
        refine ⟨_, rfl, ?_⟩
        refine pz_ir (i := 20) rfl rfl rfl ?_
        exact hQ iv4 av4 k5
      · refine pz_ic (i := 12) rfl ?_
        refine pz_ir (i := 13) rfl rfl rfl ?_
        first
          | rw [if_pos (Or.inl c8)] at hQ
          | rw [if_pos (Or.inr (Int32.not_le.mp c11))] at hQ
        exact hQ iv av hx
  · refine pz_bi (i := 4) rfl ?_
    refine pz_ir (i := 5) rfl rfl rfl ?_
    rw [if_pos (bB_t c3)] at hQ
    exact hQ iv av hx
set_option maxRecDepth 20000 in
theorem sx_open (hr : 512 ≤ rm ∧ rm ≤ 4096) {a : aS} {W : vW} {all lg : List lR} (hx : xS rm iv av a) (hI : dwn a = true → a.1.1.2.1 = [] ∧ rtI rm (cu rm a.1.1) W ∧ lgI rm (cu rm a.1.1) W all) (hQ : ∀ iv' av', xS rm iv' av' (aOpen rm W all lg a).2 → Q (some (.int (aOpen rm W all lg a).1)) (wX rm iv' av' r)) : rx_R Lx xs (d + 7) 73 [.ref 1] (wX rm iv av r) Q := by
  refine pz_en (t := rt_73) ⟨Nat.le_of_ble_eq_true rfl, rfl⟩ rfl rfl ?_
  unfold aOpen at hQ
  obtain ⟨hd, hz, hT, hG, hV⟩ := id hx
  have h5 : iv 5 = bB (dwn a) := hd.2.2.2.2.2.2.2.2.1
  refine pz_aln (i := 0) rfl rfl ?_
  refine pz_get (i := 1) rfl (gf_1_0 ..) ?_
  refine pz_get (i := 2) rfl (gf_2_10 ..) ?_
  rw [h5]
  refine pz_if_ne (i := 3) rfl (fun c3 => ?_) (fun c3 => ?_)
  · have hl := bB_t c3
    rw [if_pos hl] at hQ
    obtain ⟨hp, hR, hL⟩ := hI hl
    refine pz_aln (i := 6) rfl rfl ?_
    refine pz_get (i := 7) rfl (gf_1_12 ..) ?_
    refine pz_cV0 (i := 8) rfl (gc_52 ..) rfl (Nat.le_of_ble_eq_true rfl) rfl ?_
    refine sx_Fclear (f := 1) (by decide) ?_
    have fi : frI iv (upd (upd (upd (upd (upd (upd iv 50 0) 51 0) 52 0) 53 0) 54 0) 55 0) [50, 51, 52, 53, 54, 55] := frI_up (frI_up (frI_up (frI_up (frI_up (frI_up (frI_rfl _ _) (by decide)) (by decide)) (by decide)) (by decide)) (by decide)) (by decide)
    refine ⟨rfl, ?_⟩
    refine pz_aln (i := 9) rfl rfl ?_
    refine pz_get (i := 10) rfl (gf_1_2 ..) ?_
    refine pz_cI0 (i := 11) rfl (gc_13 ..) rfl (Nat.le_of_ble_eq_true rfl) rfl ?_
    refine sx_startUp hr (dX_fr hd fi (frA_rfl av []) (by decide) (by decide)) hp hz hR hL (fun iv1 av1 k1 k2 k3 q1 q2 => ?_)
    refine ⟨_, rfl, ?_⟩
    refine pz_ir (i := 12) rfl rfl rfl ?_
    refine hQ iv1 av1 ⟨k1, k3, tX_fr (tX_fr hT fi (frA_rfl av []) (by decide) (by decide)) q1 q2 (by decide) (by decide), ?_, fun _ => k2⟩
    obtain ⟨g1, g2, g3, g4, _, _⟩ := hG
    refine ⟨(q1 70 (by decide)).trans ((fi 70 (by decide)).trans g1), g2, g3, fun k hk => by rw [q2 41 (by decide)]; exact g4 k hk, (q1 54 (by decide)).trans ?_, (q1 55 (by decide)).trans ?_⟩
    · rw [ui_n (by decide)]
      exact ui_s _ _ _
    · exact ui_s _ _ _
  · refine pz_ic (i := 4) rfl ?_
    refine pz_ir (i := 5) rfl rfl rfl ?_
    rw [if_neg (show ¬ dwn a = true by rw [bB_f c3]; decide)] at hQ
    exact hQ iv av hx
end S82
