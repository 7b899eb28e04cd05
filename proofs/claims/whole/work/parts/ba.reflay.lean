/-! PART BA: the reference: writeBatch, lay -/
section SBA
variable {Lx : Nat} {xs : Nat → Int32} {d rm : Nat} {iv : Nat → Int32} {av : Nat → Nat → Int32} {jv : Nat → Int32} {bv : Nat → Nat → Int32} {Q : rQ}
set_option maxRecDepth 20000 in
theorem sm_writeBatch (hr : 512 ≤ rm ∧ rm ≤ 4096) {b : List bR} {s : dS} {V : vW} {lg : List lR} (hd : dM rm jv bv s) (hdn : s.2.2.2.2.2 = false) (hv : vM jv bv V) (hb : bM jv bv b) (hI : stI rm b s V lg) (hE : ¬ (ckM rm s V b).2.2.2 5 + (bZ b + 176) + 12 ≤ (ckM rm s V b).2.2.2 4 + rm → paE rm 1000 ((ckM rm s V b).2.2.2 5) 1 (ckM rm s V b).1 (ckM rm s V b).2 lg) (hQ : ∀ jv' bv' z, oM rm jv bv jv' bv' (sto rm b s V lg).1 [0, 1, 2, 10, 11, 12, 13, 14, 15, 16, 17, 18, 19, 20, 21, 22, 23, 24] [2, 3, 4, 5, 6, 7, 8, 15, 16, 17, 18, 19, 20, 21, 22, 23, 24] → ((sto rm b s V lg).1.2.2.2.2.2 = false → vM jv' bv' (sto rm b s V lg).2.1 ∧ (z = if (sto rm b s V lg).2.2 then nI b.length else -3) ∧ jv' 10 = 0 ∧ jv' 11 = 0) → ((sto rm b s V lg).1.2.2.2.2.2 = true → z = -2) → Q (some (.int z)) (wX rm iv av (wM rm jv' bv'))) : rx_R Lx xs (d + 10) 123 [.ref 54] (wX rm iv av (wM rm jv bv)) Q := by
  refine pz_en (t := rt_123) ⟨Nat.le_of_ble_eq_true rfl, rfl⟩ rfl rfl ?_
  obtain ⟨hck, hbd, hI3⟩ := hI
  have hkl := kS_len V.2.1
  have hcw := cWN_le V.2.1 (bK b) b.length
  have h8 := hb.2.1
  have k6 : ∀ jv1 bv1, oM rm jv bv jv1 bv1 (ckM rm s V b).1 [0, 1, 2, 12, 13, 14, 15, 16, 17, 18, 19, 20, 21, 22, 23, 24] [2, 3, 4, 5, 6, 7, 8, 15, 16, 17, 18, 19, 20, 21, 22, 23, 24] → ((ckM rm s V b).1.2.2.2.2.2 = false → vM jv1 bv1 (ckM rm s V b).2) → pz Lx xs (d + 9) rt_123 (some .int) Q 6 [some (.ref 54), none, none, none, none, none, none] [] (wX rm iv av (wM rm jv1 bv1)) := by
    intro jv1 bv1 o1 k1
    refine lq_6 hr hb (s := (ckM rm s V b).1) (V := (ckM rm s V b).2) (lg := lg) o1 (fun w => ?_) hQ
    obtain ⟨a1, a2, a3⟩ := hI3 w
    refine ⟨k1 w, a1, a2, fun z => ?_⟩
    obtain ⟨b1, b2⟩ := a3 z
    exact ⟨b1, hE z, b2⟩
  refine pz_aln (i := 0) rfl rfl ?_
  refine pz_cI0 (i := 1) rfl (gc_54 ..) rfl (Nat.le_of_ble_eq_true rfl) rfl ?_
  refine sm_wouldHave hb hv.2.1 ?_
  refine ⟨_, rfl, ?_⟩
  refine pz_bi (i := 2) rfl ?_
  refine pz_ii_le (i := 3) rfl (fun c3 => ?_) (fun c3 => ?_)
  · first
      | exact k6 jv1 bv1 (by rw [eM9]; exact oM_w o1 (by decide) (by decide)) (by rw [eM9]; exact k1)
      | (have hle := le_ofI (b := 24) c3 (by unfold wh; omega) (by decide)
         have eM9 : ckM rm s V b = (s, V) := if_pos hle
         exact k6 jv bv (by rw [eM9]; exact ⟨fun _ => ⟨hd, frI_rfl _ _, frA_rfl _ _⟩, fun w => by rw [show s.2.2.2.2.2 = false from hdn] at w; cases w⟩) (by rw [eM9]; exact fun _ => hv))
  · refine pz_aln (i := 4) rfl rfl ?_
    refine pz_cV0 (i := 5) rfl (gc_54 ..) rfl (Nat.le_of_ble_eq_true rfl) rfl ?_
    have hne : ¬ wh V b ≤ 24 := fun z => c3 ((nI_leI (by unfold wh; omega) (by decide)).mpr z)
    have eM9 : ckM rm s V b = ck rm s V := if_neg hne
    refine sm_checkpointAll hr hd hdn hv hck (fun i i1 i2 => by have := hbd.1 i i1 i2; omega) (fun jv1 bv1 o1 k1 => ?_)
    refine ⟨rfl, ?_⟩
    first
      | exact k6 jv1 bv1 (by rw [eM9]; exact oM_w o1 (by decide) (by decide)) (by rw [eM9]; exact k1)
      | (have hle := le_ofI (b := 24) c3 (by unfold wh; omega) (by decide)
         have eM9 : ckM rm s V b = (s, V) := if_pos hle
         exact k6 jv bv (by rw [eM9]; exact ⟨fun _ => ⟨hd, frI_rfl _ _, frA_rfl _ _⟩, fun w => by rw [show s.2.2.2.2.2 = false from hdn] at w; cases w⟩) (by rw [eM9]; exact fun _ => hv))
set_option maxRecDepth 20000 in
theorem lq_la {kd key : Int32} {n : Nat} {val : List Nat} (hn : n < 8) (hlen : val.length ≤ 64) {bv0 : Nat → Nat → Int32} (h11 : jv 11 = nI n) (h13 : bv0 13 n = nI val.length) (h9 : ∀ k, k < val.length → bv0 9 k = lB val k) (hQ : ∀ bv', frA bv0 bv' [14] → (∀ k, k < val.length → bv' 14 (64 * n + k) = lB val k) → (∀ j, j < 64 * n → bv' 14 j = bv0 14 j) → pz Lx xs d rt_124 none Q 48 [some (.ref 54), some (.int kd), some (.int key), some (.int (nI val.length))] [] (wX rm iv av (wM rm jv bv'))) : ∀ (m k : Nat) (bv : Nat → Nat → Int32), k + m = val.length → frA bv0 bv [14] → (∀ j, j < k → bv 14 (64 * n + j) = lB val j) → (∀ j, j < 64 * n → bv 14 j = bv0 14 j) → pz Lx xs d rt_124 none Q 26 [some (.ref 54), some (.int kd), some (.int key), some (.int (nI k))] [] (wX rm iv av (wM rm jv bv))
  | 0, k, bv, hk, f, h1, h2 => by
    obtain rfl : k = val.length := by omega
    refine pz_iln (i := 26) rfl rfl ?_
    refine pz_aln (i := 27) rfl rfl ?_
    refine pz_get (i := 28) rfl (gf_54_26 ..) ?_
    refine pz_aln (i := 29) rfl rfl ?_
    refine pz_get (i := 30) rfl (gf_54_23 ..) ?_
    rw [h11]
    refine pz_ial (i := 31) rfl (ga_68 ..) (in_ofI hn) ?_
    rw [cl_ofI (a := n), f 13 (by decide), h13]
    refine pz_ii_ge (i := 32) rfl (fun c32 => ?_) (fun c32 => ?_)
    · exact hQ bv f h1 h2
    · exact absurd (Int32.le_refl _) c32
  | m + 1, k, bv, hk, f, h1, h2 => by
    have hk1 : k < val.length := by omega
    refine pz_iln (i := 26) rfl rfl ?_
    refine pz_aln (i := 27) rfl rfl ?_
    refine pz_get (i := 28) rfl (gf_54_26 ..) ?_
    refine pz_aln (i := 29) rfl rfl ?_
    refine pz_get (i := 30) rfl (gf_54_23 ..) ?_
    rw [h11]
    refine pz_ial (i := 31) rfl (ga_68 ..) (in_ofI hn) ?_
    rw [cl_ofI (a := n), f 13 (by decide), h13]
    refine pz_ii_ge (i := 32) rfl (fun c32 => ?_) (fun c32 => ?_)
    · exact absurd (le_ofI c32) (by omega)
    · refine pz_aln (i := 33) rfl rfl ?_
      refine pz_get (i := 34) rfl (gf_54_27 ..) ?_
      refine pz_bi (i := 35) rfl ?_
      refine pz_aln (i := 36) rfl rfl ?_
      refine pz_get (i := 37) rfl (gf_54_23 ..) ?_
      rw [h11]
      refine pz_mul (i := 38) rfl ?_
      rw [show (64 : Int32) * nI n = nI (64 * n) from pk_mul 64 n]
      refine pz_iln (i := 39) rfl rfl ?_
      refine pz_add (i := 40) rfl ?_
      rw [nI_add]
      refine pz_aln (i := 41) rfl rfl ?_
      refine pz_get (i := 42) rfl (gf_54_16 ..) ?_
      refine pz_iln (i := 43) rfl rfl ?_
      refine pz_bal (i := 44) rfl (ga_64 ..) rfl (in_ofI (by omega)) ?_
      rw [cl_ofI (a := k), f 9 (by decide), h9 k hk1]
      refine pz_bas (i := 45) rfl (ga_69 ..) rfl (in_ofI (by omega)) (pa_69 ..) ?_
      rw [cl_ofI (a := 64 * n + k)]
      refine pz_inc (i := 46) rfl rfl rfl rfl ?_
      rw [show nI k + 1 = nI (k + 1) from nI_add k 1]
      refine pz_go (i := 47) rfl ?_
      refine lq_la hn hlen h11 h13 h9 hQ m (k + 1) _ (by omega) (frA_tr f (frA_up (frA_rfl _ [14]) (by decide)) (by decide) (by decide)) (fun j hj => ?_) (fun j hj => ?_)
      · rw [ua_s]
        by_cases e : j = k
        · subst e
          rw [ui_s]
          exact lB_bt val j
        · rw [ui_n (by omega)]
          exact h1 j (by omega)
      · rw [ua_s, ui_n (by omega)]
        exact h2 j hj
set_option maxRecDepth 20000 in
theorem sm_lay {b : List bR} {kd key : Nat} {val tp : List Nat} (hb : bM jv bv b) (h8 : b.length < 8) (hok : bOK (kd, key, val)) (hval : (kd = 1 ∧ val = tp) ∨ (kd = 2 ∧ val = [])) (h6 : jv 6 = nI tp.length) (h9 : ∀ k, k < tp.length → bv 9 k = lB tp k) (hQ : ∀ jv' bv', bM jv' bv' (b ++ [(kd, key, val)]) → frI jv jv' [11] → frA bv bv' [11, 12, 13, 14] → Q none (wX rm iv av (wM rm jv' bv'))) : rx_R Lx xs (d + 1) 124 [.ref 54, .int (nI kd), .int (nI key)] (wX rm iv av (wM rm jv bv)) Q := by
  refine pz_en (t := rt_124) ⟨Nat.le_of_ble_eq_true rfl, rfl⟩ rfl rfl ?_
  have hlen : val.length ≤ 64 := hok.2.2.2.1
  have hk3 : kd < 3 := hok.2.1
  have h9v : ∀ k, k < val.length → bv 9 k = lB val k := by
    rcases hval with ⟨_, e⟩ | ⟨_, e⟩
    · rw [e]
      exact h9
    · rw [e]
      exact fun k hk => absurd hk (Nat.not_lt_zero k)
  have k26 : ∀ z : Int32, z = nI val.length → pz Lx xs d rt_124 none Q 23 [some (.ref 54), some (.int (nI kd)), some (.int (nI key)), none] [.int z, .int (nI b.length), .ref 68] (wX rm iv av (wM rm jv (up_a (up_a bv 11 (upd (bv 11) b.length (nI kd))) 12 (upd ((up_a bv 11 (upd (bv 11) b.length (nI kd))) 12) b.length (nI key))))) := by
    intro z hz
    subst hz
    refine pz_ias (i := 23) rfl (ga_68 ..) (in_ofI h8) (pa_68 ..) ?_
    rw [cl_ofI (a := b.length)]
    refine pz_ic (i := 24) rfl ?_
    refine pz_isn (i := 25) rfl ⟨rfl, Nat.le_of_ble_eq_true rfl⟩ rfl ?_
    refine lq_la (val := val) h8 hlen hb.1 (by rw [ua_s, ui_s]) (fun k hk => by rw [ua_n (by decide), ua_n (by decide), ua_n (by decide)]; exact h9v k hk) (fun bv2 f2 v2 o2 => ?_) val.length 0 _ (Nat.zero_add _) (frA_rfl _ _) (fun j hj => absurd hj (Nat.not_lt_zero j)) (fun _ _ => rfl)
    refine pz_aln (i := 48) rfl rfl ?_
    refine pz_dup (i := 49) rfl rfl ?_
    refine pz_get (i := 50) rfl (gf_54_23 ..) ?_
    rw [hb.1]
    refine pz_ic (i := 51) rfl ?_
    refine pz_add (i := 52) rfl ?_
    rw [show nI b.length + 1 = nI (b.length + 1) from nI_add _ 1]
    refine pz_put (i := 53) rfl (pf_54_23 ..) ⟨rfl, rfl⟩ ?_
    refine pz_vr (i := 54) rfl rfl ?_
    refine hQ _ bv2 ⟨?_, ?_, fun i x hx => ?_⟩ (frI_up (frI_rfl _ _) (by decide)) (frA_tr (frA_up (frA_up (frA_up (frA_rfl _ [11, 12, 13, 14]) (by decide)) (by decide)) (by decide)) f2 (by decide) (by decide))
    · rw [ui_s, List.length_append]
      rfl
    · rw [List.length_append]
      show b.length + 1 ≤ 8
      omega
    · rw [f2 11 (by decide), f2 12 (by decide), f2 13 (by decide)]
      rw [ua_n (j := 11) (by decide), ua_n (j := 11) (by decide), ua_s, ua_n (j := 12) (by decide), ua_s, ua_s]
      by_cases e : i = b.length
      · subst e
        rw [List.getElem?_append_right (Nat.le_refl _), Nat.sub_self] at hx
        obtain rfl : (kd, key, val) = x := Option.some.inj hx
        rw [ui_s, ui_s, ui_s]
        exact ⟨hok, rfl, rfl, rfl, v2⟩
      · have hlt : i < b.length := by
          have := (List.getElem?_eq_some_iff.mp hx).1
          rw [List.length_append] at this
          have h9 : i < b.length + 1 := this
          omega
        rw [List.getElem?_append_left hlt] at hx
        obtain ⟨g1, g2, g3, g4, g5⟩ := hb.2.2 i x hx
        rw [ui_n e, ui_n e, ui_n e, ua_n (by decide), ua_n (by decide), ua_n (by decide)]
        refine ⟨g1, g2, g3, g4, fun k hk => ?_⟩
        have hl9 : x.2.2.length ≤ 64 := g1.2.2.2.1
        rw [o2 _ (by omega), ua_n (by decide), ua_n (by decide), ua_n (by decide)]
        exact g5 k hk
  refine pz_aln (i := 0) rfl rfl ?_
  refine pz_get (i := 1) rfl (gf_54_24 ..) ?_
  refine pz_aln (i := 2) rfl rfl ?_
  refine pz_get (i := 3) rfl (gf_54_23 ..) ?_
  rw [hb.1]
  refine pz_iln (i := 4) rfl rfl ?_
  refine pz_ias (i := 5) rfl (ga_66 ..) (in_ofI h8) (pa_66 ..) ?_
  rw [cl_ofI (a := b.length)]
  refine pz_aln (i := 6) rfl rfl ?_
  refine pz_get (i := 7) rfl (gf_54_25 ..) ?_
  refine pz_aln (i := 8) rfl rfl ?_
  refine pz_get (i := 9) rfl (gf_54_23 ..) ?_
  rw [hb.1]
  refine pz_iln (i := 10) rfl rfl ?_
  refine pz_ias (i := 11) rfl (ga_67 ..) (in_ofI h8) (pa_67 ..) ?_
  rw [cl_ofI (a := b.length)]
  refine pz_aln (i := 12) rfl rfl ?_
  refine pz_get (i := 13) rfl (gf_54_26 ..) ?_
  refine pz_aln (i := 14) rfl rfl ?_
  refine pz_get (i := 15) rfl (gf_54_23 ..) ?_
  rw [hb.1]
  refine pz_iln (i := 16) rfl rfl ?_
  refine pz_ic (i := 17) rfl ?_
  refine pz_ii_ne (i := 18) rfl (fun c18 => ?_) (fun c18 => ?_)
  · refine pz_ic (i := 22) rfl ?_
    first
      | (have e1 : kd = 1 := eq_ofI (b := 1) c18
         refine k26 _ ?_
         rcases hval with ⟨_, e⟩ | ⟨e, _⟩
         · rw [e]
         · omega)
      | (have e1 : ¬ kd = 1 := ne_ofI (b := 1) c18
         refine k26 _ ?_
         rcases hval with ⟨e, _⟩ | ⟨_, e⟩
         · omega
         · rw [e]
           rfl)
  · refine pz_aln (i := 19) rfl rfl ?_
    refine pz_get (i := 20) rfl (gf_54_17 ..) ?_
    rw [h6]
    refine pz_go (i := 21) rfl ?_
    first
      | (have e1 : kd = 1 := eq_ofI (b := 1) c18
         refine k26 _ ?_
         rcases hval with ⟨_, e⟩ | ⟨e, _⟩
         · rw [e]
         · omega)
      | (have e1 : ¬ kd = 1 := ne_ofI (b := 1) c18
         refine k26 _ ?_
         rcases hval with ⟨e, _⟩ | ⟨_, e⟩
         · omega
         · rw [e]
           rfl)
end SBA
