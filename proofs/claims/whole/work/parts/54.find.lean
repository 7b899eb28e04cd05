/-! PART 54: the entry of a key: View.findInTables, View.find -/
/-- what a search leaves in 'found': kind, number, where (0s without an entry) -/
def fO (f : Nat) (iv : Nat → Int32) (o : Option eN) : Prop := match o with
  | some e => iv (40 + 10 * f + 0) = nI e.1 ∧ iv (40 + 10 * f + 1) = nI e.2.1 ∧ iv (40 + 10 * f + 2) = nI e.2.2
  | none => iv (40 + 10 * f + 0) = 0
section S54
variable {Lx : Nat} {xs : Nat → Int32} {d rm : Nat} {av : Nat → Nat → Int32} {r : pW} {Q : rQ}
theorem lp_fit (hr : 0 < rm ∧ rm ≤ 4096) {v f key : Nat} (hv : v < 2) (hf : f < 3) (hk : key < 120) {us : List tB} (hus : us.length ≤ 6) (htE : ∀ t ∈ us, tE rm (av 0) t) (hpl : ∀ i t, us[i]? = some t → av (4 + v) i = nI t.1) :
    ∀ (l : List tB) (i : Nat) (iv : Nat → Int32) (x5 x6 : Option Value) (a b : Nat), us.drop i = l → i ≤ us.length → iv (10 + 10 * v + 0) = nI us.length → iv (40 + 10 * f + 0) = 0 → iv (40 + 10 * f + 4) = nI a → iv (40 + 10 * f + 5) = nI b → a ≤ i → b ≤ i →
    (∀ iv', fO f iv' (fnd l key) → iv' (40 + 10 * f + 4) = nI (a + (lkN l key).1) → iv' (40 + 10 * f + 5) = nI (b + (lkN l key).2) → frI iv iv' [40 + 10 * f + 0, 40 + 10 * f + 1, 40 + 10 * f + 2, 40 + 10 * f + 4, 40 + 10 * f + 5] → Q none (wX rm iv' av r)) →
    pz Lx xs (d + 2) rt_51 none Q 5 [some (.ref (oV v)), some (.int (nI key)), some (.ref (oF f)), some (.int (fB (nI key))), some (.int (nI i)), x5, x6] [] (wX rm iv av r) := by
  intro l
  induction l with
  | nil =>
    intro i iv x5 x6 a b hdr hi hT hk0 ha hb hai hbi hQ
    have hil : i = us.length := by
      have := congrArg List.length hdr
      simp at this
      omega
    subst hil
    refine pz_il (i := 5) rfl rfl ?_
    refine pz_aln (i := 6) rfl rfl ?_
    refine pz_get (i := 7) rfl (gV_3 hv ..) ?_
    rw [hT]
    refine pz_ii_ge (i := 8) rfl (fun c8 => ?_) (fun c8 => ?_)
    · refine pz_vr (i := 73) rfl rfl ?_
      exact hQ iv hk0 ha hb (fun _ _ => rfl)
    · exact absurd (Int32.le_refl _) c8
  | cons t l ih =>
    intro i iv x5 x6 a b hdr hi hT hk0 ha hb hai hbi hQ
    have hlt : i < us.length := by
      have := congrArg List.length hdr
      simp at this
      omega
    have hget : us[i]? = some t := by
      have := congrArg (fun z => z[0]?) hdr
      simpa using this
    have hdr2 : us.drop (i + 1) = l := by
      have := congrArg (fun z => z.drop 1) hdr
      simpa [List.drop_drop, Nat.add_comm] using this
    have ht := htE t (List.mem_of_getElem? hget)
    obtain ⟨g1, g2, g3, g4, g5, g6, g7, g8, g9⟩ := id ht
    have hst : nI rm + av (4 + v) i * 1300 = nI (rm + t.1 * 1300) := by
      rw [hpl i t hget, show nI t.1 * 1300 = nI (t.1 * 1300) from pk_mul t.1 1300, nI_add]
    have hkl := kS_len t.2.2.2
    have hends : ∀ iv', iv' (40 + 10 * f + 0) ≠ 0 → ∀ (x5 x6 : Option Value), iv' (10 + 10 * v + 0) = nI us.length → Q none (wX rm iv' av r) → pz Lx xs (d + 2) rt_51 none Q 71 [some (.ref (oV v)), some (.int (nI key)), some (.ref (oF f)), some (.int (fB (nI key))), some (.int (nI i)), x5, x6] [] (wX rm iv' av r) := by
      intro iv' hne x5 x6 hT' hq
      refine pz_inc (i := 71) rfl rfl rfl rfl ?_
      refine pz_go (i := 72) rfl ?_
      refine pz_il (i := 5) rfl rfl ?_
      refine pz_aln (i := 6) rfl rfl ?_
      refine pz_get (i := 7) rfl (gV_3 hv ..) ?_
      rw [hT']
      refine pz_ii_ge (i := 8) rfl (fun c8 => ?_) (fun c8 => ?_)
      · refine pz_vr (i := 73) rfl rfl ?_
        exact hq
      · refine pz_aln (i := 9) rfl rfl ?_
        refine pz_get (i := 10) rfl (gF_0 hf ..) ?_
        refine pz_if_ne (i := 11) rfl (fun c11 => ?_) (fun c11 => ?_)
        · refine pz_vr (i := 73) rfl rfl ?_
          exact hq
        · exact absurd c11 hne
    refine pz_il (i := 5) rfl rfl ?_
    refine pz_aln (i := 6) rfl rfl ?_
    refine pz_get (i := 7) rfl (gV_3 hv ..) ?_
    rw [hT]
    refine pz_ii_ge (i := 8) rfl (fun c8 => ?_) (fun c8 => ?_)
    · exact absurd (le_ofI c8) (by omega)
    · refine pz_aln (i := 9) rfl rfl ?_
      refine pz_get (i := 10) rfl (gF_0 hf ..) ?_
      rw [hk0]
      refine pz_if_ne (i := 11) rfl (fun c11 => ?_) (fun c11 => ?_)
      · exact absurd rfl c11
      · refine pz_aln (i := 12) rfl rfl ?_
        refine pz_il (i := 13) rfl rfl ?_
        refine pz_cI1 (i := 14) rfl (gV_c hv ..) rfl (Nat.le_of_ble_eq_true rfl) rfl ?_
        refine sx_tableStart hv (by omega) ?_
        rw [hst]
        refine ⟨_, rfl, ?_⟩
        refine pz_is (i := 15) rfl ⟨rfl, Nat.le_of_ble_eq_true rfl⟩ rfl ?_
        refine pz_aln (i := 16) rfl rfl ?_
        refine pz_get (i := 17) rfl (gV_0 hv ..) ?_
        refine pz_il (i := 18) rfl rfl ?_
        refine pz_bi (i := 19) rfl ?_
        refine pz_add (i := 20) rfl ?_
        rw [show nI (rm + t.1 * 1300) + 8 = nI (rm + t.1 * 1300 + 8) from nI_add (rm + t.1 * 1300) 8]
        refine pz_cI1 (i := 21) rfl (gc_2 ..) rfl (Nat.le_of_ble_eq_true rfl) rfl ?_
        refine sx_numberAt hr ?_
        rw [bx_numN (by omega) hr.2, g8]
        refine ⟨_, rfl, ?_⟩
        refine pz_iln (i := 22) rfl rfl ?_
        refine pz_and (i := 23) rfl ?_
        refine pz_iln (i := 24) rfl rfl ?_
        refine pz_ii_eq (i := 25) rfl (fun c25 => ?_) (fun c25 => ?_)
        · refine pz_aln (i := 33) rfl rfl ?_
          refine pz_dup (i := 34) rfl rfl ?_
          refine pz_get (i := 35) rfl (gF_4 hf ..) ?_
          refine pz_ic (i := 36) rfl ?_
          rw [ha]
          refine pz_add (i := 37) rfl ?_
          rw [nI_1]
          refine pz_put (i := 38) rfl (pF_4 hf ..) ⟨rfl, rfl⟩ ?_
          refine pz_aln (i := 39) rfl rfl ?_
          refine pz_il (i := 40) rfl rfl ?_
          refine pz_iln (i := 41) rfl rfl ?_
          refine pz_cI2 (i := 42) rfl (gV_c hv ..) rfl (Nat.le_of_ble_eq_true rfl) rfl ?_
          refine sx_entryCell (ks := ksA t.2.2.2) hr hv (by omega) hkl g6 (fun j hj => tE_key ht hj) (fun i j hij hj => ksA_mono hij hj) hk (fun j hj hje => ?_) (fun hno => ?_)
          · obtain ⟨e, he⟩ := Option.isSome_iff_exists.mp (ksA_mem hj).2
            rw [hje] at he
            obtain ⟨-, u1, u2, u3⟩ := g9 j e hj (by rw [hje]; exact he)
            obtain ⟨v1, v2, v3, v4⟩ := g4.2 key e he
            refine ⟨_, rfl, ?_⟩
            refine pz_is (i := 43) rfl ⟨rfl, Nat.le_of_ble_eq_true rfl⟩ rfl ?_
            refine pz_il (i := 44) rfl rfl ?_
            refine pz_ic (i := 45) rfl ?_
            refine pz_ii_eq (i := 46) rfl (fun c46 => ?_) (fun c46 => ?_)
            · exact absurd (show nI _ = -1 from c46) (fun z => absurd (show (nI (rm + t.1 * 1300 + 16 + 10 * j)) < 0 by rw [z]; decide) (nI_pos (by omega)))
            · refine pz_aln (i := 47) rfl rfl ?_
              refine pz_aln (i := 48) rfl rfl ?_
              refine pz_get (i := 49) rfl (gV_0 hv ..) ?_
              refine pz_il (i := 50) rfl rfl ?_
              refine pz_ic (i := 51) rfl ?_
              refine pz_add (i := 52) rfl ?_
              rw [show nI (rm + t.1 * 1300 + 16 + 10 * j) + 1 = nI (rm + t.1 * 1300 + 16 + 10 * j + 1) from nI_add _ 1]
              refine pz_cI1 (i := 53) rfl (gc_2 ..) rfl (Nat.le_of_ble_eq_true rfl) rfl ?_
              refine sx_byteAt hr ?_
              rw [bx_atN (by omega) hr.2, u1]
              refine ⟨_, rfl, ?_⟩
              refine pz_put (i := 54) rfl (pF_0 hf ..) ⟨rfl, rfl⟩ ?_
              refine pz_aln (i := 55) rfl rfl ?_
              refine pz_aln (i := 56) rfl rfl ?_
              refine pz_get (i := 57) rfl (gV_0 hv ..) ?_
              refine pz_il (i := 58) rfl rfl ?_
              refine pz_ic (i := 59) rfl ?_
              refine pz_add (i := 60) rfl ?_
              rw [show nI (rm + t.1 * 1300 + 16 + 10 * j) + 2 = nI (rm + t.1 * 1300 + 16 + 10 * j + 2) from nI_add _ 2]
              refine pz_cI1 (i := 61) rfl (gc_2 ..) rfl (Nat.le_of_ble_eq_true rfl) rfl ?_
              refine sx_numberAt hr ?_
              rw [bx_numN (by omega) hr.2, u2]
              refine ⟨_, rfl, ?_⟩
              refine pz_put (i := 62) rfl (pF_2 hf ..) ⟨rfl, rfl⟩ ?_
              refine pz_aln (i := 63) rfl rfl ?_
              refine pz_aln (i := 64) rfl rfl ?_
              refine pz_get (i := 65) rfl (gV_0 hv ..) ?_
              refine pz_il (i := 66) rfl rfl ?_
              refine pz_bi (i := 67) rfl ?_
              refine pz_add (i := 68) rfl ?_
              rw [show nI (rm + t.1 * 1300 + 16 + 10 * j) + 6 = nI (rm + t.1 * 1300 + 16 + 10 * j + 6) from nI_add _ 6]
              refine pz_cI1 (i := 69) rfl (gc_2 ..) rfl (Nat.le_of_ble_eq_true rfl) rfl ?_
              refine sx_numberAt hr ?_
              rw [bx_numN (by omega) hr.2, u3]
              refine ⟨_, rfl, ?_⟩
              refine pz_put (i := 70) rfl (pF_1 hf ..) ⟨rfl, rfl⟩ ?_
              refine hends _ ?_ _ _ ?_ (hQ _ ?_ ?_ ?_ ?_)
              · rw [ui_n (by omega), ui_n (by omega), ui_s]
                exact nI_ne0 v1 (by omega)
              · rw [ui_n (by omega), ui_n (by omega), ui_n (by omega), ui_n (by omega)]
                exact hT
              · unfold fnd
                rw [he]
                exact ⟨by rw [ui_n (by omega), ui_n (by omega), ui_s], by rw [ui_s], by rw [ui_n (by omega), ui_s]⟩
              · unfold lkN
                rw [if_pos c25, he, ui_n (by omega), ui_n (by omega), ui_n (by omega), ui_s]
              · unfold lkN
                rw [if_pos c25, he, ui_n (by omega), ui_n (by omega), ui_n (by omega), ui_n (by omega)]
                exact hb
              · intro z hz
                simp only [List.mem_cons, List.not_mem_nil, or_false, not_or] at hz
                rw [ui_n hz.2.1, ui_n hz.2.2.1, ui_n hz.1, ui_n hz.2.2.2.1]
          · have hnone : t.2.2.2 key = none := by
              cases hm : t.2.2.2 key with
              | none => rfl
              | some e =>
                obtain ⟨j, hj, hje⟩ := ksA_of hk (by rw [hm]; rfl : (t.2.2.2 key).isSome = true)
                exact absurd hje (hno j hj)
            refine ⟨_, rfl, ?_⟩
            refine pz_is (i := 43) rfl ⟨rfl, Nat.le_of_ble_eq_true rfl⟩ rfl ?_
            refine pz_il (i := 44) rfl rfl ?_
            refine pz_ic (i := 45) rfl ?_
            refine pz_ii_eq (i := 46) rfl (fun c46 => ?_) (fun c46 => ?_)
            · refine pz_inc (i := 71) rfl rfl rfl rfl ?_
              refine pz_go (i := 72) rfl ?_
              rw [nI_1]
              refine ih (i + 1) _ _ _ (a + 1) b hdr2 (by omega) ?_ ?_ ?_ ?_ (by omega) (by omega) (fun iv' k1 k2 k3 k4 => hQ iv' ?_ ?_ ?_ ?_)
              · rw [ui_n (by omega)]; exact hT
              · rw [ui_n (by omega)]; exact hk0
              · rw [ui_s]
              · rw [ui_n (by omega)]; exact hb
              · unfold fnd
                rw [hnone]
                exact k1
              · unfold lkN
                rw [if_pos c25, hnone, k2]
                congr 1
                show a + 1 + (lkN l key).1 = a + ((lkN l key).1 + 1)
                omega
              · unfold lkN
                rw [if_pos c25, hnone, k3]
              · intro z hz
                rw [k4 z hz]
                simp only [List.mem_cons, List.not_mem_nil, or_false, not_or] at hz
                rw [ui_n hz.2.2.2.1]
            · exact absurd rfl c46
        · refine pz_aln (i := 26) rfl rfl ?_
          refine pz_dup (i := 27) rfl rfl ?_
          refine pz_get (i := 28) rfl (gF_5 hf ..) ?_
          refine pz_ic (i := 29) rfl ?_
          rw [hb]
          refine pz_add (i := 30) rfl ?_
          rw [nI_1]
          refine pz_put (i := 31) rfl (pF_5 hf ..) ⟨rfl, rfl⟩ ?_
          refine pz_go (i := 32) rfl ?_
          refine pz_inc (i := 71) rfl rfl rfl rfl ?_
          refine pz_go (i := 72) rfl ?_
          rw [nI_1]
          have hnone : t.2.2.2 key = none := by
            cases hm : t.2.2.2 key with
            | none => rfl
            | some e => exact absurd (fI_has hk (by rw [hm]; rfl)) c25
          refine ih (i + 1) _ _ _ a (b + 1) hdr2 (by omega) ?_ ?_ ?_ ?_ (by omega) (by omega) (fun iv' k1 k2 k3 k4 => hQ iv' ?_ ?_ ?_ ?_)
          · rw [ui_n (by omega)]; exact hT
          · rw [ui_n (by omega)]; exact hk0
          · rw [ui_n (by omega)]; exact ha
          · rw [ui_s]
          · unfold fnd
            rw [hnone]
            exact k1
          · unfold lkN
            rw [if_neg c25, k2]
          · unfold lkN
            rw [if_neg c25, k3]
            congr 1
            show b + 1 + (lkN l key).2 = b + ((lkN l key).2 + 1)
            omega
          · intro z hz
            rw [k4 z hz]
            simp only [List.mem_cons, List.not_mem_nil, or_false, not_or] at hz
            rw [ui_n hz.2.2.2.2]
set_option maxRecDepth 20000 in
theorem sx_findInTables (hr : 0 < rm ∧ rm ≤ 4096) {v f key : Nat} {iv : Nat → Int32} (hv : v < 2) (hf : f < 3) (hk : key < 120) {us : List tB} (hvT : vT v iv av us) (htE : ∀ t ∈ us, tE rm (av 0) t) (h0 : iv (40 + 10 * f + 0) = 0) (h4 : iv (40 + 10 * f + 4) = 0) (h5 : iv (40 + 10 * f + 5) = 0)
    (hQ : ∀ iv', fO f iv' (fnd us key) → iv' (40 + 10 * f + 4) = nI (lkN us key).1 → iv' (40 + 10 * f + 5) = nI (lkN us key).2 → frI iv iv' [40 + 10 * f + 0, 40 + 10 * f + 1, 40 + 10 * f + 2, 40 + 10 * f + 4, 40 + 10 * f + 5] → Q none (wX rm iv' av r)) : rx_R Lx xs (d + 3) 51 [.ref (oV v), .int (nI key), .ref (oF f)] (wX rm iv av r) Q := by
  refine pz_en (t := rt_51) ⟨Nat.le_of_ble_eq_true rfl, rfl⟩ rfl rfl ?_
  refine pz_iln (i := 0) rfl rfl ?_
  refine pz_sI1 (i := 1) rfl (by decide) (Nat.le_of_ble_eq_true rfl) rfl ?_
  refine sx_filterBits ?_
  refine ⟨_, rfl, ?_⟩
  refine pz_isn (i := 2) rfl ⟨rfl, Nat.le_of_ble_eq_true rfl⟩ rfl ?_
  refine pz_ic (i := 3) rfl ?_
  refine pz_is (i := 4) rfl ⟨rfl, Nat.le_of_ble_eq_true rfl⟩ rfl ?_
  exact lp_fit hr hv hf hk hvT.2.1 htE hvT.2.2 us 0 iv none none 0 0 (List.drop_zero) (by omega) hvT.1 h0 h4 h5 (by omega) (by omega) (fun iv' k1 k2 k3 k4 => hQ iv' k1 (by rw [k2, Nat.zero_add]) (by rw [k3, Nat.zero_add]) k4)
end S54
