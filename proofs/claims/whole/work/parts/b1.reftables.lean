/-! PART B1: the reference: tableByte, tableFour, levelOf, bitsOf, placeIn, find, isThere -/
/-- the tables of the reference -/
def uM (jv : Nat → Int32) (bv : Nat → Nat → Int32) (us : List tB) : Prop := jv 19 = nI us.length ∧ us.length ≤ 6 ∧ ∀ i t, us[i]? = some t → bv 15 i = nI t.1
theorem uM_lt {jv : Nat → Int32} {bv : Nat → Nat → Int32} {us : List tB} (h : uM jv bv us) {i : Nat} {t : tB} (ht : us[i]? = some t) : i < 6 := by
  have := (List.getElem?_eq_some_iff.mp ht).1
  have := h.2.1
  omega
theorem pl_1 {rm q : Nat} (h : q < 15600) : plM rm 1 q = rm + q := by
  show rm + q % 15600 = rm + q
  rw [Nat.mod_eq_of_lt h]
theorem pl_2 {rm q : Nat} (h : q < 128) : plM rm 2 q = rm + 15600 + q := by
  show rm + 15600 + q % 128 = rm + 15600 + q
  rw [Nat.mod_eq_of_lt h]
theorem b4_qN1 {rm q : Nat} {bv : Nat → Nat → Int32} (h : q + 3 < 15600) : b4M rm bv 1 q = nI (qN (bv 2) (rm + q)) := by
  unfold b4M qN
  rw [pl_1 (by omega), pl_1 (by omega), pl_1 (by omega), pl_1 (by omega), bN_and, bN_and, bN_and, bN_and, q4_or (bN_lt _ _) (bN_lt _ _) (bN_lt _ _) (bN_lt _ _)]
  rfl
theorem b4_qN2 {rm q : Nat} {bv : Nat → Nat → Int32} (h : q + 3 < 128) : b4M rm bv 2 q = nI (qN (bv 2) (rm + 15600 + q)) := by
  unfold b4M qN
  rw [pl_2 (by omega), pl_2 (by omega), pl_2 (by omega), pl_2 (by omega), bN_and, bN_and, bN_and, bN_and, q4_or (bN_lt _ _) (bN_lt _ _) (bN_lt _ _) (bN_lt _ _)]
  rfl
theorem ks_ix {m : mP} {k : Nat} (hk : k < 120) (h : (m k).isSome = true) : ∃ i, i < (kS m).length ∧ ksA m i = k := by
  obtain ⟨i, hi, e⟩ := List.mem_iff_getElem.mp (kS_mem.mpr ⟨hk, h⟩)
  refine ⟨i, hi, ?_⟩
  unfold ksA
  rw [List.getD_eq_getElem?_getD, List.getElem?_eq_getElem hi, e]
  rfl
section SB1
variable {Lx : Nat} {xs : Nat → Int32} {d rm : Nat} {iv : Nat → Int32} {av : Nat → Nat → Int32} {jv : Nat → Int32} {bv : Nat → Nat → Int32} {Q : rQ}
set_option maxRecDepth 20000 in
theorem sm_tableByte (hr : 0 < rm ∧ rm ≤ 4096) (hg : geo rm bv) {us : List tB} {i : Nat} {t : tB} (hu : uM jv bv us) (ht : us[i]? = some t) (h12 : t.1 < 12) {q : Nat} (hq : q < 1300) (hQ : Q (some (.int (nI (bN (bv 2) (rm + t.1 * 1300 + q))))) (wX rm iv av (wM rm jv bv))) : rx_R Lx xs (d + 3) 102 [.ref 54, .int (nI i), .int (nI q)] (wX rm iv av (wM rm jv bv)) Q := by
  refine pz_en (t := rt_102) ⟨Nat.le_of_ble_eq_true rfl, rfl⟩ rfl rfl ?_
  refine pz_aln (i := 0) rfl rfl ?_
  refine pz_ic (i := 1) rfl ?_
  refine pz_aln (i := 2) rfl rfl ?_
  refine pz_get (i := 3) rfl (gf_54_35 ..) ?_
  refine pz_iln (i := 4) rfl rfl ?_
  refine pz_ial (i := 5) rfl (ga_70 ..) (in_ofI (by have := uM_lt hu ht; omega)) ?_
  rw [cl_ofI (a := i) (by have := uM_lt hu ht; omega), hu.2.2 i t ht]
  refine pz_si (i := 6) rfl ?_
  refine pz_mul (i := 7) rfl ?_
  rw [show nI t.1 * 1300 = nI (t.1 * 1300) from pk_mul t.1 1300]
  refine pz_iln (i := 8) rfl rfl ?_
  refine pz_add (i := 9) rfl ?_
  rw [nI_add]
  refine pz_cI2 (i := 10) rfl (gc_54 ..) rfl (Nat.le_of_ble_eq_true rfl) rfl ?_
  refine sm_byteAt hr hg (a := 1) (by decide) (by omega) ?_
  rw [pl_1 (by omega), bN_and, ← Nat.add_assoc]
  refine ⟨_, rfl, ?_⟩
  refine pz_ir (i := 11) rfl rfl rfl ?_
  exact hQ
set_option maxRecDepth 20000 in
theorem sm_tableFour (hr : 0 < rm ∧ rm ≤ 4096) (hg : geo rm bv) {us : List tB} {i : Nat} {t : tB} (hu : uM jv bv us) (ht : us[i]? = some t) (h12 : t.1 < 12) {q : Nat} (hq : q + 3 < 1300) (hQ : Q (some (.int (nI (qN (bv 2) (rm + t.1 * 1300 + q))))) (wX rm iv av (wM rm jv bv))) : rx_R Lx xs (d + 4) 103 [.ref 54, .int (nI i), .int (nI q)] (wX rm iv av (wM rm jv bv)) Q := by
  refine pz_en (t := rt_103) ⟨Nat.le_of_ble_eq_true rfl, rfl⟩ rfl rfl ?_
  refine pz_aln (i := 0) rfl rfl ?_
  refine pz_ic (i := 1) rfl ?_
  refine pz_aln (i := 2) rfl rfl ?_
  refine pz_get (i := 3) rfl (gf_54_35 ..) ?_
  refine pz_iln (i := 4) rfl rfl ?_
  refine pz_ial (i := 5) rfl (ga_70 ..) (in_ofI (by have := uM_lt hu ht; omega)) ?_
  rw [cl_ofI (a := i) (by have := uM_lt hu ht; omega), hu.2.2 i t ht]
  refine pz_si (i := 6) rfl ?_
  refine pz_mul (i := 7) rfl ?_
  rw [show nI t.1 * 1300 = nI (t.1 * 1300) from pk_mul t.1 1300]
  refine pz_iln (i := 8) rfl rfl ?_
  refine pz_add (i := 9) rfl ?_
  rw [nI_add]
  refine pz_cI2 (i := 10) rfl (gc_54 ..) rfl (Nat.le_of_ble_eq_true rfl) rfl ?_
  refine sm_four hr hg (a := 1) (by decide) (by omega) ?_
  rw [b4_qN1 (by omega), ← Nat.add_assoc]
  refine ⟨_, rfl, ?_⟩
  refine pz_ir (i := 11) rfl rfl rfl ?_
  exact hQ
set_option maxRecDepth 20000 in
theorem sm_levelOf (hr : 0 < rm ∧ rm ≤ 4096) (hg : geo rm bv) {us : List tB} {i : Nat} {t : tB} (hu : uM jv bv us) (ht : us[i]? = some t) (h12 : t.1 < 12) (hQ : Q (some (.int (nI (bN (bv 2) (rm + t.1 * 1300 + 1))))) (wX rm iv av (wM rm jv bv))) : rx_R Lx xs (d + 4) 104 [.ref 54, .int (nI i)] (wX rm iv av (wM rm jv bv)) Q := by
  refine pz_en (t := rt_104) ⟨Nat.le_of_ble_eq_true rfl, rfl⟩ rfl rfl ?_
  refine pz_aln (i := 0) rfl rfl ?_
  refine pz_iln (i := 1) rfl rfl ?_
  refine pz_ic (i := 2) rfl ?_
  refine pz_cI2 (i := 3) rfl (gc_54 ..) rfl (Nat.le_of_ble_eq_true rfl) rfl ?_
  refine sm_tableByte hr hg hu ht h12 (q := 1) (by decide) ?_
  refine ⟨_, rfl, ?_⟩
  refine pz_ir (i := 4) rfl rfl rfl ?_
  exact hQ
set_option maxRecDepth 20000 in
theorem sm_bitsOf {k : Nat} (hk : k < 120) {w : pW} (hQ : Q (some (.int (fB (nI k)))) w) : rx_R Lx xs (d + 1) 105 [.int (nI k)] w Q := by
  refine pz_en (t := rt_105) ⟨Nat.le_of_ble_eq_true rfl, rfl⟩ rfl rfl ?_
  refine pz_ic (i := 0) rfl ?_
  refine pz_bi (i := 1) rfl ?_
  refine pz_iln (i := 2) rfl rfl ?_
  refine pz_mul (i := 3) rfl ?_
  refine pz_bi (i := 4) rfl ?_
  refine pz_rem (i := 5) rfl (by decide) ?_
  refine pz_shl (i := 6) rfl ?_
  refine pz_ic (i := 7) rfl ?_
  refine pz_bi (i := 8) rfl ?_
  refine pz_iln (i := 9) rfl rfl ?_
  refine pz_mul (i := 10) rfl ?_
  refine pz_ic (i := 11) rfl ?_
  refine pz_add (i := 12) rfl ?_
  refine pz_bi (i := 13) rfl ?_
  refine pz_rem (i := 14) rfl (by decide) ?_
  refine pz_shl (i := 15) rfl ?_
  refine pz_or (i := 16) rfl ?_
  refine pz_ir (i := 17) rfl rfl rfl ?_
  exact hQ
set_option maxRecDepth 20000 in
theorem lp_pi (hr : 0 < rm ∧ rm ≤ 4096) (hg : geo rm bv) {us : List tB} {i : Nat} {t : tB} (hu : uM jv bv us) (ht : us[i]? = some t) (h12 : t.1 < 12) (hE : tE rm (bv 2) t) {key : Nat} (hkey : key < 120) (hQ0 : t.2.2.2 key = none → Q (some (.int 0)) (wX rm iv av (wM rm jv bv))) (hQ1 : ∀ x, x < (kS t.2.2.2).length → ksA t.2.2.2 x = key → Q (some (.int (nI (16 + 10 * x)))) (wX rm iv av (wM rm jv bv))) : ∀ (m k : Nat), k + m = (kS t.2.2.2).length → (∀ j, j < k → ksA t.2.2.2 j ≠ key) → pz Lx xs (d + 3) rt_106 (some .int) Q 2 [some (.ref 54), some (.int (nI i)), some (.int (nI key)), some (.int (nI k))] [] (wX rm iv av (wM rm jv bv)) := by
  have hcnt : bN (bv 2) (rm + t.1 * 1300 + 2) = (kS t.2.2.2).length := hE.2.2.2.2.2.1
  have hkl := kS_len t.2.2.2
  intro m
  induction m with
  | zero =>
    intro k hk hj
    obtain rfl : k = (kS t.2.2.2).length := by omega
    refine pz_iln (i := 2) rfl rfl ?_
    refine pz_aln (i := 3) rfl rfl ?_
    refine pz_iln (i := 4) rfl rfl ?_
    refine pz_ic (i := 5) rfl ?_
    refine pz_cI2 (i := 6) rfl (gc_54 ..) rfl (Nat.le_of_ble_eq_true rfl) rfl ?_
    refine sm_tableByte hr hg hu ht h12 (q := 2) (by decide) ?_
    rw [hcnt]
    refine ⟨_, rfl, ?_⟩
    refine pz_ii_ge (i := 7) rfl (fun c7 => ?_) (fun c7 => ?_)
    · refine pz_ic (i := 26) rfl ?_
      refine pz_ir (i := 27) rfl rfl rfl ?_
      refine hQ0 ?_
      cases he : t.2.2.2 key with
      | none => rfl
      | some e =>
        obtain ⟨x, hx, e2⟩ := ks_ix (m := t.2.2.2) hkey (by rw [he]; rfl)
        exact absurd e2 (hj x hx)
    · exact absurd (Int32.le_refl _) c7
  | succ m ih =>
    intro k hk hj
    have hlt : k < (kS t.2.2.2).length := by omega
    refine pz_iln (i := 2) rfl rfl ?_
    refine pz_aln (i := 3) rfl rfl ?_
    refine pz_iln (i := 4) rfl rfl ?_
    refine pz_ic (i := 5) rfl ?_
    refine pz_cI2 (i := 6) rfl (gc_54 ..) rfl (Nat.le_of_ble_eq_true rfl) rfl ?_
    refine sm_tableByte hr hg hu ht h12 (q := 2) (by decide) ?_
    rw [hcnt]
    refine ⟨_, rfl, ?_⟩
    refine pz_ii_ge (i := 7) rfl (fun c7 => ?_) (fun c7 => ?_)
    · exact absurd (le_ofI c7) (by omega)
    · refine pz_aln (i := 8) rfl rfl ?_
      refine pz_iln (i := 9) rfl rfl ?_
      refine pz_bi (i := 10) rfl ?_
      refine pz_bi (i := 11) rfl ?_
      refine pz_iln (i := 12) rfl rfl ?_
      refine pz_mul (i := 13) rfl ?_
      rw [show (10 : Int32) * nI k = nI (10 * k) from pk_mul 10 k]
      refine pz_add (i := 14) rfl ?_
      rw [show (16 : Int32) + nI (10 * k) = nI (16 + 10 * k) from nI_add 16 _]
      refine pz_cI2 (i := 15) rfl (gc_54 ..) rfl (Nat.le_of_ble_eq_true rfl) rfl ?_
      refine sm_tableByte hr hg hu ht h12 (q := 16 + 10 * k) (by omega) ?_
      rw [← Nat.add_assoc, tE_key hE hlt]
      refine ⟨_, rfl, ?_⟩
      refine pz_iln (i := 16) rfl rfl ?_
      refine pz_ii_ne (i := 17) rfl (fun c17 => ?_) (fun c17 => ?_)
      · refine pz_inc (i := 24) rfl rfl rfl rfl ?_
        rw [show nI k + 1 = nI (k + 1) from nI_add k 1]
        refine pz_go (i := 25) rfl ?_
        refine ih (k + 1) (by omega) (fun j hj2 => ?_)
        by_cases e : j = k
        · subst e
          exact ne_ofI c17
        · exact hj j (by omega)
      · refine pz_bi (i := 18) rfl ?_
        refine pz_bi (i := 19) rfl ?_
        refine pz_iln (i := 20) rfl rfl ?_
        refine pz_mul (i := 21) rfl ?_
        rw [show (10 : Int32) * nI k = nI (10 * k) from pk_mul 10 k]
        refine pz_add (i := 22) rfl ?_
        rw [show (16 : Int32) + nI (10 * k) = nI (16 + 10 * k) from nI_add 16 _]
        refine pz_ir (i := 23) rfl rfl rfl ?_
        exact hQ1 k hlt (eq_ofI c17 (by have := (ksA_mem hlt).1; omega))
set_option maxRecDepth 20000 in
theorem sm_placeIn (hr : 0 < rm ∧ rm ≤ 4096) (hg : geo rm bv) {us : List tB} {i : Nat} {t : tB} (hu : uM jv bv us) (ht : us[i]? = some t) (h12 : t.1 < 12) (hE : tE rm (bv 2) t) {key : Nat} (hkey : key < 120) (hQ0 : t.2.2.2 key = none → Q (some (.int 0)) (wX rm iv av (wM rm jv bv))) (hQ1 : ∀ x, x < (kS t.2.2.2).length → ksA t.2.2.2 x = key → Q (some (.int (nI (16 + 10 * x)))) (wX rm iv av (wM rm jv bv))) : rx_R Lx xs (d + 4) 106 [.ref 54, .int (nI i), .int (nI key)] (wX rm iv av (wM rm jv bv)) Q := by
  refine pz_en (t := rt_106) ⟨Nat.le_of_ble_eq_true rfl, rfl⟩ rfl rfl ?_
  refine pz_ic (i := 0) rfl ?_
  refine pz_isn (i := 1) rfl ⟨rfl, Nat.le_of_ble_eq_true rfl⟩ rfl ?_
  exact lp_pi hr hg hu ht h12 hE hkey hQ0 hQ1 (kS t.2.2.2).length 0 (Nat.zero_add _) (fun j hj => absurd hj (Nat.not_lt_zero j))
/-- what find leaves -/
def fM (jv : Nat → Int32) (z : Int32) (o : Option eN) : Prop := match o with
  | some e => z = 1 ∧ jv 21 = nI e.1 ∧ jv 22 = nI e.2.1 ∧ jv 23 = nI e.2.2
  | none => z = 0 ∧ jv 21 = 0
theorem eM_0 {jv : Nat → Int32} {bv : Nat → Nat → Int32} {m : mP} (h : eM jv bv m) {k : Nat} (hk : k < 120) : (nI 0 < bv 17 k ↔ (m k).isSome = true) := by
  have h3 := h.2.2 k hk
  cases he : m k with
  | none =>
    simp only [he] at h3
    rw [h3]
    exact ⟨fun z => absurd z (by decide), fun z => by cases z⟩
  | some y =>
    simp only [he] at h3
    have := h.1.2 k y he
    rw [h3.1]
    exact ⟨fun _ => rfl, fun _ => (nI_ltI (by decide) (by omega)).mpr this.1⟩
set_option maxRecDepth 20000 in
theorem lp_fi (hr : 0 < rm ∧ rm ≤ 4096) (hg : geo rm bv) {us0 : List tB} {key : Nat} (hkey : key < 120) (hE : ∀ t ∈ us0, tE rm (bv 2) t) (h0 : jv 21 = 0) (hQ : ∀ jv' z, fM jv' z (fnd us0 key) → frI jv jv' [21, 22, 23] → Q (some (.int z)) (wX rm iv av (wM rm jv' bv))) (hu : uM jv bv us0) : ∀ (us : List tB) (i : Nat) (x3 : Option Value), (∃ y, x3 = none ∨ x3 = some (.int y)) → us0.drop i = us → i ≤ us0.length → fnd us0 key = fnd us key → pz Lx xs (d + 5) rt_107 (some .boolean) Q 38 [some (.ref 54), some (.int (nI key)), some (.int (nI i)), x3] [] (wX rm iv av (wM rm jv bv)) := by
  have h6 := hu.2.1
  intro us
  induction us with
  | nil =>
    intro i x3 hx3 hdr hil hfn
    have hi : i = us0.length := by
      have := congrArg List.length hdr
      rw [List.length_drop] at this
      simp only [List.length_nil] at this
      omega
    subst hi
    refine pz_iln (i := 38) rfl rfl ?_
    refine pz_aln (i := 39) rfl rfl ?_
    refine pz_get (i := 40) rfl (gf_54_36 ..) ?_
    rw [hu.1]
    refine pz_ii_ge (i := 41) rfl (fun c41 => ?_) (fun c41 => ?_)
    · refine pz_ic (i := 77) rfl ?_
      refine pz_ir (i := 78) rfl rfl rfl ?_
      refine hQ jv 0 ?_ (frI_rfl _ _)
      rw [hfn]
      exact ⟨rfl, h0⟩
    · exact absurd (Int32.le_refl _) c41
  | cons t us ih =>
    intro i x3 hx3 hdr hil hfn
    have hlt : i < us0.length := by
      have := congrArg List.length hdr
      rw [List.length_drop] at this
      simp only [List.length_cons] at this
      omega
    have hti : us0[i]? = some t := by
      have : (us0.drop i)[0]? = some t := by rw [hdr]; rfl
      rw [List.getElem?_drop, Nat.add_zero] at this
      exact this
    have hdr' : us0.drop (i + 1) = us := by
      rw [← List.tail_drop, hdr]
      rfl
    have hEt := hE t (List.mem_of_getElem? hti)
    have hnone : t.2.2.2 key = none → fnd us0 key = fnd us key := fun z => by
      rw [hfn]
      show (match t.2.2.2 key with | some e => some e | none => fnd us key) = _
      rw [z]
    have k47 : ∀ q : Int32, (q = 0 → t.2.2.2 key = none) → (∀ x, q = nI (16 + 10 * x) → x < (kS t.2.2.2).length → ksA t.2.2.2 x = key → True) → (q = 0 ∨ ∃ x, q = nI (16 + 10 * x) ∧ x < (kS t.2.2.2).length ∧ ksA t.2.2.2 x = key) → pz Lx xs (d + 5) rt_107 (some .boolean) Q 47 [some (.ref 54), some (.int (nI key)), some (.int (nI i)), some (.int q)] [] (wX rm iv av (wM rm jv bv)) := by
      intro q hq0 _ hq1
      refine pz_iln (i := 47) rfl rfl ?_
      refine pz_if_le (i := 48) rfl (fun c48 => ?_) (fun c48 => ?_)
      · refine pz_inc (i := 75) rfl rfl rfl rfl ?_
        rw [show nI i + 1 = nI (i + 1) from nI_add i 1]
        refine pz_go (i := 76) rfl ?_
        have hq00 : q = 0 := by
          rcases hq1 with z | ⟨x, z, hx, _⟩
          · exact z
          · have hkl := kS_len t.2.2.2
            rw [z] at c48
            exact absurd (le_ofI (b := 0) c48) (by omega)
        exact ih (i + 1) _ ⟨q, Or.inr rfl⟩ hdr' (by omega) (hnone (hq0 hq00))
      · obtain ⟨x, rfl, hx, hxk⟩ : ∃ x, q = nI (16 + 10 * x) ∧ x < (kS t.2.2.2).length ∧ ksA t.2.2.2 x = key := by
          rcases hq1 with z | z
          · exact absurd (show q ≤ 0 by rw [z]; exact Int32.le_refl _) c48
          · exact z
        have hkl := kS_len t.2.2.2
        obtain ⟨e, he⟩ : ∃ e, t.2.2.2 key = some e := by
          have := (ksA_mem hx).2
          rw [hxk] at this
          exact Option.isSome_iff_exists.mp this
        have hen := hEt.2.2.2.2.2.2.2.2 x e hx (by rw [hxk]; exact he)
        have hr1 : fnd us0 key = some e := by
          rw [hfn]
          show (match t.2.2.2 key with | some e => some e | none => fnd us key) = _
          rw [he]
        refine pz_aln (i := 49) rfl rfl ?_
        refine pz_aln (i := 50) rfl rfl ?_
        refine pz_iln (i := 51) rfl rfl ?_
        refine pz_iln (i := 52) rfl rfl ?_
        refine pz_ic (i := 53) rfl ?_
        refine pz_add (i := 54) rfl ?_
        rw [show nI (16 + 10 * x) + 1 = nI (16 + 10 * x + 1) from nI_add _ 1]
        refine pz_cI2 (i := 55) rfl (gc_54 ..) rfl (Nat.le_of_ble_eq_true rfl) rfl ?_
        refine sm_tableByte hr hg hu hti hEt.1 (q := 16 + 10 * x + 1) (by omega) ?_
        rw [← Nat.add_assoc, ← Nat.add_assoc, hen.2.1]
        refine ⟨_, rfl, ?_⟩
        refine pz_put (i := 56) rfl (pf_54_46 ..) ⟨rfl, rfl⟩ ?_
        refine pz_aln (i := 57) rfl rfl ?_
        refine pz_aln (i := 58) rfl rfl ?_
        refine pz_iln (i := 59) rfl rfl ?_
        refine pz_iln (i := 60) rfl rfl ?_
        refine pz_ic (i := 61) rfl ?_
        refine pz_add (i := 62) rfl ?_
        rw [show nI (16 + 10 * x) + 2 = nI (16 + 10 * x + 2) from nI_add _ 2]
        refine pz_cI2 (i := 63) rfl (gc_54 ..) rfl (Nat.le_of_ble_eq_true rfl) rfl ?_
        refine sm_tableFour hr hg (us := us0) ⟨(ui_n (by decide)).trans hu.1, hu.2⟩ hti hEt.1 (q := 16 + 10 * x + 2) (by omega) ?_
        rw [← Nat.add_assoc, ← Nat.add_assoc, hen.2.2.1]
        refine ⟨_, rfl, ?_⟩
        refine pz_put (i := 64) rfl (pf_54_48 ..) ⟨rfl, rfl⟩ ?_
        refine pz_aln (i := 65) rfl rfl ?_
        refine pz_aln (i := 66) rfl rfl ?_
        refine pz_iln (i := 67) rfl rfl ?_
        refine pz_iln (i := 68) rfl rfl ?_
        refine pz_bi (i := 69) rfl ?_
        refine pz_add (i := 70) rfl ?_
        rw [show nI (16 + 10 * x) + 6 = nI (16 + 10 * x + 6) from nI_add _ 6]
        refine pz_cI2 (i := 71) rfl (gc_54 ..) rfl (Nat.le_of_ble_eq_true rfl) rfl ?_
        refine sm_tableFour hr hg (us := us0) ⟨(ui_n (by decide)).trans ((ui_n (by decide)).trans hu.1), hu.2⟩ hti hEt.1 (q := 16 + 10 * x + 6) (by omega) ?_
        rw [← Nat.add_assoc, ← Nat.add_assoc, hen.2.2.2]
        refine ⟨_, rfl, ?_⟩
        refine pz_put (i := 72) rfl (pf_54_47 ..) ⟨rfl, rfl⟩ ?_
        refine pz_ic (i := 73) rfl ?_
        refine pz_ir (i := 74) rfl rfl rfl ?_
        refine hQ _ 1 ?_ (frI_up (frI_up (frI_up (frI_rfl _ _) (by decide)) (by decide)) (by decide))
        rw [hr1]
        refine ⟨rfl, ?_, ?_, ?_⟩
        · rw [ui_n (by decide), ui_n (by decide), ui_s]
        · rw [ui_s]
        · rw [ui_n (by decide), ui_s]
    obtain ⟨y3, hx3 | hx3⟩ := hx3 <;> subst hx3
    · refine pz_iln (i := 38) rfl rfl ?_
      refine pz_aln (i := 39) rfl rfl ?_
      refine pz_get (i := 40) rfl (gf_54_36 ..) ?_
      rw [hu.1]
      refine pz_ii_ge (i := 41) rfl (fun c41 => ?_) (fun c41 => ?_)
      · exact absurd (le_ofI c41) (by omega)
      · refine pz_aln (i := 42) rfl rfl ?_
        refine pz_iln (i := 43) rfl rfl ?_
        refine pz_iln (i := 44) rfl rfl ?_
        refine pz_cI2 (i := 45) rfl (gc_54 ..) rfl (Nat.le_of_ble_eq_true rfl) rfl ?_
        refine sm_placeIn hr hg hu hti hEt.1 hEt hkey (fun hz => ⟨_, rfl, ?_⟩) (fun x hx hxk => ⟨_, rfl, ?_⟩)
        · refine pz_isn (i := 46) rfl ⟨rfl, Nat.le_of_ble_eq_true rfl⟩ rfl ?_
          exact k47 0 (fun _ => hz) (fun _ _ _ _ => trivial) (Or.inl rfl)
        · refine pz_isn (i := 46) rfl ⟨rfl, Nat.le_of_ble_eq_true rfl⟩ rfl ?_
          have hkl := kS_len t.2.2.2
          exact k47 _ (fun z => absurd (eq_ofI (b := 0) z) (by omega)) (fun _ _ _ _ => trivial) (Or.inr ⟨x, rfl, hx, hxk⟩)
    · refine pz_iln (i := 38) rfl rfl ?_
      refine pz_aln (i := 39) rfl rfl ?_
      refine pz_get (i := 40) rfl (gf_54_36 ..) ?_
      rw [hu.1]
      refine pz_ii_ge (i := 41) rfl (fun c41 => ?_) (fun c41 => ?_)
      · exact absurd (le_ofI c41) (by omega)
      · refine pz_aln (i := 42) rfl rfl ?_
        refine pz_iln (i := 43) rfl rfl ?_
        refine pz_iln (i := 44) rfl rfl ?_
        refine pz_cI2 (i := 45) rfl (gc_54 ..) rfl (Nat.le_of_ble_eq_true rfl) rfl ?_
        refine sm_placeIn hr hg hu hti hEt.1 hEt hkey (fun hz => ⟨_, rfl, ?_⟩) (fun x hx hxk => ⟨_, rfl, ?_⟩)
        · refine pz_isn (i := 46) rfl ⟨rfl, Nat.le_of_ble_eq_true rfl⟩ rfl ?_
          exact k47 0 (fun _ => hz) (fun _ _ _ _ => trivial) (Or.inl rfl)
        · refine pz_isn (i := 46) rfl ⟨rfl, Nat.le_of_ble_eq_true rfl⟩ rfl ?_
          have hkl := kS_len t.2.2.2
          exact k47 _ (fun z => absurd (eq_ofI (b := 0) z) (by omega)) (fun _ _ _ _ => trivial) (Or.inr ⟨x, rfl, hx, hxk⟩)
set_option maxRecDepth 20000 in
theorem sm_find (hr : 0 < rm ∧ rm ≤ 4096) (hg : geo rm bv) {us : List tB} {m : mP} {key : Nat} (hkey : key < 120) (hE : ∀ t ∈ us, tE rm (bv 2) t) (hu : uM jv bv us) (hm : eM jv bv m) (hQ : ∀ jv' z, fM jv' z (ent m us key) → jv' 24 = bB (m key).isSome → frI jv jv' [21, 22, 23, 24] → Q (some (.int z)) (wX rm iv av (wM rm jv' bv))) : rx_R Lx xs (d + 6) 107 [.ref 54, .int (nI key)] (wX rm iv av (wM rm jv bv)) Q := by
  refine pz_en (t := rt_107) ⟨Nat.le_of_ble_eq_true rfl, rfl⟩ rfl rfl ?_
  have h17 := eM_0 hm hkey
  refine pz_aln (i := 0) rfl rfl ?_
  refine pz_ic (i := 1) rfl ?_
  refine pz_put (i := 2) rfl (pf_54_46 ..) ⟨rfl, rfl⟩ ?_
  refine pz_aln (i := 3) rfl rfl ?_
  refine pz_aln (i := 4) rfl rfl ?_
  refine pz_get (i := 5) rfl (gf_54_38 ..) ?_
  refine pz_iln (i := 6) rfl rfl ?_
  refine pz_ial (i := 7) rfl (ga_72 ..) (in_ofI hkey) ?_
  rw [cl_ofI (a := key)]
  refine pz_if_le (i := 8) rfl (fun c8 => ?_) (fun c8 => ?_)
  · refine pz_ic (i := 11) rfl ?_
    refine pz_put (i := 12) rfl (pf_54_49 ..) ⟨rfl, rfl⟩ ?_
    refine pz_aln (i := 13) rfl rfl ?_
    refine pz_get (i := 14) rfl (gf_54_49 ..) ?_
    rw [ui_s]
    refine pz_if_eq (i := 15) rfl (fun c15 => ?_) (fun c15 => ?_)
    · by_cases hsn : (m key).isSome = true
      · first | exact absurd c15 (by decide) | exact absurd c8 (Int32.not_le.mpr (h17.mpr hsn))
      have hmn : m key = none := Option.not_isSome_iff_eq_none.mp hsn
      refine pz_ic (i := 36) rfl ?_
      refine pz_isn (i := 37) rfl ⟨rfl, Nat.le_of_ble_eq_true rfl⟩ rfl ?_
      refine lp_fi hr hg hkey hE (by rw [ui_n (by decide), ui_s]) (fun jv1 z k1 k2 => hQ jv1 z ?_ ?_ (frI_tr (frI_up (frI_up (frI_rfl _ [21, 22, 23, 24]) (by decide)) (by decide)) k2 (by decide) (by decide))) ⟨(ui_n (by decide)).trans ((ui_n (by decide)).trans hu.1), hu.2⟩ us 0 none ⟨0, Or.inl rfl⟩ rfl (Nat.zero_le _) rfl
      · unfold ent
        rw [hmn]
        exact k1
      · rw [k2 24 (by decide), ui_s, hmn]
        first | rfl | exact absurd c15 (by decide)
    · by_cases hsn : ¬ (m key).isSome = true
      · first | exact absurd rfl c15 | exact absurd (h17.mp (Int32.not_le.mp c8)) hsn
      have hsm := Classical.not_not.mp hsn
      obtain ⟨e, he⟩ := Option.isSome_iff_exists.mp hsm
      have h3 := hm.2.2 key hkey
      simp only [he] at h3
      refine pz_aln (i := 16) rfl rfl ?_
      refine pz_aln (i := 17) rfl rfl ?_
      refine pz_get (i := 18) rfl (gf_54_38 ..) ?_
      refine pz_iln (i := 19) rfl rfl ?_
      refine pz_ial (i := 20) rfl (ga_72 ..) (in_ofI hkey) ?_
      rw [cl_ofI (a := key), h3.1]
      refine pz_put (i := 21) rfl (pf_54_46 ..) ⟨rfl, rfl⟩ ?_
      refine pz_aln (i := 22) rfl rfl ?_
      refine pz_aln (i := 23) rfl rfl ?_
      refine pz_get (i := 24) rfl (gf_54_39 ..) ?_
      refine pz_iln (i := 25) rfl rfl ?_
      refine pz_ial (i := 26) rfl (ga_73 ..) (in_ofI hkey) ?_
      rw [cl_ofI (a := key), h3.2.1]
      refine pz_put (i := 27) rfl (pf_54_47 ..) ⟨rfl, rfl⟩ ?_
      refine pz_aln (i := 28) rfl rfl ?_
      refine pz_aln (i := 29) rfl rfl ?_
      refine pz_get (i := 30) rfl (gf_54_40 ..) ?_
      refine pz_iln (i := 31) rfl rfl ?_
      refine pz_ial (i := 32) rfl (ga_74 ..) (in_ofI hkey) ?_
      rw [cl_ofI (a := key), h3.2.2]
      refine pz_put (i := 33) rfl (pf_54_48 ..) ⟨rfl, rfl⟩ ?_
      refine pz_ic (i := 34) rfl ?_
      refine pz_ir (i := 35) rfl rfl rfl ?_
      refine hQ _ 1 ?_ ?_ (frI_up (frI_up (frI_up (frI_up (frI_up (frI_rfl _ _) (by decide)) (by decide)) (by decide)) (by decide)) (by decide))
      · unfold ent
        rw [he]
        refine ⟨rfl, ?_, ?_, ?_⟩
        · rw [ui_n (by decide), ui_n (by decide), ui_s]
        · rw [ui_n (by decide), ui_s]
        · rw [ui_s]
      · rw [ui_n (by decide), ui_n (by decide), ui_n (by decide), ui_s, hsm]
        first | rfl | exact absurd rfl c15
  · refine pz_ic (i := 9) rfl ?_
    refine pz_go (i := 10) rfl ?_
    refine pz_put (i := 12) rfl (pf_54_49 ..) ⟨rfl, rfl⟩ ?_
    refine pz_aln (i := 13) rfl rfl ?_
    refine pz_get (i := 14) rfl (gf_54_49 ..) ?_
    rw [ui_s]
    refine pz_if_eq (i := 15) rfl (fun c15 => ?_) (fun c15 => ?_)
    · by_cases hsn : (m key).isSome = true
      · first | exact absurd c15 (by decide) | exact absurd c8 (Int32.not_le.mpr (h17.mpr hsn))
      have hmn : m key = none := Option.not_isSome_iff_eq_none.mp hsn
      refine pz_ic (i := 36) rfl ?_
      refine pz_isn (i := 37) rfl ⟨rfl, Nat.le_of_ble_eq_true rfl⟩ rfl ?_
      refine lp_fi hr hg hkey hE (by rw [ui_n (by decide), ui_s]) (fun jv1 z k1 k2 => hQ jv1 z ?_ ?_ (frI_tr (frI_up (frI_up (frI_rfl _ [21, 22, 23, 24]) (by decide)) (by decide)) k2 (by decide) (by decide))) ⟨(ui_n (by decide)).trans ((ui_n (by decide)).trans hu.1), hu.2⟩ us 0 none ⟨0, Or.inl rfl⟩ rfl (Nat.zero_le _) rfl
      · unfold ent
        rw [hmn]
        exact k1
      · rw [k2 24 (by decide), ui_s, hmn]
        first | rfl | exact absurd c15 (by decide)
    · by_cases hsn : ¬ (m key).isSome = true
      · first | exact absurd rfl c15 | exact absurd (h17.mp (Int32.not_le.mp c8)) hsn
      have hsm := Classical.not_not.mp hsn
      obtain ⟨e, he⟩ := Option.isSome_iff_exists.mp hsm
      have h3 := hm.2.2 key hkey
      simp only [he] at h3
      refine pz_aln (i := 16) rfl rfl ?_
      refine pz_aln (i := 17) rfl rfl ?_
      refine pz_get (i := 18) rfl (gf_54_38 ..) ?_
      refine pz_iln (i := 19) rfl rfl ?_
      refine pz_ial (i := 20) rfl (ga_72 ..) (in_ofI hkey) ?_
      rw [cl_ofI (a := key), h3.1]
      refine pz_put (i := 21) rfl (pf_54_46 ..) ⟨rfl, rfl⟩ ?_
      refine pz_aln (i := 22) rfl rfl ?_
      refine pz_aln (i := 23) rfl rfl ?_
      refine pz_get (i := 24) rfl (gf_54_39 ..) ?_
      refine pz_iln (i := 25) rfl rfl ?_
      refine pz_ial (i := 26) rfl (ga_73 ..) (in_ofI hkey) ?_
      rw [cl_ofI (a := key), h3.2.1]
      refine pz_put (i := 27) rfl (pf_54_47 ..) ⟨rfl, rfl⟩ ?_
      refine pz_aln (i := 28) rfl rfl ?_
      refine pz_aln (i := 29) rfl rfl ?_
      refine pz_get (i := 30) rfl (gf_54_40 ..) ?_
      refine pz_iln (i := 31) rfl rfl ?_
      refine pz_ial (i := 32) rfl (ga_74 ..) (in_ofI hkey) ?_
      rw [cl_ofI (a := key), h3.2.2]
      refine pz_put (i := 33) rfl (pf_54_48 ..) ⟨rfl, rfl⟩ ?_
      refine pz_ic (i := 34) rfl ?_
      refine pz_ir (i := 35) rfl rfl rfl ?_
      refine hQ _ 1 ?_ ?_ (frI_up (frI_up (frI_up (frI_up (frI_up (frI_rfl _ _) (by decide)) (by decide)) (by decide)) (by decide)) (by decide))
      · unfold ent
        rw [he]
        refine ⟨rfl, ?_, ?_, ?_⟩
        · rw [ui_n (by decide), ui_n (by decide), ui_s]
        · rw [ui_n (by decide), ui_s]
        · rw [ui_s]
      · rw [ui_n (by decide), ui_n (by decide), ui_n (by decide), ui_s, hsm]
        first | rfl | exact absurd rfl c15
set_option maxRecDepth 20000 in
theorem sm_isThere (hr : 0 < rm ∧ rm ≤ 4096) (hg : geo rm bv) {us : List tB} {m : mP} {n : Nat → Nat} {key : Nat} (hkey : key < 120) (hE : ∀ t ∈ us, tE rm (bv 2) t) (hu : uM jv bv us) (hm : eM jv bv m) (hQ : ∀ jv', (∀ e, ent m us key = some e → e.1 = 1 → jv' 23 = nI e.2.2) → frI jv jv' [21, 22, 23, 24] → Q (some (.int (bB (thr (us, m, n) key)))) (wX rm iv av (wM rm jv' bv))) : rx_R Lx xs (d + 7) 108 [.ref 54, .int (nI key)] (wX rm iv av (wM rm jv bv)) Q := by
  refine pz_en (t := rt_108) ⟨Nat.le_of_ble_eq_true rfl, rfl⟩ rfl rfl ?_
  refine pz_aln (i := 0) rfl rfl ?_
  refine pz_iln (i := 1) rfl rfl ?_
  refine pz_cI1 (i := 2) rfl (gc_54 ..) rfl (Nat.le_of_ble_eq_true rfl) rfl ?_
  refine sm_find hr hg hkey hE hu hm (fun jv1 z hf h24 f1 => ?_)
  have hQ1 := hQ jv1 (fun e he _ => by rw [he] at hf; exact hf.2.2.2) f1
  unfold thr at hQ1
  have hQ2 : Q (some (.int (bB (match ent m us key with | some e => decide (e.1 = 1) | none => false)))) (wX rm iv av (wM rm jv1 bv)) := hQ1
  refine ⟨_, rfl, ?_⟩
  refine pz_if_eq (i := 3) rfl (fun c3 => ?_) (fun c3 => ?_)
  · refine pz_ic (i := 10) rfl ?_
    refine pz_ir (i := 11) rfl rfl rfl ?_
    cases he : ent m us key with
    | none =>
      rw [he] at hQ2 hf
      first
        | exact hQ2
        | exact absurd hf.1 c3
    | some e =>
      rw [he] at hQ2 hf
      have h3 := (ent_ok hm.1 (fun t ht => (hE t ht).2.2.2.1) he).2.1
      have hQ3 : Q (some (.int (bB (decide (e.1 = 1))))) (wX rm iv av (wM rm jv1 bv)) := hQ2
      first
        | (have hc : e.1 = 1 := eq_ofI (b := 1) (hf.2.1.symm.trans c7)
           rw [decide_eq_true hc] at hQ3
           exact hQ3)
        | (have hc : ¬ e.1 = 1 := fun z => c7 (hf.2.1.trans (congrArg nI z))
           rw [decide_eq_false hc] at hQ3
           exact hQ3)
        | (have h9 := hf.1.symm.trans c3
           exact absurd h9 (by decide))
  · refine pz_aln (i := 4) rfl rfl ?_
    refine pz_get (i := 5) rfl (gf_54_46 ..) ?_
    refine pz_ic (i := 6) rfl ?_
    refine pz_ii_ne (i := 7) rfl (fun c7 => ?_) (fun c7 => ?_)
    · refine pz_ic (i := 10) rfl ?_
      refine pz_ir (i := 11) rfl rfl rfl ?_
      cases he : ent m us key with
      | none =>
        rw [he] at hQ2 hf
        first
          | exact hQ2
          | exact absurd hf.1 c3
      | some e =>
        rw [he] at hQ2 hf
        have h3 := (ent_ok hm.1 (fun t ht => (hE t ht).2.2.2.1) he).2.1
        have hQ3 : Q (some (.int (bB (decide (e.1 = 1))))) (wX rm iv av (wM rm jv1 bv)) := hQ2
        first
          | (have hc : e.1 = 1 := eq_ofI (b := 1) (hf.2.1.symm.trans c7)
             rw [decide_eq_true hc] at hQ3
             exact hQ3)
          | (have hc : ¬ e.1 = 1 := fun z => c7 (hf.2.1.trans (congrArg nI z))
             rw [decide_eq_false hc] at hQ3
             exact hQ3)
          | (have h9 := hf.1.symm.trans c3
             exact absurd h9 (by decide))
    · refine pz_ic (i := 8) rfl ?_
      refine pz_go (i := 9) rfl ?_
      refine pz_ir (i := 11) rfl rfl rfl ?_
      cases he : ent m us key with
      | none =>
        rw [he] at hQ2 hf
        first
          | exact hQ2
          | exact absurd hf.1 c3
      | some e =>
        rw [he] at hQ2 hf
        have h3 := (ent_ok hm.1 (fun t ht => (hE t ht).2.2.2.1) he).2.1
        have hQ3 : Q (some (.int (bB (decide (e.1 = 1))))) (wX rm iv av (wM rm jv1 bv)) := hQ2
        first
          | (have hc : e.1 = 1 := eq_ofI (b := 1) (hf.2.1.symm.trans c7)
             rw [decide_eq_true hc] at hQ3
             exact hQ3)
          | (have hc : ¬ e.1 = 1 := fun z => c7 (hf.2.1.trans (congrArg nI z))
             rw [decide_eq_false hc] at hQ3
             exact hQ3)
          | (have h9 := hf.1.symm.trans c3
             exact absurd h9 (by decide))
end SB1
