/-! PART 43: the disk of the reference -/
def aA (rm : Nat) : Nat → Nat
  | 0 => 0
  | 1 => rm
  | _ => rm + 15600
def aZ (rm : Nat) : Nat → Nat
  | 0 => rm
  | 1 => 15600
  | _ => 128
/-- the cell of place at of area a -/
def plM (rm a q : Nat) : Nat := aA rm a + q % aZ rm a
def geo (rm : Nat) (bv : Nat → Nat → Int32) : Prop := ∀ a, a < 3 → bv 0 a = nI (aA rm a) ∧ bv 1 a = nI (aZ rm a)
theorem aZ_pos {rm : Nat} (hr : 0 < rm) (a : Nat) : 0 < aZ rm a := by
  unfold aZ
  split <;> omega
theorem aZ_le {rm : Nat} (hr : rm ≤ 4096) (a : Nat) : aZ rm a ≤ 15600 ∧ aA rm a ≤ 19696 := by
  unfold aZ aA
  split <;> simp <;> omega
theorem plM_lt {rm a q : Nat} (hr : 0 < rm) (ha : a < 3) : plM rm a q < rm + 15728 := by
  unfold plM
  have h := Nat.mod_lt q (aZ_pos hr a)
  match a, ha with
  | 0, _ =>
    simp only [aA, aZ] at h ⊢
    omega
  | 1, _ =>
    simp only [aA, aZ] at h ⊢
    omega
  | 2, _ =>
    simp only [aA, aZ] at h ⊢
    omega
  | k + 3, hk => exact absurd hk (by omega)
def wgeo (a q n rm : Nat) : Prop := (a = 0 ∧ n ≤ rm) ∨ (a = 1 ∧ q + n ≤ 15600) ∨ (a = 2 ∧ q + n ≤ 128)
theorem plM_nx {rm a q n k : Nat} (hr : 0 < rm) (h : wgeo a q n rm) (hk : k < n) : plM rm a (q + k) = nx rm (plM rm a q) k := by
  rcases h with ⟨rfl, h⟩ | ⟨rfl, h⟩ | ⟨rfl, h⟩
  · unfold plM nx
    simp only [aA, aZ, Nat.zero_add]
    rw [if_pos (Nat.mod_lt _ hr), Nat.mod_add_mod]
  · unfold plM nx
    simp only [aA, aZ]
    rw [Nat.mod_eq_of_lt (by omega), Nat.mod_eq_of_lt (by omega), if_neg (by omega)]
    omega
  · unfold plM nx
    simp only [aA, aZ]
    rw [Nat.mod_eq_of_lt (by omega), Nat.mod_eq_of_lt (by omega), if_neg (by omega)]
    omega
theorem wgeo_ok {rm a q n : Nat} {g : Nat → Int32} (hr : 0 < rm) (h : wgeo a q n rm) (hn : 0 < n) : wok rm (plM rm a q, n, g) := by
  rcases h with ⟨rfl, h⟩ | ⟨rfl, h⟩ | ⟨rfl, h⟩
  · left
    unfold plM
    simp only [aA, aZ, Nat.zero_add]
    exact ⟨Nat.mod_lt _ hr, h⟩
  · right
    unfold plM
    simp only [aA, aZ]
    rw [Nat.mod_eq_of_lt (by omega)]
    omega
  · right
    unfold plM
    simp only [aA, aZ]
    rw [Nat.mod_eq_of_lt (by omega)]
    omega
/-- the disk of the reference -/
def dM (rm : Nat) (jv : Nat → Int32) (bv : Nat → Nat → Int32) (s : dS) : Prop :=
  bv 2 = cu rm s ∧ bv 3 = s.1 ∧ jv 0 = nI s.2.1.length ∧ jv 1 = nI (tot s.2.1) ∧ s.2.1.length ≤ 1024 ∧ tot s.2.1 ≤ 8192 ∧ jv 2 = nI s.2.2.1 ∧ jv 3 = nI s.2.2.2.1 ∧ jv 4 = nI s.2.2.2.2.1 ∧ jv 5 = bB s.2.2.2.2.2 ∧ s.2.2.1 ≤ 1000 ∧ s.2.2.2.1 < 2 ^ 31 ∧ s.2.2.2.2.1 < 2 ^ 31 ∧ bt s.1 ∧ (∀ x ∈ s.2.1, bt x.2.2) ∧ geo rm bv ∧
  ∀ (w : Nat) (x : wR), s.2.1[w]? = some x → ∃ a q : Nat, a < 3 ∧ q < 2 ^ 30 ∧ 0 < x.2.1 ∧ wgeo a q x.2.1 rm ∧ x.1 = plM rm a q ∧ bv 4 w = nI a ∧ bv 5 w = nI q ∧ bv 6 w = nI x.2.1 ∧ bv 7 w = nI (tot (s.2.1.take w)) ∧ ∀ i, i < x.2.1 → bv 8 (tot (s.2.1.take w) + i) = x.2.2 i
section S43
variable {Lx : Nat} {xs : Nat → Int32} {d rm : Nat} {iv : Nat → Int32} {av : Nat → Nat → Int32} {jv : Nat → Int32} {bv : Nat → Nat → Int32} {Q : rQ}
set_option maxRecDepth 20000 in
theorem sm_placeOf (hr : 0 < rm ∧ rm ≤ 4096) (hg : geo rm bv) {a q : Nat} (ha : a < 3) (hq : q < 2 ^ 31) (hQ : Q (some (.int (nI (plM rm a q)))) (wX rm iv av (wM rm jv bv))) : rx_R Lx xs (d + 1) 89 [.ref 54, .int (nI a), .int (nI q)] (wX rm iv av (wM rm jv bv)) Q := by
  refine pz_en (t := rt_89) ⟨Nat.le_of_ble_eq_true rfl, rfl⟩ rfl rfl ?_
  have h9 := aZ_le hr.2 a
  refine pz_aln (i := 0) rfl rfl ?_
  refine pz_get (i := 1) rfl (gf_54_1 ..) ?_
  refine pz_iln (i := 2) rfl rfl ?_
  refine pz_ial (i := 3) rfl (ga_55 ..) (in_ofI ha) ?_
  rw [cl_ofI (a := a), (hg a ha).1]
  refine pz_iln (i := 4) rfl rfl ?_
  refine pz_aln (i := 5) rfl rfl ?_
  refine pz_get (i := 6) rfl (gf_54_2 ..) ?_
  refine pz_iln (i := 7) rfl rfl ?_
  refine pz_ial (i := 8) rfl (ga_56 ..) (in_ofI ha) ?_
  rw [cl_ofI (a := a), (hg a ha).2]
  refine pz_rem (i := 9) rfl (nI_ne0 (aZ_pos hr.1 a) (by omega)) ?_
  rw [pk_rem hq (aZ_pos hr.1 a) (by omega)]
  refine pz_add (i := 10) rfl ?_
  rw [nI_add]
  refine pz_ir (i := 11) rfl rfl rfl ?_
  exact hQ
set_option maxRecDepth 20000 in
theorem sm_byteAt (hr : 0 < rm ∧ rm ≤ 4096) (hg : geo rm bv) {a q : Nat} (ha : a < 3) (hq : q < 2 ^ 31) (hQ : Q (some (.int (bv 2 (plM rm a q) &&& 255))) (wX rm iv av (wM rm jv bv))) : rx_R Lx xs (d + 2) 90 [.ref 54, .int (nI a), .int (nI q)] (wX rm iv av (wM rm jv bv)) Q := by
  refine pz_en (t := rt_90) ⟨Nat.le_of_ble_eq_true rfl, rfl⟩ rfl rfl ?_
  have h9 := plM_lt (a := a) (q := q) hr.1 ha
  refine pz_aln (i := 0) rfl rfl ?_
  refine pz_get (i := 1) rfl (gf_54_3 ..) ?_
  refine pz_aln (i := 2) rfl rfl ?_
  refine pz_iln (i := 3) rfl rfl ?_
  refine pz_iln (i := 4) rfl rfl ?_
  refine pz_cI2 (i := 5) rfl (gc_54 ..) rfl (Nat.le_of_ble_eq_true rfl) rfl ?_
  refine sm_placeOf hr hg ha hq ?_
  refine ⟨_, rfl, ?_⟩
  refine pz_bal (i := 6) rfl (ga_57 ..) rfl (in_ofI (by omega)) ?_
  rw [cl_ofI (a := plM rm a q)]
  refine pz_si (i := 7) rfl ?_
  refine pz_and (i := 8) rfl ?_
  refine pz_ir (i := 9) rfl rfl rfl ?_
  exact hQ
def b4M (rm : Nat) (bv : Nat → Nat → Int32) (a q : Nat) : Int32 := (bv 2 (plM rm a q) &&& 255) <<< ((24 : Int32) &&& 31) ||| (bv 2 (plM rm a (q + 1)) &&& 255) <<< ((16 : Int32) &&& 31) ||| (bv 2 (plM rm a (q + 2)) &&& 255) <<< ((8 : Int32) &&& 31) ||| (bv 2 (plM rm a (q + 3)) &&& 255)
set_option maxRecDepth 20000 in
theorem sm_four (hr : 0 < rm ∧ rm ≤ 4096) (hg : geo rm bv) {a q : Nat} (ha : a < 3) (hq : q + 3 < 2 ^ 31) (hQ : Q (some (.int (b4M rm bv a q))) (wX rm iv av (wM rm jv bv))) : rx_R Lx xs (d + 3) 91 [.ref 54, .int (nI a), .int (nI q)] (wX rm iv av (wM rm jv bv)) Q := by
  refine pz_en (t := rt_91) ⟨Nat.le_of_ble_eq_true rfl, rfl⟩ rfl rfl ?_
  refine pz_aln (i := 0) rfl rfl ?_
  refine pz_iln (i := 1) rfl rfl ?_
  refine pz_iln (i := 2) rfl rfl ?_
  refine pz_cI2 (i := 3) rfl (gc_54 ..) rfl (Nat.le_of_ble_eq_true rfl) rfl ?_
  refine sm_byteAt hr hg ha (by omega) ?_
  refine ⟨_, rfl, ?_⟩
  refine pz_bi (i := 4) rfl ?_
  refine pz_shl (i := 5) rfl ?_
  refine pz_aln (i := 6) rfl rfl ?_
  refine pz_iln (i := 7) rfl rfl ?_
  refine pz_iln (i := 8) rfl rfl ?_
  refine pz_ic (i := 9) rfl ?_
  refine pz_add (i := 10) rfl ?_
  rw [show nI q + 1 = nI (q + 1) from nI_add q 1]
  refine pz_cI2 (i := 11) rfl (gc_54 ..) rfl (Nat.le_of_ble_eq_true rfl) rfl ?_
  refine sm_byteAt hr hg ha (by omega) ?_
  refine ⟨_, rfl, ?_⟩
  refine pz_bi (i := 12) rfl ?_
  refine pz_shl (i := 13) rfl ?_
  refine pz_or (i := 14) rfl ?_
  refine pz_aln (i := 15) rfl rfl ?_
  refine pz_iln (i := 16) rfl rfl ?_
  refine pz_iln (i := 17) rfl rfl ?_
  refine pz_ic (i := 18) rfl ?_
  refine pz_add (i := 19) rfl ?_
  rw [show nI q + 2 = nI (q + 2) from nI_add q 2]
  refine pz_cI2 (i := 20) rfl (gc_54 ..) rfl (Nat.le_of_ble_eq_true rfl) rfl ?_
  refine sm_byteAt hr hg ha (by omega) ?_
  refine ⟨_, rfl, ?_⟩
  refine pz_bi (i := 21) rfl ?_
  refine pz_shl (i := 22) rfl ?_
  refine pz_or (i := 23) rfl ?_
  refine pz_aln (i := 24) rfl rfl ?_
  refine pz_iln (i := 25) rfl rfl ?_
  refine pz_iln (i := 26) rfl rfl ?_
  refine pz_ic (i := 27) rfl ?_
  refine pz_add (i := 28) rfl ?_
  rw [show nI q + 3 = nI (q + 3) from nI_add q 3]
  refine pz_cI2 (i := 29) rfl (gc_54 ..) rfl (Nat.le_of_ble_eq_true rfl) rfl ?_
  refine sm_byteAt hr hg ha (by omega) ?_
  refine ⟨_, rfl, ?_⟩
  refine pz_or (i := 30) rfl ?_
  refine pz_ir (i := 31) rfl rfl rfl ?_
  exact hQ
theorem lp_clb {n : Nat} (hn : n ≤ 1300) : ∀ (m k : Nat) (bv : Nat → Nat → Int32), k ≤ n → n ≤ k + m → Q none (wX rm iv av (wM rm jv (up_a bv 23 (fun j => if k ≤ j ∧ j < n then 0 else bv 23 j)))) → pz Lx xs d rt_93 none Q 2 [some (.ref 54), some (.int (nI n)), some (.int (nI k))] [] (wX rm iv av (wM rm jv bv)) := by
  have hdone : ∀ (k : Nat) (bv : Nat → Nat → Int32), k = n → Q none (wX rm iv av (wM rm jv (up_a bv 23 (fun j => if k ≤ j ∧ j < n then 0 else bv 23 j)))) → pz Lx xs d rt_93 none Q 2 [some (.ref 54), some (.int (nI n)), some (.int (nI k))] [] (wX rm iv av (wM rm jv bv)) := by
    intro k bv hk hQ
    subst hk
    have e0 : up_a bv 23 (fun j => if k ≤ j ∧ j < k then 0 else bv 23 j) = bv := by
      rw [show (fun j => if k ≤ j ∧ j < k then 0 else bv 23 j) = bv 23 from funext fun j => if_neg (by omega)]
      exact ua_id bv _
    rw [e0] at hQ
    refine pz_iln (i := 2) rfl rfl ?_
    refine pz_iln (i := 3) rfl rfl ?_
    refine pz_ii_ge (i := 4) rfl (fun c4 => ?_) (fun c4 => ?_)
    · refine pz_vr (i := 12) rfl rfl ?_
      exact hQ
    · exact absurd (Int32.le_refl _) c4
  intro m
  induction m with
  | zero =>
    intro k bv hk hm hQ
    exact hdone k bv (by omega) hQ
  | succ m ih =>
    intro k bv hk hm hQ
    by_cases hkn : k = n
    · exact hdone k bv hkn hQ
    refine pz_iln (i := 2) rfl rfl ?_
    refine pz_iln (i := 3) rfl rfl ?_
    refine pz_ii_ge (i := 4) rfl (fun c4 => ?_) (fun c4 => ?_)
    · exact absurd (le_ofI c4) (by omega)
    · refine pz_aln (i := 5) rfl rfl ?_
      refine pz_get (i := 6) rfl (gf_54_45 ..) ?_
      refine pz_iln (i := 7) rfl rfl ?_
      refine pz_ic (i := 8) rfl ?_
      refine pz_bas (i := 9) rfl (ga_78 ..) rfl (in_ofI (by omega)) (pa_78 ..) ?_
      rw [cl_ofI (a := k)]
      refine pz_inc (i := 10) rfl rfl rfl rfl ?_
      refine pz_go (i := 11) rfl ?_
      rw [nI_1]
      refine ih (k + 1) _ (by omega) (by omega) ?_
      rw [ua_uu, ua_s]
      refine (congrArg (fun f => Q none (wX rm iv av (wM rm jv (up_a bv 23 f)))) (funext fun j => ?_)).mpr hQ
      by_cases hj : j = k
      · subst hj
        rw [if_neg (by omega), if_pos (by omega), ui_s]
        rfl
      · rw [ui_n hj]
        by_cases h2 : k ≤ j ∧ j < n
        · rw [if_pos (by omega), if_pos h2]
        · rw [if_neg (by omega), if_neg h2]
set_option maxRecDepth 20000 in
theorem sm_clearBuffer {n : Nat} (hn : n ≤ 1300) (hQ : Q none (wX rm iv av (wM rm jv (up_a bv 23 (fun j => if j < n then 0 else bv 23 j))))) : rx_R Lx xs (d + 1) 93 [.ref 54, .int (nI n)] (wX rm iv av (wM rm jv bv)) Q := by
  refine pz_en (t := rt_93) ⟨Nat.le_of_ble_eq_true rfl, rfl⟩ rfl rfl ?_
  refine pz_ic (i := 0) rfl ?_
  refine pz_isn (i := 1) rfl ⟨rfl, Nat.le_of_ble_eq_true rfl⟩ rfl ?_
  refine lp_clb hn n 0 bv (by omega) (by omega) ?_
  refine (congrArg (fun f => Q none (wX rm iv av (wM rm jv (up_a bv 23 f)))) (funext fun j => ?_)).mpr hQ
  simp
theorem lp_lw (hr : 0 < rm ∧ rm ≤ 4096) {w a q off n : Nat} {g : Nat → Int32} (hw : w < 1024) (ha : a < 3) (hq : q < 2 ^ 30) (hgeo : wgeo a q n rm) (hoff : off + n ≤ 8192) (hgb : bt g) {m0 : Nat} (hm0 : m0 ≤ n) : ∀ (m k : Nat) (bv : Nat → Nat → Int32), geo rm bv → bv 4 w = nI a → bv 5 w = nI q → bv 7 w = nI off → (∀ i, i < n → bv 8 (off + i) = g i) → k ≤ m0 → m0 ≤ k + m → (∀ f : Nat → Int32, (∀ i, k ≤ i → i < m0 → f (nx rm (plM rm a q) i) = g i) → True) → ∀ las, bv 3 = ap_k rm g (plM rm a q) k las → Q none (wX rm iv av (wM rm jv (up_a bv 3 (ap_k rm g (plM rm a q) m0 las)))) → pz Lx xs (d + 1) rt_95 none Q 2 [some (.ref 54), some (.int (nI w)), some (.int (nI m0)), some (.int (nI k))] [] (wX rm iv av (wM rm jv bv)) := by
  intro m
  induction m with
  | zero =>
    intro k bv hg h4 h5 h7 h8 hk hm _ las h3 hQ
    obtain rfl : k = m0 := by omega
    rw [← h3, ua_id] at hQ
    refine pz_iln (i := 2) rfl rfl ?_
    refine pz_iln (i := 3) rfl rfl ?_
    refine pz_ii_ge (i := 4) rfl (fun c4 => ?_) (fun c4 => ?_)
    · refine pz_vr (i := 31) rfl rfl ?_
      exact hQ
    · exact absurd (Int32.le_refl _) c4
  | succ m ih =>
    intro k bv hg h4 h5 h7 h8 hk hm hf las h3 hQ
    by_cases hkn : k = m0
    · subst hkn
      rw [← h3, ua_id] at hQ
      refine pz_iln (i := 2) rfl rfl ?_
      refine pz_iln (i := 3) rfl rfl ?_
      refine pz_ii_ge (i := 4) rfl (fun c4 => ?_) (fun c4 => ?_)
      · refine pz_vr (i := 31) rfl rfl ?_
        exact hQ
      · exact absurd (Int32.le_refl _) c4
    have hlt : k < m0 := by omega
    have h9 := plM_lt (a := a) (q := q + k) hr.1 ha
    refine pz_iln (i := 2) rfl rfl ?_
    refine pz_iln (i := 3) rfl rfl ?_
    refine pz_ii_ge (i := 4) rfl (fun c4 => ?_) (fun c4 => ?_)
    · exact absurd (le_ofI c4) (by omega)
    · refine pz_aln (i := 5) rfl rfl ?_
      refine pz_get (i := 6) rfl (gf_54_4 ..) ?_
      refine pz_aln (i := 7) rfl rfl ?_
      refine pz_aln (i := 8) rfl rfl ?_
      refine pz_get (i := 9) rfl (gf_54_5 ..) ?_
      refine pz_iln (i := 10) rfl rfl ?_
      refine pz_ial (i := 11) rfl (ga_59 ..) (in_ofI (by omega)) ?_
      rw [cl_ofI (a := w), h4]
      refine pz_aln (i := 12) rfl rfl ?_
      refine pz_get (i := 13) rfl (gf_54_6 ..) ?_
      refine pz_iln (i := 14) rfl rfl ?_
      refine pz_ial (i := 15) rfl (ga_60 ..) (in_ofI (by omega)) ?_
      rw [cl_ofI (a := w), h5]
      refine pz_iln (i := 16) rfl rfl ?_
      refine pz_add (i := 17) rfl ?_
      rw [nI_add]
      refine pz_cI2 (i := 18) rfl (gc_54 ..) rfl (Nat.le_of_ble_eq_true rfl) rfl ?_
      refine sm_placeOf hr hg ha (by omega) ?_
      refine ⟨_, rfl, ?_⟩
      refine pz_aln (i := 19) rfl rfl ?_
      refine pz_get (i := 20) rfl (gf_54_9 ..) ?_
      refine pz_aln (i := 21) rfl rfl ?_
      refine pz_get (i := 22) rfl (gf_54_8 ..) ?_
      refine pz_iln (i := 23) rfl rfl ?_
      refine pz_ial (i := 24) rfl (ga_62 ..) (in_ofI (by omega)) ?_
      rw [cl_ofI (a := w), h7]
      refine pz_iln (i := 25) rfl rfl ?_
      refine pz_add (i := 26) rfl ?_
      rw [nI_add]
      refine pz_bal (i := 27) rfl (ga_63 ..) rfl (in_ofI (by omega)) ?_
      rw [cl_ofI (a := off + k), h8 k (by omega)]
      refine pz_bas (i := 28) rfl (ga_58 ..) rfl (in_ofI (by omega)) (pa_58 ..) ?_
      rw [cl_ofI (a := plM rm a (q + k))]
      have hv : vp_nar (rx_tg 1) (g k) = g k := hgb k
      rw [hv, plM_nx hr.1 hgeo (by omega)]
      refine pz_inc (i := 29) rfl rfl rfl rfl ?_
      refine pz_go (i := 30) rfl ?_
      rw [nI_1]
      refine ih (k + 1) _ ?_ ?_ ?_ ?_ ?_ (by omega) (by omega) (fun _ _ => trivial) las ?_ ?_
      · intro b hb
        rw [ua_n (by decide), ua_n (by decide)]
        exact hg b hb
      · rw [ua_n (by decide)]; exact h4
      · rw [ua_n (by decide)]; exact h5
      · rw [ua_n (by decide)]; exact h7
      · intro i hi
        rw [ua_n (by decide)]
        exact h8 i hi
      · rw [ua_s, h3]
        rfl
      · rw [ua_uu]
        exact hQ
set_option maxRecDepth 20000 in
theorem sm_lastWrite (hr : 0 < rm ∧ rm ≤ 4096) {w a q off n : Nat} {g : Nat → Int32} (hw : w < 1024) (ha : a < 3) (hq : q < 2 ^ 30) (hgeo : wgeo a q n rm) (hoff : off + n ≤ 8192) (hgb : bt g) {m0 : Nat} (hm0 : m0 ≤ n) (hg : geo rm bv) (h4 : bv 4 w = nI a) (h5 : bv 5 w = nI q) (h7 : bv 7 w = nI off) (h8 : ∀ i, i < n → bv 8 (off + i) = g i) (hQ : Q none (wX rm iv av (wM rm jv (up_a bv 3 (ap_k rm g (plM rm a q) m0 (bv 3)))))) : rx_R Lx xs (d + 2) 95 [.ref 54, .int (nI w), .int (nI m0)] (wX rm iv av (wM rm jv bv)) Q := by
  refine pz_en (t := rt_95) ⟨Nat.le_of_ble_eq_true rfl, rfl⟩ rfl rfl ?_
  refine pz_ic (i := 0) rfl ?_
  refine pz_isn (i := 1) rfl ⟨rfl, Nat.le_of_ble_eq_true rfl⟩ rfl ?_
  exact lp_lw hr hw ha hq hgeo hoff hgb hm0 m0 0 bv hg h4 h5 h7 h8 (by omega) (by omega) (fun _ _ => trivial) (bv 3) rfl hQ
end S43
