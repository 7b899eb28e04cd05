/-! PART 32: entries and the batch of the class -/
theorem ua_s (av : Nat → Nat → Int32) (k : Nat) (f : Nat → Int32) : up_a av k f k = f := by simp [up_a]
theorem ua_n {av : Nat → Nat → Int32} {k j : Nat} {f : Nat → Int32} (h : j ≠ k) : up_a av k f j = av j := by simp [up_a, h]
theorem ua_uu (av : Nat → Nat → Int32) (k : Nat) (f g : Nat → Int32) : up_a (up_a av k f) k g = up_a av k g := by
  funext j
  by_cases h : j = k <;> simp [up_a, h]
theorem ua_id (av : Nat → Nat → Int32) (k : Nat) : up_a av k (av k) = av := by
  funext j
  by_cases h : j = k <;> simp [up_a, h]
theorem ui_s (iv : Nat → Int32) (k : Nat) (x : Int32) : upd iv k x k = x := by simp [upd]
theorem ui_n {iv : Nat → Int32} {k j : Nat} {x : Int32} (h : j ≠ k) : upd iv k x j = iv j := by simp [upd, h]
theorem ui_uu (iv : Nat → Int32) (k : Nat) (x y : Int32) : upd (upd iv k x) k y = upd iv k y := by
  funext j
  by_cases h : j = k <;> simp [upd, h]
/-- all kinds 0 -/
def zK (f : Nat → Int32) : Nat → Int32 := fun j => if j < 120 then 0 else f j
/-- entry k of entries e: kind, number, where -/
def se_av (av : Nat → Nat → Int32) (e k : Nat) (a b c : Int32) : Nat → Nat → Int32 :=
  let v1 := up_a av (10 + 3 * e + 0) (upd (av (10 + 3 * e + 0)) k a)
  let v2 := up_a v1 (10 + 3 * e + 1) (upd (v1 (10 + 3 * e + 1)) k b)
  up_a v2 (10 + 3 * e + 2) (upd (v2 (10 + 3 * e + 2)) k c)
def se_iv (iv : Nat → Int32) (av : Nat → Nat → Int32) (e k : Nat) : Nat → Int32 := if av (10 + 3 * e + 0) k = 0 then upd iv (30 + e) (iv (30 + e) + 1) else iv
section S32
variable {Lx : Nat} {xs : Nat → Int32} {d rm : Nat} {iv : Nat → Int32} {av : Nat → Nat → Int32} {r : pW} {Q : rQ}
set_option maxRecDepth 20000 in
theorem lp_Eclear {e : Nat} (he : e < 5) : ∀ (n k : Nat) (av : Nat → Nat → Int32), k ≤ 120 → 120 ≤ k + n → Q none (wX rm (upd iv (30 + e) 0) (up_a av (10 + 3 * e + 0) (fun j => if k ≤ j ∧ j < 120 then 0 else av (10 + 3 * e + 0) j)) r) → pz Lx xs d rt_22 none Q 2 [some (.ref (oE e)), some (.int (nI k))] [] (wX rm iv av r) := by
  intro n
  induction n with
  | zero =>
    intro k av hk hn hQ
    obtain rfl : k = 120 := by omega
    refine pz_iln (i := 2) rfl rfl ?_
    refine pz_bi (i := 3) rfl ?_
    refine pz_ii_ge (i := 4) rfl (fun c4 => ?_) (fun c4 => ?_)
    · refine pz_aln (i := 12) rfl rfl ?_
      refine pz_ic (i := 13) rfl ?_
      refine pz_put (i := 14) rfl (pE_3 he ..) ⟨rfl, rfl⟩ ?_
      refine pz_vr (i := 15) rfl rfl ?_
      have e0 : up_a av (10 + 3 * e + 0) (fun j => if 120 ≤ j ∧ j < 120 then 0 else av (10 + 3 * e + 0) j) = av := by
        rw [show (fun j => if 120 ≤ j ∧ j < 120 then 0 else av (10 + 3 * e + 0) j) = av (10 + 3 * e + 0) from funext fun j => if_neg (by omega)]
        exact ua_id av _
      rw [e0] at hQ
      exact hQ
    · exact absurd (show nI 120 ≤ nI 120 from Int32.le_refl _) c4
  | succ n ih =>
    intro k av hk hn hQ
    refine pz_iln (i := 2) rfl rfl ?_
    refine pz_bi (i := 3) rfl ?_
    refine pz_ii_ge (i := 4) rfl (fun c4 => ?_) (fun c4 => ?_)
    · have hk2 : k = 120 := by
        have := (nI_leI (a := 120) (b := k) (by omega) (by omega)).mp c4
        omega
      subst hk2
      refine pz_aln (i := 12) rfl rfl ?_
      refine pz_ic (i := 13) rfl ?_
      refine pz_put (i := 14) rfl (pE_3 he ..) ⟨rfl, rfl⟩ ?_
      refine pz_vr (i := 15) rfl rfl ?_
      have e0 : up_a av (10 + 3 * e + 0) (fun j => if 120 ≤ j ∧ j < 120 then 0 else av (10 + 3 * e + 0) j) = av := by
        rw [show (fun j => if 120 ≤ j ∧ j < 120 then 0 else av (10 + 3 * e + 0) j) = av (10 + 3 * e + 0) from funext fun j => if_neg (by omega)]
        exact ua_id av _
      rw [e0] at hQ
      exact hQ
    · have hk3 : k < 120 := nle_ofI (a := 120) c4
      refine pz_aln (i := 5) rfl rfl ?_
      refine pz_get (i := 6) rfl (gE_0 he ..) ?_
      refine pz_iln (i := 7) rfl rfl ?_
      refine pz_ic (i := 8) rfl ?_
      refine pz_ias (i := 9) rfl (gEa_0 he ..) (in_ofI hk3) (pEa_0 he ..) ?_
      refine pz_inc (i := 10) rfl rfl rfl rfl ?_
      refine pz_go (i := 11) rfl ?_
      rw [nI_1]
      refine ih (k + 1) _ (by omega) (by omega) ?_
      rw [ua_uu, nI_clamp (by omega), ua_s]
      refine (congrArg (fun f => Q none (wX rm (upd iv (30 + e) 0) (up_a av (10 + 3 * e + 0) f) r)) (funext fun j => ?_)).mpr hQ
      by_cases hj : j = k
      · subst hj
        rw [if_neg (by omega), if_pos (by omega)]
        simp [upd]
      · simp only [upd, hj, if_false]
        by_cases h2 : k ≤ j ∧ j < 120
        · rw [if_pos (by omega), if_pos h2]
        · rw [if_neg (by omega), if_neg h2]
set_option maxRecDepth 20000 in
theorem sx_Eclear {e : Nat} (he : e < 5) (hQ : Q none (wX rm (upd iv (30 + e) 0) (up_a av (10 + 3 * e + 0) (zK (av (10 + 3 * e + 0)))) r)) : rx_R Lx xs (d + 1) 22 [.ref (oE e)] (wX rm iv av r) Q := by
  refine pz_en (t := rt_22) ⟨Nat.le_of_ble_eq_true rfl, rfl⟩ rfl rfl ?_
  refine pz_ic (i := 0) rfl ?_
  refine pz_isn (i := 1) rfl ⟨rfl, Nat.le_of_ble_eq_true rfl⟩ rfl ?_
  refine lp_Eclear he 120 0 av (by omega) (by omega) ?_
  refine (congrArg (fun f => Q none (wX rm (upd iv (30 + e) 0) (up_a av (10 + 3 * e + 0) f) r)) (funext fun j => ?_)).mpr hQ
  simp [zK]
set_option maxRecDepth 20000 in
theorem sx_Eset {e : Nat} (he : e < 5) {k : Nat} (hk : k < 120) {a b c : Int32} (hQ : Q none (wX rm (se_iv iv av e k) (se_av av e k a b c) r)) : rx_R Lx xs (d + 2) 24 [.ref (oE e), .int (nI k), .int a, .int b, .int c] (wX rm iv av r) Q := by
  refine pz_en (t := rt_24) ⟨Nat.le_of_ble_eq_true rfl, rfl⟩ rfl rfl ?_
  refine pz_iln (i := 0) rfl rfl ?_
  refine pz_sI1 (i := 1) rfl (by decide) (Nat.le_of_ble_eq_true rfl) rfl ?_
  refine sx_isKey ?_
  rw [kx_of hk]
  refine ⟨_, rfl, ?_⟩
  refine pz_if_ne (i := 2) rfl (fun c2 => ?_) (fun c2 => ?_)
  · refine pz_aln (i := 4) rfl rfl ?_
    refine pz_get (i := 5) rfl (gE_0 he ..) ?_
    refine pz_iln (i := 6) rfl rfl ?_
    refine pz_ial (i := 7) rfl (gEa_0 he ..) (vp_in_nI hk (by omega)) ?_
    rw [nI_clamp (by omega)]
    refine pz_if_ne (i := 8) rfl (fun c8 => ?_) (fun c8 => ?_)
    · refine pz_aln (i := 15) rfl rfl ?_
      refine pz_get (i := 16) rfl (gE_0 he ..) ?_
      refine pz_iln (i := 17) rfl rfl ?_
      refine pz_iln (i := 18) rfl rfl ?_
      refine pz_ias (i := 19) rfl (gEa_0 he ..) (vp_in_nI hk (by omega)) (pEa_0 he ..) ?_
      refine pz_aln (i := 20) rfl rfl ?_
      refine pz_get (i := 21) rfl (gE_1 he ..) ?_
      refine pz_iln (i := 22) rfl rfl ?_
      refine pz_iln (i := 23) rfl rfl ?_
      refine pz_ias (i := 24) rfl (gEa_1 he ..) (vp_in_nI hk (by omega)) (pEa_1 he ..) ?_
      refine pz_aln (i := 25) rfl rfl ?_
      refine pz_get (i := 26) rfl (gE_2 he ..) ?_
      refine pz_iln (i := 27) rfl rfl ?_
      refine pz_il (i := 28) rfl rfl ?_
      refine pz_ias (i := 29) rfl (gEa_2 he ..) (vp_in_nI hk (by omega)) (pEa_2 he ..) ?_
      refine pz_vr (i := 30) rfl rfl ?_
      unfold se_iv at hQ
      rw [nI_clamp (by omega)]
      first | (rw [if_neg c8] at hQ; exact hQ) | (rw [if_pos c8] at hQ; exact hQ)
    · refine pz_aln (i := 9) rfl rfl ?_
      refine pz_dup (i := 10) rfl rfl ?_
      refine pz_get (i := 11) rfl (gE_3 he ..) ?_
      refine pz_ic (i := 12) rfl ?_
      refine pz_add (i := 13) rfl ?_
      refine pz_put (i := 14) rfl (pE_3 he ..) ⟨rfl, rfl⟩ ?_
      refine pz_aln (i := 15) rfl rfl ?_
      refine pz_get (i := 16) rfl (gE_0 he ..) ?_
      refine pz_iln (i := 17) rfl rfl ?_
      refine pz_iln (i := 18) rfl rfl ?_
      refine pz_ias (i := 19) rfl (gEa_0 he ..) (vp_in_nI hk (by omega)) (pEa_0 he ..) ?_
      refine pz_aln (i := 20) rfl rfl ?_
      refine pz_get (i := 21) rfl (gE_1 he ..) ?_
      refine pz_iln (i := 22) rfl rfl ?_
      refine pz_iln (i := 23) rfl rfl ?_
      refine pz_ias (i := 24) rfl (gEa_1 he ..) (vp_in_nI hk (by omega)) (pEa_1 he ..) ?_
      refine pz_aln (i := 25) rfl rfl ?_
      refine pz_get (i := 26) rfl (gE_2 he ..) ?_
      refine pz_iln (i := 27) rfl rfl ?_
      refine pz_il (i := 28) rfl rfl ?_
      refine pz_ias (i := 29) rfl (gEa_2 he ..) (vp_in_nI hk (by omega)) (pEa_2 he ..) ?_
      refine pz_vr (i := 30) rfl rfl ?_
      unfold se_iv at hQ
      rw [nI_clamp (by omega)]
      first | (rw [if_neg c8] at hQ; exact hQ) | (rw [if_pos c8] at hQ; exact hQ)
  · exact absurd c2 (by decide)
set_option maxRecDepth 20000 in
theorem sx_Eset0 {e : Nat} {k a b c : Int32} (hk : kx_is k = false) (hQ : Q none (wX rm iv av r)) : rx_R Lx xs (d + 2) 24 [.ref (oE e), .int k, .int a, .int b, .int c] (wX rm iv av r) Q := by
  refine pz_en (t := rt_24) ⟨Nat.le_of_ble_eq_true rfl, rfl⟩ rfl rfl ?_
  refine pz_iln (i := 0) rfl rfl ?_
  refine pz_sI1 (i := 1) rfl (by decide) (Nat.le_of_ble_eq_true rfl) rfl ?_
  refine sx_isKey ?_
  rw [hk]
  refine ⟨_, rfl, ?_⟩
  refine pz_if_ne (i := 2) rfl (fun c2 => ?_) (fun c2 => ?_)
  · exact absurd rfl c2
  · refine pz_vr (i := 3) rfl rfl ?_
    exact hQ
end S32
