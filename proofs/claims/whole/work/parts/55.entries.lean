/-! PART 55: entries in pure words; View.find -/
/-- entries e of the class hold the map m -/
def eX (e : Nat) (iv : Nat → Int32) (av : Nat → Nat → Int32) (m : mP) : Prop := mOK m ∧ iv (30 + e) = nI (kS m).length ∧ ∀ k, k < 120 → match m k with
  | none => av (10 + 3 * e + 0) k = 0
  | some x => av (10 + 3 * e + 0) k = nI x.1 ∧ av (10 + 3 * e + 1) k = nI x.2.1 ∧ av (10 + 3 * e + 2) k = nI x.2.2
theorem eX_ext {e : Nat} {iv iv' : Nat → Int32} {av av' : Nat → Nat → Int32} {m : mP} (h : eX e iv av m) (hi : iv' (30 + e) = iv (30 + e)) (h0 : av' (10 + 3 * e + 0) = av (10 + 3 * e + 0)) (h1 : av' (10 + 3 * e + 1) = av (10 + 3 * e + 1)) (h2 : av' (10 + 3 * e + 2) = av (10 + 3 * e + 2)) : eX e iv' av' m := by
  unfold eX at h ⊢
  rw [hi, h0, h1, h2]
  exact h
theorem eX_none {e : Nat} {iv : Nat → Int32} {av : Nat → Nat → Int32} {m : mP} (h : eX e iv av m) {k : Nat} (hk : k < 120) (hm : m k = none) : av (10 + 3 * e + 0) k = 0 := by
  have := h.2.2 k hk
  rw [hm] at this
  exact this
theorem eX_some {e : Nat} {iv : Nat → Int32} {av : Nat → Nat → Int32} {m : mP} (h : eX e iv av m) {k : Nat} (hk : k < 120) {x : eN} (hm : m k = some x) : av (10 + 3 * e + 0) k = nI x.1 ∧ av (10 + 3 * e + 1) k = nI x.2.1 ∧ av (10 + 3 * e + 2) k = nI x.2.2 := by
  have := h.2.2 k hk
  rw [hm] at this
  exact this
theorem eX_zero {e : Nat} {iv : Nat → Int32} {av : Nat → Nat → Int32} {m : mP} (h : eX e iv av m) {k : Nat} (hk : k < 120) : av (10 + 3 * e + 0) k = 0 ↔ m k = none := by
  cases hm : m k with
  | none => exact ⟨fun _ => rfl, fun _ => eX_none h hk hm⟩
  | some x =>
    refine ⟨fun z => ?_, fun z => by cases z⟩
    rw [(eX_some h hk hm).1] at z
    exact absurd z (nI_ne0 (h.1.2 k x hm).1 (by have := (h.1.2 k x hm).2.1; omega))
def m0 : mP := fun _ => none
def upM (m : mP) (k : Nat) (x : eN) : mP := fun j => if j = k then some x else m j
theorem kS_0 : kS m0 = [] := by
  unfold kS m0
  rw [List.filter_eq_nil_iff]
  intro k _
  simp
theorem flt_one {l : List Nat} {p q : Nat → Bool} {k : Nat} (hl : l.Nodup) (hk : k ∈ l) (hp : p k = false) (hq : q k = true) (hpq : ∀ j, j ≠ k → q j = p j) : (l.filter q).length = (l.filter p).length + 1 := by
  induction l with
  | nil => cases hk
  | cons a l ih =>
    rw [List.nodup_cons] at hl
    by_cases ha : a = k
    · subst ha
      rw [List.filter_cons_of_pos hq, List.filter_cons_of_neg (by rw [hp]; decide)]
      have : l.filter q = l.filter p := List.filter_congr (fun j hj => hpq j (fun z => hl.1 (z ▸ hj)))
      rw [this]
      rfl
    · have hk' : k ∈ l := (List.mem_cons.mp hk).resolve_left (fun z => ha z.symm)
      have h := ih hl.2 hk'
      cases hpa : p a with
      | true =>
        rw [List.filter_cons_of_pos (by rw [hpq a ha]; exact hpa), List.filter_cons_of_pos hpa]
        simp only [List.length_cons]
        omega
      | false =>
        rw [List.filter_cons_of_neg (by rw [hpq a ha, hpa]; decide), List.filter_cons_of_neg (by rw [hpa]; decide)]
        exact h
theorem kS_up {m : mP} {k : Nat} {x : eN} (hk : k < 120) : (kS (upM m k x)).length = if m k = none then (kS m).length + 1 else (kS m).length := by
  split
  · rename_i h
    unfold kS
    exact flt_one (k := k) List.nodup_range (List.mem_range.mpr hk) (by rw [h]; rfl) (by simp [upM]) (fun j hj => by simp [upM, hj])
  · rename_i h
    unfold kS
    congr 1
    apply List.filter_congr
    intro j _
    by_cases hj : j = k
    · subst hj
      simp only [upM, if_true]
      cases hm : m j with
      | none => exact absurd hm h
      | some y => rfl
    · simp [upM, hj]
theorem mOK_0 : mOK m0 := ⟨fun _ _ => rfl, fun _ _ h => by cases h⟩
theorem mOK_up {m : mP} {k : Nat} {x : eN} (h : mOK m) (hk : k < 120) (hx : 0 < x.1 ∧ x.1 < 3 ∧ x.2.1 < 2 ^ 30 ∧ x.2.2 < 2 ^ 30) : mOK (upM m k x) := by
  refine ⟨fun j hj => ?_, fun j y hy => ?_⟩
  · unfold upM
    rw [if_neg (by omega)]
    exact h.1 j hj
  · unfold upM at hy
    split at hy
    · cases hy
      exact hx
    · exact h.2 j y hy
theorem eX_clear (e : Nat) (iv : Nat → Int32) (av : Nat → Nat → Int32) : eX e (upd iv (30 + e) 0) (up_a av (10 + 3 * e + 0) (zK (av (10 + 3 * e + 0)))) m0 := by
  refine ⟨mOK_0, by rw [ui_s, kS_0]; rfl, fun k hk => ?_⟩
  show up_a av (10 + 3 * e + 0) _ (10 + 3 * e + 0) k = 0
  rw [ua_s]
  simp [zK, hk]
theorem eX_set {e : Nat} {iv : Nat → Int32} {av : Nat → Nat → Int32} {m : mP} (h : eX e iv av m) {k : Nat} (hk : k < 120) {x : eN} (hx : 0 < x.1 ∧ x.1 < 3 ∧ x.2.1 < 2 ^ 30 ∧ x.2.2 < 2 ^ 30) : eX e (se_iv iv av e k) (se_av av e k (nI x.1) (nI x.2.1) (nI x.2.2)) (upM m k x) := by
  refine ⟨mOK_up h.1 hk hx, ?_, fun j hj => ?_⟩
  · rw [kS_up hk]
    unfold se_iv
    by_cases hm : m k = none
    · rw [if_pos ((eX_zero h hk).mpr hm), if_pos hm, ui_s, h.2.1, nI_1]
    · rw [if_neg (fun z => hm ((eX_zero h hk).mp z)), if_neg hm]
      exact h.2.1
  · have e0 : se_av av e k (nI x.1) (nI x.2.1) (nI x.2.2) (10 + 3 * e + 0) = upd (av (10 + 3 * e + 0)) k (nI x.1) := by
      unfold se_av
      rw [ua_n (by omega), ua_n (by omega), ua_s]
    have e1 : se_av av e k (nI x.1) (nI x.2.1) (nI x.2.2) (10 + 3 * e + 1) = upd (av (10 + 3 * e + 1)) k (nI x.2.1) := by
      unfold se_av
      rw [ua_n (by omega), ua_s, ua_n (by omega)]
    have e2 : se_av av e k (nI x.1) (nI x.2.1) (nI x.2.2) (10 + 3 * e + 2) = upd (av (10 + 3 * e + 2)) k (nI x.2.2) := by
      unfold se_av
      rw [ua_s, ua_n (by omega), ua_n (by omega)]
    rw [e0, e1, e2]
    by_cases hjk : j = k
    · subst hjk
      simp only [upM, if_true]
      rw [ui_s, ui_s, ui_s]
      exact ⟨rfl, rfl, rfl⟩
    · have := h.2.2 j hj
      simp only [upM, hjk, if_false]
      rw [ui_n hjk, ui_n hjk, ui_n hjk]
      exact this
theorem se_fr {av : Nat → Nat → Int32} {e k : Nat} {a b c : Int32} : frA av (se_av av e k a b c) [10 + 3 * e + 0, 10 + 3 * e + 1, 10 + 3 * e + 2] := by
  intro j hj
  simp only [List.mem_cons, List.not_mem_nil, or_false, not_or] at hj
  unfold se_av
  rw [ua_n hj.2.2, ua_n hj.2.1, ua_n hj.1]
theorem se_fi {iv : Nat → Int32} {av : Nat → Nat → Int32} {e k : Nat} : frI iv (se_iv iv av e k) [30 + e] := by
  intro j hj
  simp only [List.mem_cons, List.not_mem_nil, or_false] at hj
  unfold se_iv
  split
  · exact ui_n hj
  · rfl
/-- the entry of a key: memory's, else that of the first table that has one -/
def ent (mem : mP) (us : List tB) (k : Nat) : Option eN := match mem k with
  | some e => some e
  | none => fnd us k
/-- what find leaves -/
def fAll (f : Nat) (iv : Nat → Int32) (mem : mP) (us : List tB) (key : Int32) : Prop :=
  if kx_is key then fO f iv (ent mem us key.toNatClampNeg) ∧ iv (40 + 10 * f + 3) = bB (mem key.toNatClampNeg).isSome ∧ iv (40 + 10 * f + 4) = nI (if (mem key.toNatClampNeg).isSome then 0 else (lkN us key.toNatClampNeg).1) ∧ iv (40 + 10 * f + 5) = nI (if (mem key.toNatClampNeg).isSome then 0 else (lkN us key.toNatClampNeg).2)
  else iv (40 + 10 * f + 0) = 0 ∧ iv (40 + 10 * f + 3) = 0 ∧ iv (40 + 10 * f + 4) = 0 ∧ iv (40 + 10 * f + 5) = 0
section S55
variable {Lx : Nat} {xs : Nat → Int32} {d rm : Nat} {av : Nat → Nat → Int32} {r : pW} {Q : rQ}
set_option maxRecDepth 20000 in
theorem sx_find (hr : 0 < rm ∧ rm ≤ 4096) {v f : Nat} {key : Int32} {iv : Nat → Int32} (hv : v < 2) (hf : f < 3) {us : List tB} {mem : mP} (hvT : vT v iv av us) (htE : ∀ t ∈ us, tE rm (av 0) t) (hmem : eX (2 * v) iv av mem)
    (hQ : ∀ iv', fAll f iv' mem us key → frI iv iv' [40 + 10 * f + 0, 40 + 10 * f + 1, 40 + 10 * f + 2, 40 + 10 * f + 3, 40 + 10 * f + 4, 40 + 10 * f + 5] → Q none (wX rm iv' av r)) : rx_R Lx xs (d + 4) 50 [.ref (oV v), .int key, .ref (oF f)] (wX rm iv av r) Q := by
  refine pz_en (t := rt_50) ⟨Nat.le_of_ble_eq_true rfl, rfl⟩ rfl rfl ?_
  refine pz_aln (i := 0) rfl rfl ?_
  refine pz_cV0 (i := 1) rfl (gF_c hf ..) rfl (Nat.le_of_ble_eq_true rfl) rfl ?_
  refine sx_Fclear hf ?_
  refine ⟨rfl, ?_⟩
  refine pz_aln (i := 2) rfl rfl ?_
  refine pz_get (i := 3) rfl (gV_1 hv ..) ?_
  refine pz_iln (i := 4) rfl rfl ?_
  refine pz_cI1 (i := 5) rfl (gE_c (by omega) ..) rfl (Nat.le_of_ble_eq_true rfl) rfl ?_
  refine sx_Ehas (e := 2 * v) (by omega) ?_
  refine ⟨_, rfl, ?_⟩
  refine pz_if_eq (i := 6) rfl (fun c6 => ?_) (fun c6 => ?_)
  · refine pz_iln (i := 32) rfl rfl ?_
    refine pz_sI1 (i := 33) rfl (by decide) (Nat.le_of_ble_eq_true rfl) rfl ?_
    refine sx_isKey ?_
    refine ⟨_, rfl, ?_⟩
    refine pz_if_eq (i := 34) rfl (fun c34 => ?_) (fun c34 => ?_)
    · refine pz_vr (i := 39) rfl rfl ?_
      refine hQ _ ?_ ?_
      · first
          | (unfold fAll
             rw [if_pos hkx, cl_ofI (a := k)]
             unfold ent
             rw [hx]
             refine ⟨⟨?_, ?_, ?_⟩, ?_, ?_, ?_⟩
             · rw [ui_n (by omega), ui_n (by omega), ui_n (by omega), ui_s]
             · rw [ui_n (by omega), ui_n (by omega), ui_s]
             · rw [ui_n (by omega), ui_s]
             · rw [ui_s]; rfl
             · rw [ui_n (by omega), ui_n (by omega), ui_n (by omega), ui_n (by omega), ui_n (by omega), ui_s]; rfl
             · rw [ui_n (by omega), ui_n (by omega), ui_n (by omega), ui_n (by omega), ui_s]; rfl)
          | (unfold fAll
             rw [if_neg (by rw [bB_f c34]; decide)]
             refine ⟨?_, ?_, ?_, ?_⟩
             · rw [ui_n (by omega), ui_n (by omega), ui_n (by omega), ui_n (by omega), ui_n (by omega), ui_s]
             · rw [ui_n (by omega), ui_n (by omega), ui_s]
             · rw [ui_n (by omega), ui_s]
             · rw [ui_s])
      · intro z hz
        simp only [List.mem_cons, List.not_mem_nil, or_false, not_or] at hz
        first | rw [ui_n hz.2.2.2.1, ui_n hz.2.2.1, ui_n hz.2.1, ui_n hz.1, ui_n hz.2.2.2.2.2, ui_n hz.2.2.2.2.1, ui_n hz.2.2.2.1, ui_n hz.2.2.1, ui_n hz.2.1, ui_n hz.1] | rw [ui_n hz.2.2.2.2.2, ui_n hz.2.2.2.2.1, ui_n hz.2.2.2.1, ui_n hz.2.2.1, ui_n hz.2.1, ui_n hz.1]
    · refine pz_aln (i := 35) rfl rfl ?_
      refine pz_iln (i := 36) rfl rfl ?_
      refine pz_aln (i := 37) rfl rfl ?_
      have hkx := bB_t c34
      obtain ⟨k, hk, rfl⟩ := kx_nat hkx
      have hno : mem k = none := by
        have := bB_f c6
        rw [hkx, Bool.true_and, decide_eq_false_iff_not, cl_ofI (a := k)] at this
        exact (eX_zero hmem hk).mp (Classical.byContradiction this)
      refine pz_cV2 (i := 38) rfl (gV_c hv ..) rfl (Nat.le_of_ble_eq_true rfl) rfl ?_
      refine sx_findInTables hr hv hf hk (us := us) ⟨?_, hvT.2.1, hvT.2.2⟩ htE ?_ ?_ ?_ (fun iv1 k1 k2 k3 k4 => ⟨rfl, ?_⟩)
      · rw [ui_n (by omega), ui_n (by omega), ui_n (by omega), ui_n (by omega), ui_n (by omega), ui_n (by omega)]
        exact hvT.1
      · rw [ui_n (by omega), ui_n (by omega), ui_n (by omega), ui_n (by omega), ui_n (by omega), ui_s]
      · rw [ui_n (by omega), ui_s]
      · rw [ui_s]
      refine pz_vr (i := 39) rfl rfl ?_
      refine hQ iv1 ?_ ?_
      · unfold fAll
        rw [if_pos hkx, cl_ofI (a := k)]
        unfold ent
        rw [hno]
        refine ⟨k1, ?_, k2, k3⟩
        rw [k4 _ (by simp only [List.mem_cons, List.not_mem_nil, or_false, not_or]; omega)]
        rw [ui_n (by omega), ui_n (by omega), ui_s]
        rfl
      · intro z hz
        simp only [List.mem_cons, List.not_mem_nil, or_false, not_or] at hz
        rw [k4 z (by simp only [List.mem_cons, List.not_mem_nil, or_false, not_or]; exact ⟨hz.1, hz.2.1, hz.2.2.1, hz.2.2.2.2.1, hz.2.2.2.2.2⟩)]
        rw [ui_n hz.2.2.2.2.2, ui_n hz.2.2.2.2.1, ui_n hz.2.2.2.1, ui_n hz.2.2.1, ui_n hz.2.1, ui_n hz.1]
  · refine pz_aln (i := 7) rfl rfl ?_
    refine pz_aln (i := 8) rfl rfl ?_
    refine pz_get (i := 9) rfl (gV_1 hv ..) ?_
    refine pz_get (i := 10) rfl (gE_0 (by omega) ..) ?_
    refine pz_iln (i := 11) rfl rfl ?_
    have hkx : kx_is key = true := by have := bB_t c6; rw [Bool.and_eq_true] at this; exact this.1
    obtain ⟨k, hk, rfl⟩ := kx_nat hkx
    have hso : ∃ x, mem k = some x := by
      have := bB_t c6
      rw [Bool.and_eq_true, decide_eq_true_eq, cl_ofI (a := k)] at this
      cases hm : mem k with
      | none => exact absurd (eX_none hmem hk hm) this.2
      | some x => exact ⟨x, rfl⟩
    obtain ⟨x, hx⟩ := hso
    obtain ⟨w1, w2, w3⟩ := eX_some hmem hk hx
    refine pz_ial (i := 12) rfl (gEa_0 (by omega) ..) (in_ofI hk) ?_
    rw [cl_ofI (a := k), w1]
    refine pz_put (i := 13) rfl (pF_0 hf ..) ⟨rfl, rfl⟩ ?_
    refine pz_aln (i := 14) rfl rfl ?_
    refine pz_aln (i := 15) rfl rfl ?_
    refine pz_get (i := 16) rfl (gV_1 hv ..) ?_
    refine pz_get (i := 17) rfl (gE_1 (by omega) ..) ?_
    refine pz_iln (i := 18) rfl rfl ?_
    refine pz_ial (i := 19) rfl (gEa_1 (by omega) ..) (in_ofI hk) ?_
    rw [cl_ofI (a := k), w2]
    refine pz_put (i := 20) rfl (pF_1 hf ..) ⟨rfl, rfl⟩ ?_
    refine pz_aln (i := 21) rfl rfl ?_
    refine pz_aln (i := 22) rfl rfl ?_
    refine pz_get (i := 23) rfl (gV_1 hv ..) ?_
    refine pz_get (i := 24) rfl (gE_2 (by omega) ..) ?_
    refine pz_iln (i := 25) rfl rfl ?_
    refine pz_ial (i := 26) rfl (gEa_2 (by omega) ..) (in_ofI hk) ?_
    rw [cl_ofI (a := k), w3]
    refine pz_put (i := 27) rfl (pF_2 hf ..) ⟨rfl, rfl⟩ ?_
    refine pz_aln (i := 28) rfl rfl ?_
    refine pz_ic (i := 29) rfl ?_
    refine pz_put (i := 30) rfl (pF_3 hf ..) (bB_n true) ?_
    refine pz_go (i := 31) rfl ?_
    refine pz_vr (i := 39) rfl rfl ?_
    refine hQ _ ?_ ?_
    · first
        | (unfold fAll
           rw [if_pos hkx, cl_ofI (a := k)]
           unfold ent
           rw [hx]
           refine ⟨⟨?_, ?_, ?_⟩, ?_, ?_, ?_⟩
           · rw [ui_n (by omega), ui_n (by omega), ui_n (by omega), ui_s]
           · rw [ui_n (by omega), ui_n (by omega), ui_s]
           · rw [ui_n (by omega), ui_s]
           · rw [ui_s]; rfl
           · rw [ui_n (by omega), ui_n (by omega), ui_n (by omega), ui_n (by omega), ui_n (by omega), ui_s]; rfl
           · rw [ui_n (by omega), ui_n (by omega), ui_n (by omega), ui_n (by omega), ui_s]; rfl)
        | (unfold fAll
           rw [if_neg (by rw [bB_f c34]; decide)]
           refine ⟨?_, ?_, ?_, ?_⟩
           · rw [ui_n (by omega), ui_n (by omega), ui_n (by omega), ui_n (by omega), ui_n (by omega), ui_s]
           · rw [ui_n (by omega), ui_n (by omega), ui_s]
           · rw [ui_n (by omega), ui_s]
           · rw [ui_s])
    · intro z hz
      simp only [List.mem_cons, List.not_mem_nil, or_false, not_or] at hz
      first | rw [ui_n hz.2.2.2.1, ui_n hz.2.2.1, ui_n hz.2.1, ui_n hz.1, ui_n hz.2.2.2.2.2, ui_n hz.2.2.2.2.1, ui_n hz.2.2.2.1, ui_n hz.2.2.1, ui_n hz.2.1, ui_n hz.1] | rw [ui_n hz.2.2.2.2.2, ui_n hz.2.2.2.2.1, ui_n hz.2.2.2.1, ui_n hz.2.2.1, ui_n hz.2.1, ui_n hz.1]
end S55
