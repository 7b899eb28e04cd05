/-! PART 64: bits of places, bytes of tables -/
theorem sr_m (x s : Int32) (k : Nat) (hs : (s.toBitVec.smod 32).toNat = k) (hk : k ≤ 24) : (x >>> s).toBitVec.toNat % 256 = uN x / 2 ^ k % 256 := by
  have h := sr_b x s k hs hk
  rw [i8_of] at h
  have e1 := bN_bS (c := fun _ => bS ((x >>> s).toBitVec.toNat % 256)) (j := 0) (n := (x >>> s).toBitVec.toNat % 256) rfl (Nat.mod_lt _ (by decide))
  have e2 := bN_bS (c := fun _ => bS ((x >>> s).toBitVec.toNat % 256)) (j := 0) (n := uN x / 2 ^ k % 256) h (Nat.mod_lt _ (by decide))
  omega
theorem bJ_N {x : Int32} {j : Nat} (hj : j ≤ 12) : bJ x j = nI (uN x / 2 ^ j % 2) := by
  unfold bJ
  have hs : ((nI j &&& 31).toBitVec.smod 32).toNat = j := by
    have : j = 0 ∨ j = 1 ∨ j = 2 ∨ j = 3 ∨ j = 4 ∨ j = 5 ∨ j = 6 ∨ j = 7 ∨ j = 8 ∨ j = 9 ∨ j = 10 ∨ j = 11 ∨ j = 12 := by omega
    rcases this with rfl | rfl | rfl | rfl | rfl | rfl | rfl | rfl | rfl | rfl | rfl | rfl | rfl <;> decide
  have h := sr_m x (nI j &&& 31) j hs (by omega)
  rw [pk_and (x >>> (nI j &&& 31)) 1 rfl]
  congr 1
  omega
/-- the places whose bits are set -/
def tkX (x : Int32) (tk : List Nat) : Prop := ∀ j, j < 12 → ((uN x).testBit j = true ↔ j ∈ tk)
theorem bJ_0 {x : Int32} {tk : List Nat} (h : tkX x tk) {j : Nat} (hj : j < 12) : bJ x j = 0 ↔ j ∉ tk := by
  rw [bJ_N (by omega), ← h j hj, Nat.testBit_eq_decide_div_mod_eq]
  have h2 : uN x / 2 ^ j % 2 < 2 := Nat.mod_lt _ (by decide)
  constructor
  · intro z
    have := eq_ofI (b := 0) z
    rw [this]
    decide
  · intro z
    have : uN x / 2 ^ j % 2 = 0 := by
      rw [decide_eq_true_iff] at z
      omega
    rw [this]
    rfl
theorem uN_or (x y : Int32) : uN (x ||| y) = uN x ||| uN y := BitVec.toNat_or ..
theorem uN_sh {p : Nat} (hp : p < 12) : uN ((1 : Int32) <<< (nI p &&& 31)) = 2 ^ p := by
  have : p = 0 ∨ p = 1 ∨ p = 2 ∨ p = 3 ∨ p = 4 ∨ p = 5 ∨ p = 6 ∨ p = 7 ∨ p = 8 ∨ p = 9 ∨ p = 10 ∨ p = 11 := by omega
  rcases this with rfl | rfl | rfl | rfl | rfl | rfl | rfl | rfl | rfl | rfl | rfl | rfl <;> decide
theorem uN_sh2 {p : Nat} (hp : p < 12) : uN ((1 : Int32) <<< (nI p)) = 2 ^ p := by
  have : p = 0 ∨ p = 1 ∨ p = 2 ∨ p = 3 ∨ p = 4 ∨ p = 5 ∨ p = 6 ∨ p = 7 ∨ p = 8 ∨ p = 9 ∨ p = 10 ∨ p = 11 := by omega
  rcases this with rfl | rfl | rfl | rfl | rfl | rfl | rfl | rfl | rfl | rfl | rfl | rfl <;> decide
theorem tkX_add {x : Int32} {tk : List Nat} (h : tkX x tk) {p : Nat} (hp : p < 12) : tkX (x ||| (1 : Int32) <<< (nI p &&& 31)) (p :: tk) := fun j hj => by
  rw [uN_or, uN_sh hp, Nat.testBit_or, Nat.testBit_two_pow, Bool.or_eq_true, h j hj, List.mem_cons, decide_eq_true_iff]
  constructor
  · rintro (h | h)
    · exact Or.inr h
    · exact Or.inl h.symm
  · rintro (h | h)
    · exact Or.inr h.symm
    · exact Or.inl h
theorem tkX_pl {f : Nat → Int32} {us : List tB} (hf : ∀ i t, us[i]? = some t → f i = nI t.1) (h12 : ∀ t ∈ us, t.1 < 12) : ∀ k, k ≤ us.length → tkX (plB f k) ((us.take k).map (fun t => t.1))
  | 0, _ => fun j hj => by simp [plB, uN]
  | k + 1, hk => by
    have ih := tkX_pl hf h12 k (by omega)
    obtain ⟨t, ht⟩ : ∃ t, us[k]? = some t := ⟨_, List.getElem?_eq_getElem (by omega)⟩
    have hp := h12 t (List.mem_of_getElem? ht)
    have h2 := tkX_add ih hp
    intro j hj
    show (uN (plB f k ||| (1 : Int32) <<< (f k &&& 31))).testBit j = true ↔ _
    rw [hf k t ht, h2 j hj, List.take_add_one, ht]
    simp only [List.mem_cons, List.map_append, List.mem_append, Option.toList_some, List.map_cons, List.map_nil, List.not_mem_nil, or_false]
    exact Or.comm
/-- the least free place -/
def lf (tk : List Nat) : Nat := ((List.range 11).find? (fun p => decide (p ∉ tk))).getD 11
theorem lf_lt (tk : List Nat) : lf tk < 12 := by
  unfold lf
  cases h : (List.range 11).find? (fun p => decide (p ∉ tk)) with
  | none => decide
  | some p =>
    have := List.mem_range.mp (List.mem_of_find?_eq_some h)
    show p < 12
    omega
theorem lf_eq {tk : List Nat} {p : Nat} (hp : p ≤ 11) (h1 : ∀ j, j < p → j ∈ tk) (h2 : p < 11 → p ∉ tk) : lf tk = p := by
  unfold lf
  cases h : (List.range 11).find? (fun p => decide (p ∉ tk)) with
  | none =>
    rw [List.find?_eq_none] at h
    show 11 = p
    rcases Nat.lt_or_ge p 11 with g | g
    · have := h p (List.mem_range.mpr g)
      rw [decide_eq_true_iff] at this
      exact absurd (h2 g) this
    · omega
  | some q =>
    have hq := List.mem_range.mp (List.mem_of_find?_eq_some h)
    have hs := List.find?_some h
    rw [decide_eq_true_iff] at hs
    show q = p
    rcases Nat.lt_trichotomy q p with g | g | g
    · exact absurd (h1 q g) hs
    · exact g
    · have := (List.find?_eq_some_iff_append.mp h).2
      obtain ⟨as, bs, e, hall⟩ := this
      have hpm : p ∈ as := by
        have hpr : p ∈ List.range 11 := List.mem_range.mpr (by omega)
        have hsr : (List.range 11).Pairwise (· < ·) := List.pairwise_lt_range
        rw [e] at hpr hsr
        rcases List.mem_append.mp hpr with h3 | h3
        · exact h3
        · rcases List.mem_cons.mp h3 with h4 | h4
          · omega
          · have := (List.pairwise_cons.mp (List.pairwise_append.mp hsr).2.1).1 p h4
            omega
      have := hall p hpm
      simp only [Bool.not_eq_true', decide_eq_false_iff_not] at this
      exact absurd (h2 (by omega)) this
theorem lf_out {tk : List Nat} (h : ∃ p, p < 11 ∧ p ∉ tk) : lf tk ∉ tk := by
  unfold lf
  cases g : (List.range 11).find? (fun p => decide (p ∉ tk)) with
  | none =>
    rw [List.find?_eq_none] at g
    obtain ⟨p, h1, h2⟩ := h
    exact absurd (decide_eq_true h2) (g p (List.mem_range.mpr h1))
  | some q =>
    have hs := List.find?_some g
    rw [decide_eq_true_iff] at hs
    exact hs
theorem lf_in {tk : List Nat} {j : Nat} (h : j < lf tk) : j ∈ tk := by
  have h12 := lf_lt tk
  refine Classical.byContradiction fun hn => ?_
  unfold lf at h
  cases g : (List.range 11).find? (fun p => decide (p ∉ tk)) with
  | none =>
    rw [List.find?_eq_none] at g
    rw [g |> fun _ => (List.find?_eq_none.mpr g)] at h
    exact absurd (decide_eq_true hn) (g j (List.mem_range.mpr h))
  | some q =>
    rw [g] at h
    have h' : j < q := h
    obtain ⟨as, bs, e, hall⟩ := (List.find?_eq_some_iff_append.mp g).2
    have hq := List.mem_range.mp (List.mem_of_find?_eq_some g)
    have hpr : j ∈ List.range 11 := List.mem_range.mpr (by omega)
    have hsr : (List.range 11).Pairwise (· < ·) := List.pairwise_lt_range
    rw [e] at hpr hsr
    rcases List.mem_append.mp hpr with h3 | h3
    · have := hall j h3
      simp only [Bool.not_eq_true', decide_eq_false_iff_not] at this
      exact absurd hn this
    · rcases List.mem_cons.mp h3 with h4 | h4
      · omega
      · have := (List.pairwise_cons.mp (List.pairwise_append.mp hsr).2.1).1 j h4
        omega
/-- the ten bytes of an entry -/
def enB (m : mP) (k : Nat) : List Nat := k :: ((m k).getD (0, 0, 0)).1 :: (n4 ((m k).getD (0, 0, 0)).2.2 ++ n4 ((m k).getD (0, 0, 0)).2.1)
theorem enB_len (m : mP) (k : Nat) : (enB m k).length = 10 := rfl
/-- the bytes of a table -/
def tabB (lv : Nat) (m : mP) (nxt : Nat) : List Nat := (84 :: lv :: (kS m).length :: 0 :: (n4 nxt ++ (n4 (uN (fI m)) ++ n4 nxt))) ++ (kS m).flatMap (enB m)
theorem fm_len {f : Nat → List Nat} {n : Nat} (hf : ∀ k, (f k).length = n) : ∀ l : List Nat, (l.flatMap f).length = n * l.length
  | [] => by simp
  | k :: l => by
    rw [List.flatMap_cons, List.length_append, hf, fm_len hf l, List.length_cons, Nat.mul_add]
    omega
theorem fm_get {f : Nat → List Nat} (hf : ∀ k, (f k).length = 10) : ∀ (l : List Nat) (i j : Nat), i < l.length → j < 10 → (l.flatMap f).getD (10 * i + j) 0 = (f (l.getD i 0)).getD j 0
  | [], i, j, h, _ => absurd h (by simp)
  | k :: l, 0, j, _, hj => by
    rw [List.flatMap_cons, gd_l (by rw [hf]; omega)]
    simp
  | k :: l, i + 1, j, h, hj => by
    rw [List.flatMap_cons, gd_r (by rw [hf]; omega), hf, show 10 * (i + 1) + j - 10 = 10 * i + j by omega, fm_get hf l i j (by simpa using h) hj]
    simp
theorem tabB_len (lv : Nat) (m : mP) (nxt : Nat) : (tabB lv m nxt).length = 16 + 10 * (kS m).length := by
  unfold tabB
  rw [List.length_append, fm_len (enB_len m)]
  rfl
theorem tabB_hd {lv : Nat} {m : mP} {nxt j : Nat} (hj : j < 16) : (tabB lv m nxt).getD j 0 = (84 :: lv :: (kS m).length :: 0 :: (n4 nxt ++ (n4 (uN (fI m)) ++ n4 nxt))).getD j 0 := by
  unfold tabB
  exact gd_l hj
theorem tabB_en {lv : Nat} {m : mP} {nxt i j : Nat} (hi : i < (kS m).length) (hj : j < 10) : (tabB lv m nxt).getD (16 + 10 * i + j) 0 = (enB m (ksA m i)).getD j 0 := by
  unfold tabB
  rw [gd_r (by show 16 ≤ _; omega), show 16 + 10 * i + j - (84 :: lv :: (kS m).length :: 0 :: (n4 nxt ++ (n4 (uN (fI m)) ++ n4 nxt))).length = 10 * i + j by show 16 + 10 * i + j - 16 = _; omega]
  exact fm_get (enB_len m) (kS m) i j hi hj
/-- the keys below n that have an entry in a row of kinds -/
def kK (kd : Nat → Int32) (n : Nat) : List Nat := (List.range n).filter (fun k => decide (¬ kd k = 0))
theorem kK_s {kd : Nat → Int32} {n : Nat} (h : ¬ kd n = 0) : kK kd (n + 1) = kK kd n ++ [n] := by
  unfold kK
  rw [List.range_succ, List.filter_append]
  congr 1
  rw [List.filter_cons_of_pos (by exact decide_eq_true h)]
  rfl
theorem kK_n {kd : Nat → Int32} {n : Nat} (h : kd n = 0) : kK kd (n + 1) = kK kd n := by
  unfold kK
  rw [List.range_succ, List.filter_append, List.filter_cons_of_neg (by rw [decide_eq_true_iff]; exact fun z => z h)]
  simp
theorem kK_len (kd : Nat → Int32) (n : Nat) : (kK kd n).length ≤ n := by
  have := List.length_filter_le (fun k => decide (¬ kd k = 0)) (List.range n)
  simpa [kK] using this
theorem kK_kS {e : Nat} {iv : Nat → Int32} {av : Nat → Nat → Int32} {m : mP} (h : eX e iv av m) : kK (av (10 + 3 * e + 0)) 120 = kS m := by
  unfold kK kS
  apply List.filter_congr
  intro k hk
  have hz := eX_zero h (List.mem_range.mp hk)
  cases hm : m k with
  | none =>
    have := hz.mpr hm
    simpa using this
  | some x =>
    have : ¬ av (10 + 3 * e + 0) k = 0 := fun z => by rw [hz.mp z] at hm; cases hm
    simpa using this
/-- the entries of a page -/
def pgE (g kd nu wh : Nat → Int32) (n : Nat) : Prop := ∀ i, i < (kK kd n).length → g (16 + 10 * i) = bS ((kK kd n).getD i 0) ∧ g (16 + 10 * i + 1) = (kd ((kK kd n).getD i 0)).toInt8.toInt32 ∧ ∀ j, j < 4 → g (16 + 10 * i + 2 + j) = lB (n4 (uN (wh ((kK kd n).getD i 0)))) j ∧ g (16 + 10 * i + 6 + j) = lB (n4 (uN (nu ((kK kd n).getD i 0)))) j
def flX (kd : Nat → Int32) (n : Nat) : Int32 := (kK kd n).foldl (fun f k => f ||| fB (nI k)) 0
/-- the page of a table -/
def pgT (g : Nat → Int32) (lv cnt nxt : Int32) (kd nu wh : Nat → Int32) : Prop := g 0 = bS 84 ∧ g 1 = lv.toInt8.toInt32 ∧ g 2 = cnt.toInt8.toInt32 ∧ g 3 = 0 ∧ (∀ j, j < 4 → g (4 + j) = lB (n4 (uN nxt)) j ∧ g (8 + j) = lB (n4 (uN (flX kd 120))) j ∧ g (12 + j) = lB (n4 (uN nxt)) j) ∧ pgE g kd nu wh 120
theorem tabB_get {g : Nat → Int32} {lv nxt e : Nat} {iv : Nat → Int32} {av : Nat → Nat → Int32} {m : mP} (hm : eX e iv av m) (hnx : nxt < 2 ^ 31) (h : pgT g (nI lv) (iv (30 + e)) (nI nxt) (av (10 + 3 * e + 0)) (av (10 + 3 * e + 1)) (av (10 + 3 * e + 2))) : ∀ k, k < 16 + 10 * (kS m).length → g k = lB (tabB lv m nxt) k := by
  intro k hk
  obtain ⟨h0, h1, h2, h3, h4, h5⟩ := h
  unfold lB
  have hfl : flX (av (10 + 3 * e + 0)) 120 = fI m := by
    unfold flX
    rw [kK_kS hm]
    rfl
  have hu : uN (nI nxt) = nxt := uN_nI (by omega)
  rw [hm.2.1] at h2
  rcases Nat.lt_or_ge k 16 with hk16 | hk16
  · rw [tabB_hd hk16]
    rcases Nat.lt_or_ge k 4 with hk4 | hk4
    · have : k = 0 ∨ k = 1 ∨ k = 2 ∨ k = 3 := by omega
      rcases this with rfl | rfl | rfl | rfl
      · exact h0
      · exact h1
      · exact h2
      · exact h3
    · have hc : ∃ a j, j < 4 ∧ a < 3 ∧ k = 4 + 4 * a + j := ⟨(k - 4) / 4, (k - 4) % 4, by omega, by omega, by omega⟩
      obtain ⟨a, j, hj, ha, rfl⟩ := hc
      obtain ⟨q0, q1, q2⟩ := h4 j hj
      rw [hu] at q0 q2
      rw [hfl] at q1
      have hjc : j = 0 ∨ j = 1 ∨ j = 2 ∨ j = 3 := by omega
      have hac : a = 0 ∨ a = 1 ∨ a = 2 := by omega
      rcases hac with rfl | rfl | rfl
      · rw [show 4 + 4 * 0 + j = 4 + j by omega, q0]
        rcases hjc with rfl | rfl | rfl | rfl <;> rfl
      · rw [show 4 + 4 * 1 + j = 8 + j by omega, q1]
        rcases hjc with rfl | rfl | rfl | rfl <;> rfl
      · rw [show 4 + 4 * 2 + j = 12 + j by omega, q2]
        rcases hjc with rfl | rfl | rfl | rfl <;> rfl
  · have hc : ∃ i j, j < 10 ∧ i < (kS m).length ∧ k = 16 + 10 * i + j := ⟨(k - 16) / 10, (k - 16) % 10, by omega, by omega, by omega⟩
    obtain ⟨i, j, hj, hi, rfl⟩ := hc
    rw [tabB_en hi hj]
    unfold pgE at h5
    rw [kK_kS hm] at h5
    obtain ⟨g0, g1, g2⟩ := h5 i hi
    have hks : (kS m).getD i 0 = ksA m i := rfl
    rw [hks] at g0 g1 g2
    obtain ⟨hk1, hk2⟩ := ksA_mem hi
    obtain ⟨x, hx⟩ := Option.isSome_iff_exists.mp hk2
    obtain ⟨w1, w2, w3⟩ := eX_some hm hk1 hx
    have hxo := hm.1.2 _ x hx
    rw [w1] at g1
    rw [w2, w3, uN_nI (by have := hxo.2.2.2; omega), uN_nI (by have := hxo.2.2.1; omega)] at g2
    have hen : enB m (ksA m i) = ksA m i :: x.1 :: (n4 x.2.2 ++ n4 x.2.1) := by
      unfold enB
      rw [hx]
      rfl
    rw [hen]
    have : j = 0 ∨ j = 1 ∨ j = 2 ∨ j = 3 ∨ j = 4 ∨ j = 5 ∨ j = 6 ∨ j = 7 ∨ j = 8 ∨ j = 9 := by omega
    rcases this with rfl | rfl | rfl | rfl | rfl | rfl | rfl | rfl | rfl | rfl
    · exact g0
    · exact g1
    · exact (g2 0 (by decide)).1
    · exact (g2 1 (by decide)).1
    · exact (g2 2 (by decide)).1
    · exact (g2 3 (by decide)).1
    · exact (g2 0 (by decide)).2
    · exact (g2 1 (by decide)).2
    · exact (g2 2 (by decide)).2
    · exact (g2 3 (by decide)).2
