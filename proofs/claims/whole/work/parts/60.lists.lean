/-! PART 60: byte lists, writes of them, views, frames -/
theorem frI_rfl (iv : Nat → Int32) (S : List Nat) : frI iv iv S := fun _ _ => rfl
theorem frI_up {iv iv' : Nat → Int32} {S : List Nat} {k : Nat} {x : Int32} (h : frI iv iv' S) (hk : k ∈ S) : frI iv (upd iv' k x) S := fun j hj => by
  have e : j ≠ k := fun z => hj (z ▸ hk)
  rw [ui_n e]
  exact h j hj
theorem frI_tr {iv iv1 iv2 : Nat → Int32} {S S1 S2 : List Nat} (h1 : frI iv iv1 S1) (h2 : frI iv1 iv2 S2) (g1 : ∀ x ∈ S1, x ∈ S) (g2 : ∀ x ∈ S2, x ∈ S) : frI iv iv2 S := fun j hj => (h2 j (fun z => hj (g2 j z))).trans (h1 j (fun z => hj (g1 j z)))
theorem frA_rfl (av : Nat → Nat → Int32) (S : List Nat) : frA av av S := fun _ _ => rfl
theorem frA_up {av av' : Nat → Nat → Int32} {S : List Nat} {k : Nat} {x : Nat → Int32} (h : frA av av' S) (hk : k ∈ S) : frA av (up_a av' k x) S := fun j hj => by
  have e : j ≠ k := fun z => hj (z ▸ hk)
  rw [ua_n e]
  exact h j hj
theorem frA_tr {av av1 av2 : Nat → Nat → Int32} {S S1 S2 : List Nat} (h1 : frA av av1 S1) (h2 : frA av1 av2 S2) (g1 : ∀ x ∈ S1, x ∈ S) (g2 : ∀ x ∈ S2, x ∈ S) : frA av av2 S := fun j hj => (h2 j (fun z => hj (g2 j z))).trans (h1 j (fun z => hj (g1 j z)))
/-- a byte depends on the lowest eight bits alone -/
theorem i8_of (y : Int32) : y.toInt8.toInt32 = bS (y.toBitVec.toNat % 256) := by
  unfold bS
  congr 1
  apply Int8.toBitVec_inj.mp
  show y.toBitVec.signExtend 8 = (nI (y.toBitVec.toNat % 256)).toBitVec.signExtend 8
  rw [BitVec.signExtend_eq_setWidth_of_le _ (by decide), BitVec.signExtend_eq_setWidth_of_le _ (by decide)]
  apply BitVec.eq_of_toNat_eq
  rw [BitVec.toNat_setWidth, BitVec.toNat_setWidth, pk_tn (by omega)]
  omega
theorem bS_mod (n : Nat) : bS n = bS (n % 256) := by
  have h := i8_of (nI n)
  have e : (nI n).toBitVec.toNat = n % 2 ^ 32 := rfl
  rw [e] at h
  have e2 : n % 2 ^ 32 % 256 = n % 256 := by omega
  rw [e2] at h
  exact h
/-- an Int32 as the number that its bits make -/
def uN (x : Int32) : Nat := x.toBitVec.toNat
theorem uN_lt (x : Int32) : uN x < 4294967296 := x.toBitVec.isLt
theorem uN_nI {n : Nat} (h : n < 2 ^ 32) : uN (nI n) = n := pk_tn h
theorem nI_uN (x : Int32) : nI (uN x) = x := by
  apply Int32.toBitVec_inj.mp
  apply BitVec.eq_of_toNat_eq
  rw [pk_tn (uN_lt x)]
  rfl
theorem n3_b (x : Int32) : n3 x = bS (uN x / 16777216 % 256) := by
  unfold n3
  rw [i8_of, pk_ushr x 24 24 (by decide)]
  rfl
theorem n2_b (x : Int32) : n2 x = bS (uN x / 65536 % 256) := by
  unfold n2
  rw [i8_of, pk_ushr x 16 16 (by decide)]
  rfl
theorem n1_b (x : Int32) : n1 x = bS (uN x / 256 % 256) := by
  unfold n1
  rw [i8_of, pk_ushr x 8 8 (by decide)]
  rfl
theorem n0_b (x : Int32) : n0 x = bS (uN x % 256) := by
  unfold n0
  rw [i8_of]
  rfl
/-- a byte of a number shifted with its sign -/
theorem sr_b (x s : Int32) (k : Nat) (hs : (s.toBitVec.smod 32).toNat = k) (hk : k ≤ 24) : (x >>> s).toInt8.toInt32 = bS (uN x / 2 ^ k % 256) := by
  rw [i8_of]
  congr 1
  have h := pk_shr x s k hs
  have h2 : ((x >>> s).toBitVec.toNat : Int) % 256 = (x >>> s).toInt % 256 := by
    have : (x >>> s).toInt = (x >>> s).toBitVec.toInt := rfl
    rw [this, BitVec.toInt_eq_toNat_cond]
    split
    · rfl
    · have e : ((2 ^ 32 : Nat) : Int) = 4294967296 := by decide
      rw [e]
      omega
  have h3 : ((uN x / 2 ^ k : Nat) : Int) % 256 = (x >>> s).toInt % 256 := by
    rw [h]
    have hx : x.toInt = x.toBitVec.toInt := rfl
    rw [hx, BitVec.toInt_eq_toNat_cond, Int.shiftRight_eq_div_pow]
    split
    · rfl
    · have e : ((2 ^ 32 : Nat) : Int) = 2 ^ 32 := by decide
      rw [e]
      have e2 : (2 : Int) ^ 32 = 256 * 2 ^ (24 - k) * 2 ^ k := by
        rw [show (256 : Int) = 2 ^ 8 by decide, ← Int.pow_add, ← Int.pow_add]
        congr 1
        omega
      have e3 : ((2 ^ k : Nat) : Int) = 2 ^ k := by simp
      have e4 : (x.toBitVec.toNat : Int) - 2 ^ 32 = (x.toBitVec.toNat : Int) + (-(256 * 2 ^ (24 - k))) * 2 ^ k := by rw [e2, Int.neg_mul]; rfl
      rw [e4, e3, Int.add_mul_ediv_right _ _ (by have : (0 : Int) < 2 ^ k := Int.pow_pos (by decide); omega)]
      rw [show -(256 * (2 : Int) ^ (24 - k)) = 256 * (-(2 ^ (24 - k))) by rw [Int.mul_neg], Int.add_mul_emod_self_left]
      show ((x.toBitVec.toNat / 2 ^ k : Nat) : Int) % 256 = _
      rw [Int.natCast_ediv, e3]
  omega
/-- a list's bytes as a row holds them -/
def lB (l : List Nat) : Nat → Int32 := fun j => bS (l.getD j 0)
theorem lB_bt (l : List Nat) : bt (lB l) := fun _ => bS_bt _
def wL (c : Nat) (l : List Nat) : wR := (c, l.length, lB l)
/-- all bytes -/
def by8 (l : List Nat) : Prop := ∀ x ∈ l, x < 256
theorem by8_get {l : List Nat} (h : by8 l) (i : Nat) : l.getD i 0 < 256 := by
  rw [List.getD_eq_getElem?_getD]
  cases hx : l[i]? with
  | none => decide
  | some x => exact h x (List.mem_of_getElem? hx)
theorem by8_app {l m : List Nat} (h : by8 l) (g : by8 m) : by8 (l ++ m) := fun x hx => (List.mem_append.mp hx).elim (h x) (g x)
/-- the four bytes of a number -/
def n4 (n : Nat) : List Nat := [n / 16777216 % 256, n / 65536 % 256, n / 256 % 256, n % 256]
theorem n4_by (n : Nat) : by8 (n4 n) := fun x hx => by
  simp only [n4, List.mem_cons, List.not_mem_nil, or_false] at hx
  omega
theorem q4_n4 {n : Nat} (h : n < 4294967296) : q4 (n / 16777216 % 256) (n / 65536 % 256) (n / 256 % 256) (n % 256) = n := by
  unfold q4
  omega
theorem gd_l {l m : List Nat} {i : Nat} (h : i < l.length) : (l ++ m).getD i 0 = l.getD i 0 := by
  rw [List.getD_eq_getElem?_getD, List.getD_eq_getElem?_getD, List.getElem?_append_left h]
theorem gd_r {l m : List Nat} {i : Nat} (h : l.length ≤ i) : (l ++ m).getD i 0 = m.getD (i - l.length) 0 := by
  rw [List.getD_eq_getElem?_getD, List.getD_eq_getElem?_getD, List.getElem?_append_right h]
/-- the bytes l lie from cell q on -/
def atC (c : Nat → Int32) (q : Nat) (l : List Nat) : Prop := ∀ i, i < l.length → bN c (q + i) = l.getD i 0
/-- the bytes l lie from place q of the log on -/
def atL (rm : Nat) (c : Nat → Int32) (q : Nat) (l : List Nat) : Prop := ∀ i, i < l.length → bN c ((q + i) % rm) = l.getD i 0
theorem atL_app {rm : Nat} {c : Nat → Int32} {q : Nat} {l m : List Nat} : atL rm c q (l ++ m) ↔ atL rm c q l ∧ atL rm c (q + l.length) m := by
  refine ⟨fun h => ⟨fun i hi => ?_, fun i hi => ?_⟩, fun h i hi => ?_⟩
  · rw [h i (by rw [List.length_append]; omega), gd_l hi]
  · rw [Nat.add_assoc, h (l.length + i) (by rw [List.length_append]; omega), gd_r (by omega)]
    congr 1
    omega
  · rw [List.length_append] at hi
    rcases Nat.lt_or_ge i l.length with h1 | h1
    · rw [gd_l h1]
      exact h.1 i h1
    · rw [gd_r h1, ← h.2 (i - l.length) (by omega)]
      congr 2
      omega
theorem atC_app {c : Nat → Int32} {q : Nat} {l m : List Nat} : atC c q (l ++ m) ↔ atC c q l ∧ atC c (q + l.length) m := by
  refine ⟨fun h => ⟨fun i hi => ?_, fun i hi => ?_⟩, fun h i hi => ?_⟩
  · rw [h i (by rw [List.length_append]; omega), gd_l hi]
  · rw [Nat.add_assoc, h (l.length + i) (by rw [List.length_append]; omega), gd_r (by omega)]
    congr 1
    omega
  · rw [List.length_append] at hi
    rcases Nat.lt_or_ge i l.length with h1 | h1
    · rw [gd_l h1]
      exact h.1 i h1
    · rw [gd_r h1, ← h.2 (i - l.length) (by omega)]
      congr 1
      omega
/-- what a write (cut after m bytes) leaves -/
theorem ap_in {rm c m : Nat} {l : List Nat} {f : Nat → Int32} (hl : by8 l) {i : Nat} (hi : i < m) (hc : c < rm → m ≤ rm) : bN (ap rm f (c, m, lB l)) (nx rm c i) = l.getD i 0 := by
  apply bN_bS _ (by8_get hl i)
  exact ap_on m i hi hc
theorem ap_else {rm c m : Nat} {g f : Nat → Int32} {j : Nat} (h : ∀ i, i < m → nx rm c i ≠ j) : bN (ap rm f (c, m, g)) j = bN f j := by
  unfold bN
  rw [show ap rm f (c, m, g) j = f j from ap_off m h]
/-- a view: tables in use, memory, and its numbers: 1 version, 2 checkpoint, 3 its number, 4 tail, 5 head, 6 next number, 7 next table -/
abbrev vW : Type := List tB × mP × (Nat → Nat)
def vs (n : Nat → Nat) (i x : Nat) : Nat → Nat := fun j => if j = i then x else n j
theorem vs_s (n : Nat → Nat) (i x : Nat) : vs n i x i = x := if_pos rfl
theorem vs_n {n : Nat → Nat} {i x j : Nat} (h : j ≠ i) : vs n i x j = n j := if_neg h
def vX (v : Nat) (iv : Nat → Int32) (av : Nat → Nat → Int32) (V : vW) : Prop := vT v iv av V.1 ∧ eX (2 * v) iv av V.2.1 ∧ ∀ i, 1 ≤ i → i ≤ 7 → iv (10 + 10 * v + i) = nI (V.2.2 i)
/-- the rows of the keeper that are written once -/
def kz (av : Nat → Nat → Int32) : Prop := (∀ j, j < 12 → av 25 j = 0) ∧ av 26 3 = 0
