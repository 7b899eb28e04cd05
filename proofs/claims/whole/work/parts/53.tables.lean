/-! PART 53: tables in pure words, and how a disk holds them -/
/-- an entry: kind, number, where -/
abbrev eN : Type := Nat × Nat × Nat
abbrev mP : Type := Nat → Option eN
/-- its keys, rising -/
def kS (m : mP) : List Nat := (List.range 120).filter (fun k => (m k).isSome)
theorem kS_mem {m : mP} {k : Nat} : k ∈ kS m ↔ k < 120 ∧ (m k).isSome = true := by simp [kS]
theorem kS_len (m : mP) : (kS m).length ≤ 120 := by
  have := List.length_filter_le (fun k => (m k).isSome) (List.range 120)
  simpa [kS] using this
theorem kS_sorted (m : mP) : (kS m).Pairwise (· < ·) := List.pairwise_lt_range.filter _
def ksA (m : mP) (i : Nat) : Nat := (kS m).getD i 0
theorem ksA_get {m : mP} {i : Nat} (h : i < (kS m).length) : (kS m)[i]? = some (ksA m i) := by
  unfold ksA
  rw [List.getD_eq_getElem?_getD, List.getElem?_eq_getElem h]
  rfl
theorem ksA_mem {m : mP} {i : Nat} (h : i < (kS m).length) : ksA m i < 120 ∧ (m (ksA m i)).isSome = true := kS_mem.mp (List.mem_of_getElem? (ksA_get h))
theorem ksA_mono {m : mP} {i j : Nat} (h : i < j) (hj : j < (kS m).length) : ksA m i < ksA m j := by
  have h1 := ksA_get (m := m) (i := i) (by omega)
  have h2 := ksA_get hj
  obtain ⟨g1, e1⟩ := List.getElem?_eq_some_iff.mp h1
  obtain ⟨g2, e2⟩ := List.getElem?_eq_some_iff.mp h2
  rw [← e1, ← e2]
  exact List.pairwise_iff_getElem.mp (kS_sorted m) i j g1 g2 h
theorem ksA_of {m : mP} {k : Nat} (hk : k < 120) (h : (m k).isSome = true) : ∃ i, i < (kS m).length ∧ ksA m i = k := by
  obtain ⟨i, hi⟩ := List.getElem?_of_mem (kS_mem.mpr ⟨hk, h⟩)
  have hl := (List.getElem?_eq_some_iff.mp hi).1
  have h2 := ksA_get hl
  rw [hi] at h2
  exact ⟨i, hl, (Option.some.inj h2).symm⟩
/-- the filter -/
def fI (m : mP) : Int32 := (kS m).foldl (fun f k => f ||| fB (nI k)) 0
theorem or_keep (a b x : Int32) (h : a &&& x = x) : (a ||| b) &&& x = x := by
  apply Int32.toBitVec_inj.mp
  have h' : a.toBitVec &&& x.toBitVec = x.toBitVec := congrArg Int32.toBitVec h
  show (a.toBitVec ||| b.toBitVec) &&& x.toBitVec = x.toBitVec
  apply BitVec.eq_of_getLsbD_eq
  intro i hi
  have h2 := congrArg (fun z : BitVec 32 => z.getLsbD i) h'
  simp only [BitVec.getLsbD_and, BitVec.getLsbD_or] at h2 ⊢
  cases ha : a.toBitVec.getLsbD i <;> cases hb : b.toBitVec.getLsbD i <;> cases hx : x.toBitVec.getLsbD i <;> simp_all
theorem or_has (a x : Int32) : (a ||| x) &&& x = x := by
  apply Int32.toBitVec_inj.mp
  show (a.toBitVec ||| x.toBitVec) &&& x.toBitVec = x.toBitVec
  apply BitVec.eq_of_getLsbD_eq
  intro i hi
  simp only [BitVec.getLsbD_and, BitVec.getLsbD_or]
  cases a.toBitVec.getLsbD i <;> cases x.toBitVec.getLsbD i <;> rfl
theorem fold_keep {x : Int32} : ∀ (l : List Nat) (f : Int32), f &&& x = x → (l.foldl (fun f k => f ||| fB (nI k)) f) &&& x = x
  | [], _, h => h
  | k :: l, f, h => fold_keep l _ (or_keep f (fB (nI k)) x h)
theorem fold_has : ∀ (l : List Nat) (f : Int32) (k : Nat), k ∈ l → (l.foldl (fun f k => f ||| fB (nI k)) f) &&& fB (nI k) = fB (nI k)
  | [], _, _, h => absurd h List.not_mem_nil
  | j :: l, f, k, h => by
    rcases List.mem_cons.mp h with rfl | h
    · exact fold_keep l _ (or_has f _)
    · exact fold_has l _ k h
theorem fI_has {m : mP} {k : Nat} (hk : k < 120) (h : (m k).isSome = true) : fI m &&& fB (nI k) = fB (nI k) := fold_has _ _ k (kS_mem.mpr ⟨hk, h⟩)
/-- a map of entries as tables and memory hold them -/
def mOK (m : mP) : Prop := (∀ k, 120 ≤ k → m k = none) ∧ ∀ k e, m k = some e → 0 < e.1 ∧ e.1 < 3 ∧ e.2.1 < 2 ^ 30 ∧ e.2.2 < 2 ^ 30
/-- a table: place, level, number, entries -/
abbrev tB : Type := Nat × Nat × Nat × mP
def tE (rm : Nat) (c : Nat → Int32) (t : tB) : Prop :=
  t.1 < 12 ∧ t.2.1 < 3 ∧ t.2.2.1 < 2 ^ 30 ∧ mOK t.2.2.2 ∧ bN c (rm + t.1 * 1300 + 1) = t.2.1 ∧ bN c (rm + t.1 * 1300 + 2) = (kS t.2.2.2).length ∧ qN c (rm + t.1 * 1300 + 4) = t.2.2.1 ∧ nI (qN c (rm + t.1 * 1300 + 8)) = fI t.2.2.2 ∧
  ∀ i e, i < (kS t.2.2.2).length → t.2.2.2 (ksA t.2.2.2 i) = some e → bN c (rm + t.1 * 1300 + 16 + 10 * i) = ksA t.2.2.2 i ∧ bN c (rm + t.1 * 1300 + 16 + 10 * i + 1) = e.1 ∧ qN c (rm + t.1 * 1300 + 16 + 10 * i + 2) = e.2.2 ∧ qN c (rm + t.1 * 1300 + 16 + 10 * i + 6) = e.2.1
theorem tE_key {rm : Nat} {c : Nat → Int32} {t : tB} (h : tE rm c t) {i : Nat} (hi : i < (kS t.2.2.2).length) : bN c (rm + t.1 * 1300 + 16 + 10 * i) = ksA t.2.2.2 i := by
  obtain ⟨e, he⟩ := Option.isSome_iff_exists.mp (ksA_mem hi).2
  exact (h.2.2.2.2.2.2.2.2 i e hi he).1
/-- the entry of a key in the first table that has one -/
def fnd : List tB → Nat → Option eN
  | [], _ => none
  | t :: l, k => match t.2.2.2 k with
    | some e => some e
    | none => fnd l k
/-- tables looked into, tables passed by their filters -/
def lkN : List tB → Nat → Nat × Nat
  | [], _ => (0, 0)
  | t :: l, k => if fI t.2.2.2 &&& fB (nI k) = fB (nI k) then (match t.2.2.2 k with
      | some _ => (1, 0)
      | none => ((lkN l k).1 + 1, (lkN l k).2))
    else ((lkN l k).1, (lkN l k).2 + 1)
theorem lkN_le : ∀ (l : List tB) (k : Nat), (lkN l k).1 ≤ l.length ∧ (lkN l k).2 ≤ l.length
  | [], _ => ⟨Nat.le_refl _, Nat.le_refl _⟩
  | t :: l, k => by
    have h := lkN_le l k
    unfold lkN
    split
    · split
      · simp
      · simp only [List.length_cons]
        omega
    · simp only [List.length_cons]
      omega
/-- the tables in use of a view of the class -/
def vT (v : Nat) (iv : Nat → Int32) (av : Nat → Nat → Int32) (us : List tB) : Prop := iv (10 + 10 * v + 0) = nI us.length ∧ us.length ≤ 6 ∧ ∀ i t, us[i]? = some t → av (4 + v) i = nI t.1
