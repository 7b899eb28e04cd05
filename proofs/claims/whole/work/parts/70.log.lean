/-! PART 70: records and the log in pure words -/
/-- a record: kind, mark (0, or 128: the batch goes on), key, value -/
abbrev lR : Type := Nat × Nat × Nat × List Nat
def rcOK (r : lR) : Prop := 0 < r.1 ∧ r.1 < 3 ∧ (r.2.1 = 0 ∨ r.2.1 = 128) ∧ r.2.2.1 < 120 ∧ r.2.2.2.length ≤ 64 ∧ by8 r.2.2.2 ∧ (r.1 = 2 → r.2.2.2.length = 0)
def rcZ (r : lR) : Nat := 12 + r.2.2.2.length
def rcB (r : lR) (n : Nat) : List Nat := hdB (r.1 + r.2.1) r.2.2.1 r.2.2.2.length n ++ r.2.2.2
theorem rcB_len (r : lR) (n : Nat) : (rcB r n).length = rcZ r := by
  unfold rcB rcZ
  rw [List.length_append]
  rfl
def lgB : Nat → List lR → List Nat
  | _, [] => []
  | n, r :: l => rcB r n ++ lgB (n + 1) l
def lgZ : List lR → Nat
  | [] => 0
  | r :: l => rcZ r + lgZ l
theorem lgB_len : ∀ (n : Nat) (l : List lR), (lgB n l).length = lgZ l
  | _, [] => rfl
  | n, r :: l => by
    show (rcB r n ++ lgB (n + 1) l).length = _
    rw [List.length_append, rcB_len, lgB_len (n + 1) l]
    rfl
theorem lgB_app : ∀ (n : Nat) (l m : List lR), lgB n (l ++ m) = lgB n l ++ lgB (n + l.length) m
  | _, [], _ => rfl
  | n, r :: l, m => by
    show rcB r n ++ lgB (n + 1) (l ++ m) = rcB r n ++ lgB (n + 1) l ++ lgB (n + (l.length + 1)) m
    rw [lgB_app (n + 1) l m, List.append_assoc, Nat.add_assoc n 1, Nat.add_comm 1]
theorem lgZ_app : ∀ (l m : List lR), lgZ (l ++ m) = lgZ l + lgZ m
  | [], m => by show lgZ m = 0 + lgZ m; omega
  | r :: l, m => by
    show rcZ r + lgZ (l ++ m) = rcZ r + lgZ l + lgZ m
    rw [lgZ_app l m]
    omega
theorem lgZ_len : ∀ (l : List lR), 12 * l.length ≤ lgZ l
  | [] => Nat.le_refl _
  | r :: l => by
    have := lgZ_len l
    show 12 * (l.length + 1) ≤ rcZ r + lgZ l
    unfold rcZ
    omega
/-- the record r with number n lies at place p of the log -/
def rcA (rm : Nat) (c : Nat → Int32) (p : Nat) (r : lR) (n : Nat) : Prop := atL rm c p (rcB r n)
theorem rcA_hd {rm : Nat} {c : Nat → Int32} {p : Nat} {r : lR} {n : Nat} (h : rcA rm c p r n) {j : Nat} (hj : j < 12) : bN c ((p + j) % rm) = (hdB (r.1 + r.2.1) r.2.2.1 r.2.2.2.length n).getD j 0 := by
  rw [h j (by rw [rcB_len]; unfold rcZ; omega)]
  unfold rcB
  exact gd_l hj
theorem rcA_val {rm : Nat} {c : Nat → Int32} {p : Nat} {r : lR} {n : Nat} (h : rcA rm c p r n) {j : Nat} (hj : j < r.2.2.2.length) : bN c ((p + 12 + j) % rm) = r.2.2.2.getD j 0 := by
  rw [Nat.add_assoc, h (12 + j) (by rw [rcB_len]; unfold rcZ; omega)]
  unfold rcB
  rw [gd_r (by show 12 ≤ _; omega)]
  congr 1
  show 12 + j - 12 = j
  omega
theorem rcA_kind {rm : Nat} {c : Nat → Int32} {p : Nat} {r : lR} {n : Nat} (h : rcA rm c p r n) : bN c (p % rm) = r.1 + r.2.1 := rcA_hd h (j := 0) (by decide)
theorem rcA_key {rm : Nat} {c : Nat → Int32} {p : Nat} {r : lR} {n : Nat} (h : rcA rm c p r n) : bN c ((p + 1) % rm) = r.2.2.1 := rcA_hd h (j := 1) (by decide)
theorem rcA_len {rm : Nat} {c : Nat → Int32} {p : Nat} {r : lR} {n : Nat} (h : rcA rm c p r n) : bN c ((p + 2) % rm) = r.2.2.2.length := rcA_hd h (j := 2) (by decide)
theorem rcA_0 {rm : Nat} {c : Nat → Int32} {p : Nat} {r : lR} {n : Nat} (h : rcA rm c p r n) : bN c ((p + 3) % rm) = 0 := rcA_hd h (j := 3) (by decide)
theorem rcA_n4 {rm : Nat} {c : Nat → Int32} {p : Nat} {r : lR} {n : Nat} (h : rcA rm c p r n) (hn : n < 4294967296) : qL rm c (p + 4) = n := by
  unfold qL
  rw [Nat.add_assoc, Nat.add_assoc, Nat.add_assoc, rcA_hd h (j := 4) (by decide), rcA_hd h (j := 4 + 1) (by decide), rcA_hd h (j := 4 + 2) (by decide), rcA_hd h (j := 4 + 3) (by decide)]
  exact q4_n4 hn
theorem rcA_n8 {rm : Nat} {c : Nat → Int32} {p : Nat} {r : lR} {n : Nat} (h : rcA rm c p r n) (hn : n < 4294967296) : qL rm c (p + 8) = n := by
  unfold qL
  rw [Nat.add_assoc, Nat.add_assoc, Nat.add_assoc, rcA_hd h (j := 8) (by decide), rcA_hd h (j := 8 + 1) (by decide), rcA_hd h (j := 8 + 2) (by decide), rcA_hd h (j := 8 + 3) (by decide)]
  exact q4_n4 hn
/-- the record of key at p is the one that the view has -/
def liv (V : vW) (key p : Nat) : Bool := match ent V.2.1 V.1 key with
  | some e => decide (e.1 = 1 ∧ e.2.2 = p)
  | none => false
/-- memory and log have room for one more record of key, z bytes long -/
def rmB (rm : Nat) (V : vW) (key z : Nat) : Bool := ((V.2.1 key).isSome || decide ((kS V.2.1).length < 24)) && decide (V.2.2 5 + z + 12 ≤ V.2.2 4 + rm)
/-- the records from p on are looked at, n at most -/
def clR (rm n : Nat) : List lR → dS → vW → Nat → Nat → dS × vW × Nat × Nat
  | [], s, V, p, k => (s, V, p, k)
  | r :: l, s, V, p, k => if k = n ∨ s.2.2.2.2.2 = true then (s, V, p, k)
    else if liv V r.2.2.1 p = true then
      (if rmB rm V r.2.2.1 (rcZ r) = true then clR rm n l (apS rm s 1 r.2.2.1 r.2.2.2 (V.2.2 5) (V.2.2 6)) (apV V 1 r.2.2.1 r.2.2.2.length) (p + rcZ r) (k + 1)
       else (s, V, p, k))
    else clR rm n l s V (p + rcZ r) (k + 1)
/-- what a look at a record wants of the disk -/
def clF (rm : Nat) (s : dS) (V : vW) (p : Nat) (r : lR) : Prop := (∀ t ∈ V.1, tE rm (cu rm s) t) ∧ (∃ m, rcA rm (cu rm s) p r m) ∧ rcOK r ∧ V.2.2 4 ≤ V.2.2 5 ∧ V.2.2 5 < 2 ^ 30 - 1400 ∧ V.2.2 6 < 2 ^ 30 - 1400 ∧ p < 2 ^ 30 - 1400
def clG (rm n : Nat) : List lR → dS → vW → Nat → Nat → Prop
  | [], _, _, _, _ => True
  | r :: l, s, V, p, k => k = n ∨ s.2.2.2.2.2 = true ∨ (clF rm s V p r ∧
    (liv V r.2.2.1 p = true → rmB rm V r.2.2.1 (rcZ r) = true → cp s 3 (24 + r.2.2.2.length) ∧ clG rm n l (apS rm s 1 r.2.2.1 r.2.2.2 (V.2.2 5) (V.2.2 6)) (apV V 1 r.2.2.1 r.2.2.2.length) (p + rcZ r) (k + 1)) ∧
    (liv V r.2.2.1 p = false → clG rm n l s V (p + rcZ r) (k + 1)))
theorem ent_ok {mem : mP} {us : List tB} {k : Nat} {e : eN} (hm : mOK mem) (hu : ∀ t ∈ us, mOK t.2.2.2) (h : ent mem us k = some e) : 0 < e.1 ∧ e.1 < 3 ∧ e.2.1 < 2 ^ 30 ∧ e.2.2 < 2 ^ 30 := by
  unfold ent at h
  cases hk : mem k with
  | some x =>
    rw [hk] at h
    cases h
    exact hm.2 k _ hk
  | none =>
    rw [hk] at h
    exact (mOK_fnd hu).2 k e h
theorem liv_t {V : vW} {key p : Nat} (h : liv V key p = true) : ∃ e, ent V.2.1 V.1 key = some e ∧ e.1 = 1 ∧ e.2.2 = p := by
  unfold liv at h
  cases he : ent V.2.1 V.1 key with
  | none => rw [he] at h; cases h
  | some e =>
    rw [he] at h
    have := of_decide_eq_true h
    exact ⟨e, rfl, this.1, this.2⟩
theorem liv_f {V : vW} {key p : Nat} (h : liv V key p = false) {e : eN} (he : ent V.2.1 V.1 key = some e) (h1 : e.1 = 1) : e.2.2 ≠ p := fun z => by
  unfold liv at h
  rw [he] at h
  have := of_decide_eq_false h
  exact this ⟨h1, z⟩
