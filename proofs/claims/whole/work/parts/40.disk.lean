/-! PART 40: the disk in pure words: writes, the lasting disk, power failure -/
/-- a write: first cell, how many bytes, the bytes -/
abbrev wR : Type := Nat × Nat × (Nat → Int32)
/-- the cell k behind c: the log goes round -/
def nx (rm c k : Nat) : Nat := if c < rm then (c + k) % rm else c + k
theorem nx_0 (rm c : Nat) : nx rm c 0 = c := by
  unfold nx
  split
  · rw [Nat.add_zero, Nat.mod_eq_of_lt (by assumption)]
  · rfl
theorem nx_s {rm c k : Nat} (hr : 0 < rm) : nx rm c (k + 1) = if nx rm c k + 1 = rm then 0 else nx rm c k + 1 := by
  unfold nx
  split
  · have h1 : (c + k) % rm < rm := Nat.mod_lt _ hr
    have h2 : (c + (k + 1)) % rm = ((c + k) % rm + 1) % rm := by rw [← Nat.add_assoc, Nat.mod_add_mod]
    rw [h2]
    split
    · rename_i h3
      rw [h3, Nat.mod_self]
    · exact Nat.mod_eq_of_lt (by omega)
  · rw [if_neg (by omega)]
    omega
theorem nx_lt {rm c k n : Nat} (hr : 0 < rm) (h : c < rm ∨ c + n ≤ rm + 15728) (hk : k < n) : nx rm c k < rm + 15728 := by
  unfold nx
  split
  · have := Nat.mod_lt (c + k) hr
    omega
  · omega
theorem nx_inj {rm c n i j : Nat} (h : c < rm → n ≤ rm) (hi : i < n) (hj : j < n) (e : nx rm c i = nx rm c j) : i = j := by
  unfold nx at e
  split at e
  · rename_i hc
    have hn := h hc
    have h1 := Nat.div_add_mod (c + i) rm
    have h2 := Nat.div_add_mod (c + j) rm
    have h3 : (c + i) / rm ≤ 1 := by
      have : (c + i) / rm < 2 := Nat.div_lt_of_lt_mul (by omega)
      omega
    have h4 : (c + j) / rm ≤ 1 := by
      have : (c + j) / rm < 2 := Nat.div_lt_of_lt_mul (by omega)
      omega
    rw [e] at h1
    have key : ∀ z : Nat, z ≤ 1 → z = 0 ∨ z = 1 := fun z hz => by omega
    have h5 := key _ h3
    have h6 := key _ h4
    rcases h5 with h5 | h5 <;> rcases h6 with h6 | h6 <;> rw [h5] at h1 <;> rw [h6] at h2 <;> simp at h1 h2 <;> omega
  · omega
/-- the first k bytes of a write are there -/
def ap_k (rm : Nat) (g : Nat → Int32) (c : Nat) : Nat → (Nat → Int32) → Nat → Int32
  | 0, f => f
  | k + 1, f => upd (ap_k rm g c k f) (nx rm c k) (g k)
def ap (rm : Nat) (f : Nat → Int32) (x : wR) : Nat → Int32 := ap_k rm x.2.2 x.1 x.2.1 f
theorem ap_off {rm c : Nat} {g f : Nat → Int32} {j : Nat} : ∀ k, (∀ i, i < k → nx rm c i ≠ j) → ap_k rm g c k f j = f j
  | 0, _ => rfl
  | k + 1, h => by
    show upd _ _ _ j = _
    rw [ui_n (fun z => h k (by omega) z.symm)]
    exact ap_off k (fun i hi => h i (by omega))
theorem ap_on {rm c : Nat} {g f : Nat → Int32} : ∀ (k i : Nat), i < k → (c < rm → k ≤ rm) → ap_k rm g c k f (nx rm c i) = g i
  | 0, i, h, _ => absurd h (by omega)
  | k + 1, i, h, hn => by
    show upd _ _ _ _ = _
    by_cases e : i = k
    · subst e
      exact ui_s _ _ _
    · rw [ui_n (fun z => e (nx_inj (n := k + 1) hn (by omega) (by omega) z))]
      exact ap_on k i (by omega) (fun z => by have := hn z; omega)
/-- the disk: what is lasting, the writes that are not, the n-th write to fail at (0: none), keep, cut, down -/
abbrev dS : Type := (Nat → Int32) × List wR × Nat × Nat × Nat × Bool
def cu (rm : Nat) (s : dS) : Nat → Int32 := s.2.1.foldl (ap rm) s.1
/-- a write -/
def wr (s : dS) (x : wR) : dS := if s.2.2.2.2.2 then s else (s.1, s.2.1 ++ [x], s.2.2.1 - 1, s.2.2.2.1, s.2.2.2.2.1, decide (s.2.2.1 = 1))
def sy (rm : Nat) (s : dS) : dS := if s.2.2.2.2.2 then s else (cu rm s, [], s.2.2)
/-- the disk behind a power failure that keeps the first keep writes and cut bytes of the next -/
def cr (rm : Nat) (las : Nat → Int32) (pend : List wR) (keep cut : Nat) : Nat → Int32 := match pend[keep]? with
  | some x => ap rm ((pend.take keep).foldl (ap rm) las) (x.1, min cut x.2.1, x.2.2)
  | none => pend.foldl (ap rm) las
def fl (rm : Nat) (s : dS) (keep cut : Nat) : dS := (cr rm s.1 s.2.1 keep cut, [], 0, s.2.2.2.1, s.2.2.2.2.1, true)
def tot (l : List wR) : Nat := (l.map (fun x => x.2.1)).sum
theorem tot_app (l : List wR) (x : wR) : tot (l ++ [x]) = tot l + x.2.1 := by simp [tot]
/-- a write that fits -/
def wok (rm : Nat) (x : wR) : Prop := (x.1 < rm ∧ x.2.1 ≤ rm) ∨ (rm ≤ x.1 ∧ x.1 + x.2.1 ≤ rm + 15728)
/-- bytes -/
def bt (f : Nat → Int32) : Prop := ∀ j, vp_nar .byte (f j) = f j
theorem bt_upd {f : Nat → Int32} {k : Nat} {x : Int32} (h : bt f) (hx : vp_nar .byte x = x) : bt (upd f k x) := fun j => by
  by_cases e : j = k
  · subst e
    rw [ui_s, hx]
  · rw [ui_n e]
    exact h j
theorem bt_apk {rm c : Nat} {g f : Nat → Int32} (hf : bt f) (hg : bt g) : ∀ k, bt (ap_k rm g c k f)
  | 0 => hf
  | k + 1 => bt_upd (bt_apk hf hg k) (hg k)
theorem bt_fold {rm : Nat} : ∀ (l : List wR) {f : Nat → Int32}, bt f → (∀ x ∈ l, bt x.2.2) → bt (l.foldl (ap rm) f)
  | [], _, h, _ => h
  | x :: l, _, h, hl => bt_fold l (bt_apk h (hl x List.mem_cons_self) _) (fun y hy => hl y (List.mem_cons_of_mem _ hy))
/-- the disk of the class -/
def dX (rm : Nat) (iv : Nat → Int32) (av : Nat → Nat → Int32) (s : dS) : Prop :=
  av 0 = cu rm s ∧ iv 1 = nI s.2.1.length ∧ iv 0 = nI (tot s.2.1) ∧ s.2.1.length ≤ 1024 ∧ tot s.2.1 ≤ 8192 ∧ iv 2 = nI s.2.2.1 ∧ iv 3 = nI s.2.2.2.1 ∧ iv 4 = nI s.2.2.2.2.1 ∧ iv 5 = bB s.2.2.2.2.2 ∧ s.2.2.1 ≤ 1000 ∧ s.2.2.2.1 < 2 ^ 31 ∧ s.2.2.2.2.1 < 2 ^ 31 ∧ bt s.1 ∧ (∀ x ∈ s.2.1, bt x.2.2) ∧
  ∀ (w : Nat) (x : wR), s.2.1[w]? = some x → wok rm x ∧ av 1 w = nI x.1 ∧ av 2 w = nI x.2.1 ∧ ∀ i, i < x.2.1 → av 3 (tot (s.2.1.take w) + i) = (s.2.1.take w).foldl (ap rm) s.1 (nx rm x.1 i)
theorem dX_ext {rm : Nat} {iv iv' : Nat → Int32} {av av' : Nat → Nat → Int32} {s : dS} (h : dX rm iv av s) (hi : ∀ j, j ≤ 5 → iv' j = iv j) (ha : ∀ j, j ≤ 3 → av' j = av j) : dX rm iv' av' s := by
  unfold dX at h ⊢
  rw [hi 0 (by omega), hi 1 (by omega), hi 2 (by omega), hi 3 (by omega), hi 4 (by omega), hi 5 (by omega), ha 0 (by omega), ha 1 (by omega), ha 2 (by omega), ha 3 (by omega)]
  exact h
theorem cu_wr {rm : Nat} {s : dS} {x : wR} (h : s.2.2.2.2.2 = false) : cu rm (wr s x) = ap rm (cu rm s) x := by
  unfold cu wr
  rw [h]
  simp
theorem dX_bt {rm : Nat} {iv : Nat → Int32} {av : Nat → Nat → Int32} {s : dS} (h : dX rm iv av s) : bt (av 0) := by
  rw [h.1]
  exact bt_fold _ h.2.2.2.2.2.2.2.2.2.2.2.2.1 h.2.2.2.2.2.2.2.2.2.2.2.2.2.1
