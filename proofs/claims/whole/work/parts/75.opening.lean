/-! PART 75: what an opening finds, in pure words -/
/-- is there the record with number n at place p? -/
def isR (rm : Nat) (c : Nat → Int32) (p n : Nat) : Bool :=
  ((decide (bN c (p % rm) % 128 = 1) && decide (bN c ((p + 2) % rm) ≤ 64)) || (decide (bN c (p % rm) % 128 = 2) && decide (bN c ((p + 2) % rm) = 0))) && decide (bN c ((p + 1) % rm) < 120) && decide (bN c ((p + 3) % rm) = 0) && decide (qL rm c (p + 4) = n) && decide (qL rm c (p + 8) = n)
theorem isR_t {rm : Nat} {c : Nat → Int32} {p n : Nat} {r : lR} (h : rcA rm c p r n) (ho : rcOK r) (hn : n < 4294967296) : isR rm c p n = true := by
  obtain ⟨o1, o2, o3, o4, o5, o6, o7⟩ := ho
  unfold isR
  rw [rcA_kind h, rcA_len h, rcA_key h, rcA_0 h, rcA_n4 h hn, rcA_n8 h hn, decide_eq_true o4, decide_eq_true rfl, decide_eq_true rfl]
  have hk : (r.1 + r.2.1) % 128 = r.1 := by
    rcases o3 with h | h <;> rw [h] <;> omega
  rw [hk, decide_eq_true o5]
  have : r.1 = 1 ∨ r.1 = 2 := by omega
  rcases this with h1 | h1
  · rw [h1]
    rfl
  · rw [h1, decide_eq_true (o7 h1)]
    rfl
theorem isR_f {rm : Nat} {c : Nat → Int32} {p n : Nat} (h : qL rm c (p + 8) ≠ n) : isR rm c p n = false := by
  unfold isR
  rw [decide_eq_false h, Bool.and_false]
/-- the records of complete batches: w are those of the batch that is not complete yet -/
def tkn : List lR → List lR → List lR
  | _, [] => []
  | w, r :: l => if r.2.1 = 0 then w ++ r :: tkn [] l else tkn (w ++ [r]) l
/-- memory behind records that lie from p on, the first with number n -/
def rpM : Nat → Nat → mP → List lR → mP
  | _, _, m, [] => m
  | p, n, m, r :: l => rpM (p + rcZ r) (n + 1) (upM m r.2.2.1 (r.1, n, p)) l
theorem rpM_app : ∀ (l k : List lR) (p n : Nat) (m : mP), rpM p n m (l ++ k) = rpM (p + lgZ l) (n + l.length) (rpM p n m l) k
  | [], _, _, _, _ => rfl
  | r :: l, k, p, n, m => by
    show rpM (p + rcZ r) (n + 1) _ (l ++ k) = rpM (p + (rcZ r + lgZ l)) (n + (l.length + 1)) _ k
    rw [rpM_app l k, Nat.add_assoc, Nat.add_assoc, Nat.add_comm 1]
    rfl
theorem tkn_all : ∀ (l w : List lR), (∀ r ∈ l, r.2.1 ≠ 0) → tkn w l = []
  | [], _, _ => rfl
  | r :: l, w, h => by
    unfold tkn
    rw [if_neg (h r List.mem_cons_self)]
    exact tkn_all l _ (fun x hx => h x (List.mem_cons_of_mem _ hx))
theorem tkn_len : ∀ (l w : List lR), (tkn w l).length ≤ w.length + l.length
  | [], w => Nat.zero_le _
  | r :: l, w => by
    unfold tkn
    split
    · have := tkn_len l []
      simp only [List.length_append, List.length_cons, List.length_nil] at this ⊢
      omega
    · have := tkn_len l (w ++ [r])
      simp only [List.length_append, List.length_cons, List.length_nil] at this ⊢
      omega
theorem tkn_lgZ : ∀ (l w : List lR), lgZ (tkn w l) ≤ lgZ w + lgZ l
  | [], w => Nat.zero_le _
  | r :: l, w => by
    unfold tkn
    have hl : lgZ (r :: l) = rcZ r + lgZ l := rfl
    split
    · have := tkn_lgZ l []
      have e : lgZ (r :: tkn [] l) = rcZ r + lgZ (tkn [] l) := rfl
      have e0 : lgZ [] = 0 := rfl
      rw [lgZ_app, e, hl]
      omega
    · have := tkn_lgZ l (w ++ [r])
      have e : lgZ [r] = rcZ r := rfl
      rw [lgZ_app, e] at this
      omega
/-- the two root slots -/
def slC (rm k : Nat) : Nat := rm + 15600 + k * 64
/-- a slot without a root, or with one that is older than ver -/
def sOld (rm : Nat) (c : Nat → Int32) (k ver : Nat) : Prop := qN c (slC rm k + 60) = 0 ∨ (qN c (slC rm k + 60) ≤ qN c (slC rm k) ∧ (qN c (slC rm k + 60) = qN c (slC rm k) → qN c (slC rm k) < ver))
/-- the root of the disk is that of V -/
def rtI (rm : Nat) (c : Nat → Int32) (V : vW) : Prop := V.1.length ≤ 5 ∧ (∀ t ∈ V.1, t.1 < 12) ∧ (∀ i, 1 ≤ i → i ≤ 7 → V.2.2 i < 2 ^ 30) ∧
  ((V.2.2 1 = 0 ∧ sOld rm c 0 0 ∧ sOld rm c 1 0 ∧ V.1 = [] ∧ V.2.2 2 = 0 ∧ V.2.2 3 = 1 ∧ V.2.2 4 = 0 ∧ V.2.2 7 = 1) ∨
   (0 < V.2.2 1 ∧ atC c (slC rm (V.2.2 1 % 2)) (rtB V) ∧ qN c (slC rm (V.2.2 1 % 2) + 60) = V.2.2 1 ∧ sOld rm c ((V.2.2 1 + 1) % 2) (V.2.2 1)))
/-- the log of the disk from the checkpoint on: the records all, and behind them none -/
def lgI (rm : Nat) (c : Nat → Int32) (V : vW) (all : List lR) : Prop := (∀ r ∈ all, rcOK r) ∧ atL rm c (V.2.2 2) (lgB (V.2.2 3) all) ∧ qL rm c (V.2.2 2 + lgZ all + 8) ≠ V.2.2 3 + all.length ∧ V.2.2 2 + lgZ all + 12 ≤ V.2.2 4 + rm ∧ V.2.2 4 ≤ V.2.2 2 ∧ V.2.2 3 + all.length < 2 ^ 30 ∧ V.2.2 2 + lgZ all < 2 ^ 30 - 5000 ∧
  V.2.2 5 = V.2.2 2 + lgZ (tkn [] all) ∧ V.2.2 6 = V.2.2 3 + (tkn [] all).length ∧ V.2.1 = rpM (V.2.2 2) (V.2.2 3) m0 (tkn [] all)
theorem rtB_hd {V : vW} {j : Nat} (hj : j < 20) : (rtB V).getD j 0 = (n4 (V.2.2 1) ++ n4 (V.2.2 2) ++ n4 (V.2.2 4) ++ n4 (V.2.2 3) ++ n4 (V.2.2 7)).getD j 0 := by
  unfold rtB
  rw [gd_l (by simp only [n4, List.length_append, List.length_cons, List.length_nil]; omega), gd_l (by simp only [n4, List.length_append, List.length_cons, List.length_nil]; omega)]
theorem rt_num {c : Nat → Int32} {q : Nat} {V : vW} (h6 : V.1.length ≤ 6) (hb : ∀ i, 1 ≤ i → i ≤ 7 → V.2.2 i < 2 ^ 30) (h : atC c q (rtB V)) : qN c q = V.2.2 1 ∧ qN c (q + 4) = V.2.2 2 ∧ qN c (q + 8) = V.2.2 4 ∧ qN c (q + 12) = V.2.2 3 ∧ qN c (q + 16) = V.2.2 7 ∧ bN c (q + 20) = V.1.length ∧ ∀ i t, V.1[i]? = some t → bN c (q + 21 + i) = t.1 := by
  have hl := rtB_len h6
  have b1 := hb 1 (by decide) (by decide)
  have b2 := hb 2 (by decide) (by decide)
  have b3 := hb 3 (by decide) (by decide)
  have b4 := hb 4 (by decide) (by decide)
  have b7 := hb 7 (by decide) (by decide)
  have key : ∀ (o n : Nat), o + 4 ≤ 20 → n < 4294967296 → (∀ j, j < 4 → (rtB V).getD (o + j) 0 = (n4 n).getD j 0) → qN c (q + o) = n := fun o n ho hn hg => atC_n4 (fun j hj => by
    have hj4 : j < 4 := hj
    rw [Nat.add_assoc, h (o + j) (by omega), hg j hj4]) hn
  have c4 : ∀ j : Nat, j < 4 → j = 0 ∨ j = 1 ∨ j = 2 ∨ j = 3 := fun j hj => by omega
  refine ⟨key 0 _ (by decide) (by omega) (fun j hj => ?_), key 4 _ (by decide) (by omega) (fun j hj => ?_), key 8 _ (by decide) (by omega) (fun j hj => ?_), key 12 _ (by decide) (by omega) (fun j hj => ?_), key 16 _ (by decide) (by omega) (fun j hj => ?_), ?_, fun i t ht => ?_⟩
  · rw [rtB_hd (by omega)]
    rcases c4 j hj with rfl | rfl | rfl | rfl <;> rfl
  · rw [rtB_hd (by omega)]
    rcases c4 j hj with rfl | rfl | rfl | rfl <;> rfl
  · rw [rtB_hd (by omega)]
    rcases c4 j hj with rfl | rfl | rfl | rfl <;> rfl
  · rw [rtB_hd (by omega)]
    rcases c4 j hj with rfl | rfl | rfl | rfl <;> rfl
  · rw [rtB_hd (by omega)]
    rcases c4 j hj with rfl | rfl | rfl | rfl <;> rfl
  · rw [h 20 (by omega)]
    rfl
  · have hi := (List.getElem?_eq_some_iff.mp ht).1
    rw [Nat.add_assoc, h (21 + i) (by omega)]
    unfold rtB
    rw [gd_r (by simp only [n4, List.length_append, List.length_cons, List.length_nil]; omega)]
    rw [show 21 + i - (n4 (V.2.2 1) ++ n4 (V.2.2 2) ++ n4 (V.2.2 4) ++ n4 (V.2.2 3) ++ n4 (V.2.2 7) ++ [V.1.length]).length = i by simp only [n4, List.length_append, List.length_cons, List.length_nil]; omega]
    rw [gd_l (by rw [List.length_map]; exact hi), List.getD_eq_getElem?_getD, List.getElem?_map, ht]
    rfl
