/-! PART 80: the calls in pure words -/
/-- disk, view, log; batch, begun, tape; value read, tables looked into, tables passed by -/
abbrev aS : Type := (dS × vW × List lR) × (List bR × Bool × List Nat) × (List Nat × Nat × Nat)
def dwn (a : aS) : Bool := a.1.1.2.2.2.2.2
/-- what a call that may have written ends with -/
def fin (rm : Nat) (D : dS × vW × List lR) (T : List bR × Bool × List Nat) (G : List Nat × Nat × Nat) (z : Int32) : Int32 × aS :=
  if D.1.2.2.2.2.2 = true then (-2, ((fl rm D.1 D.1.2.2.2.1 D.1.2.2.2.2.1, D.2), ([], false, []), G)) else (z, (D, T, G))
/-- the bytes that n of x are typed as -/
def tyB (x : Int64) : Nat → List Nat
  | 0 => []
  | k + 1 => (x.toBitVec.toNat / 2 ^ (8 * k) % 256) :: tyB x k
theorem tyB_len (x : Int64) : ∀ n, (tyB x n).length = n
  | 0 => rfl
  | n + 1 => congrArg (· + 1) (tyB_len x n)
theorem tyB_by (x : Int64) : ∀ n, by8 (tyB x n)
  | 0 => fun _ h => by cases h
  | n + 1 => fun y hy => by
    rcases List.mem_cons.mp hy with rfl | h
    · exact Nat.mod_lt _ (by decide)
    · exact tyB_by x n y h
def aType (x : Int64) (n : Int32) (a : aS) : Int32 × aS :=
  if dwn a = true then (-2, a) else if n < 1 ∨ 8 < n ∨ 64 < nI a.2.1.2.2.length + n then (-1, a)
  else (nI (a.2.1.2.2.length + n.toNatClampNeg), (a.1, (a.2.1.1, a.2.1.2.1, a.2.1.2.2 ++ tyB x n.toNatClampNeg), a.2.2))
/-- the records of a batch as the log holds them -/
def aaL : List bR → List lR
  | [] => []
  | x :: l => (x.1, gO l, x.2.1, x.2.2) :: aaL l
/-- the log behind a batch -/
def stLg (rm : Nat) (b : List bR) (q : dS × vW) (lg : List lR) : List lR :=
  if q.2.2.2 5 + (bZ b + 176) + 12 ≤ q.2.2.2 4 + rm then lg ++ aaL b
  else if (stP rm q lg).2.1.2.2 5 + (bZ b + 176) + 12 ≤ (stP rm q lg).2.1.2.2 4 + rm then (stP rm q lg).2.2 ++ aaL b else (stP rm q lg).2.2
def stD (rm : Nat) (b : List bR) (D : dS × vW × List lR) : dS × vW × List lR := ((sto rm b D.1 D.2.1 D.2.2).1, (sto rm b D.1 D.2.1 D.2.2).2.1, stLg rm b (ckM rm D.1 D.2.1 b) D.2.2)
def aStore (rm : Nat) (b : List bR) (a : aS) (tp : List Nat) : Int32 × aS := fin rm (stD rm b a.1) ([], false, tp) a.2.2 (if (sto rm b a.1.1 a.1.2.1 a.1.2.2).2.2 then nI b.length else -3)
def aLay (rm : Nat) (x : bR) (a : aS) (tp : List Nat) : Int32 × aS :=
  if a.2.1.2.1 = true then (nI (a.2.1.1.length + 1), (a.1, (a.2.1.1 ++ [x], true, tp), a.2.2)) else aStore rm (a.2.1.1 ++ [x]) a tp
def aPut (rm : Nat) (key : Int32) (a : aS) : Int32 × aS :=
  if dwn a = true then (-2, a) else if kx_is key = false ∨ a.2.1.1.length = 8 then (-1, a) else aLay rm (1, key.toNatClampNeg, a.2.1.2.2) a []
/-- a key with a value -/
def thr (V : vW) (k : Nat) : Bool := match ent V.2.1 V.1 k with
  | some e => decide (e.1 = 1)
  | none => false
def aRemove (rm : Nat) (key : Int32) (a : aS) : Int32 × aS :=
  if dwn a = true then (-2, a) else if kx_is key = false ∨ a.2.1.1.length = 8 then (-1, a)
  else if a.2.1.2.1 = false ∧ thr a.1.2.1 key.toNatClampNeg = false then (0, a) else aLay rm (2, key.toNatClampNeg, []) a a.2.1.2.2
def aBegin (a : aS) : Int32 × aS := if dwn a = true then (-2, a) else if a.2.1.2.1 = true then (0, a) else (1, (a.1, (a.2.1.1, true, a.2.1.2.2), a.2.2))
def aCommit (rm : Nat) (a : aS) : Int32 × aS :=
  if dwn a = true then (-2, a) else if a.2.1.1.length = 0 then (-1, (a.1, ([], false, a.2.1.2.2), a.2.2)) else aStore rm a.2.1.1 a a.2.1.2.2
def aCancel (a : aS) : Int32 × aS := if dwn a = true then (-2, a) else (if a.2.1.2.1 = true then nI a.2.1.1.length else -1, (a.1, ([], false, a.2.1.2.2), a.2.2))
/-- the value of the record at place w -/
def vlD (rm : Nat) (c : Nat → Int32) (w : Nat) : List Nat := (List.range (bN c ((w + 2) % rm))).map (fun i => bN c ((w + 12 + i) % rm))
theorem vlD_len (rm : Nat) (c : Nat → Int32) (w : Nat) : (vlD rm c w).length = bN c ((w + 2) % rm) := by
  unfold vlD
  rw [List.length_map, List.length_range]
theorem vlD_get {rm : Nat} {c : Nat → Int32} {w i : Nat} (hi : i < bN c ((w + 2) % rm)) : (vlD rm c w).getD i 0 = bN c ((w + 12 + i) % rm) := by
  unfold vlD
  rw [List.getD_eq_getElem?_getD, List.getElem?_map, List.getElem?_range hi]
  rfl
theorem vlD_by (rm : Nat) (c : Nat → Int32) (w : Nat) : by8 (vlD rm c w) := fun x hx => by
  unfold vlD at hx
  obtain ⟨i, _, rfl⟩ := List.mem_map.mp hx
  exact bN_lt _ _
/-- the ways to a key: tables looked into, tables passed by -/
def lkA (V : vW) (k : Nat) : Nat × Nat := if (V.2.1 k).isSome then (0, 0) else lkN V.1 k
def aGet (rm : Nat) (key : Int32) (a : aS) : Int32 × aS :=
  if dwn a = true then (-2, a) else if kx_is key = false then (-1, (a.1, a.2.1, ([], 0, 0)))
  else match ent a.1.2.1.2.1 a.1.2.1.1 key.toNatClampNeg with
    | some e => if e.1 = 1 then (nI (vlD rm (cu rm a.1.1) e.2.2).length, (a.1, a.2.1, (vlD rm (cu rm a.1.1) e.2.2, lkA a.1.2.1 key.toNatClampNeg))) else (-1, (a.1, a.2.1, ([], lkA a.1.2.1 key.toNatClampNeg)))
    | none => (-1, (a.1, a.2.1, ([], lkA a.1.2.1 key.toNatClampNeg)))
def aRead (i : Int32) (a : aS) : Int32 × aS := (if i < 0 ∨ nI a.2.2.1.length ≤ i then -1 else nI (a.2.2.1.getD i.toNatClampNeg 0), a)
/-- the first key from k on that has a value: m keys are tried -/
def nxK (V : vW) : Nat → Nat → Int32
  | 0, _ => -1
  | m + 1, k => if thr V k then nI k else nxK V m (k + 1)
def aNext (key : Int32) (a : aS) : Int32 × aS := if dwn a = true then (-2, a) else (if key < 0 then nxK a.1.2.1 120 0 else if 120 ≤ key then -1 else nxK a.1.2.1 (120 - key.toNatClampNeg) key.toNatClampNeg, a)
def aSync (rm : Nat) (a : aS) : Int32 × aS := if dwn a = true then (-2, a) else (nI a.1.1.2.1.length, ((sy rm a.1.1, a.1.2), a.2))
def aCheckpoint (rm : Nat) (a : aS) : Int32 × aS := if dwn a = true then (-2, a) else fin rm ((ck rm a.1.1 a.1.2.1).1, (ck rm a.1.1 a.1.2.1).2, a.1.2.2) a.2.1 a.2.2 (nI (ck rm a.1.1 a.1.2.1).2.1.length)
def aCollect (rm : Nat) (n : Int32) (a : aS) : Int32 × aS := if dwn a = true then (-2, a) else if n < 1 ∨ 1000 < n then (-1, a) else
  fin rm ((cl rm n.toNatClampNeg a.1.2.2 a.1.1 a.1.2.1).1, (cl rm n.toNatClampNeg a.1.2.2 a.1.1 a.1.2.1).2.1, clN rm n.toNatClampNeg a.1.2.2 a.1.1 a.1.2.1) a.2.1 a.2.2 (nI (cl rm n.toNatClampNeg a.1.2.2 a.1.1 a.1.2.1).2.2)
def aCrash (rm : Nat) (keep cut : Int32) (a : aS) : Int32 × aS := if dwn a = true then (-2, a) else if keep < 0 ∨ cut < 0 then (-1, a) else
  (nI a.1.1.2.1.length, ((fl rm a.1.1 keep.toNatClampNeg cut.toNatClampNeg, a.1.2), ([], false, []), a.2.2))
def aFail (n keep cut : Int32) (a : aS) : Int32 × aS := if dwn a = true then (-2, a) else if n < 1 ∨ 1000 < n ∨ keep < 0 ∨ cut < 0 then (-1, a) else
  (1, (((a.1.1.1, a.1.1.2.1, n.toNatClampNeg, keep.toNatClampNeg, cut.toNatClampNeg, a.1.1.2.2.2.2.2), a.1.2), a.2))
def aSpare (a : aS) : Int32 × aS := if dwn a = true then (-2, a) else (if a.1.1.2.2.1 = 0 then 0 else 1, (((a.1.1.1, a.1.1.2.1, 0, a.1.1.2.2.2), a.1.2), a.2))
/-- an opening: W and all are what the disk holds, lg its log from the tail on -/
def aOpen (rm : Nat) (W : vW) (all lg : List lR) (a : aS) : Int32 × aS := if dwn a = true then (nI (tkn [] all).length, ((opS rm a.1.1 (W.2.2 5), W, lg), a.2.1, (a.2.2.1, 0, 0))) else (-1, a)
/-- how many keys have a value, and how long their records are -/
def kyN (V : vW) : Nat → Nat
  | 0 => 0
  | k + 1 => kyN V k + (if thr V k then 1 else 0)
def byN (rm : Nat) (c : Nat → Int32) (V : vW) : Nat → Nat
  | 0 => 0
  | k + 1 => byN rm c V k + (match ent V.2.1 V.1 k with
    | some e => if e.1 = 1 then 12 + bN c ((e.2.2 + 2) % rm) else 0
    | none => 0)
def aTold (rm : Nat) (w : Int32) (a : aS) : Int32 × aS := (if w = 10 then nI a.2.2.2.1 else if w = 11 then nI a.2.2.2.2 else if dwn a = true then -2
  else if w = 0 then nI (a.1.2.1.2.2 5) else if w = 1 then nI (a.1.2.1.2.2 4) else if w = 2 then nI (a.1.2.1.2.2 2) else if w = 3 then nI (a.1.2.1.2.2 6) else if w = 4 then nI (a.1.2.1.2.2 1)
  else if w = 5 then nI (kS a.1.2.1.2.1).length else if w = 6 then nI a.1.2.1.1.length else if w = 7 then nI a.1.1.2.1.length else if w = 8 then nI (kyN a.1.2.1 120) else if w = 9 then nI (byN rm (cu rm a.1.1) a.1.2.1 120)
  else if w = 12 then nI a.2.1.2.2.length else if w = 13 then (if a.2.1.2.1 = true then nI a.2.1.1.length else -1) else if w = 14 then nI (a.1.2.1.2.2 7) else -1, a)
def tabF (rm : Nat) (c : Nat → Int32) (t : tB) (w : Int32) : Int32 :=
  if w = 0 then nI t.2.1 else if w = 1 then nI (kS t.2.2.2).length else if w = 2 then nI t.1 else if w = 3 then nI t.2.2.1 else if w = 4 then nI (ksA t.2.2.2 0) else if w = 5 then nI (ksA t.2.2.2 ((kS t.2.2.2).length - 1)) else if w = 6 then fI t.2.2.2 else 0
def aTable (rm : Nat) (i w : Int32) (a : aS) : Int32 × aS := (if dwn a = true then -2 else if i < 0 ∨ nI a.1.2.1.1.length ≤ i then 0 else match a.1.2.1.1[i.toNatClampNeg]? with
  | some t => tabF rm (cu rm a.1.1) t w
  | none => 0, a)
def aEntry (key w : Int32) (a : aS) : Int32 × aS := (if dwn a = true then -2 else if kx_is key = false then -1 else match ent a.1.2.1.2.1 a.1.2.1.1 key.toNatClampNeg with
  | some e => if w = 0 then nI e.1 else if w = 1 then nI e.2.1 else if w = 2 then nI e.2.2 else if w = 3 then bB (a.1.2.1.2.1 key.toNatClampNeg).isSome else -1
  | none => -1, a)
def aCell (rm : Nat) (ar i : Int32) (a : aS) : Int32 × aS := (if ceF rm ar i = -1 then -1 else nI (bN (cu rm a.1.1) (ceF rm ar i).toNatClampNeg), a)
def aCheck (a : aS) : Int32 × aS := (if dwn a = true then -2 else 1, a)
/-- the class: batch, begun, tape -/
def tX (iv : Nat → Int32) (av : Nat → Nat → Int32) (T : List bR × Bool × List Nat) : Prop := bX iv av T.1 ∧ iv 8 = bB T.2.1 ∧ (T.2.1 = false → T.1 = []) ∧ iv 9 = nI T.2.2.length ∧ T.2.2.length ≤ 64 ∧ by8 T.2.2 ∧ ∀ k, k < T.2.2.length → av 40 k = lB T.2.2 k
/-- the class: what was read -/
def gX (iv : Nat → Int32) (av : Nat → Nat → Int32) (G : List Nat × Nat × Nat) : Prop := iv 70 = nI G.1.length ∧ G.1.length ≤ 64 ∧ by8 G.1 ∧ (∀ k, k < G.1.length → av 41 k = lB G.1 k) ∧ iv 54 = nI G.2.1 ∧ iv 55 = nI G.2.2
/-- the class in the state a -/
def xS (rm : Nat) (iv : Nat → Int32) (av : Nat → Nat → Int32) (a : aS) : Prop := dX rm iv av a.1.1 ∧ kz av ∧ tX iv av a.2.1 ∧ gX iv av a.2.2 ∧ (dwn a = false → vX 0 iv av a.1.2.1)
theorem tX_fr {iv iv' : Nat → Int32} {av av' : Nat → Nat → Int32} {T : List bR × Bool × List Nat} {S S' : List Nat} (h : tX iv av T) (fi : frI iv iv' S) (fa : frA av av' S') (hS : ∀ x ∈ S, x ≠ 7 ∧ x ≠ 8 ∧ x ≠ 9) (hS' : ∀ x ∈ S', ¬ (29 ≤ x ∧ x ≤ 40)) : tX iv' av' T := by
  obtain ⟨h1, h2, h3, h4, h5, h6, h7⟩ := h
  refine ⟨bX_ext h1 (fi 7 (fun z => (hS 7 z).1 rfl)) (fun j j1 j2 => fa j (fun z => hS' j z ⟨j1, by omega⟩)), (fi 8 (fun z => (hS 8 z).2.1 rfl)).trans h2, h3, (fi 9 (fun z => (hS 9 z).2.2 rfl)).trans h4, h5, h6, fun k hk => ?_⟩
  rw [fa 40 (fun z => hS' 40 z (by decide))]
  exact h7 k hk
theorem gX_fr {iv iv' : Nat → Int32} {av av' : Nat → Nat → Int32} {G : List Nat × Nat × Nat} {S S' : List Nat} (h : gX iv av G) (fi : frI iv iv' S) (fa : frA av av' S') (hS : ∀ x ∈ S, x ≠ 54 ∧ x ≠ 55 ∧ x ≠ 70) (hS' : ∀ x ∈ S', x ≠ 41) : gX iv' av' G := by
  obtain ⟨h1, h2, h3, h4, h5, h6⟩ := h
  refine ⟨(fi 70 (fun z => (hS 70 z).2.2 rfl)).trans h1, h2, h3, fun k hk => ?_, (fi 54 (fun z => (hS 54 z).1 rfl)).trans h5, (fi 55 (fun z => (hS 55 z).2.1 rfl)).trans h6⟩
  rw [fa 41 (fun z => hS' 41 z rfl)]
  exact h4 k hk
