/-! PART 03: a small machine over pure worlds: what an instruction does to locals, stack and world, as a condition on what comes behind it -/
abbrev pE : Type := (Nat × vp_A) ⊕ (Nat × List Value)
abbrev pW : Type := List pE
/-- the script is reference 0, cell j of the world is reference j + 1 -/
def rx_ad (b h : Nat) : Nat → Nat
  | 0 => b
  | k + 1 => h + k
def rx_cv (b h : Nat) : Value → Value
  | .ref k => .ref (rx_ad b h k)
  | v => v
def rx_ca (b h : Nat) (a : vp_A) : vp_A := match a with
  | (n, .inr (.inr (.inr (.inr f)))) => (n, .inr (.inr (.inr (.inr (fun j => (f j).map (rx_ad b h))))))
  | (n, .inl f) => (n, .inl f)
  | (n, .inr (.inl f)) => (n, .inr (.inl f))
  | (n, .inr (.inr (.inl f))) => (n, .inr (.inr (.inl f)))
  | (n, .inr (.inr (.inr (.inl f)))) => (n, .inr (.inr (.inr (.inl f))))
def rx_ce (b h : Nat) (tc : Nat → ClassId) (e : pE) : va_E := match e with
  | .inl (t, a) => .inl (tc t, rx_ca b h a)
  | .inr (c, fs) => .inr (c, fs.map (rx_cv b h))
def rx_cw (b h : Nat) (tc : Nat → ClassId) : Nat → pW → va_W
  | _, [] => []
  | k, e :: l => (k, rx_ce b h tc e) :: rx_cw b h tc (k + 1) l
/-- kinds of arrays -/
def rx_tg : Nat → FieldType
  | 0 => .int
  | 1 => .byte
  | 2 => .boolean
  | _ => .array .byte
def rx_tys (tc : Nat → ClassId) : List (ClassId × FieldType) := [(tc 0, .int), (tc 1, .byte), (tc 2, .boolean), (tc 3, .array .byte)]
-- the world's cells
def gt_f (w : pW) (c o k : Nat) : Option Value := match o with
  | 0 => none
  | j + 1 => match w[j]? with
    | some (.inr (c', fs)) => if c' = c then fs[k]? else none
    | _ => none
def gt_c (w : pW) (o : Nat) : Option Nat := match o with
  | 0 => none
  | j + 1 => match w[j]? with
    | some (.inr (c', _)) => some c'
    | _ => none
def pt_f (w : pW) (c o k : Nat) (v : Value) : Option pW := match o with
  | 0 => none
  | j + 1 => match w[j]? with
    | some (.inr (c', fs)) => if c' = c ∧ k < fs.length then some (w.set j (.inr (c, fs.set k v))) else none
    | _ => none
def gt_a (w : pW) (o : Nat) : Option (Nat × vp_A) := match o with
  | 0 => none
  | j + 1 => match w[j]? with
    | some (.inl a) => some a
    | _ => none
def pt_a (w : pW) (o : Nat) (a : Nat × vp_A) : pW := match o with
  | 0 => w
  | j + 1 => w.set j (.inl a)
def rx_d : rI := (0, .nop, 0, [], 0)
def rx_e (t : List (List rI)) (i : Nat) : rI := (t.getD (i / 16) []).getD (i % 16) rx_d
def rx_md : rM := (⟨"", "", ""⟩, ⟨#[]⟩, 0, none, [], 0, 0)
def rx_m (M : Nat) : rM := rx_ms.getD M rx_md
abbrev mN (M : Nat) : MethodName := (rx_m M).1
abbrev mC (M : Nat) : ByteArray := (rx_m M).2.1
abbrev mL (M : Nat) : Nat := (rx_m M).2.2.1
abbrev mR (M : Nat) : Option FieldType := (rx_m M).2.2.2.1
abbrev mW (M : Nat) : List Nat := (rx_m M).2.2.2.2.1
abbrev mA (M : Nat) : Nat × Nat := (rx_m M).2.2.2.2.2
/-- locals, stack, world, cells and slots made so far -/
abbrev rK : Type := Nat → List (Option Value) → List Value → pW → Nat → Nat → Prop
abbrev rQ : Type := Option Value → pW → Prop
abbrev rC : Type := Nat → List Value → pW → rQ → Prop
-- pieces
def rx_ii (f : Int32 → Int32 → Int32) (st : List Value) (k : List Value → Prop) : Prop := match st with
  | .int y :: .int x :: r => k (.int (f x y) :: r)
  | _ => False
def rx_ll (f : Int64 → Int64 → Int64) (st : List Value) (k : List Value → Prop) : Prop := match st with
  | .long y :: .long x :: r => k (.long (f x y) :: r)
  | _ => False
def rx_li (f : Int64 → Int32 → Int64) (st : List Value) (k : List Value → Prop) : Prop := match st with
  | .int y :: .long x :: r => k (.long (f x y) :: r)
  | _ => False
def rx_di (f : Int32 → Int32 → Int32) (st : List Value) (k : List Value → Prop) : Prop := match st with
  | .int y :: .int x :: r => ¬ y = 0 ∧ k (.int (f x y) :: r)
  | _ => False
def rx_i (f : Int32 → Int32) (st : List Value) (k : List Value → Prop) : Prop := match st with
  | .int x :: r => k (.int (f x) :: r)
  | _ => False
def rx_ldi (L : List (Option Value)) (j : Nat) (k : Value → Prop) : Prop := match L[j]? with
  | some (some (.int x)) => k (.int x)
  | _ => False
def rx_ldl (L : List (Option Value)) (j : Nat) (k : Value → Prop) : Prop := match L[j]? with
  | some (some (.long x)) => k (.long x)
  | _ => False
def rx_lda (L : List (Option Value)) (j : Nat) (k : Value → Prop) : Prop := match L[j]? with
  | some (some (.ref x)) => k (.ref x)
  | _ => False
/-- nothing wide stands just before place j -/
def rx_nw (L : List (Option Value)) : Nat → Bool
  | 0 => true
  | j + 1 => match L[j]? with
    | some (some (.long _)) => false
    | some (some (.double _)) => false
    | _ => true
def rx_sti (L : List (Option Value)) (j : Nat) (st : List Value) (k : List (Option Value) → List Value → Prop) : Prop := match st with
  | .int x :: r => (rx_nw L j = true ∧ j < L.length) ∧ k (L.set j (some (.int x))) r
  | _ => False
def rx_sta (L : List (Option Value)) (j : Nat) (st : List Value) (k : List (Option Value) → List Value → Prop) : Prop := match st with
  | .ref x :: r => (rx_nw L j = true ∧ j < L.length) ∧ k (L.set j (some (.ref x))) r
  | _ => False
def rx_inc (L : List (Option Value)) (j : Nat) (v : Int32) (k : List (Option Value) → Prop) : Prop := match L[j]? with
  | some (some (.int x)) => rx_nw L j = true ∧ k (L.set j (some (.int (x + v))))
  | _ => False
def rx_cmp (o : Jvm.ClassFile.Cond) (x y : Int32) (a b : Prop) : Prop := match o with
  | .eq => (x = y → a) ∧ (¬ x = y → b)
  | .ne => (¬ x = y → a) ∧ (x = y → b)
  | .lt => (x < y → a) ∧ (¬ x < y → b)
  | .ge => (y ≤ x → a) ∧ (¬ y ≤ x → b)
  | .gt => (y < x → a) ∧ (¬ y < x → b)
  | .le => (x ≤ y → a) ∧ (¬ x ≤ y → b)
def rx_at (info : List Nat) (k : Nat) : Nat := info.getD k 0
def rx_sz (l : List Value) : Nat := (l.map fun v => v.category).sum
def rx_call (call : rC) (info : List Nat) (lim : Nat × Nat) (st : List Value) (w : pW) (c s : Nat) (k : List Value → pW → Nat → Nat → Prop) : Prop :=
  let M := rx_at info 0
  let n := rx_at info 1
  match rx_at info 2 with
  | 0 => match st.drop n with
    | .ref o :: r => (n ≤ st.length ∧ (gt_c w o).map (fun ci => (rx_cl.getD ci ("", fun _ => ("", "", "", false), 0)).1) = some (mN M).cls ∧ rx_sz r ≤ 8 ∧ c + (mA M).1 ≤ lim.1 ∧ s + (mA M).2 ≤ lim.2) ∧ call M (.ref o :: (st.take n).reverse) w (fun v w' => k (v.toList ++ r) w' (c + (mA M).1) (s + (mA M).2))
    | _ => False
  | 1 => (n ≤ st.length ∧ rx_sz (st.drop n) ≤ 8 ∧ c + (mA M).1 ≤ lim.1 ∧ s + (mA M).2 ≤ lim.2) ∧ call M (st.take n).reverse w (fun v w' => k (v.toList ++ st.drop n) w' (c + (mA M).1) (s + (mA M).2))
  | 2 => (n ≤ st.length ∧ rx_sz (st.drop n) ≤ 8 ∧ c + (mA M).1 ≤ lim.1 ∧ s + (mA M).2 ≤ lim.2) ∧ call M (st.take n).reverse w (fun v w' => k (v.toList ++ st.drop n) w' (c + (mA M).1) (s + (mA M).2))
  | 3 => match st.drop n with
    | .ref o :: r => (n ≤ st.length ∧ rx_sz r ≤ 8 ∧ c + (mA M).1 ≤ lim.1 ∧ s + (mA M).2 ≤ lim.2) ∧ call M (.ref o :: (st.take n).reverse) w (fun v w' => k (v.toList ++ r) w' (c + (mA M).1) (s + (mA M).2))
    | _ => False
  | 10 => match st with
    | .int y :: .int x :: r => rx_sz r ≤ 8 ∧ k (.int (if x < y then y else x) :: r) w c s
    | _ => False
  | 11 => match st with
    | .int y :: .int x :: r => rx_sz r ≤ 8 ∧ k (.int (if y < x then y else x) :: r) w c s
    | _ => False
  | 12 => match st with
    | .ref _ :: r => rx_sz r ≤ 8 ∧ k r w c s
    | _ => False
  | 13 => match st with
    | .int n :: .int dp :: .ref a1 :: .int sp :: .ref a0 :: r => match gt_a w a0, gt_a w a1 with
      | some (0, n0, .inl f), some (0, n1, .inl g) => (rx_sz r ≤ 8 ∧ ¬ sp < 0 ∧ ¬ dp < 0 ∧ ¬ n < 0 ∧ sp.toNatClampNeg + n.toNatClampNeg ≤ n0 ∧ dp.toNatClampNeg + n.toNatClampNeg ≤ n1) ∧ k r (pt_a w a1 (0, n1, .inl (va_cpy f g sp.toNatClampNeg dp.toNatClampNeg n.toNatClampNeg))) c s
      | _, _ => False
    | _ => False
  | _ => False
def rx_ald (Lx : Nat) (xs : Nat → Int32) (t : Nat → Bool) (st : List Value) (w : pW) (k : List Value → Prop) : Prop := match st with
  | .int i :: .ref 0 :: r => t 0 = true ∧ vp_in i Lx ∧ k (.int (xs i.toNatClampNeg) :: r)
  | .int i :: .ref (o + 1) :: r => match gt_a w (o + 1) with
    | some (tg, n, .inl f) => t tg = true ∧ vp_in i n ∧ k (.int (f i.toNatClampNeg) :: r)
    | _ => False
  | _ => False
def rx_aald (st : List Value) (w : pW) (k : List Value → Prop) : Prop := match st with
  | .int i :: .ref o :: r => match gt_a w o with
    | some (3, n, .inr (.inr (.inr (.inr f)))) => vp_in i n ∧ ∃ y, f i.toNatClampNeg = some y ∧ k (.ref y :: r)
    | _ => False
  | _ => False
def rx_ast (t : Nat → Bool) (st : List Value) (w : pW) (k : List Value → pW → Prop) : Prop := match st with
  | .int x :: .int i :: .ref o :: r => match gt_a w o with
    | some (tg, n, .inl f) => t tg = true ∧ vp_in i n ∧ k r (pt_a w o (tg, n, .inl (upd f i.toNatClampNeg (vp_nar (rx_tg tg) x))))
    | _ => False
  | _ => False
def rx_len (Lx : Nat) (st : List Value) (w : pW) (k : List Value → Prop) : Prop := match st with
  | .ref 0 :: r => k (.int (Int32.ofNat Lx) :: r)
  | .ref (o + 1) :: r => match gt_a w (o + 1) with
    | some (tg, n, _) => tg < 4 ∧ k (.int (Int32.ofNat n) :: r)
    | _ => False
  | _ => False
def rx_tsw (lo hi : Int) (info : List Nat) (st : List Value) (k : Nat → List Value → Prop) : Prop := match st with
  | .int x :: r => (x.toInt < lo ∨ hi < x.toInt → k (rx_at info 0) r) ∧ (¬ x.toInt < lo → ¬ hi < x.toInt → k (rx_at info ((x.toInt - lo).toNat + 1)) r)
  | _ => False
/-- one instruction -/
def rx_st (call : rC) (Lx : Nat) (xs : Nat → Int32) (t : List (List rI)) (ret : Option FieldType) (lim : Nat × Nat) (Q : rQ) (K : rK) (i : Nat) (L : List (Option Value)) (st : List Value) (w : pW) (c s : Nat) : Prop :=
  match rx_e t i with
  | (_, ins, _, info, v) => match ins with
    | .iconst _ => K (i + 1) L (.int v :: st) w c s
    | .bipush _ => K (i + 1) L (.int v :: st) w c s
    | .sipush _ => K (i + 1) L (.int v :: st) w c s
    | .ldc _ => K (i + 1) L (.int v :: st) w c s
    | .ldc2_w _ => K (i + 1) L (.long (Int64.ofNat (rx_at info 0)) :: st) w c s
    | .iload j => rx_ldi L j (fun x => K (i + 1) L (x :: st) w c s)
    | .iload_n j => rx_ldi L j.val (fun x => K (i + 1) L (x :: st) w c s)
    | .lload_n j => rx_ldl L j.val (fun x => K (i + 1) L (x :: st) w c s)
    | .aload j => rx_lda L j (fun x => K (i + 1) L (x :: st) w c s)
    | .aload_n j => rx_lda L j.val (fun x => K (i + 1) L (x :: st) w c s)
    | .istore j => rx_sti L j st (fun L' r => K (i + 1) L' r w c s)
    | .istore_n j => rx_sti L j.val st (fun L' r => K (i + 1) L' r w c s)
    | .astore_n j => rx_sta L j.val st (fun L' r => K (i + 1) L' r w c s)
    | .iinc j _ => rx_inc L j v (fun L' => K (i + 1) L' st w c s)
    | .iadd => rx_ii (fun x y => x + y) st (fun r => K (i + 1) L r w c s)
    | .isub => rx_ii (fun x y => x - y) st (fun r => K (i + 1) L r w c s)
    | .imul => rx_ii (fun x y => x * y) st (fun r => K (i + 1) L r w c s)
    | .iand => rx_ii (fun x y => x &&& y) st (fun r => K (i + 1) L r w c s)
    | .ior => rx_ii (fun x y => x ||| y) st (fun r => K (i + 1) L r w c s)
    | .idiv => rx_di (fun x y => x / y) st (fun r => K (i + 1) L r w c s)
    | .irem => rx_di (fun x y => x - x / y * y) st (fun r => K (i + 1) L r w c s)
    | .ishl => rx_ii (fun x y => x <<< (y &&& 31)) st (fun r => K (i + 1) L r w c s)
    | .ishr => rx_ii (fun x y => x >>> (y &&& 31)) st (fun r => K (i + 1) L r w c s)
    | .iushr => rx_ii (fun x y => (x.toUInt32 >>> (y.toUInt32 &&& Int32.toUInt32 31)).toInt32) st (fun r => K (i + 1) L r w c s)
    | .i2b => rx_i (fun x => x.toInt8.toInt32) st (fun r => K (i + 1) L r w c s)
    | .i2l => match st with
      | .int x :: r => K (i + 1) L (.long x.toInt64 :: r) w c s
      | _ => False
    | .l2i => match st with
      | .long x :: r => K (i + 1) L (.int x.toInt32 :: r) w c s
      | _ => False
    | .ladd => rx_ll (fun x y => x + y) st (fun r => K (i + 1) L r w c s)
    | .lsub => rx_ll (fun x y => x - y) st (fun r => K (i + 1) L r w c s)
    | .land => rx_ll (fun x y => x &&& y) st (fun r => K (i + 1) L r w c s)
    | .lor => rx_ll (fun x y => x ||| y) st (fun r => K (i + 1) L r w c s)
    | .lshl => rx_li (fun x y => x <<< (y.toInt64 &&& 63)) st (fun r => K (i + 1) L r w c s)
    | .lshr => rx_li (fun x y => x >>> (y.toInt64 &&& 63)) st (fun r => K (i + 1) L r w c s)
    | .lushr => rx_li (fun x y => (x.toUInt64 >>> (y.toInt64.toUInt64 &&& Int64.toUInt64 63)).toInt64) st (fun r => K (i + 1) L r w c s)
    | .lcmp => match st with
      | .long y :: .long x :: r => K (i + 1) L (.int (lg_cmp x y) :: r) w c s
      | _ => False
    | .dup => match st with
      | x :: r => x.category = 1 ∧ K (i + 1) L (x :: x :: r) w c s
      | _ => False
    | .pop => match st with
      | x :: r => x.category = 1 ∧ K (i + 1) L r w c s
      | _ => False
    | .goto _ => K (rx_at info 0) L st w c s
    | .ifCond o _ => match st with
      | .int x :: r => rx_cmp o x 0 (K (rx_at info 0) L r w c s) (K (i + 1) L r w c s)
      | _ => False
    | .if_icmp o _ => match st with
      | .int y :: .int x :: r => rx_cmp o x y (K (rx_at info 0) L r w c s) (K (i + 1) L r w c s)
      | _ => False
    | .tableswitch _ lo hi _ => rx_tsw lo hi info st (fun j r => K j L r w c s)
    | .getfield _ => match st with
      | .ref o :: r => match gt_f w (rx_at info 0) o (rx_at info 1) with
        | some x => K (i + 1) L (x :: r) w c s
        | _ => False
      | _ => False
    | .putfield _ => match st with
      | x :: .ref o :: r => match pt_f w (rx_at info 0) o (rx_at info 1) x with
        | some w' => (narrow (rx_ty (rx_at info 0) (rx_at info 1)) x = x ∧ fits (rx_ty (rx_at info 0) (rx_at info 1)) x = true) ∧ K (i + 1) L r w' c s
        | _ => False
      | _ => False
    | .iaload => rx_ald Lx xs (fun t => t == 0) st w (fun r => K (i + 1) L r w c s)
    | .baload => rx_ald Lx xs (fun t => t == 1 || t == 2) st w (fun r => K (i + 1) L r w c s)
    | .aaload => rx_aald st w (fun r => K (i + 1) L r w c s)
    | .iastore => rx_ast (fun t => t == 0) st w (fun r w' => K (i + 1) L r w' c s)
    | .bastore => rx_ast (fun t => t == 1 || t == 2) st w (fun r w' => K (i + 1) L r w' c s)
    | .arraylength => rx_len Lx st w (fun r => K (i + 1) L r w c s)
    | .newarray _ => match st with
      | .int n :: r => (¬ n < 0 ∧ n.toNatClampNeg ≤ 100000 ∧ c + 1 ≤ lim.1 ∧ s + n.toNatClampNeg ≤ lim.2) ∧ K (i + 1) L (.ref (w.length + 1) :: r) (w ++ [.inl (rx_at info 0, n.toNatClampNeg, .inl (fun _ => 0))]) (c + 1) (s + n.toNatClampNeg)
      | _ => False
    | .new _ => (c + 1 ≤ lim.1 ∧ s + (rx_cl.getD (rx_at info 0) ("", fun _ => ("", "", "", false), 0)).2.2 ≤ lim.2) ∧ K (i + 1) L (.ref (w.length + 1) :: st) (w ++ [.inr (rx_at info 0, (List.range (rx_cl.getD (rx_at info 0) ("", fun _ => ("", "", "", false), 0)).2.2).map (fun k => defaultValue (rx_ty (rx_at info 0) k)))]) (c + 1) (s + (rx_cl.getD (rx_at info 0) ("", fun _ => ("", "", "", false), 0)).2.2)
    | .multianewarray _ _ => match st with
      | .int 64 :: .int 8 :: r => (c + 9 ≤ lim.1 ∧ s + 520 ≤ lim.2) ∧ K (i + 1) L (.ref (w.length + 1) :: r) (w ++ .inl (3, 8, .inr (.inr (.inr (.inr (fun j => if j < 8 then some (w.length + 2 + j) else none))))) :: List.replicate 8 (.inl (1, 64, .inl (fun _ => 0)))) (c + 9) (s + 520)
      | _ => False
    | .invokevirtual _ => rx_at info 2 = 0 ∧ rx_call call info lim st w c s (fun r w' c' s' => K (i + 1) L r w' c' s')
    | .invokestatic _ => (rx_at info 2 = 1 ∨ rx_at info 2 = 2 ∨ rx_at info 2 = 10 ∨ rx_at info 2 = 11 ∨ rx_at info 2 = 13) ∧ rx_call call info lim st w c s (fun r w' c' s' => K (i + 1) L r w' c' s')
    | .invokespecial _ => (rx_at info 2 = 3 ∨ rx_at info 2 = 12) ∧ rx_call call info lim st w c s (fun r w' c' s' => K (i + 1) L r w' c' s')
    | .ireturn => match st with
      | [.int x] => (∃ ty, ret = some ty ∧ narrow ty (.int x) = .int x) ∧ Q (some (.int x)) w
      | _ => False
    | .return_ => match st with
      | [] => ret = none ∧ Q none w
      | _ => False
    | _ => False
