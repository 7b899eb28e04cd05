/-! PART 05: the tables hold what the class files say: what is checked -/
def rx_wall : List Cond := lw_tbl.filter goodWord
def rx_ws (M : Nat) : List Cond := Cond.code (mN M) (mC M) (mL M) (mR M) :: rx_wall
def rx_wd : Cond := .count 0
def rx_wg (k : Nat) : Cond := (rx_wt.getD (k / 32) []).getD (k % 32) rx_wd
abbrev wk_w (k : Nat) (w : Cond) : Prop := rx_wg k = w ∧ goodWord w = true
abbrev rx_cd (ci : Nat) : vw_C := rx_cl.getD ci ("", fun _ => ("", "", "", false), 0)
/-- the words of an instruction -/
def wk_i (own nm : String) (e : rI) : Prop := match e with
  | (_, ins, _, info, v) => match ins with
    | .ldc n => wk_w (rx_at info 0) (.constant own n v)
    | .ldc2_w n => wk_w (rx_at info 1) (.constantLong own n (Int64.ofNat (rx_at info 0)))
    | .getfield n => wk_w (rx_at info 2) (.fieldLink own n ((rx_cd (rx_at info 0)).2.1 (rx_at info 1)).1 ((rx_cd (rx_at info 0)).2.1 (rx_at info 1)).2.1 ((rx_cd (rx_at info 0)).2.1 (rx_at info 1)).2.2.1)
    | .putfield n => wk_w (rx_at info 2) (.fieldLink own n ((rx_cd (rx_at info 0)).2.1 (rx_at info 1)).1 ((rx_cd (rx_at info 0)).2.1 (rx_at info 1)).2.1 ((rx_cd (rx_at info 0)).2.1 (rx_at info 1)).2.2.1) ∧ (((rx_cd (rx_at info 0)).2.1 (rx_at info 1)).2.2.2 = false ∨ (nm = "<init>" ∧ ((rx_cd (rx_at info 0)).2.1 (rx_at info 1)).1 = own ∧ ((rx_cd (rx_at info 0)).2.1 (rx_at info 1)).2.2.2 = true))
    | .new n => wk_w (rx_at info 1) (.classLink own n (rx_cd (rx_at info 0)).1) ∧ wk_w (rx_at info 2) (.instantiable (rx_cd (rx_at info 0)).1 (rx_cd (rx_at info 0)).2.2) ∧ wk_w (rx_at info 3) (.initialized (rx_cd (rx_at info 0)).1)
    | .multianewarray n _ => wk_w (rx_at info 0) (.classLink own n "[[B")
    | .invokevirtual n => wk_w (rx_at info 3) (.methodLink own n (mN (rx_at info 0)))
    | .invokespecial n => match rx_at info 2 with
      | 12 => wk_w (rx_at info 3) (.methodLink own n objectInit)
      | _ => wk_w (rx_at info 3) (.methodLink own n (mN (rx_at info 0)))
    | .invokestatic n => match rx_at info 2 with
      | 1 => wk_w (rx_at info 3) (.methodLink own n (mN (rx_at info 0)))
      | 2 => rx_wg (rx_at info 3) = .methodLinkNest own n (mN (rx_at info 0)) "TrailStore"
      | 10 => wk_w (rx_at info 3) (.methodLink own n Lib.Math.max.name)
      | 11 => wk_w (rx_at info 3) (.methodLink own n Lib.Math.min.name)
      | 13 => wk_w (rx_at info 3) (.methodLink own n arraycopyName)
      | _ => True
    | _ => True
def wk_l (own nm : String) : List rI → Prop
  | [] => True
  | e :: l => wk_i own nm e ∧ wk_l own nm l
theorem wk_mem {own nm : String} : ∀ {l : List rI}, wk_l own nm l → ∀ e ∈ l, wk_i own nm e
  | [], _, _, h => absurd h List.not_mem_nil
  | _ :: _, h, e, he => (List.mem_cons.mp he).elim (fun q => q ▸ h.1) (fun q => wk_mem h.2 e q)
theorem wk_at {own nm : String} {t : List (List rI)} (h : ∀ l ∈ t, wk_l own nm l) (i : Nat) : wk_i own nm (rx_e t i) := by
  have h0 : wk_i own nm rx_d := trivial
  unfold rx_e
  rw [List.getD_eq_getElem?_getD (l := t)]
  cases h1 : t[i / 16]? with
  | none => exact h0
  | some l =>
    show wk_i own nm (l.getD (i % 16) rx_d)
    rw [List.getD_eq_getElem?_getD]
    cases h2 : l[i % 16]? with
    | none => exact h0
    | some e => exact wk_mem (h l (List.mem_of_getElem? h1)) e (List.mem_of_getElem? h2)
/-- the words of a callee: its kind 0 on an object, 1 static, 3 a constructor -/
def mk_m (M : Nat) : Prop := wk_w (rx_at (mW M) 2) (.code (mN M) (mC M) (mL M) (mR M)) ∧ wk_w (rx_at (mW M) 3) (.initialized (mN M).cls) ∧
  ((mN M).cls ≠ "java/lang/invoke/MethodHandle" ∧ (mN M).cls ≠ "java/lang/invoke/VarHandle" ∧ (parseMethodDescriptor (mN M).desc).map (fun d => d.parameters.length) = some (rx_at (mW M) 5) ∧ mL M ≤ 21 ∧ plainName (mN M).cls = true) ∧
  (match rx_at (mW M) 4 with
  | 0 => wk_w (rx_at (mW M) 0) (.instanceMethod (mN M)) ∧ wk_w (rx_at (mW M) 1) (.selects (mN M).cls (mN M) (mN M))
  | 1 => wk_w (rx_at (mW M) 0) (.static (mN M))
  | _ => wk_w (rx_at (mW M) 0) (.instanceMethod (mN M)) ∧ (mN M).name = "<init>" ∧ mR M = none)
/-- the instruction behind stands behind -/
def ck_nx (t : List (List rI)) (i ln : Nat) : Bool := decide ((rx_e t (i + 1)).1 = (rx_e t i).1 + ln)
def ck_to (t : List (List rI)) (i j : Nat) (off : Int) : Bool := decide (((rx_e t i).1 : Int) + off = ((rx_e t j).1 : Int))
/-- of a call: the callee is of that kind and takes so many -/
def ck_k (kind M n : Nat) : Bool := decide (M < 149) && decide (rx_at (mW M) 4 = kind) && decide (rx_at (mW M) 5 = n)
def dk_i (cc : ByteArray) (t : List (List rI)) (i : Nat) : Bool :=
  match rx_e t i with
  | (pc, ins, ln, info, v) => match ins with
    | .nop => true
    | .iconst n => decide (decode cc pc = .ok (.iconst n, 1)) && ck_nx t i 1 && decide (Int32.ofInt n = v)
    | .bipush n => decide (decode cc pc = .ok (.bipush n, 2)) && ck_nx t i 2 && decide ((Int8.ofInt n).toInt32 = v)
    | .sipush n => decide (decode cc pc = .ok (.sipush n, 3)) && ck_nx t i 3 && decide ((Int16.ofInt n).toInt32 = v)
    | .ldc n => decide (decode cc pc = .ok (.ldc n, 2)) && ck_nx t i 2
    | .ldc2_w n => decide (decode cc pc = .ok (.ldc2_w n, 3)) && ck_nx t i 3
    | .iload j => decide (decode cc pc = .ok (.iload j, 2)) && ck_nx t i 2
    | .aload j => decide (decode cc pc = .ok (.aload j, 2)) && ck_nx t i 2
    | .istore j => decide (decode cc pc = .ok (.istore j, 2)) && ck_nx t i 2
    | .iinc j n => decide (decode cc pc = .ok (.iinc j n, 3)) && ck_nx t i 3 && decide (Int32.ofInt n = v)
    | .goto off => decide (decode cc pc = .ok (.goto off, 3)) && ck_to t i (rx_at info 0) off
    | .ifCond o off => decide (decode cc pc = .ok (.ifCond o off, 3)) && ck_nx t i 3 && ck_to t i (rx_at info 0) off
    | .if_icmp o off => decide (decode cc pc = .ok (.if_icmp o off, 3)) && ck_nx t i 3 && ck_to t i (rx_at info 0) off
    | .tableswitch d lo hi offs => decide (decode cc pc = .ok (.tableswitch d lo hi offs, ln)) && ck_to t i (rx_at info 0) d && decide (offs.size = (hi - lo + 1).toNat) && (List.range offs.size).all (fun k => ck_to t i (rx_at info (k + 1)) (offs.getD k 0))
    | .getfield n => decide (decode cc pc = .ok (.getfield n, 3)) && ck_nx t i 3 && decide (rx_at info 0 < 8) && decide (rx_at info 1 < (rx_cd (rx_at info 0)).2.2)
    | .putfield n => decide (decode cc pc = .ok (.putfield n, 3)) && ck_nx t i 3 && decide (rx_at info 0 < 8) && decide (rx_at info 1 < (rx_cd (rx_at info 0)).2.2)
    | .new n => decide (decode cc pc = .ok (.new n, 3)) && ck_nx t i 3 && decide (rx_at info 0 < 8)
    | .newarray a => decide (decode cc pc = .ok (.newarray a, 2)) && ck_nx t i 2 && decide (rx_at info 0 < 3) && decide (newarray.typeOf a = rx_tg (rx_at info 0))
    | .multianewarray n k => decide (decode cc pc = .ok (.multianewarray n 2, 4)) && decide (k = 2) && ck_nx t i 4
    | .invokevirtual n => decide (decode cc pc = .ok (.invokevirtual n, 3)) && ck_nx t i 3 && ck_k 0 (rx_at info 0) (rx_at info 1)
    | .invokespecial n => decide (decode cc pc = .ok (.invokespecial n, 3)) && ck_nx t i 3 && (match rx_at info 2 with
      | 12 => true
      | _ => ck_k 3 (rx_at info 0) (rx_at info 1))
    | .invokestatic n => decide (decode cc pc = .ok (.invokestatic n, 3)) && ck_nx t i 3 && (match rx_at info 2 with
      | 1 => ck_k 1 (rx_at info 0) (rx_at info 1)
      | 2 => ck_k 1 (rx_at info 0) (rx_at info 1)
      | _ => true)
    | .ireturn => decide (decode cc pc = .ok (.ireturn, 1))
    | .return_ => decide (decode cc pc = .ok (.return_, 1))
    | ins => decide (decode cc pc = .ok (ins, 1)) && ck_nx t i 1
theorem dk_all {cc : ByteArray} {t : List (List rI)} {n : Nat} (hn : 16 * t.length ≤ n) (h : ∀ i, i < n → dk_i cc t i = true) (i : Nat) : dk_i cc t i = true := by
  by_cases hi : i < n
  · exact h i hi
  · have h1 : rx_e t i = rx_d := by
      unfold rx_e
      have h2 : t.getD (i / 16) [] = [] := by
        rw [List.getD_eq_getElem?_getD, List.getElem?_eq_none (by omega)]
        rfl
      rw [h2]
      rfl
    unfold dk_i
    rw [h1]
    rfl
