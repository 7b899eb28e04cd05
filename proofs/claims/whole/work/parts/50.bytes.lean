/-! PART 50: bytes and numbers on a disk, as Nats -/
/-- byte j of a disk -/
def bN (c : Nat → Int32) (j : Nat) : Nat := (c j).toBitVec.toNat % 256
theorem bN_lt (c : Nat → Int32) (j : Nat) : bN c j < 256 := Nat.mod_lt _ (by decide)
theorem bN_and (c : Nat → Int32) (j : Nat) : c j &&& 255 = nI (bN c j) := pk_and (c j) 8 rfl
theorem nI_or (a b : Nat) : nI a ||| nI b = nI (a ||| b) := by
  apply Int32.toBitVec_inj.mp
  show (nI a).toBitVec ||| (nI b).toBitVec = (nI (a ||| b)).toBitVec
  have h : ∀ n : Nat, (nI n).toBitVec = BitVec.ofNat 32 n := fun n => rfl
  rw [h, h, h]
  apply BitVec.eq_of_toNat_eq
  simp [BitVec.toNat_or, Nat.or_mod_two_pow]
/-- four bytes, the highest first -/
def q4 (b3 b2 b1 b0 : Nat) : Nat := b3 * 16777216 + b2 * 65536 + b1 * 256 + b0
theorem q4_lt {b3 b2 b1 b0 : Nat} (h3 : b3 < 256) (h2 : b2 < 256) (h1 : b1 < 256) (h0 : b0 < 256) : q4 b3 b2 b1 b0 < 4294967296 := by
  unfold q4
  omega
theorem or_add {a b k : Nat} (hb : b < 2 ^ k) : a * 2 ^ k ||| b = a * 2 ^ k + b := by
  rw [Nat.mul_comm]
  exact (Nat.two_pow_add_eq_or_of_lt hb a).symm
theorem q4_or {b3 b2 b1 b0 : Nat} (h3 : b3 < 256) (h2 : b2 < 256) (h1 : b1 < 256) (h0 : b0 < 256) : nI b3 <<< ((24 : Int32) &&& 31) ||| nI b2 <<< ((16 : Int32) &&& 31) ||| nI b1 <<< ((8 : Int32) &&& 31) ||| nI b0 = nI (q4 b3 b2 b1 b0) := by
  rw [pk_shlN ((24 : Int32) &&& 31) 24 (by decide) (by omega), pk_shlN ((16 : Int32) &&& 31) 16 (by decide) (by omega), pk_shlN ((8 : Int32) &&& 31) 8 (by decide) (by omega), nI_or, nI_or, nI_or]
  congr 1
  have e1 : b3 * 2 ^ 24 ||| b2 * 2 ^ 16 = (b3 * 256 + b2) * 2 ^ 16 := by
    rw [or_add (k := 24) (by omega)]
    omega
  have e2 : (b3 * 256 + b2) * 2 ^ 16 ||| b1 * 2 ^ 8 = ((b3 * 256 + b2) * 256 + b1) * 2 ^ 8 := by
    rw [or_add (k := 16) (by omega)]
    omega
  rw [e1, e2, or_add (k := 8) (by omega)]
  unfold q4
  omega
/-- the number at cell j -/
def qN (c : Nat → Int32) (j : Nat) : Nat := q4 (bN c j) (bN c (j + 1)) (bN c (j + 2)) (bN c (j + 3))
/-- the number at place q of the log -/
def qL (rm : Nat) (c : Nat → Int32) (q : Nat) : Nat := q4 (bN c (q % rm)) (bN c ((q + 1) % rm)) (bN c ((q + 2) % rm)) (bN c ((q + 3) % rm))
theorem bx_atN {rm : Nat} {av : Nat → Nat → Int32} {a : Nat} (h : a < rm + 15728) (hr : rm ≤ 4096) : bx_at rm av (nI a) = nI (bN (av 0) a) := by
  unfold bx_at
  rw [if_neg (fun z => z.elim (nI_pos (by omega)) (nI_ge h (by omega))), cl_ofI (a := a), bN_and]
theorem bx_numN {rm : Nat} {av : Nat → Nat → Int32} {a : Nat} (h : a + 3 < rm + 15728) (hr : rm ≤ 4096) : bx_num rm av (nI a) = nI (qN (av 0) a) := by
  unfold bx_num
  rw [show nI a + 1 = nI (a + 1) from nI_add a 1, show nI a + 2 = nI (a + 2) from nI_add a 2, show nI a + 3 = nI (a + 3) from nI_add a 3, bx_atN (by omega) hr, bx_atN (by omega) hr, bx_atN (by omega) hr, bx_atN (by omega) hr]
  exact q4_or (bN_lt _ _) (bN_lt _ _) (bN_lt _ _) (bN_lt _ _)
theorem bl_numN (rm : Nat) (av : Nat → Nat → Int32) (q : Nat) : bl_num rm av q = nI (qL rm (av 0) q) := by
  unfold bl_num
  rw [bN_and, bN_and, bN_and, bN_and]
  exact q4_or (bN_lt _ _) (bN_lt _ _) (bN_lt _ _) (bN_lt _ _)
theorem b4M_N (rm : Nat) (bv : Nat → Nat → Int32) (a q : Nat) : b4M rm bv a q = nI (q4 (bN (bv 2) (plM rm a q)) (bN (bv 2) (plM rm a (q + 1))) (bN (bv 2) (plM rm a (q + 2))) (bN (bv 2) (plM rm a (q + 3)))) := by
  unfold b4M
  rw [bN_and, bN_and, bN_and, bN_and]
  exact q4_or (bN_lt _ _) (bN_lt _ _) (bN_lt _ _) (bN_lt _ _)
/-- a byte as a row holds it -/
def bS (n : Nat) : Int32 := (nI n).toInt8.toInt32
theorem bS_bt (n : Nat) : vp_nar .byte (bS n) = bS n := pk_vb (nI n)
theorem bN_bS {c : Nat → Int32} {j n : Nat} (h : c j = bS n) (hn : n < 256) : bN c j = n := by
  have h1 := bN_and c j
  rw [h] at h1
  have h2 : bS n &&& 255 = nI n := sc_k8 n hn
  rw [h2] at h1
  exact (eq_ofI h1.symm (by have := bN_lt c j; omega) (by omega))
theorem bS_bN {c : Nat → Int32} (hc : bt c) (j : Nat) : c j = bS (bN c j) := by
  have h := hc j
  have e : (c j).toInt8.toInt32 = c j := h
  have h3 := (sc_eq e (bN_lt c j)).mpr (bN_and c j)
  exact h3
