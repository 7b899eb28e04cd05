/-! PART 21: the worlds (printed by wip/whole/gen_world.py) -/
/-- the class: iv its numbers, av its arrays -/
def wX (rm : Nat) (iv : Nat → Int32) (av : Nat → Nat → Int32) (r : pW) : pW := .inr (6, [.ref 2, .ref 7, .ref 13, .ref 23, .ref 29, .ref 33, .ref 37, .int (iv 8), .ref 50, .int (iv 9), .ref 51, .int (iv 70), .ref 52, .ref 53]) ::
  .inr (1, [.int (nI rm), .ref 3, .ref 4, .ref 5, .ref 6, .int (iv 0), .int (iv 1), .int (iv 2), .int (iv 3), .int (iv 4), .int (iv 5)]) ::
  .inl (1, rm + 15728, .inl (av 0)) ::
  .inl (0, 1024, .inl (av 1)) ::
  .inl (0, 1024, .inl (av 2)) ::
  .inl (1, 8192, .inl (av 3)) ::
  .inr (5, [.ref 2, .ref 8, .ref 12, .int (iv 10), .int (iv 11), .int (iv 12), .int (iv 13), .int (iv 14), .int (iv 15), .int (iv 16), .int (iv 17)]) ::
  .inr (2, [.ref 9, .ref 10, .ref 11, .int (iv 30)]) ::
  .inl (0, 120, .inl (av 10)) ::
  .inl (0, 120, .inl (av 11)) ::
  .inl (0, 120, .inl (av 12)) ::
  .inl (0, 6, .inl (av 4)) ::
  .inr (4, [.ref 2, .ref 7, .ref 14, .ref 15, .ref 19, .ref 20, .ref 21, .ref 22, .int (iv 6)]) ::
  .inr (3, [.int (iv 40), .int (iv 41), .int (iv 42), .int (iv 43), .int (iv 44), .int (iv 45)]) ::
  .inr (2, [.ref 16, .ref 17, .ref 18, .int (iv 31)]) ::
  .inl (0, 120, .inl (av 13)) ::
  .inl (0, 120, .inl (av 14)) ::
  .inl (0, 120, .inl (av 15)) ::
  .inl (1, 12, .inl (av 25)) ::
  .inl (1, 12, .inl (av 26)) ::
  .inl (1, 1300, .inl (av 27)) ::
  .inl (1, 64, .inl (av 28)) ::
  .inr (5, [.ref 2, .ref 24, .ref 28, .int (iv 20), .int (iv 21), .int (iv 22), .int (iv 23), .int (iv 24), .int (iv 25), .int (iv 26), .int (iv 27)]) ::
  .inr (2, [.ref 25, .ref 26, .ref 27, .int (iv 32)]) ::
  .inl (0, 120, .inl (av 16)) ::
  .inl (0, 120, .inl (av 17)) ::
  .inl (0, 120, .inl (av 18)) ::
  .inl (0, 6, .inl (av 5)) ::
  .inr (2, [.ref 30, .ref 31, .ref 32, .int (iv 33)]) ::
  .inl (0, 120, .inl (av 19)) ::
  .inl (0, 120, .inl (av 20)) ::
  .inl (0, 120, .inl (av 21)) ::
  .inr (2, [.ref 34, .ref 35, .ref 36, .int (iv 34)]) ::
  .inl (0, 120, .inl (av 22)) ::
  .inl (0, 120, .inl (av 23)) ::
  .inl (0, 120, .inl (av 24)) ::
  .inr (0, [.ref 38, .ref 39, .ref 40, .ref 41, .int (iv 7)]) ::
  .inl (0, 8, .inl (av 29)) ::
  .inl (0, 8, .inl (av 30)) ::
  .inl (0, 8, .inl (av 31)) ::
  .inl (3, 8, .inr (.inr (.inr (.inr (fun j => if j < 8 then some (42 + j) else none))))) ::
  .inl (1, 64, .inl (av 32)) ::
  .inl (1, 64, .inl (av 33)) ::
  .inl (1, 64, .inl (av 34)) ::
  .inl (1, 64, .inl (av 35)) ::
  .inl (1, 64, .inl (av 36)) ::
  .inl (1, 64, .inl (av 37)) ::
  .inl (1, 64, .inl (av 38)) ::
  .inl (1, 64, .inl (av 39)) ::
  .inl (1, 64, .inl (av 40)) ::
  .inl (1, 64, .inl (av 41)) ::
  .inr (3, [.int (iv 50), .int (iv 51), .int (iv 52), .int (iv 53), .int (iv 54), .int (iv 55)]) ::
  .inr (3, [.int (iv 60), .int (iv 61), .int (iv 62), .int (iv 63), .int (iv 64), .int (iv 65)]) :: r
/-- the reference: jv its numbers, bv its arrays -/
def wM (rm : Nat) (jv : Nat → Int32) (bv : Nat → Nat → Int32) : pW := [.inr (7, [.int (nI rm), .ref 55, .ref 56, .ref 57, .ref 58, .ref 59, .ref 60, .ref 61, .ref 62, .ref 63, .int (jv 0), .int (jv 1), .int (jv 2), .int (jv 3), .int (jv 4), .int (jv 5), .ref 64, .int (jv 6), .ref 65, .int (jv 7), .int (jv 8), .int (jv 9), .int (jv 10), .int (jv 11), .ref 66, .ref 67, .ref 68, .ref 69, .int (jv 12), .int (jv 13), .int (jv 14), .int (jv 15), .int (jv 16), .int (jv 17), .int (jv 18), .ref 70, .int (jv 19), .ref 71, .ref 72, .ref 73, .ref 74, .int (jv 20), .ref 75, .ref 76, .ref 77, .ref 78, .int (jv 21), .int (jv 22), .int (jv 23), .int (jv 24), .ref 79]),
  .inl (0, 3, .inl (bv 0)),
  .inl (0, 3, .inl (bv 1)),
  .inl (1, 20000, .inl (bv 2)),
  .inl (1, 20000, .inl (bv 3)),
  .inl (0, 6000, .inl (bv 4)),
  .inl (0, 6000, .inl (bv 5)),
  .inl (0, 6000, .inl (bv 6)),
  .inl (0, 6000, .inl (bv 7)),
  .inl (1, 90000, .inl (bv 8)),
  .inl (1, 64, .inl (bv 9)),
  .inl (1, 64, .inl (bv 10)),
  .inl (0, 8, .inl (bv 11)),
  .inl (0, 8, .inl (bv 12)),
  .inl (0, 8, .inl (bv 13)),
  .inl (1, 512, .inl (bv 14)),
  .inl (0, 12, .inl (bv 15)),
  .inl (2, 12, .inl (bv 16)),
  .inl (0, 120, .inl (bv 17)),
  .inl (0, 120, .inl (bv 18)),
  .inl (0, 120, .inl (bv 19)),
  .inl (0, 120, .inl (bv 20)),
  .inl (0, 120, .inl (bv 21)),
  .inl (0, 120, .inl (bv 22)),
  .inl (1, 1300, .inl (bv 23)),
  .inl (1, 64, .inl (bv 24))]
def up_a (av : Nat → Nat → Int32) (k : Nat) (f : Nat → Int32) : Nat → Nat → Int32 := fun j => if j = k then f else av j
theorem gc_1 (rm : Nat) (iv : Nat → Int32) (av : Nat → Nat → Int32) (r : pW) : gt_c (wX rm iv av r) 1 = some 6 := rfl
theorem gf_1_0 (rm : Nat) (iv : Nat → Int32) (av : Nat → Nat → Int32) (r : pW) : gt_f (wX rm iv av r) 6 1 0 = some (.ref 2) := rfl
theorem gf_1_1 (rm : Nat) (iv : Nat → Int32) (av : Nat → Nat → Int32) (r : pW) : gt_f (wX rm iv av r) 6 1 1 = some (.ref 7) := rfl
theorem gf_1_2 (rm : Nat) (iv : Nat → Int32) (av : Nat → Nat → Int32) (r : pW) : gt_f (wX rm iv av r) 6 1 2 = some (.ref 13) := rfl
theorem gf_1_3 (rm : Nat) (iv : Nat → Int32) (av : Nat → Nat → Int32) (r : pW) : gt_f (wX rm iv av r) 6 1 3 = some (.ref 23) := rfl
theorem gf_1_4 (rm : Nat) (iv : Nat → Int32) (av : Nat → Nat → Int32) (r : pW) : gt_f (wX rm iv av r) 6 1 4 = some (.ref 29) := rfl
theorem gf_1_5 (rm : Nat) (iv : Nat → Int32) (av : Nat → Nat → Int32) (r : pW) : gt_f (wX rm iv av r) 6 1 5 = some (.ref 33) := rfl
theorem gf_1_6 (rm : Nat) (iv : Nat → Int32) (av : Nat → Nat → Int32) (r : pW) : gt_f (wX rm iv av r) 6 1 6 = some (.ref 37) := rfl
theorem gf_1_7 (rm : Nat) (iv : Nat → Int32) (av : Nat → Nat → Int32) (r : pW) : gt_f (wX rm iv av r) 6 1 7 = some (.int (iv 8)) := rfl
theorem pf_1_7 (rm : Nat) (iv : Nat → Int32) (av : Nat → Nat → Int32) (r : pW) (x : Int32) : pt_f (wX rm iv av r) 6 1 7 (.int x) = some (wX rm (upd iv 8 x) av r) := rfl
theorem gf_1_8 (rm : Nat) (iv : Nat → Int32) (av : Nat → Nat → Int32) (r : pW) : gt_f (wX rm iv av r) 6 1 8 = some (.ref 50) := rfl
theorem gf_1_9 (rm : Nat) (iv : Nat → Int32) (av : Nat → Nat → Int32) (r : pW) : gt_f (wX rm iv av r) 6 1 9 = some (.int (iv 9)) := rfl
theorem pf_1_9 (rm : Nat) (iv : Nat → Int32) (av : Nat → Nat → Int32) (r : pW) (x : Int32) : pt_f (wX rm iv av r) 6 1 9 (.int x) = some (wX rm (upd iv 9 x) av r) := rfl
theorem gf_1_10 (rm : Nat) (iv : Nat → Int32) (av : Nat → Nat → Int32) (r : pW) : gt_f (wX rm iv av r) 6 1 10 = some (.ref 51) := rfl
theorem gf_1_11 (rm : Nat) (iv : Nat → Int32) (av : Nat → Nat → Int32) (r : pW) : gt_f (wX rm iv av r) 6 1 11 = some (.int (iv 70)) := rfl
theorem pf_1_11 (rm : Nat) (iv : Nat → Int32) (av : Nat → Nat → Int32) (r : pW) (x : Int32) : pt_f (wX rm iv av r) 6 1 11 (.int x) = some (wX rm (upd iv 70 x) av r) := rfl
theorem gf_1_12 (rm : Nat) (iv : Nat → Int32) (av : Nat → Nat → Int32) (r : pW) : gt_f (wX rm iv av r) 6 1 12 = some (.ref 52) := rfl
theorem gf_1_13 (rm : Nat) (iv : Nat → Int32) (av : Nat → Nat → Int32) (r : pW) : gt_f (wX rm iv av r) 6 1 13 = some (.ref 53) := rfl
theorem gc_2 (rm : Nat) (iv : Nat → Int32) (av : Nat → Nat → Int32) (r : pW) : gt_c (wX rm iv av r) 2 = some 1 := rfl
theorem gf_2_0 (rm : Nat) (iv : Nat → Int32) (av : Nat → Nat → Int32) (r : pW) : gt_f (wX rm iv av r) 1 2 0 = some (.int (nI rm)) := rfl
theorem gf_2_1 (rm : Nat) (iv : Nat → Int32) (av : Nat → Nat → Int32) (r : pW) : gt_f (wX rm iv av r) 1 2 1 = some (.ref 3) := rfl
theorem gf_2_2 (rm : Nat) (iv : Nat → Int32) (av : Nat → Nat → Int32) (r : pW) : gt_f (wX rm iv av r) 1 2 2 = some (.ref 4) := rfl
theorem gf_2_3 (rm : Nat) (iv : Nat → Int32) (av : Nat → Nat → Int32) (r : pW) : gt_f (wX rm iv av r) 1 2 3 = some (.ref 5) := rfl
theorem gf_2_4 (rm : Nat) (iv : Nat → Int32) (av : Nat → Nat → Int32) (r : pW) : gt_f (wX rm iv av r) 1 2 4 = some (.ref 6) := rfl
theorem gf_2_5 (rm : Nat) (iv : Nat → Int32) (av : Nat → Nat → Int32) (r : pW) : gt_f (wX rm iv av r) 1 2 5 = some (.int (iv 0)) := rfl
theorem pf_2_5 (rm : Nat) (iv : Nat → Int32) (av : Nat → Nat → Int32) (r : pW) (x : Int32) : pt_f (wX rm iv av r) 1 2 5 (.int x) = some (wX rm (upd iv 0 x) av r) := rfl
theorem gf_2_6 (rm : Nat) (iv : Nat → Int32) (av : Nat → Nat → Int32) (r : pW) : gt_f (wX rm iv av r) 1 2 6 = some (.int (iv 1)) := rfl
theorem pf_2_6 (rm : Nat) (iv : Nat → Int32) (av : Nat → Nat → Int32) (r : pW) (x : Int32) : pt_f (wX rm iv av r) 1 2 6 (.int x) = some (wX rm (upd iv 1 x) av r) := rfl
theorem gf_2_7 (rm : Nat) (iv : Nat → Int32) (av : Nat → Nat → Int32) (r : pW) : gt_f (wX rm iv av r) 1 2 7 = some (.int (iv 2)) := rfl
theorem pf_2_7 (rm : Nat) (iv : Nat → Int32) (av : Nat → Nat → Int32) (r : pW) (x : Int32) : pt_f (wX rm iv av r) 1 2 7 (.int x) = some (wX rm (upd iv 2 x) av r) := rfl
theorem gf_2_8 (rm : Nat) (iv : Nat → Int32) (av : Nat → Nat → Int32) (r : pW) : gt_f (wX rm iv av r) 1 2 8 = some (.int (iv 3)) := rfl
theorem pf_2_8 (rm : Nat) (iv : Nat → Int32) (av : Nat → Nat → Int32) (r : pW) (x : Int32) : pt_f (wX rm iv av r) 1 2 8 (.int x) = some (wX rm (upd iv 3 x) av r) := rfl
theorem gf_2_9 (rm : Nat) (iv : Nat → Int32) (av : Nat → Nat → Int32) (r : pW) : gt_f (wX rm iv av r) 1 2 9 = some (.int (iv 4)) := rfl
theorem pf_2_9 (rm : Nat) (iv : Nat → Int32) (av : Nat → Nat → Int32) (r : pW) (x : Int32) : pt_f (wX rm iv av r) 1 2 9 (.int x) = some (wX rm (upd iv 4 x) av r) := rfl
theorem gf_2_10 (rm : Nat) (iv : Nat → Int32) (av : Nat → Nat → Int32) (r : pW) : gt_f (wX rm iv av r) 1 2 10 = some (.int (iv 5)) := rfl
theorem pf_2_10 (rm : Nat) (iv : Nat → Int32) (av : Nat → Nat → Int32) (r : pW) (x : Int32) : pt_f (wX rm iv av r) 1 2 10 (.int x) = some (wX rm (upd iv 5 x) av r) := rfl
theorem ga_3 (rm : Nat) (iv : Nat → Int32) (av : Nat → Nat → Int32) (r : pW) : gt_a (wX rm iv av r) 3 = some (1, rm + 15728, .inl (av 0)) := rfl
theorem pa_3 (rm : Nat) (iv : Nat → Int32) (av : Nat → Nat → Int32) (r : pW) (f : Nat → Int32) : pt_a (wX rm iv av r) 3 (1, rm + 15728, .inl f) = wX rm iv (up_a av 0 f) r := rfl
theorem ga_4 (rm : Nat) (iv : Nat → Int32) (av : Nat → Nat → Int32) (r : pW) : gt_a (wX rm iv av r) 4 = some (0, 1024, .inl (av 1)) := rfl
theorem pa_4 (rm : Nat) (iv : Nat → Int32) (av : Nat → Nat → Int32) (r : pW) (f : Nat → Int32) : pt_a (wX rm iv av r) 4 (0, 1024, .inl f) = wX rm iv (up_a av 1 f) r := rfl
theorem ga_5 (rm : Nat) (iv : Nat → Int32) (av : Nat → Nat → Int32) (r : pW) : gt_a (wX rm iv av r) 5 = some (0, 1024, .inl (av 2)) := rfl
theorem pa_5 (rm : Nat) (iv : Nat → Int32) (av : Nat → Nat → Int32) (r : pW) (f : Nat → Int32) : pt_a (wX rm iv av r) 5 (0, 1024, .inl f) = wX rm iv (up_a av 2 f) r := rfl
theorem ga_6 (rm : Nat) (iv : Nat → Int32) (av : Nat → Nat → Int32) (r : pW) : gt_a (wX rm iv av r) 6 = some (1, 8192, .inl (av 3)) := rfl
theorem pa_6 (rm : Nat) (iv : Nat → Int32) (av : Nat → Nat → Int32) (r : pW) (f : Nat → Int32) : pt_a (wX rm iv av r) 6 (1, 8192, .inl f) = wX rm iv (up_a av 3 f) r := rfl
theorem gc_7 (rm : Nat) (iv : Nat → Int32) (av : Nat → Nat → Int32) (r : pW) : gt_c (wX rm iv av r) 7 = some 5 := rfl
theorem gf_7_0 (rm : Nat) (iv : Nat → Int32) (av : Nat → Nat → Int32) (r : pW) : gt_f (wX rm iv av r) 5 7 0 = some (.ref 2) := rfl
theorem gf_7_1 (rm : Nat) (iv : Nat → Int32) (av : Nat → Nat → Int32) (r : pW) : gt_f (wX rm iv av r) 5 7 1 = some (.ref 8) := rfl
theorem gf_7_2 (rm : Nat) (iv : Nat → Int32) (av : Nat → Nat → Int32) (r : pW) : gt_f (wX rm iv av r) 5 7 2 = some (.ref 12) := rfl
theorem gf_7_3 (rm : Nat) (iv : Nat → Int32) (av : Nat → Nat → Int32) (r : pW) : gt_f (wX rm iv av r) 5 7 3 = some (.int (iv 10)) := rfl
theorem pf_7_3 (rm : Nat) (iv : Nat → Int32) (av : Nat → Nat → Int32) (r : pW) (x : Int32) : pt_f (wX rm iv av r) 5 7 3 (.int x) = some (wX rm (upd iv 10 x) av r) := rfl
theorem gf_7_4 (rm : Nat) (iv : Nat → Int32) (av : Nat → Nat → Int32) (r : pW) : gt_f (wX rm iv av r) 5 7 4 = some (.int (iv 11)) := rfl
theorem pf_7_4 (rm : Nat) (iv : Nat → Int32) (av : Nat → Nat → Int32) (r : pW) (x : Int32) : pt_f (wX rm iv av r) 5 7 4 (.int x) = some (wX rm (upd iv 11 x) av r) := rfl
theorem gf_7_5 (rm : Nat) (iv : Nat → Int32) (av : Nat → Nat → Int32) (r : pW) : gt_f (wX rm iv av r) 5 7 5 = some (.int (iv 12)) := rfl
theorem pf_7_5 (rm : Nat) (iv : Nat → Int32) (av : Nat → Nat → Int32) (r : pW) (x : Int32) : pt_f (wX rm iv av r) 5 7 5 (.int x) = some (wX rm (upd iv 12 x) av r) := rfl
theorem gf_7_6 (rm : Nat) (iv : Nat → Int32) (av : Nat → Nat → Int32) (r : pW) : gt_f (wX rm iv av r) 5 7 6 = some (.int (iv 13)) := rfl
theorem pf_7_6 (rm : Nat) (iv : Nat → Int32) (av : Nat → Nat → Int32) (r : pW) (x : Int32) : pt_f (wX rm iv av r) 5 7 6 (.int x) = some (wX rm (upd iv 13 x) av r) := rfl
theorem gf_7_7 (rm : Nat) (iv : Nat → Int32) (av : Nat → Nat → Int32) (r : pW) : gt_f (wX rm iv av r) 5 7 7 = some (.int (iv 14)) := rfl
theorem pf_7_7 (rm : Nat) (iv : Nat → Int32) (av : Nat → Nat → Int32) (r : pW) (x : Int32) : pt_f (wX rm iv av r) 5 7 7 (.int x) = some (wX rm (upd iv 14 x) av r) := rfl
theorem gf_7_8 (rm : Nat) (iv : Nat → Int32) (av : Nat → Nat → Int32) (r : pW) : gt_f (wX rm iv av r) 5 7 8 = some (.int (iv 15)) := rfl
theorem pf_7_8 (rm : Nat) (iv : Nat → Int32) (av : Nat → Nat → Int32) (r : pW) (x : Int32) : pt_f (wX rm iv av r) 5 7 8 (.int x) = some (wX rm (upd iv 15 x) av r) := rfl
theorem gf_7_9 (rm : Nat) (iv : Nat → Int32) (av : Nat → Nat → Int32) (r : pW) : gt_f (wX rm iv av r) 5 7 9 = some (.int (iv 16)) := rfl
theorem pf_7_9 (rm : Nat) (iv : Nat → Int32) (av : Nat → Nat → Int32) (r : pW) (x : Int32) : pt_f (wX rm iv av r) 5 7 9 (.int x) = some (wX rm (upd iv 16 x) av r) := rfl
theorem gf_7_10 (rm : Nat) (iv : Nat → Int32) (av : Nat → Nat → Int32) (r : pW) : gt_f (wX rm iv av r) 5 7 10 = some (.int (iv 17)) := rfl
theorem pf_7_10 (rm : Nat) (iv : Nat → Int32) (av : Nat → Nat → Int32) (r : pW) (x : Int32) : pt_f (wX rm iv av r) 5 7 10 (.int x) = some (wX rm (upd iv 17 x) av r) := rfl
theorem gc_8 (rm : Nat) (iv : Nat → Int32) (av : Nat → Nat → Int32) (r : pW) : gt_c (wX rm iv av r) 8 = some 2 := rfl
theorem gf_8_0 (rm : Nat) (iv : Nat → Int32) (av : Nat → Nat → Int32) (r : pW) : gt_f (wX rm iv av r) 2 8 0 = some (.ref 9) := rfl
theorem gf_8_1 (rm : Nat) (iv : Nat → Int32) (av : Nat → Nat → Int32) (r : pW) : gt_f (wX rm iv av r) 2 8 1 = some (.ref 10) := rfl
theorem gf_8_2 (rm : Nat) (iv : Nat → Int32) (av : Nat → Nat → Int32) (r : pW) : gt_f (wX rm iv av r) 2 8 2 = some (.ref 11) := rfl
theorem gf_8_3 (rm : Nat) (iv : Nat → Int32) (av : Nat → Nat → Int32) (r : pW) : gt_f (wX rm iv av r) 2 8 3 = some (.int (iv 30)) := rfl
theorem pf_8_3 (rm : Nat) (iv : Nat → Int32) (av : Nat → Nat → Int32) (r : pW) (x : Int32) : pt_f (wX rm iv av r) 2 8 3 (.int x) = some (wX rm (upd iv 30 x) av r) := rfl
theorem ga_9 (rm : Nat) (iv : Nat → Int32) (av : Nat → Nat → Int32) (r : pW) : gt_a (wX rm iv av r) 9 = some (0, 120, .inl (av 10)) := rfl
theorem pa_9 (rm : Nat) (iv : Nat → Int32) (av : Nat → Nat → Int32) (r : pW) (f : Nat → Int32) : pt_a (wX rm iv av r) 9 (0, 120, .inl f) = wX rm iv (up_a av 10 f) r := rfl
theorem ga_10 (rm : Nat) (iv : Nat → Int32) (av : Nat → Nat → Int32) (r : pW) : gt_a (wX rm iv av r) 10 = some (0, 120, .inl (av 11)) := rfl
theorem pa_10 (rm : Nat) (iv : Nat → Int32) (av : Nat → Nat → Int32) (r : pW) (f : Nat → Int32) : pt_a (wX rm iv av r) 10 (0, 120, .inl f) = wX rm iv (up_a av 11 f) r := rfl
theorem ga_11 (rm : Nat) (iv : Nat → Int32) (av : Nat → Nat → Int32) (r : pW) : gt_a (wX rm iv av r) 11 = some (0, 120, .inl (av 12)) := rfl
theorem pa_11 (rm : Nat) (iv : Nat → Int32) (av : Nat → Nat → Int32) (r : pW) (f : Nat → Int32) : pt_a (wX rm iv av r) 11 (0, 120, .inl f) = wX rm iv (up_a av 12 f) r := rfl
theorem ga_12 (rm : Nat) (iv : Nat → Int32) (av : Nat → Nat → Int32) (r : pW) : gt_a (wX rm iv av r) 12 = some (0, 6, .inl (av 4)) := rfl
theorem pa_12 (rm : Nat) (iv : Nat → Int32) (av : Nat → Nat → Int32) (r : pW) (f : Nat → Int32) : pt_a (wX rm iv av r) 12 (0, 6, .inl f) = wX rm iv (up_a av 4 f) r := rfl
theorem gc_13 (rm : Nat) (iv : Nat → Int32) (av : Nat → Nat → Int32) (r : pW) : gt_c (wX rm iv av r) 13 = some 4 := rfl
theorem gf_13_0 (rm : Nat) (iv : Nat → Int32) (av : Nat → Nat → Int32) (r : pW) : gt_f (wX rm iv av r) 4 13 0 = some (.ref 2) := rfl
theorem gf_13_1 (rm : Nat) (iv : Nat → Int32) (av : Nat → Nat → Int32) (r : pW) : gt_f (wX rm iv av r) 4 13 1 = some (.ref 7) := rfl
theorem gf_13_2 (rm : Nat) (iv : Nat → Int32) (av : Nat → Nat → Int32) (r : pW) : gt_f (wX rm iv av r) 4 13 2 = some (.ref 14) := rfl
theorem gf_13_3 (rm : Nat) (iv : Nat → Int32) (av : Nat → Nat → Int32) (r : pW) : gt_f (wX rm iv av r) 4 13 3 = some (.ref 15) := rfl
theorem gf_13_4 (rm : Nat) (iv : Nat → Int32) (av : Nat → Nat → Int32) (r : pW) : gt_f (wX rm iv av r) 4 13 4 = some (.ref 19) := rfl
theorem gf_13_5 (rm : Nat) (iv : Nat → Int32) (av : Nat → Nat → Int32) (r : pW) : gt_f (wX rm iv av r) 4 13 5 = some (.ref 20) := rfl
theorem gf_13_6 (rm : Nat) (iv : Nat → Int32) (av : Nat → Nat → Int32) (r : pW) : gt_f (wX rm iv av r) 4 13 6 = some (.ref 21) := rfl
theorem gf_13_7 (rm : Nat) (iv : Nat → Int32) (av : Nat → Nat → Int32) (r : pW) : gt_f (wX rm iv av r) 4 13 7 = some (.ref 22) := rfl
theorem gf_13_8 (rm : Nat) (iv : Nat → Int32) (av : Nat → Nat → Int32) (r : pW) : gt_f (wX rm iv av r) 4 13 8 = some (.int (iv 6)) := rfl
theorem pf_13_8 (rm : Nat) (iv : Nat → Int32) (av : Nat → Nat → Int32) (r : pW) (x : Int32) : pt_f (wX rm iv av r) 4 13 8 (.int x) = some (wX rm (upd iv 6 x) av r) := rfl
theorem gc_14 (rm : Nat) (iv : Nat → Int32) (av : Nat → Nat → Int32) (r : pW) : gt_c (wX rm iv av r) 14 = some 3 := rfl
theorem gf_14_0 (rm : Nat) (iv : Nat → Int32) (av : Nat → Nat → Int32) (r : pW) : gt_f (wX rm iv av r) 3 14 0 = some (.int (iv 40)) := rfl
theorem pf_14_0 (rm : Nat) (iv : Nat → Int32) (av : Nat → Nat → Int32) (r : pW) (x : Int32) : pt_f (wX rm iv av r) 3 14 0 (.int x) = some (wX rm (upd iv 40 x) av r) := rfl
theorem gf_14_1 (rm : Nat) (iv : Nat → Int32) (av : Nat → Nat → Int32) (r : pW) : gt_f (wX rm iv av r) 3 14 1 = some (.int (iv 41)) := rfl
theorem pf_14_1 (rm : Nat) (iv : Nat → Int32) (av : Nat → Nat → Int32) (r : pW) (x : Int32) : pt_f (wX rm iv av r) 3 14 1 (.int x) = some (wX rm (upd iv 41 x) av r) := rfl
theorem gf_14_2 (rm : Nat) (iv : Nat → Int32) (av : Nat → Nat → Int32) (r : pW) : gt_f (wX rm iv av r) 3 14 2 = some (.int (iv 42)) := rfl
theorem pf_14_2 (rm : Nat) (iv : Nat → Int32) (av : Nat → Nat → Int32) (r : pW) (x : Int32) : pt_f (wX rm iv av r) 3 14 2 (.int x) = some (wX rm (upd iv 42 x) av r) := rfl
theorem gf_14_3 (rm : Nat) (iv : Nat → Int32) (av : Nat → Nat → Int32) (r : pW) : gt_f (wX rm iv av r) 3 14 3 = some (.int (iv 43)) := rfl
theorem pf_14_3 (rm : Nat) (iv : Nat → Int32) (av : Nat → Nat → Int32) (r : pW) (x : Int32) : pt_f (wX rm iv av r) 3 14 3 (.int x) = some (wX rm (upd iv 43 x) av r) := rfl
theorem gf_14_4 (rm : Nat) (iv : Nat → Int32) (av : Nat → Nat → Int32) (r : pW) : gt_f (wX rm iv av r) 3 14 4 = some (.int (iv 44)) := rfl
theorem pf_14_4 (rm : Nat) (iv : Nat → Int32) (av : Nat → Nat → Int32) (r : pW) (x : Int32) : pt_f (wX rm iv av r) 3 14 4 (.int x) = some (wX rm (upd iv 44 x) av r) := rfl
theorem gf_14_5 (rm : Nat) (iv : Nat → Int32) (av : Nat → Nat → Int32) (r : pW) : gt_f (wX rm iv av r) 3 14 5 = some (.int (iv 45)) := rfl
theorem pf_14_5 (rm : Nat) (iv : Nat → Int32) (av : Nat → Nat → Int32) (r : pW) (x : Int32) : pt_f (wX rm iv av r) 3 14 5 (.int x) = some (wX rm (upd iv 45 x) av r) := rfl
theorem gc_15 (rm : Nat) (iv : Nat → Int32) (av : Nat → Nat → Int32) (r : pW) : gt_c (wX rm iv av r) 15 = some 2 := rfl
theorem gf_15_0 (rm : Nat) (iv : Nat → Int32) (av : Nat → Nat → Int32) (r : pW) : gt_f (wX rm iv av r) 2 15 0 = some (.ref 16) := rfl
theorem gf_15_1 (rm : Nat) (iv : Nat → Int32) (av : Nat → Nat → Int32) (r : pW) : gt_f (wX rm iv av r) 2 15 1 = some (.ref 17) := rfl
theorem gf_15_2 (rm : Nat) (iv : Nat → Int32) (av : Nat → Nat → Int32) (r : pW) : gt_f (wX rm iv av r) 2 15 2 = some (.ref 18) := rfl
theorem gf_15_3 (rm : Nat) (iv : Nat → Int32) (av : Nat → Nat → Int32) (r : pW) : gt_f (wX rm iv av r) 2 15 3 = some (.int (iv 31)) := rfl
theorem pf_15_3 (rm : Nat) (iv : Nat → Int32) (av : Nat → Nat → Int32) (r : pW) (x : Int32) : pt_f (wX rm iv av r) 2 15 3 (.int x) = some (wX rm (upd iv 31 x) av r) := rfl
theorem ga_16 (rm : Nat) (iv : Nat → Int32) (av : Nat → Nat → Int32) (r : pW) : gt_a (wX rm iv av r) 16 = some (0, 120, .inl (av 13)) := rfl
theorem pa_16 (rm : Nat) (iv : Nat → Int32) (av : Nat → Nat → Int32) (r : pW) (f : Nat → Int32) : pt_a (wX rm iv av r) 16 (0, 120, .inl f) = wX rm iv (up_a av 13 f) r := rfl
theorem ga_17 (rm : Nat) (iv : Nat → Int32) (av : Nat → Nat → Int32) (r : pW) : gt_a (wX rm iv av r) 17 = some (0, 120, .inl (av 14)) := rfl
theorem pa_17 (rm : Nat) (iv : Nat → Int32) (av : Nat → Nat → Int32) (r : pW) (f : Nat → Int32) : pt_a (wX rm iv av r) 17 (0, 120, .inl f) = wX rm iv (up_a av 14 f) r := rfl
theorem ga_18 (rm : Nat) (iv : Nat → Int32) (av : Nat → Nat → Int32) (r : pW) : gt_a (wX rm iv av r) 18 = some (0, 120, .inl (av 15)) := rfl
theorem pa_18 (rm : Nat) (iv : Nat → Int32) (av : Nat → Nat → Int32) (r : pW) (f : Nat → Int32) : pt_a (wX rm iv av r) 18 (0, 120, .inl f) = wX rm iv (up_a av 15 f) r := rfl
theorem ga_19 (rm : Nat) (iv : Nat → Int32) (av : Nat → Nat → Int32) (r : pW) : gt_a (wX rm iv av r) 19 = some (1, 12, .inl (av 25)) := rfl
theorem pa_19 (rm : Nat) (iv : Nat → Int32) (av : Nat → Nat → Int32) (r : pW) (f : Nat → Int32) : pt_a (wX rm iv av r) 19 (1, 12, .inl f) = wX rm iv (up_a av 25 f) r := rfl
theorem ga_20 (rm : Nat) (iv : Nat → Int32) (av : Nat → Nat → Int32) (r : pW) : gt_a (wX rm iv av r) 20 = some (1, 12, .inl (av 26)) := rfl
theorem pa_20 (rm : Nat) (iv : Nat → Int32) (av : Nat → Nat → Int32) (r : pW) (f : Nat → Int32) : pt_a (wX rm iv av r) 20 (1, 12, .inl f) = wX rm iv (up_a av 26 f) r := rfl
theorem ga_21 (rm : Nat) (iv : Nat → Int32) (av : Nat → Nat → Int32) (r : pW) : gt_a (wX rm iv av r) 21 = some (1, 1300, .inl (av 27)) := rfl
theorem pa_21 (rm : Nat) (iv : Nat → Int32) (av : Nat → Nat → Int32) (r : pW) (f : Nat → Int32) : pt_a (wX rm iv av r) 21 (1, 1300, .inl f) = wX rm iv (up_a av 27 f) r := rfl
theorem ga_22 (rm : Nat) (iv : Nat → Int32) (av : Nat → Nat → Int32) (r : pW) : gt_a (wX rm iv av r) 22 = some (1, 64, .inl (av 28)) := rfl
theorem pa_22 (rm : Nat) (iv : Nat → Int32) (av : Nat → Nat → Int32) (r : pW) (f : Nat → Int32) : pt_a (wX rm iv av r) 22 (1, 64, .inl f) = wX rm iv (up_a av 28 f) r := rfl
theorem gc_23 (rm : Nat) (iv : Nat → Int32) (av : Nat → Nat → Int32) (r : pW) : gt_c (wX rm iv av r) 23 = some 5 := rfl
theorem gf_23_0 (rm : Nat) (iv : Nat → Int32) (av : Nat → Nat → Int32) (r : pW) : gt_f (wX rm iv av r) 5 23 0 = some (.ref 2) := rfl
theorem gf_23_1 (rm : Nat) (iv : Nat → Int32) (av : Nat → Nat → Int32) (r : pW) : gt_f (wX rm iv av r) 5 23 1 = some (.ref 24) := rfl
theorem gf_23_2 (rm : Nat) (iv : Nat → Int32) (av : Nat → Nat → Int32) (r : pW) : gt_f (wX rm iv av r) 5 23 2 = some (.ref 28) := rfl
theorem gf_23_3 (rm : Nat) (iv : Nat → Int32) (av : Nat → Nat → Int32) (r : pW) : gt_f (wX rm iv av r) 5 23 3 = some (.int (iv 20)) := rfl
theorem pf_23_3 (rm : Nat) (iv : Nat → Int32) (av : Nat → Nat → Int32) (r : pW) (x : Int32) : pt_f (wX rm iv av r) 5 23 3 (.int x) = some (wX rm (upd iv 20 x) av r) := rfl
theorem gf_23_4 (rm : Nat) (iv : Nat → Int32) (av : Nat → Nat → Int32) (r : pW) : gt_f (wX rm iv av r) 5 23 4 = some (.int (iv 21)) := rfl
theorem pf_23_4 (rm : Nat) (iv : Nat → Int32) (av : Nat → Nat → Int32) (r : pW) (x : Int32) : pt_f (wX rm iv av r) 5 23 4 (.int x) = some (wX rm (upd iv 21 x) av r) := rfl
theorem gf_23_5 (rm : Nat) (iv : Nat → Int32) (av : Nat → Nat → Int32) (r : pW) : gt_f (wX rm iv av r) 5 23 5 = some (.int (iv 22)) := rfl
theorem pf_23_5 (rm : Nat) (iv : Nat → Int32) (av : Nat → Nat → Int32) (r : pW) (x : Int32) : pt_f (wX rm iv av r) 5 23 5 (.int x) = some (wX rm (upd iv 22 x) av r) := rfl
theorem gf_23_6 (rm : Nat) (iv : Nat → Int32) (av : Nat → Nat → Int32) (r : pW) : gt_f (wX rm iv av r) 5 23 6 = some (.int (iv 23)) := rfl
theorem pf_23_6 (rm : Nat) (iv : Nat → Int32) (av : Nat → Nat → Int32) (r : pW) (x : Int32) : pt_f (wX rm iv av r) 5 23 6 (.int x) = some (wX rm (upd iv 23 x) av r) := rfl
theorem gf_23_7 (rm : Nat) (iv : Nat → Int32) (av : Nat → Nat → Int32) (r : pW) : gt_f (wX rm iv av r) 5 23 7 = some (.int (iv 24)) := rfl
theorem pf_23_7 (rm : Nat) (iv : Nat → Int32) (av : Nat → Nat → Int32) (r : pW) (x : Int32) : pt_f (wX rm iv av r) 5 23 7 (.int x) = some (wX rm (upd iv 24 x) av r) := rfl
theorem gf_23_8 (rm : Nat) (iv : Nat → Int32) (av : Nat → Nat → Int32) (r : pW) : gt_f (wX rm iv av r) 5 23 8 = some (.int (iv 25)) := rfl
theorem pf_23_8 (rm : Nat) (iv : Nat → Int32) (av : Nat → Nat → Int32) (r : pW) (x : Int32) : pt_f (wX rm iv av r) 5 23 8 (.int x) = some (wX rm (upd iv 25 x) av r) := rfl
theorem gf_23_9 (rm : Nat) (iv : Nat → Int32) (av : Nat → Nat → Int32) (r : pW) : gt_f (wX rm iv av r) 5 23 9 = some (.int (iv 26)) := rfl
theorem pf_23_9 (rm : Nat) (iv : Nat → Int32) (av : Nat → Nat → Int32) (r : pW) (x : Int32) : pt_f (wX rm iv av r) 5 23 9 (.int x) = some (wX rm (upd iv 26 x) av r) := rfl
theorem gf_23_10 (rm : Nat) (iv : Nat → Int32) (av : Nat → Nat → Int32) (r : pW) : gt_f (wX rm iv av r) 5 23 10 = some (.int (iv 27)) := rfl
theorem pf_23_10 (rm : Nat) (iv : Nat → Int32) (av : Nat → Nat → Int32) (r : pW) (x : Int32) : pt_f (wX rm iv av r) 5 23 10 (.int x) = some (wX rm (upd iv 27 x) av r) := rfl
theorem gc_24 (rm : Nat) (iv : Nat → Int32) (av : Nat → Nat → Int32) (r : pW) : gt_c (wX rm iv av r) 24 = some 2 := rfl
theorem gf_24_0 (rm : Nat) (iv : Nat → Int32) (av : Nat → Nat → Int32) (r : pW) : gt_f (wX rm iv av r) 2 24 0 = some (.ref 25) := rfl
theorem gf_24_1 (rm : Nat) (iv : Nat → Int32) (av : Nat → Nat → Int32) (r : pW) : gt_f (wX rm iv av r) 2 24 1 = some (.ref 26) := rfl
theorem gf_24_2 (rm : Nat) (iv : Nat → Int32) (av : Nat → Nat → Int32) (r : pW) : gt_f (wX rm iv av r) 2 24 2 = some (.ref 27) := rfl
theorem gf_24_3 (rm : Nat) (iv : Nat → Int32) (av : Nat → Nat → Int32) (r : pW) : gt_f (wX rm iv av r) 2 24 3 = some (.int (iv 32)) := rfl
theorem pf_24_3 (rm : Nat) (iv : Nat → Int32) (av : Nat → Nat → Int32) (r : pW) (x : Int32) : pt_f (wX rm iv av r) 2 24 3 (.int x) = some (wX rm (upd iv 32 x) av r) := rfl
theorem ga_25 (rm : Nat) (iv : Nat → Int32) (av : Nat → Nat → Int32) (r : pW) : gt_a (wX rm iv av r) 25 = some (0, 120, .inl (av 16)) := rfl
theorem pa_25 (rm : Nat) (iv : Nat → Int32) (av : Nat → Nat → Int32) (r : pW) (f : Nat → Int32) : pt_a (wX rm iv av r) 25 (0, 120, .inl f) = wX rm iv (up_a av 16 f) r := rfl
theorem ga_26 (rm : Nat) (iv : Nat → Int32) (av : Nat → Nat → Int32) (r : pW) : gt_a (wX rm iv av r) 26 = some (0, 120, .inl (av 17)) := rfl
theorem pa_26 (rm : Nat) (iv : Nat → Int32) (av : Nat → Nat → Int32) (r : pW) (f : Nat → Int32) : pt_a (wX rm iv av r) 26 (0, 120, .inl f) = wX rm iv (up_a av 17 f) r := rfl
theorem ga_27 (rm : Nat) (iv : Nat → Int32) (av : Nat → Nat → Int32) (r : pW) : gt_a (wX rm iv av r) 27 = some (0, 120, .inl (av 18)) := rfl
theorem pa_27 (rm : Nat) (iv : Nat → Int32) (av : Nat → Nat → Int32) (r : pW) (f : Nat → Int32) : pt_a (wX rm iv av r) 27 (0, 120, .inl f) = wX rm iv (up_a av 18 f) r := rfl
theorem ga_28 (rm : Nat) (iv : Nat → Int32) (av : Nat → Nat → Int32) (r : pW) : gt_a (wX rm iv av r) 28 = some (0, 6, .inl (av 5)) := rfl
theorem pa_28 (rm : Nat) (iv : Nat → Int32) (av : Nat → Nat → Int32) (r : pW) (f : Nat → Int32) : pt_a (wX rm iv av r) 28 (0, 6, .inl f) = wX rm iv (up_a av 5 f) r := rfl
theorem gc_29 (rm : Nat) (iv : Nat → Int32) (av : Nat → Nat → Int32) (r : pW) : gt_c (wX rm iv av r) 29 = some 2 := rfl
theorem gf_29_0 (rm : Nat) (iv : Nat → Int32) (av : Nat → Nat → Int32) (r : pW) : gt_f (wX rm iv av r) 2 29 0 = some (.ref 30) := rfl
theorem gf_29_1 (rm : Nat) (iv : Nat → Int32) (av : Nat → Nat → Int32) (r : pW) : gt_f (wX rm iv av r) 2 29 1 = some (.ref 31) := rfl
theorem gf_29_2 (rm : Nat) (iv : Nat → Int32) (av : Nat → Nat → Int32) (r : pW) : gt_f (wX rm iv av r) 2 29 2 = some (.ref 32) := rfl
theorem gf_29_3 (rm : Nat) (iv : Nat → Int32) (av : Nat → Nat → Int32) (r : pW) : gt_f (wX rm iv av r) 2 29 3 = some (.int (iv 33)) := rfl
theorem pf_29_3 (rm : Nat) (iv : Nat → Int32) (av : Nat → Nat → Int32) (r : pW) (x : Int32) : pt_f (wX rm iv av r) 2 29 3 (.int x) = some (wX rm (upd iv 33 x) av r) := rfl
theorem ga_30 (rm : Nat) (iv : Nat → Int32) (av : Nat → Nat → Int32) (r : pW) : gt_a (wX rm iv av r) 30 = some (0, 120, .inl (av 19)) := rfl
theorem pa_30 (rm : Nat) (iv : Nat → Int32) (av : Nat → Nat → Int32) (r : pW) (f : Nat → Int32) : pt_a (wX rm iv av r) 30 (0, 120, .inl f) = wX rm iv (up_a av 19 f) r := rfl
theorem ga_31 (rm : Nat) (iv : Nat → Int32) (av : Nat → Nat → Int32) (r : pW) : gt_a (wX rm iv av r) 31 = some (0, 120, .inl (av 20)) := rfl
theorem pa_31 (rm : Nat) (iv : Nat → Int32) (av : Nat → Nat → Int32) (r : pW) (f : Nat → Int32) : pt_a (wX rm iv av r) 31 (0, 120, .inl f) = wX rm iv (up_a av 20 f) r := rfl
theorem ga_32 (rm : Nat) (iv : Nat → Int32) (av : Nat → Nat → Int32) (r : pW) : gt_a (wX rm iv av r) 32 = some (0, 120, .inl (av 21)) := rfl
theorem pa_32 (rm : Nat) (iv : Nat → Int32) (av : Nat → Nat → Int32) (r : pW) (f : Nat → Int32) : pt_a (wX rm iv av r) 32 (0, 120, .inl f) = wX rm iv (up_a av 21 f) r := rfl
theorem gc_33 (rm : Nat) (iv : Nat → Int32) (av : Nat → Nat → Int32) (r : pW) : gt_c (wX rm iv av r) 33 = some 2 := rfl
theorem gf_33_0 (rm : Nat) (iv : Nat → Int32) (av : Nat → Nat → Int32) (r : pW) : gt_f (wX rm iv av r) 2 33 0 = some (.ref 34) := rfl
theorem gf_33_1 (rm : Nat) (iv : Nat → Int32) (av : Nat → Nat → Int32) (r : pW) : gt_f (wX rm iv av r) 2 33 1 = some (.ref 35) := rfl
theorem gf_33_2 (rm : Nat) (iv : Nat → Int32) (av : Nat → Nat → Int32) (r : pW) : gt_f (wX rm iv av r) 2 33 2 = some (.ref 36) := rfl
theorem gf_33_3 (rm : Nat) (iv : Nat → Int32) (av : Nat → Nat → Int32) (r : pW) : gt_f (wX rm iv av r) 2 33 3 = some (.int (iv 34)) := rfl
theorem pf_33_3 (rm : Nat) (iv : Nat → Int32) (av : Nat → Nat → Int32) (r : pW) (x : Int32) : pt_f (wX rm iv av r) 2 33 3 (.int x) = some (wX rm (upd iv 34 x) av r) := rfl
theorem ga_34 (rm : Nat) (iv : Nat → Int32) (av : Nat → Nat → Int32) (r : pW) : gt_a (wX rm iv av r) 34 = some (0, 120, .inl (av 22)) := rfl
theorem pa_34 (rm : Nat) (iv : Nat → Int32) (av : Nat → Nat → Int32) (r : pW) (f : Nat → Int32) : pt_a (wX rm iv av r) 34 (0, 120, .inl f) = wX rm iv (up_a av 22 f) r := rfl
theorem ga_35 (rm : Nat) (iv : Nat → Int32) (av : Nat → Nat → Int32) (r : pW) : gt_a (wX rm iv av r) 35 = some (0, 120, .inl (av 23)) := rfl
theorem pa_35 (rm : Nat) (iv : Nat → Int32) (av : Nat → Nat → Int32) (r : pW) (f : Nat → Int32) : pt_a (wX rm iv av r) 35 (0, 120, .inl f) = wX rm iv (up_a av 23 f) r := rfl
theorem ga_36 (rm : Nat) (iv : Nat → Int32) (av : Nat → Nat → Int32) (r : pW) : gt_a (wX rm iv av r) 36 = some (0, 120, .inl (av 24)) := rfl
theorem pa_36 (rm : Nat) (iv : Nat → Int32) (av : Nat → Nat → Int32) (r : pW) (f : Nat → Int32) : pt_a (wX rm iv av r) 36 (0, 120, .inl f) = wX rm iv (up_a av 24 f) r := rfl
theorem gc_37 (rm : Nat) (iv : Nat → Int32) (av : Nat → Nat → Int32) (r : pW) : gt_c (wX rm iv av r) 37 = some 0 := rfl
theorem gf_37_0 (rm : Nat) (iv : Nat → Int32) (av : Nat → Nat → Int32) (r : pW) : gt_f (wX rm iv av r) 0 37 0 = some (.ref 38) := rfl
theorem gf_37_1 (rm : Nat) (iv : Nat → Int32) (av : Nat → Nat → Int32) (r : pW) : gt_f (wX rm iv av r) 0 37 1 = some (.ref 39) := rfl
theorem gf_37_2 (rm : Nat) (iv : Nat → Int32) (av : Nat → Nat → Int32) (r : pW) : gt_f (wX rm iv av r) 0 37 2 = some (.ref 40) := rfl
theorem gf_37_3 (rm : Nat) (iv : Nat → Int32) (av : Nat → Nat → Int32) (r : pW) : gt_f (wX rm iv av r) 0 37 3 = some (.ref 41) := rfl
theorem gf_37_4 (rm : Nat) (iv : Nat → Int32) (av : Nat → Nat → Int32) (r : pW) : gt_f (wX rm iv av r) 0 37 4 = some (.int (iv 7)) := rfl
theorem pf_37_4 (rm : Nat) (iv : Nat → Int32) (av : Nat → Nat → Int32) (r : pW) (x : Int32) : pt_f (wX rm iv av r) 0 37 4 (.int x) = some (wX rm (upd iv 7 x) av r) := rfl
theorem ga_38 (rm : Nat) (iv : Nat → Int32) (av : Nat → Nat → Int32) (r : pW) : gt_a (wX rm iv av r) 38 = some (0, 8, .inl (av 29)) := rfl
theorem pa_38 (rm : Nat) (iv : Nat → Int32) (av : Nat → Nat → Int32) (r : pW) (f : Nat → Int32) : pt_a (wX rm iv av r) 38 (0, 8, .inl f) = wX rm iv (up_a av 29 f) r := rfl
theorem ga_39 (rm : Nat) (iv : Nat → Int32) (av : Nat → Nat → Int32) (r : pW) : gt_a (wX rm iv av r) 39 = some (0, 8, .inl (av 30)) := rfl
theorem pa_39 (rm : Nat) (iv : Nat → Int32) (av : Nat → Nat → Int32) (r : pW) (f : Nat → Int32) : pt_a (wX rm iv av r) 39 (0, 8, .inl f) = wX rm iv (up_a av 30 f) r := rfl
theorem ga_40 (rm : Nat) (iv : Nat → Int32) (av : Nat → Nat → Int32) (r : pW) : gt_a (wX rm iv av r) 40 = some (0, 8, .inl (av 31)) := rfl
theorem pa_40 (rm : Nat) (iv : Nat → Int32) (av : Nat → Nat → Int32) (r : pW) (f : Nat → Int32) : pt_a (wX rm iv av r) 40 (0, 8, .inl f) = wX rm iv (up_a av 31 f) r := rfl
theorem ga_41 (rm : Nat) (iv : Nat → Int32) (av : Nat → Nat → Int32) (r : pW) : gt_a (wX rm iv av r) 41 = some (3, 8, .inr (.inr (.inr (.inr (fun j => if j < 8 then some (42 + j) else none))))) := rfl
theorem ga_42 (rm : Nat) (iv : Nat → Int32) (av : Nat → Nat → Int32) (r : pW) : gt_a (wX rm iv av r) 42 = some (1, 64, .inl (av 32)) := rfl
theorem pa_42 (rm : Nat) (iv : Nat → Int32) (av : Nat → Nat → Int32) (r : pW) (f : Nat → Int32) : pt_a (wX rm iv av r) 42 (1, 64, .inl f) = wX rm iv (up_a av 32 f) r := rfl
theorem ga_43 (rm : Nat) (iv : Nat → Int32) (av : Nat → Nat → Int32) (r : pW) : gt_a (wX rm iv av r) 43 = some (1, 64, .inl (av 33)) := rfl
theorem pa_43 (rm : Nat) (iv : Nat → Int32) (av : Nat → Nat → Int32) (r : pW) (f : Nat → Int32) : pt_a (wX rm iv av r) 43 (1, 64, .inl f) = wX rm iv (up_a av 33 f) r := rfl
theorem ga_44 (rm : Nat) (iv : Nat → Int32) (av : Nat → Nat → Int32) (r : pW) : gt_a (wX rm iv av r) 44 = some (1, 64, .inl (av 34)) := rfl
theorem pa_44 (rm : Nat) (iv : Nat → Int32) (av : Nat → Nat → Int32) (r : pW) (f : Nat → Int32) : pt_a (wX rm iv av r) 44 (1, 64, .inl f) = wX rm iv (up_a av 34 f) r := rfl
theorem ga_45 (rm : Nat) (iv : Nat → Int32) (av : Nat → Nat → Int32) (r : pW) : gt_a (wX rm iv av r) 45 = some (1, 64, .inl (av 35)) := rfl
theorem pa_45 (rm : Nat) (iv : Nat → Int32) (av : Nat → Nat → Int32) (r : pW) (f : Nat → Int32) : pt_a (wX rm iv av r) 45 (1, 64, .inl f) = wX rm iv (up_a av 35 f) r := rfl
theorem ga_46 (rm : Nat) (iv : Nat → Int32) (av : Nat → Nat → Int32) (r : pW) : gt_a (wX rm iv av r) 46 = some (1, 64, .inl (av 36)) := rfl
theorem pa_46 (rm : Nat) (iv : Nat → Int32) (av : Nat → Nat → Int32) (r : pW) (f : Nat → Int32) : pt_a (wX rm iv av r) 46 (1, 64, .inl f) = wX rm iv (up_a av 36 f) r := rfl
theorem ga_47 (rm : Nat) (iv : Nat → Int32) (av : Nat → Nat → Int32) (r : pW) : gt_a (wX rm iv av r) 47 = some (1, 64, .inl (av 37)) := rfl
theorem pa_47 (rm : Nat) (iv : Nat → Int32) (av : Nat → Nat → Int32) (r : pW) (f : Nat → Int32) : pt_a (wX rm iv av r) 47 (1, 64, .inl f) = wX rm iv (up_a av 37 f) r := rfl
theorem ga_48 (rm : Nat) (iv : Nat → Int32) (av : Nat → Nat → Int32) (r : pW) : gt_a (wX rm iv av r) 48 = some (1, 64, .inl (av 38)) := rfl
theorem pa_48 (rm : Nat) (iv : Nat → Int32) (av : Nat → Nat → Int32) (r : pW) (f : Nat → Int32) : pt_a (wX rm iv av r) 48 (1, 64, .inl f) = wX rm iv (up_a av 38 f) r := rfl
theorem ga_49 (rm : Nat) (iv : Nat → Int32) (av : Nat → Nat → Int32) (r : pW) : gt_a (wX rm iv av r) 49 = some (1, 64, .inl (av 39)) := rfl
theorem pa_49 (rm : Nat) (iv : Nat → Int32) (av : Nat → Nat → Int32) (r : pW) (f : Nat → Int32) : pt_a (wX rm iv av r) 49 (1, 64, .inl f) = wX rm iv (up_a av 39 f) r := rfl
theorem ga_50 (rm : Nat) (iv : Nat → Int32) (av : Nat → Nat → Int32) (r : pW) : gt_a (wX rm iv av r) 50 = some (1, 64, .inl (av 40)) := rfl
theorem pa_50 (rm : Nat) (iv : Nat → Int32) (av : Nat → Nat → Int32) (r : pW) (f : Nat → Int32) : pt_a (wX rm iv av r) 50 (1, 64, .inl f) = wX rm iv (up_a av 40 f) r := rfl
theorem ga_51 (rm : Nat) (iv : Nat → Int32) (av : Nat → Nat → Int32) (r : pW) : gt_a (wX rm iv av r) 51 = some (1, 64, .inl (av 41)) := rfl
theorem pa_51 (rm : Nat) (iv : Nat → Int32) (av : Nat → Nat → Int32) (r : pW) (f : Nat → Int32) : pt_a (wX rm iv av r) 51 (1, 64, .inl f) = wX rm iv (up_a av 41 f) r := rfl
theorem gc_52 (rm : Nat) (iv : Nat → Int32) (av : Nat → Nat → Int32) (r : pW) : gt_c (wX rm iv av r) 52 = some 3 := rfl
theorem gf_52_0 (rm : Nat) (iv : Nat → Int32) (av : Nat → Nat → Int32) (r : pW) : gt_f (wX rm iv av r) 3 52 0 = some (.int (iv 50)) := rfl
theorem pf_52_0 (rm : Nat) (iv : Nat → Int32) (av : Nat → Nat → Int32) (r : pW) (x : Int32) : pt_f (wX rm iv av r) 3 52 0 (.int x) = some (wX rm (upd iv 50 x) av r) := rfl
theorem gf_52_1 (rm : Nat) (iv : Nat → Int32) (av : Nat → Nat → Int32) (r : pW) : gt_f (wX rm iv av r) 3 52 1 = some (.int (iv 51)) := rfl
theorem pf_52_1 (rm : Nat) (iv : Nat → Int32) (av : Nat → Nat → Int32) (r : pW) (x : Int32) : pt_f (wX rm iv av r) 3 52 1 (.int x) = some (wX rm (upd iv 51 x) av r) := rfl
theorem gf_52_2 (rm : Nat) (iv : Nat → Int32) (av : Nat → Nat → Int32) (r : pW) : gt_f (wX rm iv av r) 3 52 2 = some (.int (iv 52)) := rfl
theorem pf_52_2 (rm : Nat) (iv : Nat → Int32) (av : Nat → Nat → Int32) (r : pW) (x : Int32) : pt_f (wX rm iv av r) 3 52 2 (.int x) = some (wX rm (upd iv 52 x) av r) := rfl
theorem gf_52_3 (rm : Nat) (iv : Nat → Int32) (av : Nat → Nat → Int32) (r : pW) : gt_f (wX rm iv av r) 3 52 3 = some (.int (iv 53)) := rfl
theorem pf_52_3 (rm : Nat) (iv : Nat → Int32) (av : Nat → Nat → Int32) (r : pW) (x : Int32) : pt_f (wX rm iv av r) 3 52 3 (.int x) = some (wX rm (upd iv 53 x) av r) := rfl
theorem gf_52_4 (rm : Nat) (iv : Nat → Int32) (av : Nat → Nat → Int32) (r : pW) : gt_f (wX rm iv av r) 3 52 4 = some (.int (iv 54)) := rfl
theorem pf_52_4 (rm : Nat) (iv : Nat → Int32) (av : Nat → Nat → Int32) (r : pW) (x : Int32) : pt_f (wX rm iv av r) 3 52 4 (.int x) = some (wX rm (upd iv 54 x) av r) := rfl
theorem gf_52_5 (rm : Nat) (iv : Nat → Int32) (av : Nat → Nat → Int32) (r : pW) : gt_f (wX rm iv av r) 3 52 5 = some (.int (iv 55)) := rfl
theorem pf_52_5 (rm : Nat) (iv : Nat → Int32) (av : Nat → Nat → Int32) (r : pW) (x : Int32) : pt_f (wX rm iv av r) 3 52 5 (.int x) = some (wX rm (upd iv 55 x) av r) := rfl
theorem gc_53 (rm : Nat) (iv : Nat → Int32) (av : Nat → Nat → Int32) (r : pW) : gt_c (wX rm iv av r) 53 = some 3 := rfl
theorem gf_53_0 (rm : Nat) (iv : Nat → Int32) (av : Nat → Nat → Int32) (r : pW) : gt_f (wX rm iv av r) 3 53 0 = some (.int (iv 60)) := rfl
theorem pf_53_0 (rm : Nat) (iv : Nat → Int32) (av : Nat → Nat → Int32) (r : pW) (x : Int32) : pt_f (wX rm iv av r) 3 53 0 (.int x) = some (wX rm (upd iv 60 x) av r) := rfl
theorem gf_53_1 (rm : Nat) (iv : Nat → Int32) (av : Nat → Nat → Int32) (r : pW) : gt_f (wX rm iv av r) 3 53 1 = some (.int (iv 61)) := rfl
theorem pf_53_1 (rm : Nat) (iv : Nat → Int32) (av : Nat → Nat → Int32) (r : pW) (x : Int32) : pt_f (wX rm iv av r) 3 53 1 (.int x) = some (wX rm (upd iv 61 x) av r) := rfl
theorem gf_53_2 (rm : Nat) (iv : Nat → Int32) (av : Nat → Nat → Int32) (r : pW) : gt_f (wX rm iv av r) 3 53 2 = some (.int (iv 62)) := rfl
theorem pf_53_2 (rm : Nat) (iv : Nat → Int32) (av : Nat → Nat → Int32) (r : pW) (x : Int32) : pt_f (wX rm iv av r) 3 53 2 (.int x) = some (wX rm (upd iv 62 x) av r) := rfl
theorem gf_53_3 (rm : Nat) (iv : Nat → Int32) (av : Nat → Nat → Int32) (r : pW) : gt_f (wX rm iv av r) 3 53 3 = some (.int (iv 63)) := rfl
theorem pf_53_3 (rm : Nat) (iv : Nat → Int32) (av : Nat → Nat → Int32) (r : pW) (x : Int32) : pt_f (wX rm iv av r) 3 53 3 (.int x) = some (wX rm (upd iv 63 x) av r) := rfl
theorem gf_53_4 (rm : Nat) (iv : Nat → Int32) (av : Nat → Nat → Int32) (r : pW) : gt_f (wX rm iv av r) 3 53 4 = some (.int (iv 64)) := rfl
theorem pf_53_4 (rm : Nat) (iv : Nat → Int32) (av : Nat → Nat → Int32) (r : pW) (x : Int32) : pt_f (wX rm iv av r) 3 53 4 (.int x) = some (wX rm (upd iv 64 x) av r) := rfl
theorem gf_53_5 (rm : Nat) (iv : Nat → Int32) (av : Nat → Nat → Int32) (r : pW) : gt_f (wX rm iv av r) 3 53 5 = some (.int (iv 65)) := rfl
theorem pf_53_5 (rm : Nat) (iv : Nat → Int32) (av : Nat → Nat → Int32) (r : pW) (x : Int32) : pt_f (wX rm iv av r) 3 53 5 (.int x) = some (wX rm (upd iv 65 x) av r) := rfl
theorem gc_54 (rm : Nat) (iv : Nat → Int32) (av : Nat → Nat → Int32) (jv : Nat → Int32) (bv : Nat → Nat → Int32) : gt_c (wX rm iv av (wM rm jv bv)) 54 = some 7 := rfl
theorem gf_54_0 (rm : Nat) (iv : Nat → Int32) (av : Nat → Nat → Int32) (jv : Nat → Int32) (bv : Nat → Nat → Int32) : gt_f (wX rm iv av (wM rm jv bv)) 7 54 0 = some (.int (nI rm)) := rfl
theorem gf_54_1 (rm : Nat) (iv : Nat → Int32) (av : Nat → Nat → Int32) (jv : Nat → Int32) (bv : Nat → Nat → Int32) : gt_f (wX rm iv av (wM rm jv bv)) 7 54 1 = some (.ref 55) := rfl
theorem gf_54_2 (rm : Nat) (iv : Nat → Int32) (av : Nat → Nat → Int32) (jv : Nat → Int32) (bv : Nat → Nat → Int32) : gt_f (wX rm iv av (wM rm jv bv)) 7 54 2 = some (.ref 56) := rfl
theorem gf_54_3 (rm : Nat) (iv : Nat → Int32) (av : Nat → Nat → Int32) (jv : Nat → Int32) (bv : Nat → Nat → Int32) : gt_f (wX rm iv av (wM rm jv bv)) 7 54 3 = some (.ref 57) := rfl
theorem gf_54_4 (rm : Nat) (iv : Nat → Int32) (av : Nat → Nat → Int32) (jv : Nat → Int32) (bv : Nat → Nat → Int32) : gt_f (wX rm iv av (wM rm jv bv)) 7 54 4 = some (.ref 58) := rfl
theorem gf_54_5 (rm : Nat) (iv : Nat → Int32) (av : Nat → Nat → Int32) (jv : Nat → Int32) (bv : Nat → Nat → Int32) : gt_f (wX rm iv av (wM rm jv bv)) 7 54 5 = some (.ref 59) := rfl
theorem gf_54_6 (rm : Nat) (iv : Nat → Int32) (av : Nat → Nat → Int32) (jv : Nat → Int32) (bv : Nat → Nat → Int32) : gt_f (wX rm iv av (wM rm jv bv)) 7 54 6 = some (.ref 60) := rfl
theorem gf_54_7 (rm : Nat) (iv : Nat → Int32) (av : Nat → Nat → Int32) (jv : Nat → Int32) (bv : Nat → Nat → Int32) : gt_f (wX rm iv av (wM rm jv bv)) 7 54 7 = some (.ref 61) := rfl
theorem gf_54_8 (rm : Nat) (iv : Nat → Int32) (av : Nat → Nat → Int32) (jv : Nat → Int32) (bv : Nat → Nat → Int32) : gt_f (wX rm iv av (wM rm jv bv)) 7 54 8 = some (.ref 62) := rfl
theorem gf_54_9 (rm : Nat) (iv : Nat → Int32) (av : Nat → Nat → Int32) (jv : Nat → Int32) (bv : Nat → Nat → Int32) : gt_f (wX rm iv av (wM rm jv bv)) 7 54 9 = some (.ref 63) := rfl
theorem gf_54_10 (rm : Nat) (iv : Nat → Int32) (av : Nat → Nat → Int32) (jv : Nat → Int32) (bv : Nat → Nat → Int32) : gt_f (wX rm iv av (wM rm jv bv)) 7 54 10 = some (.int (jv 0)) := rfl
theorem pf_54_10 (rm : Nat) (iv : Nat → Int32) (av : Nat → Nat → Int32) (jv : Nat → Int32) (bv : Nat → Nat → Int32) (x : Int32) : pt_f (wX rm iv av (wM rm jv bv)) 7 54 10 (.int x) = some (wX rm iv av (wM rm (upd jv 0 x) bv)) := rfl
theorem gf_54_11 (rm : Nat) (iv : Nat → Int32) (av : Nat → Nat → Int32) (jv : Nat → Int32) (bv : Nat → Nat → Int32) : gt_f (wX rm iv av (wM rm jv bv)) 7 54 11 = some (.int (jv 1)) := rfl
theorem pf_54_11 (rm : Nat) (iv : Nat → Int32) (av : Nat → Nat → Int32) (jv : Nat → Int32) (bv : Nat → Nat → Int32) (x : Int32) : pt_f (wX rm iv av (wM rm jv bv)) 7 54 11 (.int x) = some (wX rm iv av (wM rm (upd jv 1 x) bv)) := rfl
theorem gf_54_12 (rm : Nat) (iv : Nat → Int32) (av : Nat → Nat → Int32) (jv : Nat → Int32) (bv : Nat → Nat → Int32) : gt_f (wX rm iv av (wM rm jv bv)) 7 54 12 = some (.int (jv 2)) := rfl
theorem pf_54_12 (rm : Nat) (iv : Nat → Int32) (av : Nat → Nat → Int32) (jv : Nat → Int32) (bv : Nat → Nat → Int32) (x : Int32) : pt_f (wX rm iv av (wM rm jv bv)) 7 54 12 (.int x) = some (wX rm iv av (wM rm (upd jv 2 x) bv)) := rfl
theorem gf_54_13 (rm : Nat) (iv : Nat → Int32) (av : Nat → Nat → Int32) (jv : Nat → Int32) (bv : Nat → Nat → Int32) : gt_f (wX rm iv av (wM rm jv bv)) 7 54 13 = some (.int (jv 3)) := rfl
theorem pf_54_13 (rm : Nat) (iv : Nat → Int32) (av : Nat → Nat → Int32) (jv : Nat → Int32) (bv : Nat → Nat → Int32) (x : Int32) : pt_f (wX rm iv av (wM rm jv bv)) 7 54 13 (.int x) = some (wX rm iv av (wM rm (upd jv 3 x) bv)) := rfl
theorem gf_54_14 (rm : Nat) (iv : Nat → Int32) (av : Nat → Nat → Int32) (jv : Nat → Int32) (bv : Nat → Nat → Int32) : gt_f (wX rm iv av (wM rm jv bv)) 7 54 14 = some (.int (jv 4)) := rfl
theorem pf_54_14 (rm : Nat) (iv : Nat → Int32) (av : Nat → Nat → Int32) (jv : Nat → Int32) (bv : Nat → Nat → Int32) (x : Int32) : pt_f (wX rm iv av (wM rm jv bv)) 7 54 14 (.int x) = some (wX rm iv av (wM rm (upd jv 4 x) bv)) := rfl
theorem gf_54_15 (rm : Nat) (iv : Nat → Int32) (av : Nat → Nat → Int32) (jv : Nat → Int32) (bv : Nat → Nat → Int32) : gt_f (wX rm iv av (wM rm jv bv)) 7 54 15 = some (.int (jv 5)) := rfl
theorem pf_54_15 (rm : Nat) (iv : Nat → Int32) (av : Nat → Nat → Int32) (jv : Nat → Int32) (bv : Nat → Nat → Int32) (x : Int32) : pt_f (wX rm iv av (wM rm jv bv)) 7 54 15 (.int x) = some (wX rm iv av (wM rm (upd jv 5 x) bv)) := rfl
theorem gf_54_16 (rm : Nat) (iv : Nat → Int32) (av : Nat → Nat → Int32) (jv : Nat → Int32) (bv : Nat → Nat → Int32) : gt_f (wX rm iv av (wM rm jv bv)) 7 54 16 = some (.ref 64) := rfl
theorem gf_54_17 (rm : Nat) (iv : Nat → Int32) (av : Nat → Nat → Int32) (jv : Nat → Int32) (bv : Nat → Nat → Int32) : gt_f (wX rm iv av (wM rm jv bv)) 7 54 17 = some (.int (jv 6)) := rfl
theorem pf_54_17 (rm : Nat) (iv : Nat → Int32) (av : Nat → Nat → Int32) (jv : Nat → Int32) (bv : Nat → Nat → Int32) (x : Int32) : pt_f (wX rm iv av (wM rm jv bv)) 7 54 17 (.int x) = some (wX rm iv av (wM rm (upd jv 6 x) bv)) := rfl
theorem gf_54_18 (rm : Nat) (iv : Nat → Int32) (av : Nat → Nat → Int32) (jv : Nat → Int32) (bv : Nat → Nat → Int32) : gt_f (wX rm iv av (wM rm jv bv)) 7 54 18 = some (.ref 65) := rfl
theorem gf_54_19 (rm : Nat) (iv : Nat → Int32) (av : Nat → Nat → Int32) (jv : Nat → Int32) (bv : Nat → Nat → Int32) : gt_f (wX rm iv av (wM rm jv bv)) 7 54 19 = some (.int (jv 7)) := rfl
theorem pf_54_19 (rm : Nat) (iv : Nat → Int32) (av : Nat → Nat → Int32) (jv : Nat → Int32) (bv : Nat → Nat → Int32) (x : Int32) : pt_f (wX rm iv av (wM rm jv bv)) 7 54 19 (.int x) = some (wX rm iv av (wM rm (upd jv 7 x) bv)) := rfl
theorem gf_54_20 (rm : Nat) (iv : Nat → Int32) (av : Nat → Nat → Int32) (jv : Nat → Int32) (bv : Nat → Nat → Int32) : gt_f (wX rm iv av (wM rm jv bv)) 7 54 20 = some (.int (jv 8)) := rfl
theorem pf_54_20 (rm : Nat) (iv : Nat → Int32) (av : Nat → Nat → Int32) (jv : Nat → Int32) (bv : Nat → Nat → Int32) (x : Int32) : pt_f (wX rm iv av (wM rm jv bv)) 7 54 20 (.int x) = some (wX rm iv av (wM rm (upd jv 8 x) bv)) := rfl
theorem gf_54_21 (rm : Nat) (iv : Nat → Int32) (av : Nat → Nat → Int32) (jv : Nat → Int32) (bv : Nat → Nat → Int32) : gt_f (wX rm iv av (wM rm jv bv)) 7 54 21 = some (.int (jv 9)) := rfl
theorem pf_54_21 (rm : Nat) (iv : Nat → Int32) (av : Nat → Nat → Int32) (jv : Nat → Int32) (bv : Nat → Nat → Int32) (x : Int32) : pt_f (wX rm iv av (wM rm jv bv)) 7 54 21 (.int x) = some (wX rm iv av (wM rm (upd jv 9 x) bv)) := rfl
theorem gf_54_22 (rm : Nat) (iv : Nat → Int32) (av : Nat → Nat → Int32) (jv : Nat → Int32) (bv : Nat → Nat → Int32) : gt_f (wX rm iv av (wM rm jv bv)) 7 54 22 = some (.int (jv 10)) := rfl
theorem pf_54_22 (rm : Nat) (iv : Nat → Int32) (av : Nat → Nat → Int32) (jv : Nat → Int32) (bv : Nat → Nat → Int32) (x : Int32) : pt_f (wX rm iv av (wM rm jv bv)) 7 54 22 (.int x) = some (wX rm iv av (wM rm (upd jv 10 x) bv)) := rfl
theorem gf_54_23 (rm : Nat) (iv : Nat → Int32) (av : Nat → Nat → Int32) (jv : Nat → Int32) (bv : Nat → Nat → Int32) : gt_f (wX rm iv av (wM rm jv bv)) 7 54 23 = some (.int (jv 11)) := rfl
theorem pf_54_23 (rm : Nat) (iv : Nat → Int32) (av : Nat → Nat → Int32) (jv : Nat → Int32) (bv : Nat → Nat → Int32) (x : Int32) : pt_f (wX rm iv av (wM rm jv bv)) 7 54 23 (.int x) = some (wX rm iv av (wM rm (upd jv 11 x) bv)) := rfl
theorem gf_54_24 (rm : Nat) (iv : Nat → Int32) (av : Nat → Nat → Int32) (jv : Nat → Int32) (bv : Nat → Nat → Int32) : gt_f (wX rm iv av (wM rm jv bv)) 7 54 24 = some (.ref 66) := rfl
theorem gf_54_25 (rm : Nat) (iv : Nat → Int32) (av : Nat → Nat → Int32) (jv : Nat → Int32) (bv : Nat → Nat → Int32) : gt_f (wX rm iv av (wM rm jv bv)) 7 54 25 = some (.ref 67) := rfl
theorem gf_54_26 (rm : Nat) (iv : Nat → Int32) (av : Nat → Nat → Int32) (jv : Nat → Int32) (bv : Nat → Nat → Int32) : gt_f (wX rm iv av (wM rm jv bv)) 7 54 26 = some (.ref 68) := rfl
theorem gf_54_27 (rm : Nat) (iv : Nat → Int32) (av : Nat → Nat → Int32) (jv : Nat → Int32) (bv : Nat → Nat → Int32) : gt_f (wX rm iv av (wM rm jv bv)) 7 54 27 = some (.ref 69) := rfl
theorem gf_54_28 (rm : Nat) (iv : Nat → Int32) (av : Nat → Nat → Int32) (jv : Nat → Int32) (bv : Nat → Nat → Int32) : gt_f (wX rm iv av (wM rm jv bv)) 7 54 28 = some (.int (jv 12)) := rfl
theorem pf_54_28 (rm : Nat) (iv : Nat → Int32) (av : Nat → Nat → Int32) (jv : Nat → Int32) (bv : Nat → Nat → Int32) (x : Int32) : pt_f (wX rm iv av (wM rm jv bv)) 7 54 28 (.int x) = some (wX rm iv av (wM rm (upd jv 12 x) bv)) := rfl
theorem gf_54_29 (rm : Nat) (iv : Nat → Int32) (av : Nat → Nat → Int32) (jv : Nat → Int32) (bv : Nat → Nat → Int32) : gt_f (wX rm iv av (wM rm jv bv)) 7 54 29 = some (.int (jv 13)) := rfl
theorem pf_54_29 (rm : Nat) (iv : Nat → Int32) (av : Nat → Nat → Int32) (jv : Nat → Int32) (bv : Nat → Nat → Int32) (x : Int32) : pt_f (wX rm iv av (wM rm jv bv)) 7 54 29 (.int x) = some (wX rm iv av (wM rm (upd jv 13 x) bv)) := rfl
theorem gf_54_30 (rm : Nat) (iv : Nat → Int32) (av : Nat → Nat → Int32) (jv : Nat → Int32) (bv : Nat → Nat → Int32) : gt_f (wX rm iv av (wM rm jv bv)) 7 54 30 = some (.int (jv 14)) := rfl
theorem pf_54_30 (rm : Nat) (iv : Nat → Int32) (av : Nat → Nat → Int32) (jv : Nat → Int32) (bv : Nat → Nat → Int32) (x : Int32) : pt_f (wX rm iv av (wM rm jv bv)) 7 54 30 (.int x) = some (wX rm iv av (wM rm (upd jv 14 x) bv)) := rfl
theorem gf_54_31 (rm : Nat) (iv : Nat → Int32) (av : Nat → Nat → Int32) (jv : Nat → Int32) (bv : Nat → Nat → Int32) : gt_f (wX rm iv av (wM rm jv bv)) 7 54 31 = some (.int (jv 15)) := rfl
theorem pf_54_31 (rm : Nat) (iv : Nat → Int32) (av : Nat → Nat → Int32) (jv : Nat → Int32) (bv : Nat → Nat → Int32) (x : Int32) : pt_f (wX rm iv av (wM rm jv bv)) 7 54 31 (.int x) = some (wX rm iv av (wM rm (upd jv 15 x) bv)) := rfl
theorem gf_54_32 (rm : Nat) (iv : Nat → Int32) (av : Nat → Nat → Int32) (jv : Nat → Int32) (bv : Nat → Nat → Int32) : gt_f (wX rm iv av (wM rm jv bv)) 7 54 32 = some (.int (jv 16)) := rfl
theorem pf_54_32 (rm : Nat) (iv : Nat → Int32) (av : Nat → Nat → Int32) (jv : Nat → Int32) (bv : Nat → Nat → Int32) (x : Int32) : pt_f (wX rm iv av (wM rm jv bv)) 7 54 32 (.int x) = some (wX rm iv av (wM rm (upd jv 16 x) bv)) := rfl
theorem gf_54_33 (rm : Nat) (iv : Nat → Int32) (av : Nat → Nat → Int32) (jv : Nat → Int32) (bv : Nat → Nat → Int32) : gt_f (wX rm iv av (wM rm jv bv)) 7 54 33 = some (.int (jv 17)) := rfl
theorem pf_54_33 (rm : Nat) (iv : Nat → Int32) (av : Nat → Nat → Int32) (jv : Nat → Int32) (bv : Nat → Nat → Int32) (x : Int32) : pt_f (wX rm iv av (wM rm jv bv)) 7 54 33 (.int x) = some (wX rm iv av (wM rm (upd jv 17 x) bv)) := rfl
theorem gf_54_34 (rm : Nat) (iv : Nat → Int32) (av : Nat → Nat → Int32) (jv : Nat → Int32) (bv : Nat → Nat → Int32) : gt_f (wX rm iv av (wM rm jv bv)) 7 54 34 = some (.int (jv 18)) := rfl
theorem pf_54_34 (rm : Nat) (iv : Nat → Int32) (av : Nat → Nat → Int32) (jv : Nat → Int32) (bv : Nat → Nat → Int32) (x : Int32) : pt_f (wX rm iv av (wM rm jv bv)) 7 54 34 (.int x) = some (wX rm iv av (wM rm (upd jv 18 x) bv)) := rfl
theorem gf_54_35 (rm : Nat) (iv : Nat → Int32) (av : Nat → Nat → Int32) (jv : Nat → Int32) (bv : Nat → Nat → Int32) : gt_f (wX rm iv av (wM rm jv bv)) 7 54 35 = some (.ref 70) := rfl
theorem gf_54_36 (rm : Nat) (iv : Nat → Int32) (av : Nat → Nat → Int32) (jv : Nat → Int32) (bv : Nat → Nat → Int32) : gt_f (wX rm iv av (wM rm jv bv)) 7 54 36 = some (.int (jv 19)) := rfl
theorem pf_54_36 (rm : Nat) (iv : Nat → Int32) (av : Nat → Nat → Int32) (jv : Nat → Int32) (bv : Nat → Nat → Int32) (x : Int32) : pt_f (wX rm iv av (wM rm jv bv)) 7 54 36 (.int x) = some (wX rm iv av (wM rm (upd jv 19 x) bv)) := rfl
theorem gf_54_37 (rm : Nat) (iv : Nat → Int32) (av : Nat → Nat → Int32) (jv : Nat → Int32) (bv : Nat → Nat → Int32) : gt_f (wX rm iv av (wM rm jv bv)) 7 54 37 = some (.ref 71) := rfl
theorem gf_54_38 (rm : Nat) (iv : Nat → Int32) (av : Nat → Nat → Int32) (jv : Nat → Int32) (bv : Nat → Nat → Int32) : gt_f (wX rm iv av (wM rm jv bv)) 7 54 38 = some (.ref 72) := rfl
theorem gf_54_39 (rm : Nat) (iv : Nat → Int32) (av : Nat → Nat → Int32) (jv : Nat → Int32) (bv : Nat → Nat → Int32) : gt_f (wX rm iv av (wM rm jv bv)) 7 54 39 = some (.ref 73) := rfl
theorem gf_54_40 (rm : Nat) (iv : Nat → Int32) (av : Nat → Nat → Int32) (jv : Nat → Int32) (bv : Nat → Nat → Int32) : gt_f (wX rm iv av (wM rm jv bv)) 7 54 40 = some (.ref 74) := rfl
theorem gf_54_41 (rm : Nat) (iv : Nat → Int32) (av : Nat → Nat → Int32) (jv : Nat → Int32) (bv : Nat → Nat → Int32) : gt_f (wX rm iv av (wM rm jv bv)) 7 54 41 = some (.int (jv 20)) := rfl
theorem pf_54_41 (rm : Nat) (iv : Nat → Int32) (av : Nat → Nat → Int32) (jv : Nat → Int32) (bv : Nat → Nat → Int32) (x : Int32) : pt_f (wX rm iv av (wM rm jv bv)) 7 54 41 (.int x) = some (wX rm iv av (wM rm (upd jv 20 x) bv)) := rfl
theorem gf_54_42 (rm : Nat) (iv : Nat → Int32) (av : Nat → Nat → Int32) (jv : Nat → Int32) (bv : Nat → Nat → Int32) : gt_f (wX rm iv av (wM rm jv bv)) 7 54 42 = some (.ref 75) := rfl
theorem gf_54_43 (rm : Nat) (iv : Nat → Int32) (av : Nat → Nat → Int32) (jv : Nat → Int32) (bv : Nat → Nat → Int32) : gt_f (wX rm iv av (wM rm jv bv)) 7 54 43 = some (.ref 76) := rfl
theorem gf_54_44 (rm : Nat) (iv : Nat → Int32) (av : Nat → Nat → Int32) (jv : Nat → Int32) (bv : Nat → Nat → Int32) : gt_f (wX rm iv av (wM rm jv bv)) 7 54 44 = some (.ref 77) := rfl
theorem gf_54_45 (rm : Nat) (iv : Nat → Int32) (av : Nat → Nat → Int32) (jv : Nat → Int32) (bv : Nat → Nat → Int32) : gt_f (wX rm iv av (wM rm jv bv)) 7 54 45 = some (.ref 78) := rfl
theorem gf_54_46 (rm : Nat) (iv : Nat → Int32) (av : Nat → Nat → Int32) (jv : Nat → Int32) (bv : Nat → Nat → Int32) : gt_f (wX rm iv av (wM rm jv bv)) 7 54 46 = some (.int (jv 21)) := rfl
theorem pf_54_46 (rm : Nat) (iv : Nat → Int32) (av : Nat → Nat → Int32) (jv : Nat → Int32) (bv : Nat → Nat → Int32) (x : Int32) : pt_f (wX rm iv av (wM rm jv bv)) 7 54 46 (.int x) = some (wX rm iv av (wM rm (upd jv 21 x) bv)) := rfl
theorem gf_54_47 (rm : Nat) (iv : Nat → Int32) (av : Nat → Nat → Int32) (jv : Nat → Int32) (bv : Nat → Nat → Int32) : gt_f (wX rm iv av (wM rm jv bv)) 7 54 47 = some (.int (jv 22)) := rfl
theorem pf_54_47 (rm : Nat) (iv : Nat → Int32) (av : Nat → Nat → Int32) (jv : Nat → Int32) (bv : Nat → Nat → Int32) (x : Int32) : pt_f (wX rm iv av (wM rm jv bv)) 7 54 47 (.int x) = some (wX rm iv av (wM rm (upd jv 22 x) bv)) := rfl
theorem gf_54_48 (rm : Nat) (iv : Nat → Int32) (av : Nat → Nat → Int32) (jv : Nat → Int32) (bv : Nat → Nat → Int32) : gt_f (wX rm iv av (wM rm jv bv)) 7 54 48 = some (.int (jv 23)) := rfl
theorem pf_54_48 (rm : Nat) (iv : Nat → Int32) (av : Nat → Nat → Int32) (jv : Nat → Int32) (bv : Nat → Nat → Int32) (x : Int32) : pt_f (wX rm iv av (wM rm jv bv)) 7 54 48 (.int x) = some (wX rm iv av (wM rm (upd jv 23 x) bv)) := rfl
theorem gf_54_49 (rm : Nat) (iv : Nat → Int32) (av : Nat → Nat → Int32) (jv : Nat → Int32) (bv : Nat → Nat → Int32) : gt_f (wX rm iv av (wM rm jv bv)) 7 54 49 = some (.int (jv 24)) := rfl
theorem pf_54_49 (rm : Nat) (iv : Nat → Int32) (av : Nat → Nat → Int32) (jv : Nat → Int32) (bv : Nat → Nat → Int32) (x : Int32) : pt_f (wX rm iv av (wM rm jv bv)) 7 54 49 (.int x) = some (wX rm iv av (wM rm (upd jv 24 x) bv)) := rfl
theorem gf_54_50 (rm : Nat) (iv : Nat → Int32) (av : Nat → Nat → Int32) (jv : Nat → Int32) (bv : Nat → Nat → Int32) : gt_f (wX rm iv av (wM rm jv bv)) 7 54 50 = some (.ref 79) := rfl
theorem ga_55 (rm : Nat) (iv : Nat → Int32) (av : Nat → Nat → Int32) (jv : Nat → Int32) (bv : Nat → Nat → Int32) : gt_a (wX rm iv av (wM rm jv bv)) 55 = some (0, 3, .inl (bv 0)) := rfl
theorem pa_55 (rm : Nat) (iv : Nat → Int32) (av : Nat → Nat → Int32) (jv : Nat → Int32) (bv : Nat → Nat → Int32) (f : Nat → Int32) : pt_a (wX rm iv av (wM rm jv bv)) 55 (0, 3, .inl f) = wX rm iv av (wM rm jv (up_a bv 0 f)) := rfl
theorem ga_56 (rm : Nat) (iv : Nat → Int32) (av : Nat → Nat → Int32) (jv : Nat → Int32) (bv : Nat → Nat → Int32) : gt_a (wX rm iv av (wM rm jv bv)) 56 = some (0, 3, .inl (bv 1)) := rfl
theorem pa_56 (rm : Nat) (iv : Nat → Int32) (av : Nat → Nat → Int32) (jv : Nat → Int32) (bv : Nat → Nat → Int32) (f : Nat → Int32) : pt_a (wX rm iv av (wM rm jv bv)) 56 (0, 3, .inl f) = wX rm iv av (wM rm jv (up_a bv 1 f)) := rfl
theorem ga_57 (rm : Nat) (iv : Nat → Int32) (av : Nat → Nat → Int32) (jv : Nat → Int32) (bv : Nat → Nat → Int32) : gt_a (wX rm iv av (wM rm jv bv)) 57 = some (1, 20000, .inl (bv 2)) := rfl
theorem pa_57 (rm : Nat) (iv : Nat → Int32) (av : Nat → Nat → Int32) (jv : Nat → Int32) (bv : Nat → Nat → Int32) (f : Nat → Int32) : pt_a (wX rm iv av (wM rm jv bv)) 57 (1, 20000, .inl f) = wX rm iv av (wM rm jv (up_a bv 2 f)) := rfl
theorem ga_58 (rm : Nat) (iv : Nat → Int32) (av : Nat → Nat → Int32) (jv : Nat → Int32) (bv : Nat → Nat → Int32) : gt_a (wX rm iv av (wM rm jv bv)) 58 = some (1, 20000, .inl (bv 3)) := rfl
theorem pa_58 (rm : Nat) (iv : Nat → Int32) (av : Nat → Nat → Int32) (jv : Nat → Int32) (bv : Nat → Nat → Int32) (f : Nat → Int32) : pt_a (wX rm iv av (wM rm jv bv)) 58 (1, 20000, .inl f) = wX rm iv av (wM rm jv (up_a bv 3 f)) := rfl
theorem ga_59 (rm : Nat) (iv : Nat → Int32) (av : Nat → Nat → Int32) (jv : Nat → Int32) (bv : Nat → Nat → Int32) : gt_a (wX rm iv av (wM rm jv bv)) 59 = some (0, 6000, .inl (bv 4)) := rfl
theorem pa_59 (rm : Nat) (iv : Nat → Int32) (av : Nat → Nat → Int32) (jv : Nat → Int32) (bv : Nat → Nat → Int32) (f : Nat → Int32) : pt_a (wX rm iv av (wM rm jv bv)) 59 (0, 6000, .inl f) = wX rm iv av (wM rm jv (up_a bv 4 f)) := rfl
theorem ga_60 (rm : Nat) (iv : Nat → Int32) (av : Nat → Nat → Int32) (jv : Nat → Int32) (bv : Nat → Nat → Int32) : gt_a (wX rm iv av (wM rm jv bv)) 60 = some (0, 6000, .inl (bv 5)) := rfl
theorem pa_60 (rm : Nat) (iv : Nat → Int32) (av : Nat → Nat → Int32) (jv : Nat → Int32) (bv : Nat → Nat → Int32) (f : Nat → Int32) : pt_a (wX rm iv av (wM rm jv bv)) 60 (0, 6000, .inl f) = wX rm iv av (wM rm jv (up_a bv 5 f)) := rfl
theorem ga_61 (rm : Nat) (iv : Nat → Int32) (av : Nat → Nat → Int32) (jv : Nat → Int32) (bv : Nat → Nat → Int32) : gt_a (wX rm iv av (wM rm jv bv)) 61 = some (0, 6000, .inl (bv 6)) := rfl
theorem pa_61 (rm : Nat) (iv : Nat → Int32) (av : Nat → Nat → Int32) (jv : Nat → Int32) (bv : Nat → Nat → Int32) (f : Nat → Int32) : pt_a (wX rm iv av (wM rm jv bv)) 61 (0, 6000, .inl f) = wX rm iv av (wM rm jv (up_a bv 6 f)) := rfl
theorem ga_62 (rm : Nat) (iv : Nat → Int32) (av : Nat → Nat → Int32) (jv : Nat → Int32) (bv : Nat → Nat → Int32) : gt_a (wX rm iv av (wM rm jv bv)) 62 = some (0, 6000, .inl (bv 7)) := rfl
theorem pa_62 (rm : Nat) (iv : Nat → Int32) (av : Nat → Nat → Int32) (jv : Nat → Int32) (bv : Nat → Nat → Int32) (f : Nat → Int32) : pt_a (wX rm iv av (wM rm jv bv)) 62 (0, 6000, .inl f) = wX rm iv av (wM rm jv (up_a bv 7 f)) := rfl
theorem ga_63 (rm : Nat) (iv : Nat → Int32) (av : Nat → Nat → Int32) (jv : Nat → Int32) (bv : Nat → Nat → Int32) : gt_a (wX rm iv av (wM rm jv bv)) 63 = some (1, 90000, .inl (bv 8)) := rfl
theorem pa_63 (rm : Nat) (iv : Nat → Int32) (av : Nat → Nat → Int32) (jv : Nat → Int32) (bv : Nat → Nat → Int32) (f : Nat → Int32) : pt_a (wX rm iv av (wM rm jv bv)) 63 (1, 90000, .inl f) = wX rm iv av (wM rm jv (up_a bv 8 f)) := rfl
theorem ga_64 (rm : Nat) (iv : Nat → Int32) (av : Nat → Nat → Int32) (jv : Nat → Int32) (bv : Nat → Nat → Int32) : gt_a (wX rm iv av (wM rm jv bv)) 64 = some (1, 64, .inl (bv 9)) := rfl
theorem pa_64 (rm : Nat) (iv : Nat → Int32) (av : Nat → Nat → Int32) (jv : Nat → Int32) (bv : Nat → Nat → Int32) (f : Nat → Int32) : pt_a (wX rm iv av (wM rm jv bv)) 64 (1, 64, .inl f) = wX rm iv av (wM rm jv (up_a bv 9 f)) := rfl
theorem ga_65 (rm : Nat) (iv : Nat → Int32) (av : Nat → Nat → Int32) (jv : Nat → Int32) (bv : Nat → Nat → Int32) : gt_a (wX rm iv av (wM rm jv bv)) 65 = some (1, 64, .inl (bv 10)) := rfl
theorem pa_65 (rm : Nat) (iv : Nat → Int32) (av : Nat → Nat → Int32) (jv : Nat → Int32) (bv : Nat → Nat → Int32) (f : Nat → Int32) : pt_a (wX rm iv av (wM rm jv bv)) 65 (1, 64, .inl f) = wX rm iv av (wM rm jv (up_a bv 10 f)) := rfl
theorem ga_66 (rm : Nat) (iv : Nat → Int32) (av : Nat → Nat → Int32) (jv : Nat → Int32) (bv : Nat → Nat → Int32) : gt_a (wX rm iv av (wM rm jv bv)) 66 = some (0, 8, .inl (bv 11)) := rfl
theorem pa_66 (rm : Nat) (iv : Nat → Int32) (av : Nat → Nat → Int32) (jv : Nat → Int32) (bv : Nat → Nat → Int32) (f : Nat → Int32) : pt_a (wX rm iv av (wM rm jv bv)) 66 (0, 8, .inl f) = wX rm iv av (wM rm jv (up_a bv 11 f)) := rfl
theorem ga_67 (rm : Nat) (iv : Nat → Int32) (av : Nat → Nat → Int32) (jv : Nat → Int32) (bv : Nat → Nat → Int32) : gt_a (wX rm iv av (wM rm jv bv)) 67 = some (0, 8, .inl (bv 12)) := rfl
theorem pa_67 (rm : Nat) (iv : Nat → Int32) (av : Nat → Nat → Int32) (jv : Nat → Int32) (bv : Nat → Nat → Int32) (f : Nat → Int32) : pt_a (wX rm iv av (wM rm jv bv)) 67 (0, 8, .inl f) = wX rm iv av (wM rm jv (up_a bv 12 f)) := rfl
theorem ga_68 (rm : Nat) (iv : Nat → Int32) (av : Nat → Nat → Int32) (jv : Nat → Int32) (bv : Nat → Nat → Int32) : gt_a (wX rm iv av (wM rm jv bv)) 68 = some (0, 8, .inl (bv 13)) := rfl
theorem pa_68 (rm : Nat) (iv : Nat → Int32) (av : Nat → Nat → Int32) (jv : Nat → Int32) (bv : Nat → Nat → Int32) (f : Nat → Int32) : pt_a (wX rm iv av (wM rm jv bv)) 68 (0, 8, .inl f) = wX rm iv av (wM rm jv (up_a bv 13 f)) := rfl
theorem ga_69 (rm : Nat) (iv : Nat → Int32) (av : Nat → Nat → Int32) (jv : Nat → Int32) (bv : Nat → Nat → Int32) : gt_a (wX rm iv av (wM rm jv bv)) 69 = some (1, 512, .inl (bv 14)) := rfl
theorem pa_69 (rm : Nat) (iv : Nat → Int32) (av : Nat → Nat → Int32) (jv : Nat → Int32) (bv : Nat → Nat → Int32) (f : Nat → Int32) : pt_a (wX rm iv av (wM rm jv bv)) 69 (1, 512, .inl f) = wX rm iv av (wM rm jv (up_a bv 14 f)) := rfl
theorem ga_70 (rm : Nat) (iv : Nat → Int32) (av : Nat → Nat → Int32) (jv : Nat → Int32) (bv : Nat → Nat → Int32) : gt_a (wX rm iv av (wM rm jv bv)) 70 = some (0, 12, .inl (bv 15)) := rfl
theorem pa_70 (rm : Nat) (iv : Nat → Int32) (av : Nat → Nat → Int32) (jv : Nat → Int32) (bv : Nat → Nat → Int32) (f : Nat → Int32) : pt_a (wX rm iv av (wM rm jv bv)) 70 (0, 12, .inl f) = wX rm iv av (wM rm jv (up_a bv 15 f)) := rfl
theorem ga_71 (rm : Nat) (iv : Nat → Int32) (av : Nat → Nat → Int32) (jv : Nat → Int32) (bv : Nat → Nat → Int32) : gt_a (wX rm iv av (wM rm jv bv)) 71 = some (2, 12, .inl (bv 16)) := rfl
theorem pa_71 (rm : Nat) (iv : Nat → Int32) (av : Nat → Nat → Int32) (jv : Nat → Int32) (bv : Nat → Nat → Int32) (f : Nat → Int32) : pt_a (wX rm iv av (wM rm jv bv)) 71 (2, 12, .inl f) = wX rm iv av (wM rm jv (up_a bv 16 f)) := rfl
theorem ga_72 (rm : Nat) (iv : Nat → Int32) (av : Nat → Nat → Int32) (jv : Nat → Int32) (bv : Nat → Nat → Int32) : gt_a (wX rm iv av (wM rm jv bv)) 72 = some (0, 120, .inl (bv 17)) := rfl
theorem pa_72 (rm : Nat) (iv : Nat → Int32) (av : Nat → Nat → Int32) (jv : Nat → Int32) (bv : Nat → Nat → Int32) (f : Nat → Int32) : pt_a (wX rm iv av (wM rm jv bv)) 72 (0, 120, .inl f) = wX rm iv av (wM rm jv (up_a bv 17 f)) := rfl
theorem ga_73 (rm : Nat) (iv : Nat → Int32) (av : Nat → Nat → Int32) (jv : Nat → Int32) (bv : Nat → Nat → Int32) : gt_a (wX rm iv av (wM rm jv bv)) 73 = some (0, 120, .inl (bv 18)) := rfl
theorem pa_73 (rm : Nat) (iv : Nat → Int32) (av : Nat → Nat → Int32) (jv : Nat → Int32) (bv : Nat → Nat → Int32) (f : Nat → Int32) : pt_a (wX rm iv av (wM rm jv bv)) 73 (0, 120, .inl f) = wX rm iv av (wM rm jv (up_a bv 18 f)) := rfl
theorem ga_74 (rm : Nat) (iv : Nat → Int32) (av : Nat → Nat → Int32) (jv : Nat → Int32) (bv : Nat → Nat → Int32) : gt_a (wX rm iv av (wM rm jv bv)) 74 = some (0, 120, .inl (bv 19)) := rfl
theorem pa_74 (rm : Nat) (iv : Nat → Int32) (av : Nat → Nat → Int32) (jv : Nat → Int32) (bv : Nat → Nat → Int32) (f : Nat → Int32) : pt_a (wX rm iv av (wM rm jv bv)) 74 (0, 120, .inl f) = wX rm iv av (wM rm jv (up_a bv 19 f)) := rfl
theorem ga_75 (rm : Nat) (iv : Nat → Int32) (av : Nat → Nat → Int32) (jv : Nat → Int32) (bv : Nat → Nat → Int32) : gt_a (wX rm iv av (wM rm jv bv)) 75 = some (0, 120, .inl (bv 20)) := rfl
theorem pa_75 (rm : Nat) (iv : Nat → Int32) (av : Nat → Nat → Int32) (jv : Nat → Int32) (bv : Nat → Nat → Int32) (f : Nat → Int32) : pt_a (wX rm iv av (wM rm jv bv)) 75 (0, 120, .inl f) = wX rm iv av (wM rm jv (up_a bv 20 f)) := rfl
theorem ga_76 (rm : Nat) (iv : Nat → Int32) (av : Nat → Nat → Int32) (jv : Nat → Int32) (bv : Nat → Nat → Int32) : gt_a (wX rm iv av (wM rm jv bv)) 76 = some (0, 120, .inl (bv 21)) := rfl
theorem pa_76 (rm : Nat) (iv : Nat → Int32) (av : Nat → Nat → Int32) (jv : Nat → Int32) (bv : Nat → Nat → Int32) (f : Nat → Int32) : pt_a (wX rm iv av (wM rm jv bv)) 76 (0, 120, .inl f) = wX rm iv av (wM rm jv (up_a bv 21 f)) := rfl
theorem ga_77 (rm : Nat) (iv : Nat → Int32) (av : Nat → Nat → Int32) (jv : Nat → Int32) (bv : Nat → Nat → Int32) : gt_a (wX rm iv av (wM rm jv bv)) 77 = some (0, 120, .inl (bv 22)) := rfl
theorem pa_77 (rm : Nat) (iv : Nat → Int32) (av : Nat → Nat → Int32) (jv : Nat → Int32) (bv : Nat → Nat → Int32) (f : Nat → Int32) : pt_a (wX rm iv av (wM rm jv bv)) 77 (0, 120, .inl f) = wX rm iv av (wM rm jv (up_a bv 22 f)) := rfl
theorem ga_78 (rm : Nat) (iv : Nat → Int32) (av : Nat → Nat → Int32) (jv : Nat → Int32) (bv : Nat → Nat → Int32) : gt_a (wX rm iv av (wM rm jv bv)) 78 = some (1, 1300, .inl (bv 23)) := rfl
theorem pa_78 (rm : Nat) (iv : Nat → Int32) (av : Nat → Nat → Int32) (jv : Nat → Int32) (bv : Nat → Nat → Int32) (f : Nat → Int32) : pt_a (wX rm iv av (wM rm jv bv)) 78 (1, 1300, .inl f) = wX rm iv av (wM rm jv (up_a bv 23 f)) := rfl
theorem ga_79 (rm : Nat) (iv : Nat → Int32) (av : Nat → Nat → Int32) (jv : Nat → Int32) (bv : Nat → Nat → Int32) : gt_a (wX rm iv av (wM rm jv bv)) 79 = some (1, 64, .inl (bv 24)) := rfl
theorem pa_79 (rm : Nat) (iv : Nat → Int32) (av : Nat → Nat → Int32) (jv : Nat → Int32) (bv : Nat → Nat → Int32) (f : Nat → Int32) : pt_a (wX rm iv av (wM rm jv bv)) 79 (1, 64, .inl f) = wX rm iv av (wM rm jv (up_a bv 24 f)) := rfl
