/-! PART 23: branches by their conditions -/
section PZI
variable {Lx : Nat} {xs : Nat → Int32} {d : Nat} {t : List (List rI)} {ret : Option FieldType} {Q : rQ} {i j pc ln : Nat} {o : Int} {v : Int32} {L : List (Option Value)} {st : List Value} {w : pW}
theorem pz_if_eq {x : Int32} (h : rx_e t i = (pc, .ifCond .eq o, ln, [j], v)) (k1 : x = 0 → pz Lx xs d t ret Q j L st w) (k2 : ¬ x = 0 → pz Lx xs d t ret Q (i + 1) L st w) : pz Lx xs d t ret Q i L (.int x :: st) w := pz_if h ⟨k1, k2⟩
theorem pz_ii_eq {x y : Int32} (h : rx_e t i = (pc, .if_icmp .eq o, ln, [j], v)) (k1 : x = y → pz Lx xs d t ret Q j L st w) (k2 : ¬ x = y → pz Lx xs d t ret Q (i + 1) L st w) : pz Lx xs d t ret Q i L (.int y :: .int x :: st) w := pz_ifi h ⟨k1, k2⟩
theorem pz_if_ne {x : Int32} (h : rx_e t i = (pc, .ifCond .ne o, ln, [j], v)) (k1 : ¬ x = 0 → pz Lx xs d t ret Q j L st w) (k2 : x = 0 → pz Lx xs d t ret Q (i + 1) L st w) : pz Lx xs d t ret Q i L (.int x :: st) w := pz_if h ⟨k1, k2⟩
theorem pz_ii_ne {x y : Int32} (h : rx_e t i = (pc, .if_icmp .ne o, ln, [j], v)) (k1 : ¬ x = y → pz Lx xs d t ret Q j L st w) (k2 : x = y → pz Lx xs d t ret Q (i + 1) L st w) : pz Lx xs d t ret Q i L (.int y :: .int x :: st) w := pz_ifi h ⟨k1, k2⟩
theorem pz_if_lt {x : Int32} (h : rx_e t i = (pc, .ifCond .lt o, ln, [j], v)) (k1 : x < 0 → pz Lx xs d t ret Q j L st w) (k2 : ¬ x < 0 → pz Lx xs d t ret Q (i + 1) L st w) : pz Lx xs d t ret Q i L (.int x :: st) w := pz_if h ⟨k1, k2⟩
theorem pz_ii_lt {x y : Int32} (h : rx_e t i = (pc, .if_icmp .lt o, ln, [j], v)) (k1 : x < y → pz Lx xs d t ret Q j L st w) (k2 : ¬ x < y → pz Lx xs d t ret Q (i + 1) L st w) : pz Lx xs d t ret Q i L (.int y :: .int x :: st) w := pz_ifi h ⟨k1, k2⟩
theorem pz_if_ge {x : Int32} (h : rx_e t i = (pc, .ifCond .ge o, ln, [j], v)) (k1 : 0 ≤ x → pz Lx xs d t ret Q j L st w) (k2 : ¬ 0 ≤ x → pz Lx xs d t ret Q (i + 1) L st w) : pz Lx xs d t ret Q i L (.int x :: st) w := pz_if h ⟨k1, k2⟩
theorem pz_ii_ge {x y : Int32} (h : rx_e t i = (pc, .if_icmp .ge o, ln, [j], v)) (k1 : y ≤ x → pz Lx xs d t ret Q j L st w) (k2 : ¬ y ≤ x → pz Lx xs d t ret Q (i + 1) L st w) : pz Lx xs d t ret Q i L (.int y :: .int x :: st) w := pz_ifi h ⟨k1, k2⟩
theorem pz_if_gt {x : Int32} (h : rx_e t i = (pc, .ifCond .gt o, ln, [j], v)) (k1 : 0 < x → pz Lx xs d t ret Q j L st w) (k2 : ¬ 0 < x → pz Lx xs d t ret Q (i + 1) L st w) : pz Lx xs d t ret Q i L (.int x :: st) w := pz_if h ⟨k1, k2⟩
theorem pz_ii_gt {x y : Int32} (h : rx_e t i = (pc, .if_icmp .gt o, ln, [j], v)) (k1 : y < x → pz Lx xs d t ret Q j L st w) (k2 : ¬ y < x → pz Lx xs d t ret Q (i + 1) L st w) : pz Lx xs d t ret Q i L (.int y :: .int x :: st) w := pz_ifi h ⟨k1, k2⟩
theorem pz_if_le {x : Int32} (h : rx_e t i = (pc, .ifCond .le o, ln, [j], v)) (k1 : x ≤ 0 → pz Lx xs d t ret Q j L st w) (k2 : ¬ x ≤ 0 → pz Lx xs d t ret Q (i + 1) L st w) : pz Lx xs d t ret Q i L (.int x :: st) w := pz_if h ⟨k1, k2⟩
theorem pz_ii_le {x y : Int32} (h : rx_e t i = (pc, .if_icmp .le o, ln, [j], v)) (k1 : x ≤ y → pz Lx xs d t ret Q j L st w) (k2 : ¬ x ≤ y → pz Lx xs d t ret Q (i + 1) L st w) : pz Lx xs d t ret Q i L (.int y :: .int x :: st) w := pz_ifi h ⟨k1, k2⟩
end PZI
