/-! PART C1: the constructors of the class -/
abbrev zI (n : Nat) : pE := .inl (0, n, .inl (fun _ => 0))
abbrev zB (n : Nat) : pE := .inl (1, n, .inl (fun _ => 0))
theorem ap_sn {pre l : pW} {x : pE} : (pre ++ l) ++ [x] = pre ++ (l ++ [x]) := List.append_assoc _ _ _
theorem pt_pre {pre l l' : pW} {a o k j : Nat} {v : Value} (ho : pre.length + 1 + j = o) (h : pt_f l a (j + 1) k v = some l') : pt_f (pre ++ l) a o k v = some (pre ++ l') := by
  subst ho
  have e : pre.length + 1 + j = (pre.length + j) + 1 := by omega
  rw [e]
  unfold pt_f at h ⊢
  simp only at h ⊢
  rw [List.getElem?_append_right (by omega), Nat.add_sub_cancel_left]
  split at h
  · rename_i c' fs hx
    rw [hx]
    split at h
    · rename_i hc
      simp only
      rw [if_pos hc, List.set_append_right _ _ (by omega), Nat.add_sub_cancel_left]
      exact congrArg (fun z => some (pre ++ z)) (Option.some.inj h)
    · cases h
  · cases h
section SC1
variable {Lx : Nat} {xs : Nat → Int32} {d : Nat} {Q : rQ}
theorem ct_F {o : Nat} {w : pW} (hQ : Q none w) : rx_R Lx xs (d + 1) 27 [.ref o] w Q := by
  refine y_en (lm := (0, 0)) (t := rt_27) (Nat.le_of_ble_eq_true rfl) rfl rfl rfl ?_
  refine y_aln (i := 0) rfl rfl ?_
  refine y_sp0 (i := 1) rfl (Nat.le_of_ble_eq_true rfl) ?_
  refine y_vr (i := 2) rfl rfl ?_
  exact hQ
set_option maxRecDepth 20000 in
theorem ct_E {pre : pW} {o : Nat} (ho : pre.length + 1 = o) (hQ : Q none (pre ++ [.inr (2, [.ref (o + 1), .ref (o + 2), .ref (o + 3), .int 0]), zI 120, zI 120, zI 120])) : rx_R Lx xs (d + 1) 21 [.ref o] (pre ++ [.inr (2, [.null, .null, .null, .int 0])]) Q := by
  refine y_en (lm := (3, 360)) (t := rt_21) (Nat.le_of_ble_eq_true rfl) rfl rfl rfl ?_
  refine y_aln (i := 0) rfl rfl ?_
  refine y_sp0 (i := 1) rfl (Nat.le_of_ble_eq_true rfl) ?_
  refine y_aln (i := 2) rfl rfl ?_
  refine y_bi (i := 3) rfl ?_
  refine y_na (i := 4) (m := 120) (o := o + 1) (w' := pre ++ [.inr (2, [.null, .null, .null, .int 0]), zI 120]) rfl ⟨by decide, rfl, by decide, by decide, by decide⟩ (by rw [List.length_append, ← ho]; rfl) (List.append_assoc _ _ _) ?_
  refine y_put (i := 5) (w' := pre ++ [.inr (2, [.ref (o + 1), .null, .null, .int 0]), zI 120]) rfl (pt_pre (j := 0) ho rfl) ⟨rfl, rfl⟩ ?_
  refine y_aln (i := 6) rfl rfl ?_
  refine y_bi (i := 7) rfl ?_
  refine y_na (i := 8) (m := 120) (o := o + 2) (w' := pre ++ [.inr (2, [.ref (o + 1), .null, .null, .int 0]), zI 120, zI 120]) rfl ⟨by decide, rfl, by decide, by decide, by decide⟩ (by rw [List.length_append, ← ho]; rfl) (List.append_assoc _ _ _) ?_
  refine y_put (i := 9) (w' := pre ++ [.inr (2, [.ref (o + 1), .ref (o + 2), .null, .int 0]), zI 120, zI 120]) rfl (pt_pre (j := 0) ho rfl) ⟨rfl, rfl⟩ ?_
  refine y_aln (i := 10) rfl rfl ?_
  refine y_bi (i := 11) rfl ?_
  refine y_na (i := 12) (m := 120) (o := o + 3) (w' := pre ++ [.inr (2, [.ref (o + 1), .ref (o + 2), .null, .int 0]), zI 120, zI 120, zI 120]) rfl ⟨by decide, rfl, by decide, by decide, by decide⟩ (by rw [List.length_append, ← ho]; rfl) (List.append_assoc _ _ _) ?_
  refine y_put (i := 13) (w' := pre ++ [.inr (2, [.ref (o + 1), .ref (o + 2), .ref (o + 3), .int 0]), zI 120, zI 120, zI 120]) rfl (pt_pre (j := 0) ho rfl) ⟨rfl, rfl⟩ ?_
  refine y_vr (i := 14) rfl rfl ?_
  exact hQ
set_option maxRecDepth 20000 in
theorem ct_V {pre : pW} {o : Nat} {x1 : Nat} (ho : pre.length + 1 = o) (hQ : Q none (pre ++ [.inr (5, [.ref (x1), .ref (o + 1), .ref (o + 5), .int 0, .int 0, .int 0, .int 0, .int 0, .int 0, .int 0, .int 0]), .inr (2, [.ref (o + 1 + 1), .ref (o + 1 + 2), .ref (o + 1 + 3), .int 0]), zI 120, zI 120, zI 120, zI 6])) : rx_R Lx xs (d + 2) 41 [.ref o, .ref x1] (pre ++ [.inr (5, [.null, .null, .null, .int 0, .int 0, .int 0, .int 0, .int 0, .int 0, .int 0, .int 0])]) Q := by
  refine y_en (lm := (5, 370)) (t := rt_41) (Nat.le_of_ble_eq_true rfl) rfl rfl rfl ?_
  refine y_aln (i := 0) rfl rfl ?_
  refine y_sp0 (i := 1) rfl (Nat.le_of_ble_eq_true rfl) ?_
  refine y_aln (i := 2) rfl rfl ?_
  refine y_nw (i := 3) (o := o + 1) (fs := [.null, .null, .null, .int 0]) (w' := pre ++ [.inr (5, [.null, .null, .null, .int 0, .int 0, .int 0, .int 0, .int 0, .int 0, .int 0, .int 0]), .inr (2, [.null, .null, .null, .int 0])]) rfl rfl ⟨by decide, by decide⟩ (by rw [List.length_append, ← ho]; rfl) (List.append_assoc _ _ _) ?_
  refine y_dup (i := 4) rfl rfl ?_
  refine y_sp (i := 5) (as := []) rfl rfl (Nat.le_of_ble_eq_true rfl) ⟨by decide, by decide⟩ ?_
  rw [show pre ++ [.inr (5, [.null, .null, .null, .int 0, .int 0, .int 0, .int 0, .int 0, .int 0, .int 0, .int 0]), .inr (2, [.null, .null, .null, .int 0])] = (pre ++ [.inr (5, [.null, .null, .null, .int 0, .int 0, .int 0, .int 0, .int 0, .int 0, .int 0, .int 0])]) ++ [.inr (2, [.null, .null, .null, .int 0])] from (ap_sn (l := [.inr (5, [.null, .null, .null, .int 0, .int 0, .int 0, .int 0, .int 0, .int 0, .int 0, .int 0])]) (x := .inr (2, [.null, .null, .null, .int 0]))).symm]
  refine ct_E (o := o + 1) (by rw [List.length_append, ← ho]; rfl) ⟨rfl, ?_⟩
  rw [List.append_assoc]
  show py _ Lx xs _ rt_41 none Q 6 _ _ (pre ++ [.inr (5, [.null, .null, .null, .int 0, .int 0, .int 0, .int 0, .int 0, .int 0, .int 0, .int 0]), .inr (2, [.ref (o + 1 + 1), .ref (o + 1 + 2), .ref (o + 1 + 3), .int 0]), zI 120, zI 120, zI 120]) _ _
  refine y_put (i := 6) (w' := pre ++ [.inr (5, [.null, .ref (o + 1), .null, .int 0, .int 0, .int 0, .int 0, .int 0, .int 0, .int 0, .int 0]), .inr (2, [.ref (o + 1 + 1), .ref (o + 1 + 2), .ref (o + 1 + 3), .int 0]), zI 120, zI 120, zI 120]) rfl (pt_pre (j := 0) ho rfl) ⟨rfl, rfl⟩ ?_
  refine y_aln (i := 7) rfl rfl ?_
  refine y_bi (i := 8) rfl ?_
  refine y_na (i := 9) (m := 6) (o := o + 5) (w' := pre ++ [.inr (5, [.null, .ref (o + 1), .null, .int 0, .int 0, .int 0, .int 0, .int 0, .int 0, .int 0, .int 0]), .inr (2, [.ref (o + 1 + 1), .ref (o + 1 + 2), .ref (o + 1 + 3), .int 0]), zI 120, zI 120, zI 120, zI 6]) rfl ⟨by decide, rfl, by decide, by decide, by decide⟩ (by rw [List.length_append, ← ho]; rfl) (List.append_assoc _ _ _) ?_
  refine y_put (i := 10) (w' := pre ++ [.inr (5, [.null, .ref (o + 1), .ref (o + 5), .int 0, .int 0, .int 0, .int 0, .int 0, .int 0, .int 0, .int 0]), .inr (2, [.ref (o + 1 + 1), .ref (o + 1 + 2), .ref (o + 1 + 3), .int 0]), zI 120, zI 120, zI 120, zI 6]) rfl (pt_pre (j := 0) ho rfl) ⟨rfl, rfl⟩ ?_
  refine y_aln (i := 11) rfl rfl ?_
  refine y_aln (i := 12) rfl rfl ?_
  refine y_put (i := 13) (w' := pre ++ [.inr (5, [.ref (x1), .ref (o + 1), .ref (o + 5), .int 0, .int 0, .int 0, .int 0, .int 0, .int 0, .int 0, .int 0]), .inr (2, [.ref (o + 1 + 1), .ref (o + 1 + 2), .ref (o + 1 + 3), .int 0]), zI 120, zI 120, zI 120, zI 6]) rfl (pt_pre (j := 0) ho rfl) ⟨rfl, rfl⟩ ?_
  refine y_vr (i := 14) rfl rfl ?_
  exact hQ
set_option maxRecDepth 20000 in
theorem ct_K {pre : pW} {o : Nat} {x1 x2 : Nat} (ho : pre.length + 1 = o) (hQ : Q none (pre ++ [.inr (4, [.ref (x1), .ref (x2), .ref (o + 1), .ref (o + 2), .ref (o + 6), .ref (o + 7), .ref (o + 8), .ref (o + 9), .int 0]), .inr (3, [.int 0, .int 0, .int 0, .int 0, .int 0, .int 0]), .inr (2, [.ref (o + 2 + 1), .ref (o + 2 + 2), .ref (o + 2 + 3), .int 0]), zI 120, zI 120, zI 120, zB 12, zB 12, zB 1300, zB 64])) : rx_R Lx xs (d + 2) 29 [.ref o, .ref x1, .ref x2] (pre ++ [.inr (4, [.null, .null, .null, .null, .null, .null, .null, .null, .int 0])]) Q := by
  refine y_en (lm := (9, 1758)) (t := rt_29) (Nat.le_of_ble_eq_true rfl) rfl rfl rfl ?_
  refine y_aln (i := 0) rfl rfl ?_
  refine y_sp0 (i := 1) rfl (Nat.le_of_ble_eq_true rfl) ?_
  refine y_aln (i := 2) rfl rfl ?_
  refine y_nw (i := 3) (o := o + 1) (fs := [.int 0, .int 0, .int 0, .int 0, .int 0, .int 0]) (w' := pre ++ [.inr (4, [.null, .null, .null, .null, .null, .null, .null, .null, .int 0]), .inr (3, [.int 0, .int 0, .int 0, .int 0, .int 0, .int 0])]) rfl rfl ⟨by decide, by decide⟩ (by rw [List.length_append, ← ho]; rfl) (List.append_assoc _ _ _) ?_
  refine y_dup (i := 4) rfl rfl ?_
  refine y_sp (i := 5) (as := []) rfl rfl (Nat.le_of_ble_eq_true rfl) ⟨by decide, by decide⟩ ?_
  refine ct_F ⟨rfl, ?_⟩
  refine y_put (i := 6) (w' := pre ++ [.inr (4, [.null, .null, .ref (o + 1), .null, .null, .null, .null, .null, .int 0]), .inr (3, [.int 0, .int 0, .int 0, .int 0, .int 0, .int 0])]) rfl (pt_pre (j := 0) ho rfl) ⟨rfl, rfl⟩ ?_
  refine y_aln (i := 7) rfl rfl ?_
  refine y_nw (i := 8) (o := o + 2) (fs := [.null, .null, .null, .int 0]) (w' := pre ++ [.inr (4, [.null, .null, .ref (o + 1), .null, .null, .null, .null, .null, .int 0]), .inr (3, [.int 0, .int 0, .int 0, .int 0, .int 0, .int 0]), .inr (2, [.null, .null, .null, .int 0])]) rfl rfl ⟨by decide, by decide⟩ (by rw [List.length_append, ← ho]; rfl) (List.append_assoc _ _ _) ?_
  refine y_dup (i := 9) rfl rfl ?_
  refine y_sp (i := 10) (as := []) rfl rfl (Nat.le_of_ble_eq_true rfl) ⟨by decide, by decide⟩ ?_
  rw [show pre ++ [.inr (4, [.null, .null, .ref (o + 1), .null, .null, .null, .null, .null, .int 0]), .inr (3, [.int 0, .int 0, .int 0, .int 0, .int 0, .int 0]), .inr (2, [.null, .null, .null, .int 0])] = (pre ++ [.inr (4, [.null, .null, .ref (o + 1), .null, .null, .null, .null, .null, .int 0]), .inr (3, [.int 0, .int 0, .int 0, .int 0, .int 0, .int 0])]) ++ [.inr (2, [.null, .null, .null, .int 0])] from (ap_sn (l := [.inr (4, [.null, .null, .ref (o + 1), .null, .null, .null, .null, .null, .int 0]), .inr (3, [.int 0, .int 0, .int 0, .int 0, .int 0, .int 0])]) (x := .inr (2, [.null, .null, .null, .int 0]))).symm]
  refine ct_E (o := o + 2) (by rw [List.length_append, ← ho]; rfl) ⟨rfl, ?_⟩
  rw [List.append_assoc]
  show py _ Lx xs _ rt_29 none Q 11 _ _ (pre ++ [.inr (4, [.null, .null, .ref (o + 1), .null, .null, .null, .null, .null, .int 0]), .inr (3, [.int 0, .int 0, .int 0, .int 0, .int 0, .int 0]), .inr (2, [.ref (o + 2 + 1), .ref (o + 2 + 2), .ref (o + 2 + 3), .int 0]), zI 120, zI 120, zI 120]) _ _
  refine y_put (i := 11) (w' := pre ++ [.inr (4, [.null, .null, .ref (o + 1), .ref (o + 2), .null, .null, .null, .null, .int 0]), .inr (3, [.int 0, .int 0, .int 0, .int 0, .int 0, .int 0]), .inr (2, [.ref (o + 2 + 1), .ref (o + 2 + 2), .ref (o + 2 + 3), .int 0]), zI 120, zI 120, zI 120]) rfl (pt_pre (j := 0) ho rfl) ⟨rfl, rfl⟩ ?_
  refine y_aln (i := 12) rfl rfl ?_
  refine y_bi (i := 13) rfl ?_
  refine y_na (i := 14) (m := 12) (o := o + 6) (w' := pre ++ [.inr (4, [.null, .null, .ref (o + 1), .ref (o + 2), .null, .null, .null, .null, .int 0]), .inr (3, [.int 0, .int 0, .int 0, .int 0, .int 0, .int 0]), .inr (2, [.ref (o + 2 + 1), .ref (o + 2 + 2), .ref (o + 2 + 3), .int 0]), zI 120, zI 120, zI 120, zB 12]) rfl ⟨by decide, rfl, by decide, by decide, by decide⟩ (by rw [List.length_append, ← ho]; rfl) (List.append_assoc _ _ _) ?_
  refine y_put (i := 15) (w' := pre ++ [.inr (4, [.null, .null, .ref (o + 1), .ref (o + 2), .ref (o + 6), .null, .null, .null, .int 0]), .inr (3, [.int 0, .int 0, .int 0, .int 0, .int 0, .int 0]), .inr (2, [.ref (o + 2 + 1), .ref (o + 2 + 2), .ref (o + 2 + 3), .int 0]), zI 120, zI 120, zI 120, zB 12]) rfl (pt_pre (j := 0) ho rfl) ⟨rfl, rfl⟩ ?_
  refine y_aln (i := 16) rfl rfl ?_
  refine y_bi (i := 17) rfl ?_
  refine y_na (i := 18) (m := 12) (o := o + 7) (w' := pre ++ [.inr (4, [.null, .null, .ref (o + 1), .ref (o + 2), .ref (o + 6), .null, .null, .null, .int 0]), .inr (3, [.int 0, .int 0, .int 0, .int 0, .int 0, .int 0]), .inr (2, [.ref (o + 2 + 1), .ref (o + 2 + 2), .ref (o + 2 + 3), .int 0]), zI 120, zI 120, zI 120, zB 12, zB 12]) rfl ⟨by decide, rfl, by decide, by decide, by decide⟩ (by rw [List.length_append, ← ho]; rfl) (List.append_assoc _ _ _) ?_
  refine y_put (i := 19) (w' := pre ++ [.inr (4, [.null, .null, .ref (o + 1), .ref (o + 2), .ref (o + 6), .ref (o + 7), .null, .null, .int 0]), .inr (3, [.int 0, .int 0, .int 0, .int 0, .int 0, .int 0]), .inr (2, [.ref (o + 2 + 1), .ref (o + 2 + 2), .ref (o + 2 + 3), .int 0]), zI 120, zI 120, zI 120, zB 12, zB 12]) rfl (pt_pre (j := 0) ho rfl) ⟨rfl, rfl⟩ ?_
  refine y_aln (i := 20) rfl rfl ?_
  refine y_si (i := 21) rfl ?_
  refine y_na (i := 22) (m := 1300) (o := o + 8) (w' := pre ++ [.inr (4, [.null, .null, .ref (o + 1), .ref (o + 2), .ref (o + 6), .ref (o + 7), .null, .null, .int 0]), .inr (3, [.int 0, .int 0, .int 0, .int 0, .int 0, .int 0]), .inr (2, [.ref (o + 2 + 1), .ref (o + 2 + 2), .ref (o + 2 + 3), .int 0]), zI 120, zI 120, zI 120, zB 12, zB 12, zB 1300]) rfl ⟨by decide, rfl, by decide, by decide, by decide⟩ (by rw [List.length_append, ← ho]; rfl) (List.append_assoc _ _ _) ?_
  refine y_put (i := 23) (w' := pre ++ [.inr (4, [.null, .null, .ref (o + 1), .ref (o + 2), .ref (o + 6), .ref (o + 7), .ref (o + 8), .null, .int 0]), .inr (3, [.int 0, .int 0, .int 0, .int 0, .int 0, .int 0]), .inr (2, [.ref (o + 2 + 1), .ref (o + 2 + 2), .ref (o + 2 + 3), .int 0]), zI 120, zI 120, zI 120, zB 12, zB 12, zB 1300]) rfl (pt_pre (j := 0) ho rfl) ⟨rfl, rfl⟩ ?_
  refine y_aln (i := 24) rfl rfl ?_
  refine y_bi (i := 25) rfl ?_
  refine y_na (i := 26) (m := 64) (o := o + 9) (w' := pre ++ [.inr (4, [.null, .null, .ref (o + 1), .ref (o + 2), .ref (o + 6), .ref (o + 7), .ref (o + 8), .null, .int 0]), .inr (3, [.int 0, .int 0, .int 0, .int 0, .int 0, .int 0]), .inr (2, [.ref (o + 2 + 1), .ref (o + 2 + 2), .ref (o + 2 + 3), .int 0]), zI 120, zI 120, zI 120, zB 12, zB 12, zB 1300, zB 64]) rfl ⟨by decide, rfl, by decide, by decide, by decide⟩ (by rw [List.length_append, ← ho]; rfl) (List.append_assoc _ _ _) ?_
  refine y_put (i := 27) (w' := pre ++ [.inr (4, [.null, .null, .ref (o + 1), .ref (o + 2), .ref (o + 6), .ref (o + 7), .ref (o + 8), .ref (o + 9), .int 0]), .inr (3, [.int 0, .int 0, .int 0, .int 0, .int 0, .int 0]), .inr (2, [.ref (o + 2 + 1), .ref (o + 2 + 2), .ref (o + 2 + 3), .int 0]), zI 120, zI 120, zI 120, zB 12, zB 12, zB 1300, zB 64]) rfl (pt_pre (j := 0) ho rfl) ⟨rfl, rfl⟩ ?_
  refine y_aln (i := 28) rfl rfl ?_
  refine y_aln (i := 29) rfl rfl ?_
  refine y_put (i := 30) (w' := pre ++ [.inr (4, [.ref (x1), .null, .ref (o + 1), .ref (o + 2), .ref (o + 6), .ref (o + 7), .ref (o + 8), .ref (o + 9), .int 0]), .inr (3, [.int 0, .int 0, .int 0, .int 0, .int 0, .int 0]), .inr (2, [.ref (o + 2 + 1), .ref (o + 2 + 2), .ref (o + 2 + 3), .int 0]), zI 120, zI 120, zI 120, zB 12, zB 12, zB 1300, zB 64]) rfl (pt_pre (j := 0) ho rfl) ⟨rfl, rfl⟩ ?_
  refine y_aln (i := 31) rfl rfl ?_
  refine y_aln (i := 32) rfl rfl ?_
  refine y_put (i := 33) (w' := pre ++ [.inr (4, [.ref (x1), .ref (x2), .ref (o + 1), .ref (o + 2), .ref (o + 6), .ref (o + 7), .ref (o + 8), .ref (o + 9), .int 0]), .inr (3, [.int 0, .int 0, .int 0, .int 0, .int 0, .int 0]), .inr (2, [.ref (o + 2 + 1), .ref (o + 2 + 2), .ref (o + 2 + 3), .int 0]), zI 120, zI 120, zI 120, zB 12, zB 12, zB 1300, zB 64]) rfl (pt_pre (j := 0) ho rfl) ⟨rfl, rfl⟩ ?_
  refine y_vr (i := 34) rfl rfl ?_
  exact hQ
set_option maxRecDepth 20000 in
theorem ct_B {pre : pW} {o : Nat} (ho : pre.length + 1 = o) (hQ : Q none (pre ++ [.inr (0, [.ref (o + 1), .ref (o + 2), .ref (o + 3), .ref (o + 4), .int 0]), zI 8, zI 8, zI 8, .inl (3, 8, .inr (.inr (.inr (.inr (fun j => if j < 8 then some (o + 5 + j) else none))))), zB 64, zB 64, zB 64, zB 64, zB 64, zB 64, zB 64, zB 64])) : rx_R Lx xs (d + 1) 0 [.ref o] (pre ++ [.inr (0, [.null, .null, .null, .null, .int 0])]) Q := by
  refine y_en (lm := (12, 544)) (t := rt_0) (Nat.le_of_ble_eq_true rfl) rfl rfl rfl ?_
  refine y_aln (i := 0) rfl rfl ?_
  refine y_sp0 (i := 1) rfl (Nat.le_of_ble_eq_true rfl) ?_
  refine y_aln (i := 2) rfl rfl ?_
  refine y_bi (i := 3) rfl ?_
  refine y_na (i := 4) (m := 8) (o := o + 1) (w' := pre ++ [.inr (0, [.null, .null, .null, .null, .int 0]), zI 8]) rfl ⟨by decide, rfl, by decide, by decide, by decide⟩ (by rw [List.length_append, ← ho]; rfl) (List.append_assoc _ _ _) ?_
  refine y_put (i := 5) (w' := pre ++ [.inr (0, [.ref (o + 1), .null, .null, .null, .int 0]), zI 8]) rfl (pt_pre (j := 0) ho rfl) ⟨rfl, rfl⟩ ?_
  refine y_aln (i := 6) rfl rfl ?_
  refine y_bi (i := 7) rfl ?_
  refine y_na (i := 8) (m := 8) (o := o + 2) (w' := pre ++ [.inr (0, [.ref (o + 1), .null, .null, .null, .int 0]), zI 8, zI 8]) rfl ⟨by decide, rfl, by decide, by decide, by decide⟩ (by rw [List.length_append, ← ho]; rfl) (List.append_assoc _ _ _) ?_
  refine y_put (i := 9) (w' := pre ++ [.inr (0, [.ref (o + 1), .ref (o + 2), .null, .null, .int 0]), zI 8, zI 8]) rfl (pt_pre (j := 0) ho rfl) ⟨rfl, rfl⟩ ?_
  refine y_aln (i := 10) rfl rfl ?_
  refine y_bi (i := 11) rfl ?_
  refine y_na (i := 12) (m := 8) (o := o + 3) (w' := pre ++ [.inr (0, [.ref (o + 1), .ref (o + 2), .null, .null, .int 0]), zI 8, zI 8, zI 8]) rfl ⟨by decide, rfl, by decide, by decide, by decide⟩ (by rw [List.length_append, ← ho]; rfl) (List.append_assoc _ _ _) ?_
  refine y_put (i := 13) (w' := pre ++ [.inr (0, [.ref (o + 1), .ref (o + 2), .ref (o + 3), .null, .int 0]), zI 8, zI 8, zI 8]) rfl (pt_pre (j := 0) ho rfl) ⟨rfl, rfl⟩ ?_
  refine y_aln (i := 14) rfl rfl ?_
  refine y_bi (i := 15) rfl ?_
  refine y_bi (i := 16) rfl ?_
  refine y_mna (i := 17) (o := o + 4) (w' := pre ++ [.inr (0, [.ref (o + 1), .ref (o + 2), .ref (o + 3), .null, .int 0]), zI 8, zI 8, zI 8, .inl (3, 8, .inr (.inr (.inr (.inr (fun j => if j < 8 then some (o + 5 + j) else none))))), zB 64, zB 64, zB 64, zB 64, zB 64, zB 64, zB 64, zB 64]) rfl ⟨by decide, by decide⟩ (by rw [List.length_append, ← ho]; rfl) (by rw [List.length_append, ← ho]; exact List.append_assoc _ _ _) ?_
  refine y_put (i := 18) (w' := pre ++ [.inr (0, [.ref (o + 1), .ref (o + 2), .ref (o + 3), .ref (o + 4), .int 0]), zI 8, zI 8, zI 8, .inl (3, 8, .inr (.inr (.inr (.inr (fun j => if j < 8 then some (o + 5 + j) else none))))), zB 64, zB 64, zB 64, zB 64, zB 64, zB 64, zB 64, zB 64]) rfl (pt_pre (j := 0) ho rfl) ⟨rfl, rfl⟩ ?_
  refine y_vr (i := 19) rfl rfl ?_
  exact hQ
set_option maxRecDepth 20000 in
theorem ct_D {pre : pW} {o : Nat} {rm : Nat} (hr : 512 ≤ rm ∧ rm ≤ 4096) (ho : pre.length + 1 = o) (hQ : Q none (pre ++ [.inr (1, [.int (nI rm), .ref (o + 1), .ref (o + 2), .ref (o + 3), .ref (o + 4), .int 0, .int 0, .int 0, .int 0, .int 0, .int 0]), zB (rm + 15728), zI 1024, zI 1024, zB 8192])) : rx_R Lx xs (d + 1) 4 [.ref o, .int (nI rm)] (pre ++ [.inr (1, [.int 0, .null, .null, .null, .null, .int 0, .int 0, .int 0, .int 0, .int 0, .int 0])]) Q := by
  refine y_en (lm := (4, 30064)) (t := rt_4) (Nat.le_of_ble_eq_true rfl) rfl rfl rfl ?_
  have hsz : nI rm + 15600 + 128 = nI (rm + 15728) := by rw [show nI rm + 15600 = nI (rm + 15600) from nI_add rm 15600, show nI (rm + 15600) + 128 = nI (rm + 15600 + 128) from nI_add _ 128]
  refine y_aln (i := 0) rfl rfl ?_
  refine y_sp0 (i := 1) rfl (Nat.le_of_ble_eq_true rfl) ?_
  refine y_aln (i := 2) rfl rfl ?_
  refine y_iln (i := 3) rfl rfl ?_
  refine y_put (i := 4) (w' := pre ++ [.inr (1, [.int (nI rm), .null, .null, .null, .null, .int 0, .int 0, .int 0, .int 0, .int 0, .int 0])]) rfl (pt_pre (j := 0) ho rfl) ⟨rfl, rfl⟩ ?_
  refine y_aln (i := 5) rfl rfl ?_
  refine y_iln (i := 6) rfl rfl ?_
  refine y_si (i := 7) rfl ?_
  refine y_add (i := 8) rfl ?_
  refine y_si (i := 9) rfl ?_
  refine y_add (i := 10) rfl ?_
  refine y_na (i := 11) (m := rm + 15728) (o := o + 1) (w' := pre ++ [.inr (1, [.int (nI rm), .null, .null, .null, .null, .int 0, .int 0, .int 0, .int 0, .int 0, .int 0]), zB (rm + 15728)]) rfl ⟨by rw [hsz]; exact nI_pos (by omega), by rw [hsz]; exact cl_ofI (a := rm + 15728), by omega, by decide, by show 0 + (rm + 15728) ≤ 30064; omega⟩ (by rw [List.length_append, ← ho]; rfl) (List.append_assoc _ _ _) ?_
  refine y_put (i := 12) (w' := pre ++ [.inr (1, [.int (nI rm), .ref (o + 1), .null, .null, .null, .int 0, .int 0, .int 0, .int 0, .int 0, .int 0]), zB (rm + 15728)]) rfl (pt_pre (j := 0) ho rfl) ⟨rfl, rfl⟩ ?_
  refine y_aln (i := 13) rfl rfl ?_
  refine y_si (i := 14) rfl ?_
  refine y_na (i := 15) (m := 1024) (o := o + 2) (w' := pre ++ [.inr (1, [.int (nI rm), .ref (o + 1), .null, .null, .null, .int 0, .int 0, .int 0, .int 0, .int 0, .int 0]), zB (rm + 15728), zI 1024]) rfl ⟨by decide, rfl, by decide, by decide, by show 0 + (rm + 15728) + 1024 ≤ 30064; omega⟩ (by rw [List.length_append, ← ho]; rfl) (List.append_assoc _ _ _) ?_
  refine y_put (i := 16) (w' := pre ++ [.inr (1, [.int (nI rm), .ref (o + 1), .ref (o + 2), .null, .null, .int 0, .int 0, .int 0, .int 0, .int 0, .int 0]), zB (rm + 15728), zI 1024]) rfl (pt_pre (j := 0) ho rfl) ⟨rfl, rfl⟩ ?_
  refine y_aln (i := 17) rfl rfl ?_
  refine y_si (i := 18) rfl ?_
  refine y_na (i := 19) (m := 1024) (o := o + 3) (w' := pre ++ [.inr (1, [.int (nI rm), .ref (o + 1), .ref (o + 2), .null, .null, .int 0, .int 0, .int 0, .int 0, .int 0, .int 0]), zB (rm + 15728), zI 1024, zI 1024]) rfl ⟨by decide, rfl, by decide, by decide, by show 0 + (rm + 15728) + 1024 + 1024 ≤ 30064; omega⟩ (by rw [List.length_append, ← ho]; rfl) (List.append_assoc _ _ _) ?_
  refine y_put (i := 20) (w' := pre ++ [.inr (1, [.int (nI rm), .ref (o + 1), .ref (o + 2), .ref (o + 3), .null, .int 0, .int 0, .int 0, .int 0, .int 0, .int 0]), zB (rm + 15728), zI 1024, zI 1024]) rfl (pt_pre (j := 0) ho rfl) ⟨rfl, rfl⟩ ?_
  refine y_aln (i := 21) rfl rfl ?_
  refine y_si (i := 22) rfl ?_
  refine y_na (i := 23) (m := 8192) (o := o + 4) (w' := pre ++ [.inr (1, [.int (nI rm), .ref (o + 1), .ref (o + 2), .ref (o + 3), .null, .int 0, .int 0, .int 0, .int 0, .int 0, .int 0]), zB (rm + 15728), zI 1024, zI 1024, zB 8192]) rfl ⟨by decide, rfl, by decide, by decide, by show 0 + (rm + 15728) + 1024 + 1024 + 8192 ≤ 30064; omega⟩ (by rw [List.length_append, ← ho]; rfl) (List.append_assoc _ _ _) ?_
  refine y_put (i := 24) (w' := pre ++ [.inr (1, [.int (nI rm), .ref (o + 1), .ref (o + 2), .ref (o + 3), .ref (o + 4), .int 0, .int 0, .int 0, .int 0, .int 0, .int 0]), zB (rm + 15728), zI 1024, zI 1024, zB 8192]) rfl (pt_pre (j := 0) ho rfl) ⟨rfl, rfl⟩ ?_
  refine y_vr (i := 25) rfl rfl ?_
  exact hQ
end SC1
