/-! PART 76: View.isRecord, View.takeRecordsBefore -/
theorem b_and : ∀ b : Nat, b < 256 → nI b &&& (-129) = nI (b % 128) := by decide +kernel
theorem b_an2 : ∀ b : Nat, b < 256 → (nI b &&& 128 = 0 ↔ b < 128) := by decide +kernel
theorem nI_32 {a b : Nat} (ha : a < 4294967296) (hb : b < 4294967296) (h : nI a = nI b) : a = b := by
  have := congrArg uN h
  rw [uN_nI ha, uN_nI hb] at this
  exact this
theorem qL_lt (rm : Nat) (c : Nat → Int32) (q : Nat) : qL rm c q < 4294967296 := q4_lt (bN_lt _ _) (bN_lt _ _) (bN_lt _ _) (bN_lt _ _)
theorem qN_lt (c : Nat → Int32) (q : Nat) : qN c q < 4294967296 := q4_lt (bN_lt _ _) (bN_lt _ _) (bN_lt _ _) (bN_lt _ _)
section S76
variable {Lx : Nat} {xs : Nat → Int32} {d rm : Nat} {iv : Nat → Int32} {av : Nat → Nat → Int32} {r : pW} {Q : rQ}
set_option maxRecDepth 20000 in
theorem sx_isRecord (hr : 0 < rm ∧ rm ≤ 4096) {v p n : Nat} (hv : v < 2) (hp : p < 2 ^ 30) (hn : n < 2 ^ 31) (hQ : Q (some (.int (bB (isR rm (av 0) p n)))) (wX rm iv av r)) : rx_R Lx xs (d + 4) 45 [.ref (oV v), .int (nI p), .int (nI n)] (wX rm iv av r) Q := by
  refine pz_en (t := rt_45) ⟨Nat.le_of_ble_eq_true rfl, rfl⟩ rfl rfl ?_
  have l0 := bN_lt (av 0) (p % rm)
  have l2 := bN_lt (av 0) ((p + 2) % rm)
  have l1 := bN_lt (av 0) ((p + 1) % rm)
  have l3 := bN_lt (av 0) ((p + 3) % rm)
  have q4l := qL_lt rm (av 0) (p + 4)
  have q8l := qL_lt rm (av 0) (p + 8)
  have hf : ∀ y3 y4 : Int32, (((bN (av 0) (p % rm) % 128) = 1 ∧ (bN (av 0) ((p + 2) % rm)) ≤ 64) ∨ ((bN (av 0) (p % rm) % 128) = 2 ∧ (bN (av 0) ((p + 2) % rm)) = 0)) → pz Lx xs (d + 3) rt_45 (some .boolean) Q 28 [some (.ref (oV v)), some (.int (nI p)), some (.int (nI n)), some (.int y3), some (.int y4), none] [.int 1] (wX rm iv av r) := by
    intro y3 y4 hfit
    have hF : ((decide ((bN (av 0) (p % rm) % 128) = 1) && decide ((bN (av 0) ((p + 2) % rm)) ≤ 64)) || (decide ((bN (av 0) (p % rm) % 128) = 2) && decide ((bN (av 0) ((p + 2) % rm)) = 0))) = true := by
      rcases hfit with ⟨h1, h2⟩ | ⟨h1, h2⟩
      · rw [decide_eq_true h1, decide_eq_true h2]
        rfl
      · rw [decide_eq_true h1, decide_eq_true h2, Bool.and_true, Bool.or_true]
    unfold isR at hQ
    rw [hF, Bool.true_and] at hQ
    refine pz_is (i := 28) rfl ⟨rfl, Nat.le_of_ble_eq_true rfl⟩ rfl ?_
    refine pz_il (i := 29) rfl rfl ?_
    refine pz_if_eq (i := 30) rfl (fun c30 => ?_) (fun c30 => ?_)
    · exact absurd c30 (by decide)
    · refine pz_aln (i := 31) rfl rfl ?_
      refine pz_get (i := 32) rfl (gV_0 hv ..) ?_
      refine pz_iln (i := 33) rfl rfl ?_
      refine pz_ic (i := 34) rfl ?_
      refine pz_add (i := 35) rfl ?_
      rw [show nI p + 1 = nI (p + 1) from nI_add p 1]
      refine pz_cI1 (i := 36) rfl (gc_2 ..) rfl (Nat.le_of_ble_eq_true rfl) rfl ?_
      refine sx_logByte hr (by omega) ?_
      rw [bN_and]
      refine ⟨_, rfl, ?_⟩
      refine pz_sI1 (i := 37) rfl (by decide) (Nat.le_of_ble_eq_true rfl) rfl ?_
      refine sx_isKey ?_
      refine ⟨_, rfl, ?_⟩
      refine pz_if_eq (i := 38) rfl (fun c38 => ?_) (fun c38 => ?_)
      · refine pz_ic (i := 64) rfl ?_
        refine pz_ir (i := 65) rfl rfl rfl ?_
        first
          | (have h4 := nI_32 q8l (by omega) c61
             have h3 := nI_32 q4l (by omega) c53
             have h2 := nI_32 (b := 0) (by omega) (by decide) c45
             have h1 : bN (av 0) ((p + 1) % rm) < 120 := by
               obtain ⟨m, hm, he⟩ := kx_nat (bB_t c38)
               rw [nI_32 (by omega) (by omega) he]
               exact hm
             rw [decide_eq_true h1, decide_eq_true h2, decide_eq_true h3, decide_eq_true h4] at hQ
             exact hQ)
          | (rw [decide_eq_false (fun z : qL rm (av 0) (p + 8) = n => c61 (by rw [z])), Bool.and_false] at hQ
             exact hQ)
          | (rw [decide_eq_false (fun z : qL rm (av 0) (p + 4) = n => c53 (by rw [z])), Bool.and_false, Bool.false_and] at hQ
             exact hQ)
          | (rw [decide_eq_false (fun z : bN (av 0) ((p + 3) % rm) = 0 => c45 (by rw [z]; rfl)), Bool.and_false, Bool.false_and, Bool.false_and] at hQ
             exact hQ)
          | (rw [decide_eq_false (fun z : bN (av 0) ((p + 1) % rm) < 120 => by have := bB_f c38; rw [kx_of z] at this; cases this), Bool.false_and, Bool.false_and, Bool.false_and] at hQ
             exact hQ)
      · refine pz_aln (i := 39) rfl rfl ?_
        refine pz_get (i := 40) rfl (gV_0 hv ..) ?_
        refine pz_iln (i := 41) rfl rfl ?_
        refine pz_ic (i := 42) rfl ?_
        refine pz_add (i := 43) rfl ?_
        rw [show nI p + 3 = nI (p + 3) from nI_add p 3]
        refine pz_cI1 (i := 44) rfl (gc_2 ..) rfl (Nat.le_of_ble_eq_true rfl) rfl ?_
        refine sx_logByte hr (by omega) ?_
        rw [bN_and]
        refine ⟨_, rfl, ?_⟩
        refine pz_if_ne (i := 45) rfl (fun c45 => ?_) (fun c45 => ?_)
        · refine pz_ic (i := 64) rfl ?_
          refine pz_ir (i := 65) rfl rfl rfl ?_
          first
            | (have h4 := nI_32 q8l (by omega) c61
               have h3 := nI_32 q4l (by omega) c53
               have h2 := nI_32 (b := 0) (by omega) (by decide) c45
               have h1 : bN (av 0) ((p + 1) % rm) < 120 := by
                 obtain ⟨m, hm, he⟩ := kx_nat (bB_t c38)
                 rw [nI_32 (by omega) (by omega) he]
                 exact hm
               rw [decide_eq_true h1, decide_eq_true h2, decide_eq_true h3, decide_eq_true h4] at hQ
               exact hQ)
            | (rw [decide_eq_false (fun z : qL rm (av 0) (p + 8) = n => c61 (by rw [z])), Bool.and_false] at hQ
               exact hQ)
            | (rw [decide_eq_false (fun z : qL rm (av 0) (p + 4) = n => c53 (by rw [z])), Bool.and_false, Bool.false_and] at hQ
               exact hQ)
            | (rw [decide_eq_false (fun z : bN (av 0) ((p + 3) % rm) = 0 => c45 (by rw [z]; rfl)), Bool.and_false, Bool.false_and, Bool.false_and] at hQ
               exact hQ)
            | (rw [decide_eq_false (fun z : bN (av 0) ((p + 1) % rm) < 120 => by have := bB_f c38; rw [kx_of z] at this; cases this), Bool.false_and, Bool.false_and, Bool.false_and] at hQ
               exact hQ)
        · refine pz_aln (i := 46) rfl rfl ?_
          refine pz_get (i := 47) rfl (gV_0 hv ..) ?_
          refine pz_iln (i := 48) rfl rfl ?_
          refine pz_ic (i := 49) rfl ?_
          refine pz_add (i := 50) rfl ?_
          rw [show nI p + 4 = nI (p + 4) from nI_add p 4]
          refine pz_cI1 (i := 51) rfl (gc_2 ..) rfl (Nat.le_of_ble_eq_true rfl) rfl ?_
          refine sx_logNumber hr (by omega) ?_
          rw [bl_numN]
          refine ⟨_, rfl, ?_⟩
          refine pz_iln (i := 52) rfl rfl ?_
          refine pz_ii_ne (i := 53) rfl (fun c53 => ?_) (fun c53 => ?_)
          · refine pz_ic (i := 64) rfl ?_
            refine pz_ir (i := 65) rfl rfl rfl ?_
            first
              | (have h4 := nI_32 q8l (by omega) c61
                 have h3 := nI_32 q4l (by omega) c53
                 have h2 := nI_32 (b := 0) (by omega) (by decide) c45
                 have h1 : bN (av 0) ((p + 1) % rm) < 120 := by
                   obtain ⟨m, hm, he⟩ := kx_nat (bB_t c38)
                   rw [nI_32 (by omega) (by omega) he]
                   exact hm
                 rw [decide_eq_true h1, decide_eq_true h2, decide_eq_true h3, decide_eq_true h4] at hQ
                 exact hQ)
              | (rw [decide_eq_false (fun z : qL rm (av 0) (p + 8) = n => c61 (by rw [z])), Bool.and_false] at hQ
                 exact hQ)
              | (rw [decide_eq_false (fun z : qL rm (av 0) (p + 4) = n => c53 (by rw [z])), Bool.and_false, Bool.false_and] at hQ
                 exact hQ)
              | (rw [decide_eq_false (fun z : bN (av 0) ((p + 3) % rm) = 0 => c45 (by rw [z]; rfl)), Bool.and_false, Bool.false_and, Bool.false_and] at hQ
                 exact hQ)
              | (rw [decide_eq_false (fun z : bN (av 0) ((p + 1) % rm) < 120 => by have := bB_f c38; rw [kx_of z] at this; cases this), Bool.false_and, Bool.false_and, Bool.false_and] at hQ
                 exact hQ)
          · refine pz_aln (i := 54) rfl rfl ?_
            refine pz_get (i := 55) rfl (gV_0 hv ..) ?_
            refine pz_iln (i := 56) rfl rfl ?_
            refine pz_bi (i := 57) rfl ?_
            refine pz_add (i := 58) rfl ?_
            rw [show nI p + 8 = nI (p + 8) from nI_add p 8]
            refine pz_cI1 (i := 59) rfl (gc_2 ..) rfl (Nat.le_of_ble_eq_true rfl) rfl ?_
            refine sx_logNumber hr (by omega) ?_
            rw [bl_numN]
            refine ⟨_, rfl, ?_⟩
            refine pz_iln (i := 60) rfl rfl ?_
            refine pz_ii_ne (i := 61) rfl (fun c61 => ?_) (fun c61 => ?_)
            · refine pz_ic (i := 64) rfl ?_
              refine pz_ir (i := 65) rfl rfl rfl ?_
              first
                | (have h4 := nI_32 q8l (by omega) c61
                   have h3 := nI_32 q4l (by omega) c53
                   have h2 := nI_32 (b := 0) (by omega) (by decide) c45
                   have h1 : bN (av 0) ((p + 1) % rm) < 120 := by
                     obtain ⟨m, hm, he⟩ := kx_nat (bB_t c38)
                     rw [nI_32 (by omega) (by omega) he]
                     exact hm
                   rw [decide_eq_true h1, decide_eq_true h2, decide_eq_true h3, decide_eq_true h4] at hQ
                   exact hQ)
                | (rw [decide_eq_false (fun z : qL rm (av 0) (p + 8) = n => c61 (by rw [z])), Bool.and_false] at hQ
                   exact hQ)
                | (rw [decide_eq_false (fun z : qL rm (av 0) (p + 4) = n => c53 (by rw [z])), Bool.and_false, Bool.false_and] at hQ
                   exact hQ)
                | (rw [decide_eq_false (fun z : bN (av 0) ((p + 3) % rm) = 0 => c45 (by rw [z]; rfl)), Bool.and_false, Bool.false_and, Bool.false_and] at hQ
                   exact hQ)
                | (rw [decide_eq_false (fun z : bN (av 0) ((p + 1) % rm) < 120 => by have := bB_f c38; rw [kx_of z] at this; cases this), Bool.false_and, Bool.false_and, Bool.false_and] at hQ
                   exact hQ)
            · refine pz_ic (i := 62) rfl ?_
              refine pz_go (i := 63) rfl ?_
              refine pz_ir (i := 65) rfl rfl rfl ?_
              first
                | (have h4 := nI_32 q8l (by omega) c61
                   have h3 := nI_32 q4l (by omega) c53
                   have h2 := nI_32 (b := 0) (by omega) (by decide) c45
                   have h1 : bN (av 0) ((p + 1) % rm) < 120 := by
                     obtain ⟨m, hm, he⟩ := kx_nat (bB_t c38)
                     rw [nI_32 (by omega) (by omega) he]
                     exact hm
                   rw [decide_eq_true h1, decide_eq_true h2, decide_eq_true h3, decide_eq_true h4] at hQ
                   exact hQ)
                | (rw [decide_eq_false (fun z : qL rm (av 0) (p + 8) = n => c61 (by rw [z])), Bool.and_false] at hQ
                   exact hQ)
                | (rw [decide_eq_false (fun z : qL rm (av 0) (p + 4) = n => c53 (by rw [z])), Bool.and_false, Bool.false_and] at hQ
                   exact hQ)
                | (rw [decide_eq_false (fun z : bN (av 0) ((p + 3) % rm) = 0 => c45 (by rw [z]; rfl)), Bool.and_false, Bool.false_and, Bool.false_and] at hQ
                   exact hQ)
                | (rw [decide_eq_false (fun z : bN (av 0) ((p + 1) % rm) < 120 => by have := bB_f c38; rw [kx_of z] at this; cases this), Bool.false_and, Bool.false_and, Bool.false_and] at hQ
                   exact hQ)
  have hg : ∀ y3 y4 : Int32, ¬ (((bN (av 0) (p % rm) % 128) = 1 ∧ (bN (av 0) ((p + 2) % rm)) ≤ 64) ∨ ((bN (av 0) (p % rm) % 128) = 2 ∧ (bN (av 0) ((p + 2) % rm)) = 0)) → pz Lx xs (d + 3) rt_45 (some .boolean) Q 28 [some (.ref (oV v)), some (.int (nI p)), some (.int (nI n)), some (.int y3), some (.int y4), none] [.int 0] (wX rm iv av r) := by
    intro y3 y4 hfit
    have hF : ((decide ((bN (av 0) (p % rm) % 128) = 1) && decide ((bN (av 0) ((p + 2) % rm)) ≤ 64)) || (decide ((bN (av 0) (p % rm) % 128) = 2) && decide ((bN (av 0) ((p + 2) % rm)) = 0))) = false := by
      cases hh : ((decide ((bN (av 0) (p % rm) % 128) = 1) && decide ((bN (av 0) ((p + 2) % rm)) ≤ 64)) || (decide ((bN (av 0) (p % rm) % 128) = 2) && decide ((bN (av 0) ((p + 2) % rm)) = 0))) with
      | false => rfl
      | true =>
        rw [Bool.or_eq_true, Bool.and_eq_true, Bool.and_eq_true, decide_eq_true_iff, decide_eq_true_iff, decide_eq_true_iff, decide_eq_true_iff] at hh
        exact absurd hh hfit
    unfold isR at hQ
    rw [hF, Bool.false_and, Bool.false_and, Bool.false_and, Bool.false_and] at hQ
    refine pz_is (i := 28) rfl ⟨rfl, Nat.le_of_ble_eq_true rfl⟩ rfl ?_
    refine pz_il (i := 29) rfl rfl ?_
    refine pz_if_eq (i := 30) rfl (fun c30 => ?_) (fun c30 => ?_)
    · refine pz_ic (i := 64) rfl ?_
      refine pz_ir (i := 65) rfl rfl rfl ?_
      exact hQ
    · exact absurd rfl c30
  refine pz_aln (i := 0) rfl rfl ?_
  refine pz_get (i := 1) rfl (gV_0 hv ..) ?_
  refine pz_iln (i := 2) rfl rfl ?_
  refine pz_cI1 (i := 3) rfl (gc_2 ..) rfl (Nat.le_of_ble_eq_true rfl) rfl ?_
  refine sx_logByte hr (by omega) ?_
  rw [bN_and]
  refine ⟨_, rfl, ?_⟩
  refine pz_si (i := 4) rfl ?_
  refine pz_and (i := 5) rfl ?_
  rw [b_and _ l0]
  refine pz_isn (i := 6) rfl ⟨rfl, Nat.le_of_ble_eq_true rfl⟩ rfl ?_
  refine pz_aln (i := 7) rfl rfl ?_
  refine pz_get (i := 8) rfl (gV_0 hv ..) ?_
  refine pz_iln (i := 9) rfl rfl ?_
  refine pz_ic (i := 10) rfl ?_
  refine pz_add (i := 11) rfl ?_
  rw [show nI p + 2 = nI (p + 2) from nI_add p 2]
  refine pz_cI1 (i := 12) rfl (gc_2 ..) rfl (Nat.le_of_ble_eq_true rfl) rfl ?_
  refine sx_logByte hr (by omega) ?_
  rw [bN_and]
  refine ⟨_, rfl, ?_⟩
  refine pz_is (i := 13) rfl ⟨rfl, Nat.le_of_ble_eq_true rfl⟩ rfl ?_
  refine pz_iln (i := 14) rfl rfl ?_
  refine pz_ic (i := 15) rfl ?_
  refine pz_ii_ne (i := 16) rfl (fun c16 => ?_) (fun c16 => ?_)
  · refine pz_iln (i := 20) rfl rfl ?_
    refine pz_ic (i := 21) rfl ?_
    refine pz_ii_ne (i := 22) rfl (fun c22 => ?_) (fun c22 => ?_)
    · refine pz_ic (i := 27) rfl ?_
      first
        | exact hf _ _ (Or.inl ⟨eq_ofI (b := 1) c16 (by omega) (by decide), le_ofI (b := 64) c19 (by omega) (by decide)⟩)
        | exact hf _ _ (Or.inr ⟨eq_ofI (b := 2) c22 (by omega) (by decide), eq_ofI (b := 0) c24 (by omega) (by decide)⟩)
        | (refine hg _ _ (fun z => z.elim (fun w => ?_) (fun w => ?_))
           · first
               | exact c16 (by rw [w.1]; rfl)
               | exact c19 (nI_le w.2 (by decide))
           · first
               | exact c22 (by rw [w.1]; rfl)
               | exact c24 (by rw [w.2]; rfl))
    · refine pz_il (i := 23) rfl rfl ?_
      refine pz_if_ne (i := 24) rfl (fun c24 => ?_) (fun c24 => ?_)
      · refine pz_ic (i := 27) rfl ?_
        first
          | exact hf _ _ (Or.inl ⟨eq_ofI (b := 1) c16 (by omega) (by decide), le_ofI (b := 64) c19 (by omega) (by decide)⟩)
          | exact hf _ _ (Or.inr ⟨eq_ofI (b := 2) c22 (by omega) (by decide), eq_ofI (b := 0) c24 (by omega) (by decide)⟩)
          | (refine hg _ _ (fun z => z.elim (fun w => ?_) (fun w => ?_))
             · first
                 | exact c16 (by rw [w.1]; rfl)
                 | exact c19 (nI_le w.2 (by decide))
             · first
                 | exact c22 (by rw [w.1]; rfl)
                 | exact c24 (by rw [w.2]; rfl))
      · refine pz_ic (i := 25) rfl ?_
        refine pz_go (i := 26) rfl ?_
        first
          | exact hf _ _ (Or.inl ⟨eq_ofI (b := 1) c16 (by omega) (by decide), le_ofI (b := 64) c19 (by omega) (by decide)⟩)
          | exact hf _ _ (Or.inr ⟨eq_ofI (b := 2) c22 (by omega) (by decide), eq_ofI (b := 0) c24 (by omega) (by decide)⟩)
          | (refine hg _ _ (fun z => z.elim (fun w => ?_) (fun w => ?_))
             · first
                 | exact c16 (by rw [w.1]; rfl)
                 | exact c19 (nI_le w.2 (by decide))
             · first
                 | exact c22 (by rw [w.1]; rfl)
                 | exact c24 (by rw [w.2]; rfl))
  · refine pz_il (i := 17) rfl rfl ?_
    refine pz_bi (i := 18) rfl ?_
    refine pz_ii_le (i := 19) rfl (fun c19 => ?_) (fun c19 => ?_)
    · refine pz_ic (i := 25) rfl ?_
      refine pz_go (i := 26) rfl ?_
      first
        | exact hf _ _ (Or.inl ⟨eq_ofI (b := 1) c16 (by omega) (by decide), le_ofI (b := 64) c19 (by omega) (by decide)⟩)
        | exact hf _ _ (Or.inr ⟨eq_ofI (b := 2) c22 (by omega) (by decide), eq_ofI (b := 0) c24 (by omega) (by decide)⟩)
        | (refine hg _ _ (fun z => z.elim (fun w => ?_) (fun w => ?_))
           · first
               | exact c16 (by rw [w.1]; rfl)
               | exact c19 (nI_le w.2 (by decide))
           · first
               | exact c22 (by rw [w.1]; rfl)
               | exact c24 (by rw [w.2]; rfl))
    · refine pz_iln (i := 20) rfl rfl ?_
      refine pz_ic (i := 21) rfl ?_
      refine pz_ii_ne (i := 22) rfl (fun c22 => ?_) (fun c22 => ?_)
      · refine pz_ic (i := 27) rfl ?_
        first
          | exact hf _ _ (Or.inl ⟨eq_ofI (b := 1) c16 (by omega) (by decide), le_ofI (b := 64) c19 (by omega) (by decide)⟩)
          | exact hf _ _ (Or.inr ⟨eq_ofI (b := 2) c22 (by omega) (by decide), eq_ofI (b := 0) c24 (by omega) (by decide)⟩)
          | (refine hg _ _ (fun z => z.elim (fun w => ?_) (fun w => ?_))
             · first
                 | exact c16 (by rw [w.1]; rfl)
                 | exact c19 (nI_le w.2 (by decide))
             · first
                 | exact c22 (by rw [w.1]; rfl)
                 | exact c24 (by rw [w.2]; rfl))
      · refine pz_il (i := 23) rfl rfl ?_
        refine pz_if_ne (i := 24) rfl (fun c24 => ?_) (fun c24 => ?_)
        · refine pz_ic (i := 27) rfl ?_
          first
            | exact hf _ _ (Or.inl ⟨eq_ofI (b := 1) c16 (by omega) (by decide), le_ofI (b := 64) c19 (by omega) (by decide)⟩)
            | exact hf _ _ (Or.inr ⟨eq_ofI (b := 2) c22 (by omega) (by decide), eq_ofI (b := 0) c24 (by omega) (by decide)⟩)
            | (refine hg _ _ (fun z => z.elim (fun w => ?_) (fun w => ?_))
               · first
                   | exact c16 (by rw [w.1]; rfl)
                   | exact c19 (nI_le w.2 (by decide))
               · first
                   | exact c22 (by rw [w.1]; rfl)
                   | exact c24 (by rw [w.2]; rfl))
        · refine pz_ic (i := 25) rfl ?_
          refine pz_go (i := 26) rfl ?_
          first
            | exact hf _ _ (Or.inl ⟨eq_ofI (b := 1) c16 (by omega) (by decide), le_ofI (b := 64) c19 (by omega) (by decide)⟩)
            | exact hf _ _ (Or.inr ⟨eq_ofI (b := 2) c22 (by omega) (by decide), eq_ofI (b := 0) c24 (by omega) (by decide)⟩)
            | (refine hg _ _ (fun z => z.elim (fun w => ?_) (fun w => ?_))
               · first
                   | exact c16 (by rw [w.1]; rfl)
                   | exact c19 (nI_le w.2 (by decide))
               · first
                   | exact c22 (by rw [w.1]; rfl)
                   | exact c24 (by rw [w.2]; rfl))
set_option maxRecDepth 20000 in
theorem lp_tr (hr : 0 < rm ∧ rm ≤ 4096) {v N : Nat} (hv : v < 2) (hN : N < 2 ^ 30) {iv0 : Nat → Int32} {av0 : Nat → Nat → Int32} {p1 : Nat} {m1 : mP} (hQ : ∀ iv av, eX (2 * v) iv av m1 → iv (10 + 10 * v + 5) = nI p1 → iv (10 + 10 * v + 6) = nI N → frI iv0 iv [10 + 10 * v + 5, 10 + 10 * v + 6, 30 + 2 * v] → frA av0 av [10 + 3 * (2 * v) + 0, 10 + 3 * (2 * v) + 1, 10 + 3 * (2 * v) + 2] → Q none (wX rm iv av r)) :
    ∀ (l : List lR) (n p : Nat) (m : mP) (iv : Nat → Int32) (av : Nat → Nat → Int32) (x3 : Option Value), n + l.length = N → p + lgZ l = p1 → p1 < 2 ^ 30 → rpM p n m l = m1 → (∀ y ∈ l, rcOK y) → atL rm (av0 0) p (lgB n l) → eX (2 * v) iv av m → iv (10 + 10 * v + 5) = nI p → frI iv0 iv [10 + 10 * v + 5, 10 + 10 * v + 6, 30 + 2 * v] → frA av0 av [10 + 3 * (2 * v) + 0, 10 + 3 * (2 * v) + 1, 10 + 3 * (2 * v) + 2] → pz Lx xs (d + 3) rt_46 none Q 3 [some (.ref (oV v)), some (.int (nI N)), some (.int (nI n)), x3] [] (wX rm iv av r) := by
  intro l
  induction l with
  | nil =>
    intro n p m iv av x3 hn hp hp1 hm ho hA hx h5 f1 f2
    have hn' : n = N := hn
    have hp' : p = p1 := hp
    have hm' : m = m1 := hm
    subst hn' hp' hm'
    refine pz_iln (i := 3) rfl rfl ?_
    refine pz_iln (i := 4) rfl rfl ?_
    refine pz_ii_ge (i := 5) rfl (fun c5 => ?_) (fun c5 => ?_)
    · refine pz_aln (i := 40) rfl rfl ?_
      refine pz_iln (i := 41) rfl rfl ?_
      refine pz_put (i := 42) rfl (pV_9 hv ..) ⟨rfl, rfl⟩ ?_
      refine pz_vr (i := 43) rfl rfl ?_
      refine hQ _ av (eX_ext hx (ui_n (by omega)) rfl rfl rfl) ((ui_n (by omega)).trans h5) (ui_s _ _ _) (frI_up f1 (by simp)) f2
    · exact absurd (Int32.le_refl _) c5
  | cons y l ih =>
    intro n p m iv av x3 hn hp hp1 hm ho hA hx h5 f1 f2
    have hy := ho y List.mem_cons_self
    obtain ⟨o1, o2, o3, o4, o5, o6, o7⟩ := id hy
    have hn' : n + (l.length + 1) = N := hn
    have hp' : p + (rcZ y + lgZ l) = p1 := hp
    have hzy : rcZ y = 12 + y.2.2.2.length := rfl
    have hA' : atL rm (av0 0) p (rcB y n ++ lgB (n + 1) l) := hA
    rw [atL_app, rcB_len] at hA'
    have hc0 : av 0 = av0 0 := f2 0 (by simp only [List.mem_cons, List.not_mem_nil, or_false, not_or]; omega)
    have hrc : rcA rm (av 0) p y n := by rw [hc0]; exact hA'.1
    have hkk : (y.1 + y.2.1) % 128 = y.1 := by
      rcases o3 with h | h <;> rw [h] <;> omega
    have hk256 : y.1 + y.2.1 < 256 := by omega
    have he5 : 2 * v < 5 := by omega
    refine pz_iln (i := 3) rfl rfl ?_
    refine pz_iln (i := 4) rfl rfl ?_
    refine pz_ii_ge (i := 5) rfl (fun c5 => ?_) (fun c5 => ?_)
    · exact absurd (le_ofI c5) (by omega)
    · refine pz_aln (i := 6) rfl rfl ?_
      refine pz_get (i := 7) rfl (gV_0 hv ..) ?_
      refine pz_aln (i := 8) rfl rfl ?_
      refine pz_get (i := 9) rfl (gV_8 hv ..) ?_
      rw [h5]
      refine pz_cI1 (i := 10) rfl (gc_2 ..) rfl (Nat.le_of_ble_eq_true rfl) rfl ?_
      refine sx_logByte hr (by omega) ?_
      rw [bN_and, rcA_kind hrc]
      refine ⟨_, rfl, ?_⟩
      refine pz_si (i := 11) rfl ?_
      refine pz_and (i := 12) rfl ?_
      rw [b_and _ hk256, hkk]
      refine pz_isn (i := 13) rfl ⟨rfl, Nat.le_of_ble_eq_true rfl⟩ rfl ?_
      refine pz_aln (i := 14) rfl rfl ?_
      refine pz_get (i := 15) rfl (gV_1 hv ..) ?_
      refine pz_aln (i := 16) rfl rfl ?_
      refine pz_get (i := 17) rfl (gV_0 hv ..) ?_
      refine pz_aln (i := 18) rfl rfl ?_
      refine pz_get (i := 19) rfl (gV_8 hv ..) ?_
      rw [h5]
      refine pz_ic (i := 20) rfl ?_
      refine pz_add (i := 21) rfl ?_
      rw [show nI p + 1 = nI (p + 1) from nI_add p 1]
      refine pz_cI1 (i := 22) rfl (gc_2 ..) rfl (Nat.le_of_ble_eq_true rfl) rfl ?_
      refine sx_logByte hr (by omega) ?_
      rw [bN_and, rcA_key hrc]
      refine ⟨_, rfl, ?_⟩
      refine pz_iln (i := 23) rfl rfl ?_
      refine pz_iln (i := 24) rfl rfl ?_
      refine pz_aln (i := 25) rfl rfl ?_
      refine pz_get (i := 26) rfl (gV_8 hv ..) ?_
      rw [h5]
      refine pz_cV4 (i := 27) rfl (gE_c (by omega) ..) rfl (Nat.le_of_ble_eq_true rfl) rfl ?_
      refine sx_Eset (e := 2 * v) he5 o4 ?_
      have g5 : (se_iv iv av (2 * v) y.2.2.1) (10 + 10 * v + 5) = nI p := (se_fi _ (by simp only [List.mem_cons, List.not_mem_nil, or_false]; omega)).trans h5
      have hcs : se_av av (2 * v) y.2.2.1 (nI y.1) (nI n) (nI p) 0 = av 0 := se_fr 0 (by simp only [List.mem_cons, List.not_mem_nil, or_false, not_or]; omega)
      refine ⟨rfl, ?_⟩
      refine pz_aln (i := 28) rfl rfl ?_
      refine pz_dup (i := 29) rfl rfl ?_
      refine pz_get (i := 30) rfl (gV_8 hv ..) ?_
      rw [g5]
      refine pz_aln (i := 31) rfl rfl ?_
      refine pz_get (i := 32) rfl (gV_0 hv ..) ?_
      refine pz_aln (i := 33) rfl rfl ?_
      refine pz_get (i := 34) rfl (gV_8 hv ..) ?_
      rw [g5]
      refine pz_cI1 (i := 35) rfl (gc_2 ..) rfl (Nat.le_of_ble_eq_true rfl) rfl ?_
      refine sx_recordSize hr (by omega) ?_
      rw [bN_and, hcs, rcA_len hrc, show (12 : Int32) + nI y.2.2.2.length = nI (rcZ y) from nI_add 12 _]
      refine ⟨_, rfl, ?_⟩
      refine pz_add (i := 36) rfl ?_
      rw [nI_add]
      refine pz_put (i := 37) rfl (pV_8 hv ..) ⟨rfl, rfl⟩ ?_
      refine pz_inc (i := 38) rfl rfl rfl rfl ?_
      refine pz_go (i := 39) rfl ?_
      rw [nI_1]
      refine ih (n + 1) (p + rcZ y) (upM m y.2.2.1 (y.1, n, p)) _ _ _ (by omega) (by omega) hp1 hm (fun z hz => ho z (List.mem_cons_of_mem _ hz)) hA'.2 (eX_ext (eX_set hx o4 (x := (y.1, n, p)) ⟨o1, o2, by show n < _; omega, by show p < _; omega⟩) (ui_n (by omega)) rfl rfl rfl) (ui_s _ _ _) (frI_up (frI_tr f1 se_fi (fun _ h => h) (by simp)) (by simp)) (frA_tr f2 se_fr (fun _ h => h) (fun _ h => h))
set_option maxRecDepth 20000 in
theorem sx_takeRecords (hr : 0 < rm ∧ rm ≤ 4096) {v n p : Nat} (hv : v < 2) {m : mP} {l : List lR} (hN : n + l.length < 2 ^ 30) (hp : p + lgZ l < 2 ^ 30) (ho : ∀ y ∈ l, rcOK y) (hA : atL rm (av 0) p (lgB n l)) (hx : eX (2 * v) iv av m) (h5 : iv (10 + 10 * v + 5) = nI p) (h6 : iv (10 + 10 * v + 6) = nI n) (hQ : ∀ iv' av', eX (2 * v) iv' av' (rpM p n m l) → iv' (10 + 10 * v + 5) = nI (p + lgZ l) → iv' (10 + 10 * v + 6) = nI (n + l.length) → frI iv iv' [10 + 10 * v + 5, 10 + 10 * v + 6, 30 + 2 * v] → frA av av' [10 + 3 * (2 * v) + 0, 10 + 3 * (2 * v) + 1, 10 + 3 * (2 * v) + 2] → Q none (wX rm iv' av' r)) : rx_R Lx xs (d + 4) 46 [.ref (oV v), .int (nI (n + l.length))] (wX rm iv av r) Q := by
  refine pz_en (t := rt_46) ⟨Nat.le_of_ble_eq_true rfl, rfl⟩ rfl rfl ?_
  refine pz_aln (i := 0) rfl rfl ?_
  refine pz_get (i := 1) rfl (gV_9 hv ..) ?_
  rw [h6]
  refine pz_isn (i := 2) rfl ⟨rfl, Nat.le_of_ble_eq_true rfl⟩ rfl ?_
  exact lp_tr hr hv hN (p1 := p + lgZ l) (m1 := rpM p n m l) hQ l n p m iv av _ rfl rfl hp rfl ho hA hx h5 (frI_rfl _ _) (frA_rfl _ _)
end S76
