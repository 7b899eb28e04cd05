/-! PART 90: new byte[8][64] (over the whole library) -/
theorem gr_out (c : ClassId) (N h0 : Nat) : ∀ i : Nat, Jvm.Free.Multi.outerC c N h0 i = arrV c N (fun j => va_rf (if j < i then some (h0 + 1 + j) else none))
  | 0 => by
    show ({ cls := c, slots := Array.replicate N .null, vm := .none } : Cell) = _
    rw [arrV_new]
    refine congrArg (arrV c N) (funext fun j => ?_)
    simp [va_rf]
  | i + 1 => by
    show (Jvm.Free.Multi.outerC c N h0 i).setSlot i (.ref (h0 + 1 + i)) = _
    rw [gr_out c N h0 i, arrV_store]
    refine congrArg (arrV c N) (funext fun j => ?_)
    by_cases e : j = i
    · subst e
      simp [updV, va_rf]
    · by_cases h : j < i
      · simp [updV, e, h, Nat.lt_succ_of_lt h]
      · simp [updV, e, h, show ¬ j < i + 1 by omega]
set_option maxHeartbeats 1000000 in
theorem sd_mna_ok : sd_mna := by
  intro p l e R s m args below meth c H locs cells slots Qw b h Lx xs tc D own nm cc nL ret pc idx ls w st C hP hz hS hlink hd hcells hslots kk
  obtain ⟨hx, hb, hml, hown, hts, hK, hX, hbh, hh, hN, -⟩ := C
  intro T hT X
  have e1 : "[" ++ (FieldType.array .byte).toString = "[[B" := by decide +kernel
  have e2 : (FieldType.array .byte).toString = "[" ++ FieldType.byte.toString := by decide +kernel
  have h8 : (8 : Int32).toNatClampNeg = 8 := by decide
  have h64 : (64 : Int32).toNatClampNeg = 64 := by decide
  obtain ⟨vm₁, cA, comp, -, fA, fC, hO, -, X', step⟩ := X.multianewarray2F (ty := .byte) hx hown (by rw [e1]; exact hts _ hlink) hN.2 (hts _ (wg_in wo_ar.2.1)) (g := F0 m pc ls (.int 64 :: .int 8 :: st)) rfl (by rw [hb]; exact hd) (n := 8) (k := 64) (rest := st) rfl (by decide) (by decide) (by decide) (by decide) (by decide) rfl rfl (by rw [h8]; omega) (by rw [h8, h64]; omega)
  rw [h8, h64] at X' step
  have hTh : (T.setVm vm₁).heap = H := hT
  generalize hF : Jvm.Free.Multi.fill (T.setVm vm₁) cA comp 8 64 (defaultValue .byte) 8 = F at X' step
  obtain ⟨f1, f2, -, -⟩ := Jvm.Free.Multi.fill_facts (T.setVm vm₁) cA comp 8 64 (defaultValue .byte) 8
  rw [hF, hTh] at f1 f2
  have hold : ∀ x : Nat, x < H.size → F.heap[x]? = H[x]? := fun x hx => by
    have := Jvm.Free.Multi.fill_old (T.setVm vm₁) cA comp 8 64 (defaultValue .byte) (a := x) (by rw [hTh]; exact hx) 8
    rw [hF, hTh] at this
    exact this
  have hrow : ∀ j : Nat, j < 8 → F.heap[H.size + 1 + j]? = some (Jvm.Free.Multi.innerC comp 64 (defaultValue .byte)) := fun j hj => by
    have := Jvm.Free.Multi.fill_inner (T.setVm vm₁) cA comp 8 64 (defaultValue .byte) 8 j hj
    rw [hF, hTh] at this
    exact this
  have hc3 : cA = tc 3 := by
    have h3 := (hK.2 3 (tc 3, .array .byte) rfl).2
    exact Option.some.inj (fA.symm.trans h3)
  have hc1 : comp = tc 1 := by
    have h1 := (hK.2 1 (tc 1, .byte) rfl).2
    rw [e2] at fC
    exact Option.some.inj (fC.symm.trans h1)
  subst hc3
  subst hc1
  have hTs : T.heap.size = h + w.length := by rw [hT]; exact hz
  have hinner : Jvm.Free.Multi.innerC (tc 1) 64 (defaultValue .byte) = vp_cell (tc 1) (64, .inl (fun _ => 0)) := by
    show ({ cls := tc 1, slots := Array.replicate 64 (.int 0), vm := .none } : Cell) = _
    rw [vp_cell_i, arrV_new]
  have hcells : va_P D rx_cl (rx_cw b h tc h (w ++ .inl (3, 8, .inr (.inr (.inr (.inr (fun j => if j < 8 then some (w.length + 2 + j) else none))))) :: List.replicate 8 (.inl (1, 64, .inl (fun _ => 0))))) F.heap := by
    intro k q hk
    rw [cw_get] at hk
    obtain ⟨el, hel, rfl⟩ := Option.map_eq_some_iff.mp hk
    by_cases hkw : k < w.length
    · rw [List.getElem?_append_left hkw] at hel
      have hq := hP k (h + k, rx_ce b h tc el) (by rw [cw_get, hel]; rfl)
      exact hq.kept (hold _ (by rw [hz]; show h + k < h + w.length; omega))
    · rw [List.getElem?_append_right (by omega)] at hel
      by_cases hk0 : k = w.length
      · subst hk0
        rw [Nat.sub_self] at hel
        cases hel
        show F.heap[h + w.length]? = some (vp_cell (tc 3) (8, .inr (.inr (.inr (.inr (fun j => (if j < 8 then some (w.length + 2 + j) else none).map (rx_ad b h)))))))
        rw [← hz, f2, gr_out, vp_cell_q]
        refine congrArg (fun f => some (arrV (tc 3) 8 f)) (funext fun j => ?_)
        by_cases hj : j < 8
        · rw [if_pos hj, if_pos hj]
          have e3 : rx_ad b h (w.length + 2 + j) = h + (w.length + 1 + j) := by
            rw [show w.length + 2 + j = (w.length + 1 + j) + 1 by omega]
            rfl
          show va_rf (some (H.size + 1 + j)) = va_rf (some (rx_ad b h (w.length + 2 + j)))
          rw [e3, hz]
          congr 2
          omega
        · rw [if_neg hj, if_neg hj]
          rfl
      · obtain ⟨i, hi⟩ : ∃ i, k - w.length = i + 1 := ⟨k - w.length - 1, by omega⟩
        rw [hi, List.getElem?_cons_succ, List.getElem?_replicate] at hel
        split at hel
        · rename_i hi8
          cases hel
          show F.heap[h + k]? = some (vp_cell (tc 1) (64, .inl (fun _ => 0)))
          rw [show h + k = H.size + 1 + i by omega, hrow i hi8, hinner]
        · cases hel
  obtain ⟨t, a1, b1⟩ := kk F.heap hcells (by rw [f1, hz]; omega) ⟨Nat.le_trans hS.1 (by omega), fun x g1 g2 => (hold x (Nat.lt_of_lt_of_le g1 hS.1)).trans (hS.2.1 x g1 g2), hS.2.2⟩ F rfl X'
  refine ⟨t, step t ?_, b1⟩
  rw [hTs]
  exact a1
