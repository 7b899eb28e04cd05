/-! PART 12: the law, out of one run of the small machine -/
/-! THE CLAIM OUT OF ONE WALK OF THE LAW'S BODY. Your part is whole_start (and what it stands on); all else here is the same for every law, but numbers. -/
def R_law : String := "TrailStoreLaw"
def lw_P (b : Addr) (xs : List Int32) (args : Array Value) (s : State) : Prop := args = #[.ref b] ∧ s.IntsAt b xs ∧ xs.length ≤ 2049 ∧ (Jvm.Cond.and given_1 narrow_1).before args s = true
def lw_Q (_ : Array Value) (s : State) (o : Outcome) (t : State) : Prop := o = .returned (some (.int 1)) ∧ Framed s o t [] 600000 7302250
def lw_Z (below : List Frame) (a : Array Value) (s : State) : State → Prop := fun t => ∃ o, t.status = .running ∧ Ended t below o ∧ lw_Q a s o t
/-- the law's own end, with 1 on the stack, nothing written that was there before, its room as the claim has it -/
theorem lw_ret {p : Program} {l : Launch} {e : Env} {s : State} {m : MethodId} {below : List Frame} {meth : Method} {c : Code} {b : Nat} (hx : p.tables.exec = Jvm.exec) (hb : c.code = code) (hr : meth.sig.returnType = ret) (hlocks : meth.locks = false) {pc : Nat} {H : Heap} {ls : Array Slot} (hdg : decode code pc = .ok (.ireturn, 1)) : W p l e room_1 s m #[Value.ref b] below meth c H [] 600000 7302250 (lw_Z below #[Value.ref b] s) (F0 m pc ls [.int 1]) := by
  intro T hT X
  obtain ⟨fs, hret, hrun, hended, hW, hframe⟩ := X.leave (v := some (.int 1)) (hlocks := hlocks) (fun h => by rw [hr] at h; cases h)
  have hmeth' : T.vm.method? m = some meth := X.method'
  refine ⟨T.setFrames fs, ?_, .returned (some (.int 1)), hrun, hended, rfl, ⟨_, rfl⟩, hW, hframe⟩
  jvm_step X.here [X.here.top, hx, hb, hdg, hmeth', hr, ret, narrow_b1]
  (try refine ⟨rfl, ?_⟩); (try refine ⟨rfl, ?_⟩)
  first | (intro acts; rw [hret _ acts rfl rfl rfl]) | rw [hret _ _ rfl rfl rfl]
  exact Steps.refl _
/-- what holds at the law's entry: the machine, the code, the tables' words (any of lw_tbl by 'hts w (by decide +kernel)'), the script of L ints xs at the cell b, what the Statement gives of the start (any of its parts by flat_of_before) -/
def lw_At (p : Program) (s : State) (m : MethodId) (meth : Method) (c : Code) (b L : Nat) (xs : Nat → Int32) : Prop :=
  p.tables.exec = Jvm.exec ∧ c.code = code ∧ meth.sig.returnType = ret ∧ c.maxLocals = 4 ∧ s.vm.findClass R_law = some m.cls ∧ (∀ w ∈ lw_tbl, w.before #[Value.ref b] s = true) ∧ va_X b L xs s s.heap ∧ b < s.heap.size ∧ meth.locks = false ∧ (Jvm.Cond.and given_1 narrow_1).before #[Value.ref b] s = true
theorem wl_0 (nm : String) : wk_l "TrailStoreLaw" nm rt_149_0 := ⟨⟨⟨rfl, rfl⟩, ⟨rfl, rfl⟩, ⟨rfl, rfl⟩⟩, trivial, trivial, trivial, ⟨rfl, rfl⟩, ⟨rfl, rfl⟩, trivial, ⟨⟨rfl, rfl⟩, ⟨rfl, rfl⟩, ⟨rfl, rfl⟩⟩, trivial, trivial, trivial, ⟨rfl, rfl⟩, ⟨rfl, rfl⟩, trivial, trivial, trivial, trivial⟩
theorem wl_1 (nm : String) : wk_l "TrailStoreLaw" nm rt_149_1 := ⟨trivial, trivial, trivial, trivial, trivial, trivial, trivial, trivial, trivial, trivial, trivial, trivial, trivial, trivial, trivial, trivial, trivial⟩
theorem wl_2 (nm : String) : wk_l "TrailStoreLaw" nm rt_149_2 := ⟨trivial, trivial, trivial, trivial, trivial, trivial, trivial, trivial, trivial, trivial, trivial, ⟨rfl, rfl⟩, trivial, trivial, trivial, trivial, trivial⟩
theorem wl_3 (nm : String) : wk_l "TrailStoreLaw" nm rt_149_3 := ⟨trivial, trivial, trivial, ⟨rfl, rfl⟩, trivial, trivial, trivial, trivial, trivial, trivial, trivial, trivial, trivial, trivial, trivial, trivial, trivial⟩
theorem wl_4 (nm : String) : wk_l "TrailStoreLaw" nm rt_149_4 := ⟨trivial, trivial, trivial, ⟨rfl, rfl⟩, trivial, trivial, trivial, trivial, trivial, trivial, trivial, ⟨rfl, rfl⟩, trivial, trivial, trivial, trivial, trivial⟩
theorem wl_5 (nm : String) : wk_l "TrailStoreLaw" nm rt_149_5 := ⟨trivial, trivial, trivial, trivial, trivial, ⟨rfl, rfl⟩, trivial, trivial, trivial, trivial, trivial, trivial, ⟨rfl, rfl⟩, trivial, trivial, trivial, trivial⟩
theorem wl_6 (nm : String) : wk_l "TrailStoreLaw" nm rt_149_6 := ⟨trivial, trivial, trivial, trivial, trivial, trivial, ⟨rfl, rfl⟩, trivial, trivial, trivial, trivial, trivial, trivial, ⟨rfl, rfl⟩, trivial, trivial, trivial⟩
theorem wl_7 (nm : String) : wk_l "TrailStoreLaw" nm rt_149_7 := ⟨trivial, trivial, ⟨rfl, rfl⟩, trivial, ⟨rfl, rfl⟩, trivial, trivial, trivial, trivial, ⟨rfl, rfl⟩, trivial, ⟨rfl, rfl⟩, trivial, trivial, trivial, trivial, trivial⟩
theorem wl_8 (nm : String) : wk_l "TrailStoreLaw" nm rt_149_8 := ⟨⟨rfl, rfl⟩, trivial, ⟨rfl, rfl⟩, trivial, trivial, trivial, trivial, trivial, trivial, trivial, trivial, trivial, ⟨rfl, rfl⟩, trivial, trivial, trivial, trivial⟩
theorem wl_9 (nm : String) : wk_l "TrailStoreLaw" nm rt_149_9 := ⟨trivial, trivial, trivial, ⟨rfl, rfl⟩, trivial, trivial, trivial, trivial, trivial, trivial, trivial, trivial, trivial, ⟨rfl, rfl⟩, trivial, trivial, trivial⟩
theorem wl_10 (nm : String) : wk_l "TrailStoreLaw" nm rt_149_10 := ⟨trivial, trivial, trivial, trivial, ⟨rfl, rfl⟩, trivial, trivial, trivial, trivial, trivial, trivial, trivial, trivial, trivial, ⟨rfl, rfl⟩, trivial, trivial⟩
theorem wl_11 (nm : String) : wk_l "TrailStoreLaw" nm rt_149_11 := ⟨trivial, trivial, trivial, trivial, trivial, ⟨rfl, rfl⟩, trivial, trivial, trivial, trivial, ⟨rfl, rfl⟩, trivial, ⟨rfl, rfl⟩, trivial, trivial, trivial, trivial⟩
theorem wl_12 (nm : String) : wk_l "TrailStoreLaw" nm rt_149_12 := ⟨trivial, ⟨rfl, rfl⟩, trivial, ⟨rfl, rfl⟩, trivial, trivial, trivial, trivial, trivial, trivial, trivial, trivial, trivial, ⟨rfl, rfl⟩, trivial, trivial, trivial⟩
theorem wl_13 (nm : String) : wk_l "TrailStoreLaw" nm rt_149_13 := ⟨trivial, trivial, trivial, trivial, ⟨rfl, rfl⟩, trivial, trivial, trivial, trivial, trivial, trivial, trivial, trivial, trivial, trivial, trivial, trivial⟩
theorem wl_14 (nm : String) : wk_l "TrailStoreLaw" nm rt_149_14 := ⟨trivial, trivial, trivial, ⟨rfl, rfl⟩, trivial, trivial, trivial, trivial, trivial, trivial, trivial, trivial, trivial, trivial, trivial, ⟨rfl, rfl⟩, trivial⟩
theorem wl_15 (nm : String) : wk_l "TrailStoreLaw" nm rt_149_15 := ⟨trivial, trivial, trivial, trivial, trivial, trivial, trivial, trivial, trivial, trivial, trivial, trivial, trivial, trivial, trivial, trivial, trivial⟩
theorem wl_16 (nm : String) : wk_l "TrailStoreLaw" nm rt_149_16 := ⟨trivial, trivial, trivial, ⟨rfl, rfl⟩, trivial, trivial, trivial, trivial, trivial, trivial, trivial, trivial, trivial, trivial, trivial, trivial, trivial⟩
theorem wl_17 (nm : String) : wk_l "TrailStoreLaw" nm rt_149_17 := ⟨trivial, trivial, trivial, trivial, ⟨rfl, rfl⟩, trivial, trivial, trivial, trivial, ⟨rfl, rfl⟩, trivial, ⟨rfl, rfl⟩, trivial, trivial, trivial, trivial, trivial⟩
theorem wl_18 (nm : String) : wk_l "TrailStoreLaw" nm rt_149_18 := ⟨⟨rfl, rfl⟩, trivial, ⟨rfl, rfl⟩, trivial, trivial, trivial, trivial, trivial, trivial, trivial, trivial, trivial, ⟨rfl, rfl⟩, trivial, trivial, trivial, trivial⟩
theorem wl_19 (nm : String) : wk_l "TrailStoreLaw" nm rt_149_19 := ⟨trivial, trivial, trivial, ⟨rfl, rfl⟩, trivial, trivial, trivial, trivial, trivial, trivial, trivial, trivial, trivial, trivial, trivial, trivial, trivial⟩
theorem wl_20 (nm : String) : wk_l "TrailStoreLaw" nm rt_149_20 := ⟨trivial, trivial, ⟨rfl, rfl⟩, trivial, trivial, trivial, trivial, trivial, trivial, trivial, trivial, trivial, trivial, trivial, ⟨rfl, rfl⟩, trivial, trivial⟩
theorem wl_21 (nm : String) : wk_l "TrailStoreLaw" nm rt_149_21 := ⟨trivial, trivial, trivial, trivial, trivial, trivial, trivial, trivial, trivial, trivial, trivial, trivial, trivial, ⟨rfl, rfl⟩, trivial, trivial, trivial⟩
theorem wl_22 (nm : String) : wk_l "TrailStoreLaw" nm rt_149_22 := ⟨trivial, trivial, trivial, trivial, trivial, trivial, trivial, trivial, trivial, ⟨rfl, rfl⟩, trivial, trivial, trivial, trivial, trivial, trivial, trivial⟩
theorem wl_23 (nm : String) : wk_l "TrailStoreLaw" nm rt_149_23 := ⟨trivial, trivial, trivial, trivial, trivial, trivial, trivial, trivial, ⟨rfl, rfl⟩, trivial, trivial, trivial, trivial, trivial, trivial, trivial, trivial⟩
theorem wl_24 (nm : String) : wk_l "TrailStoreLaw" nm rt_149_24 := ⟨trivial, trivial, trivial, trivial, ⟨rfl, rfl⟩, trivial, trivial, trivial, trivial, ⟨rfl, rfl⟩, trivial, ⟨rfl, rfl⟩, trivial, trivial, trivial, trivial, trivial⟩
theorem wl_25 (nm : String) : wk_l "TrailStoreLaw" nm rt_149_25 := ⟨trivial, trivial, trivial, trivial⟩
theorem wl_all (nm : String) : ∀ l ∈ rt_149, wk_l "TrailStoreLaw" nm l := by
  intro l hl
  simp only [rt_149, List.mem_cons, List.not_mem_nil, or_false] at hl
  rcases hl with rfl | rfl | rfl | rfl | rfl | rfl | rfl | rfl | rfl | rfl | rfl | rfl | rfl | rfl | rfl | rfl | rfl | rfl | rfl | rfl | rfl | rfl | rfl | rfl | rfl | rfl
  · exact wl_0 nm
  · exact wl_1 nm
  · exact wl_2 nm
  · exact wl_3 nm
  · exact wl_4 nm
  · exact wl_5 nm
  · exact wl_6 nm
  · exact wl_7 nm
  · exact wl_8 nm
  · exact wl_9 nm
  · exact wl_10 nm
  · exact wl_11 nm
  · exact wl_12 nm
  · exact wl_13 nm
  · exact wl_14 nm
  · exact wl_15 nm
  · exact wl_16 nm
  · exact wl_17 nm
  · exact wl_18 nm
  · exact wl_19 nm
  · exact wl_20 nm
  · exact wl_21 nm
  · exact wl_22 nm
  · exact wl_23 nm
  · exact wl_24 nm
  · exact wl_25 nm
theorem law_K {s : State} {args : Array Value} (hts : ∀ w ∈ lw_tbl, w.before args s = true) : ∃ (D : va_G) (tc : Nat → ClassId), va_K D rx_cl (rx_tys tc) s ∧ (Cond.arrayOver (.array .byte)).before #[] s = true := by
  have hw : ∀ w ∈ rx_wall, w.before args s = true := fun w h => hts w (List.mem_filter.mp h).1
  obtain ⟨c0, i0, k0⟩ := u_known (C := cn_0) (T := cf_0) (N := 5) (n := 5) hw ly_0 (hw _ (wg_in (k := 297) (w := .instantiable cn_0 5) ⟨rfl, rfl⟩))
  obtain ⟨c1, i1, k1⟩ := u_known (C := cn_1) (T := cf_1) (N := 11) (n := 11) hw ly_1 (hw _ (wg_in (k := 77) (w := .instantiable cn_1 11) ⟨rfl, rfl⟩))
  obtain ⟨c2, i2, k2⟩ := u_known (C := cn_2) (T := cf_2) (N := 4) (n := 4) hw ly_2 (hw _ (wg_in (k := 137) (w := .instantiable cn_2 4) ⟨rfl, rfl⟩))
  obtain ⟨c3, i3, k3⟩ := u_known (C := cn_3) (T := cf_3) (N := 6) (n := 6) hw ly_3 (hw _ (wg_in (k := 226) (w := .instantiable cn_3 6) ⟨rfl, rfl⟩))
  obtain ⟨c4, i4, k4⟩ := u_known (C := cn_4) (T := cf_4) (N := 9) (n := 9) hw ly_4 (hw _ (wg_in (k := 220) (w := .instantiable cn_4 9) ⟨rfl, rfl⟩))
  obtain ⟨c5, i5, k5⟩ := u_known (C := cn_5) (T := cf_5) (N := 11) (n := 11) hw ly_5 (hw _ (wg_in (k := 131) (w := .instantiable cn_5 11) ⟨rfl, rfl⟩))
  obtain ⟨c6, i6, k6⟩ := u_known (C := cn_6) (T := cf_6) (N := 14) (n := 14) hw ly_6 (hw _ (wg_in (k := 69) (w := .instantiable cn_6 14) ⟨rfl, rfl⟩))
  obtain ⟨c7, i7, k7⟩ := u_known (C := cn_7) (T := cf_7) (N := 51) (n := 51) hw ly_7 (hw _ (wg_in (k := 735) (w := .instantiable cn_7 51) ⟨rfl, rfl⟩))
  obtain ⟨a0, b0, d0, e0, f0, g0⟩ := Cond.arrayClass_spec (hw _ (wg_in wo_ar.1))
  obtain ⟨a1, b1, d1, e1, f1, g1⟩ := Cond.arrayClass_spec (hw _ (wg_in wo_ar.2.1))
  obtain ⟨a2, b2, d2, e2, f2, g2⟩ := Cond.arrayClass_spec (hw _ (wg_in wo_ar.2.2))
  have hao : (Cond.arrayOver (.array .byte)).before args s = true := hts _ (cw_in rw_9 (List.mem_of_getElem? (i := 9) rfl) _ (List.mem_of_getElem? (i := 15) rfl))
  obtain ⟨d3, a3, b3, -, -, f3, g3, e3⟩ := arrayOverA_spec hao
  refine ⟨(fun k => if k = 0 then c0 else if k = 1 then c1 else if k = 2 then c2 else if k = 3 then c3 else if k = 4 then c4 else if k = 5 then c5 else if k = 6 then c6 else c7, fun k => if k = 0 then i0 else if k = 1 then i1 else if k = 2 then i2 else if k = 3 then i3 else if k = 4 then i4 else if k = 5 then i5 else if k = 6 then i6 else i7), fun k => if k = 0 then a0 else if k = 1 then a1 else if k = 2 then a2 else a3, ⟨fun c q hq => ?_, fun k q hq => ?_⟩, hao⟩
  · match c, hq with
    | 0, hq => cases hq; exact k0
    | 1, hq => cases hq; exact k1
    | 2, hq => cases hq; exact k2
    | 3, hq => cases hq; exact k3
    | 4, hq => cases hq; exact k4
    | 5, hq => cases hq; exact k5
    | 6, hq => cases hq; exact k6
    | 7, hq => cases hq; exact k7
    | k + 8, hq => simp [rx_cl] at hq
  · match k, hq with
    | 0, hq => cases hq; exact ⟨fun n z => ⟨fun k h => (by cases h), b0, f0, d0, g0⟩, e0⟩
    | 1, hq => cases hq; exact ⟨fun n z => ⟨fun k h => (by cases h), b1, f1, d1, g1⟩, e1⟩
    | 2, hq => cases hq; exact ⟨fun n z => ⟨fun k h => (by cases h), b2, f2, d2, g2⟩, e2⟩
    | 3, hq => cases hq; exact ⟨fun n z => ⟨fun k h => (by cases h), b3, f3, d3, g3⟩, e3⟩
    | k + 4, hq => simp [rx_tys] at hq
set_option maxHeartbeats 1000000 in
theorem law_W (hmna : sd_mna) {p : Program} {e : Env} {s : State} {m : MethodId} {below : List Frame} {meth : Method} {c : Code} (l : Launch) {b L : Nat} {xs : Nat → Int32} (C0 : lw_At p s m meth c b L xs)
    (hrun : rx_P (rx_R L xs 12) L xs rt_149 (some .boolean) (600000, 7302250) (fun r _ => r = some (.int 1)) 0 (rx_l0 [.ref 0] 4) [] [] 0 0) :
    W p l e room_1 s m #[Value.ref b] below meth c s.heap [] 0 0 (lw_Z below #[Value.ref b] s) (entryFrame m ([Value.ref b] : List Value).toArray 4) := by
  obtain ⟨hx, hb, hr, hml, hown, hts, hX, hbl, hlocks, hgv⟩ := C0
  obtain ⟨D, tc, hK, hao⟩ := law_K hts
  have C : sd_C p s m #[Value.ref b] meth c "TrailStoreLaw" meth.name code 4 (some .boolean) b s.heap.size L xs tc D := ⟨hx, hb, hml, hown, fun w h => hts w (List.mem_filter.mp h).1, hK, hX, hbl, Nat.le_refl _, ⟨fun o n y k hm => va_Nw.of rfl (hts _ hm), hao⟩, rfl, hlocks, hr⟩
  have key := hrun (sd_G p l e room_1 s m #[Value.ref b] below meth c (lw_Z below #[Value.ref b] s) b s.heap.size tc D 4 rt_149)
    (sd_step (R := room_1) (e := e) (below := below) (Qw := lw_Z below #[Value.ref b] s) (Q := fun r _ => r = some (.int 1)) hmna C (dk_all (n := 416) (by decide) dk_149) (wk_at (wl_all meth.name)) (fun M hM => (tb_all M hM).2.2) (sd_met hmna l hbl 12) (by decide) (by decide)
      (fun x w' H locs cells slots pc ls hd hty hq hP' hz' hS' hcc hcs => by
        have hx1 : x = 1 := by
          have h1 : some (Value.int x) = some (Value.int 1) := hq
          cases h1
          rfl
        subst hx1
        refine va_forget (fun q hq => hS'.2.2 q hq) ?_
        refine W.widen (k := 600000) (n := 7302250) hcc hcs ?_
        exact lw_ret hx hb hr hlocks hd)
      (fun w' H locs cells slots pc ls hd hty => by cases hty))
  rw [lg_entry_eq]
  have k := key s.heap [] _ (fun k q hk => by simp [rx_cw] at hk) rfl va_S.rf (has_en b s.heap.size (l := [.ref 0]) (by decide)) (Nat.zero_le _) (Nat.zero_le _)
  exact k
