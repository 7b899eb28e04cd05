/-! PART 08: the small machine is sound: words, worlds and calls -/
theorem wg_in {k : Nat} {w : Cond} (h : wk_w k w) : w ∈ rx_wall := by
  obtain ⟨h1, h2⟩ := h
  refine List.mem_filter.mpr ⟨?_, h2⟩
  have h0 : goodWord rx_wd = false := rfl
  rw [← h1] at h2 ⊢
  unfold rx_wg at h2 ⊢
  rw [List.getD_eq_getElem?_getD (l := rx_wt)] at h2 ⊢
  cases e1 : rx_wt[k / 32]? with
  | none =>
    rw [e1] at h2
    exact absurd (h0.symm.trans h2) (by decide)
  | some l =>
    rw [e1] at h2
    replace h2 : goodWord (l.getD (k % 32) rx_wd) = true := h2
    show l.getD (k % 32) rx_wd ∈ lw_tbl
    rw [List.getD_eq_getElem?_getD] at h2 ⊢
    cases e2 : l[k % 32]? with
    | none =>
      rw [e2] at h2
      exact absurd (h0.symm.trans h2) (by decide)
    | some x => exact cw_in l (List.mem_of_getElem? e1) x (List.mem_of_getElem? e2)
theorem wg_nest {k : Nat} {o : String} {n : Nat} {y : MethodName} {q : String} (h1 : rx_wg k = .methodLinkNest o n y q) : Cond.methodLinkNest o n y q ∈ lw_tbl := by
  rw [← h1]
  unfold rx_wg at h1 ⊢
  rw [List.getD_eq_getElem?_getD (l := rx_wt)] at h1 ⊢
  cases e1 : rx_wt[k / 32]? with
  | none =>
    rw [e1] at h1
    cases h1
  | some l =>
    rw [e1] at h1
    replace h1 : l.getD (k % 32) rx_wd = .methodLinkNest o n y q := h1
    show l.getD (k % 32) rx_wd ∈ lw_tbl
    rw [List.getD_eq_getElem?_getD] at h1 ⊢
    cases e2 : l[k % 32]? with
    | none =>
      rw [e2] at h1
      cases h1
    | some x => exact cw_in l (List.mem_of_getElem? e1) x (List.mem_of_getElem? e2)
theorem wl_good {l : List Cond} (h : ∀ w ∈ l, w ∈ rx_wall) : GoodIn rx_wall l := fun w hw => ⟨h w hw, good_of_word (List.mem_filter.mp (h w hw)).2⟩
/-- words that the tables keep but that stand in no method's list: links among nest mates, and the arrays of byte arrays -/
def sd_n (U : State) : Prop := (∀ o n y k, Cond.methodLinkNest o n y k ∈ lw_tbl → va_Nw (.methodLinkNest o n y k) U) ∧ (Cond.arrayOver (.array .byte)).before #[] U = true
theorem sd_ao {u U : State} (hvm : u.vm.Alike U.vm) (h : (Cond.arrayOver (.array .byte)).before #[] u = true) : (Cond.arrayOver (.array .byte)).before #[] U = true := by
  obtain ⟨comp, c, k, h1, h2, h3, h4, h5⟩ := arrayOverA_spec h
  obtain ⟨k', hk', he⟩ := hvm.2.2 _ _ h3
  have e1 := va_idx_bare u.vm comp
  have e2 := va_idx_bare U.vm comp
  have e3 : u.vm.bare = U.vm.bare := by first | exact hvm.bare_eq | exact hvm.bare_eq.symm
  rw [← e3] at e2
  have hi := e2.symm.trans (e1.trans h2)
  have hkind : k'.kind = .array comp (.array .byte) := by rw [he]; exact h4
  have f1 : U.vm.findClass (FieldType.array .byte).toString = some comp := by rw [hvm.findClass]; exact h1
  have f2 : U.vm.findClass ("[" ++ (FieldType.array .byte).toString) = some c := by rw [hvm.findClass]; exact h5
  unfold Cond.before Cond.holds
  simp only [Cond.value]
  rw [f1, Option.bind_some]
  refine (congrArg (fun o : Option Nat => (o.bind (fun c => (U.vm.classes[c]?).map fun (k : Class) => match k.kind with | .array _ ty => decide (ty = FieldType.array .byte) && decide (U.vm.findClass ("[" ++ (FieldType.array .byte).toString) = some c) | _ => false) == some true)) hi).trans ?_
  simp [hk', hkind, f2]
theorem sd_nw {s U : State} (hW : s.WarmedH U.vm) (h : sd_n s) : sd_n U := ⟨fun o n y k hm => va_Nw.warmM hW (h.1 o n y k hm), sd_ao hW.alike h.2⟩
theorem sd_ns {s U : State} (hv : s.vm = U.vm) (h : sd_n s) : sd_n U := ⟨fun o n y k hm => va_Nw.same rfl hv (h.1 o n y k hm), sd_ao (by rw [hv]; exact Vm.Alike.refl _) h.2⟩
/-- what stays the same during a method's body -/
def sd_C (p : Program) (s : State) (m : MethodId) (args : Array Value) (meth : Method) (c : Code) (own nm : String) (cc : ByteArray) (nL : Nat) (ret : Option FieldType) (b h Lx : Nat) (xs : Nat → Int32) (tc : Nat → ClassId) (D : va_G) : Prop :=
  p.tables.exec = Jvm.exec ∧ c.code = cc ∧ c.maxLocals = nL ∧ s.vm.findClass own = some m.cls ∧ (∀ w ∈ rx_wall, w.before args s = true) ∧ va_K D rx_cl (rx_tys tc) s ∧ va_X b Lx xs s s.heap ∧ b < h ∧ h ≤ s.heap.size ∧ sd_n s ∧ meth.name = nm ∧ meth.locks = false ∧ meth.sig.returnType = ret
/-- a world in a state -/
def sd_W (b h Lx : Nat) (xs : Nat → Int32) (tc : Nat → ClassId) (D : va_G) (w : pW) (U : State) : Prop :=
  va_P D rx_cl (rx_cw b h tc h w) U.heap ∧ U.heap.size = h + w.length ∧ va_K D rx_cl (rx_tys tc) U ∧ va_X b Lx xs U U.heap ∧ sd_n U
def sd_rm (d M : Nat) : Room := { frames := d, cells := (mA M).1, slots := (mA M).2, locals := 40 * d }
def sd_Pc (b h Lx : Nat) (xs : Nat → Int32) (tc : Nat → ClassId) (D : va_G) (a : List Value) (w : pW) : Array Value → State → Prop := fun v U => v = (a.map (rx_cv b h)).toArray ∧ sd_W b h Lx xs tc D w U
def sd_Qc (b h Lx : Nat) (xs : Nat → Int32) (tc : Nat → ClassId) (D : va_G) (Q : rQ) : Array Value → State → Outcome → State → Prop := fun _ st o t => ∃ r w', o = .returned (r.map (rx_cv b h)) ∧ Q r w' ∧ sd_W b h Lx xs tc D w' t ∧ va_F (fun q => h ≤ q) st t
def sd_call (b h Lx : Nat) (xs : Nat → Int32) (tc : Nat → ClassId) (D : va_G) (l : Launch) (call : rC) (d : Nat) : Prop :=
  ∀ (M : Nat) (a : List Value) (w : pW) (Q : rQ), M < 149 → call M a w Q → Met l (mN M) (rx_ws M) (sd_rm d M) (sd_Pc b h Lx xs tc D a w) (sd_Qc b h Lx xs tc D Q) (mA M).1 (mA M).2 (fun q => h ≤ q)
theorem sd_blind (b h Lx : Nat) (xs : Nat → Int32) (tc : Nat → ClassId) (D : va_G) (a : List Value) (w : pW) : FrameBlind (sd_Pc b h Lx xs tc D a w) := by
  intro v U g mk hU
  obtain ⟨h1, h2, h3, h4, h5, h6⟩ := hU
  exact ⟨h1, h2, h3, va_K.moved (u := U) (U := U.calling g mk v) (Vm.Alike.refl U.vm) h4, va_X.moved (u := U) (U := U.calling g mk v) (Vm.Alike.refl U.vm) h5, sd_ns (s := U) (U := U.calling g mk v) rfl h6⟩
section SDG
variable {p : Program} {l : Launch} {e : Env} {R : Room} {s : State} {m : MethodId} {args : Array Value} {below : List Frame} {meth : Method} {c : Code} {H : Heap} {locs : List Loc} {cells slots : Nat} {Qw : State → Prop}
variable {b h Lx : Nat} {xs : Nat → Int32} {tc : Nat → ClassId} {D : va_G} {own nm : String} {cc : ByteArray} {nL : Nat} {ret : Option FieldType}
theorem sd_at (C : sd_C p s m args meth c own nm cc nL ret b h Lx xs tc D) {w : pW} (hP : va_P D rx_cl (rx_cw b h tc h w) H) (hz : H.size = h + w.length) (hS : va_S (fun q => h ≤ q) s.heap H locs) (U : State) (hU : U.heap = H) (hW : s.WarmedH U.vm) : sd_W b h Lx xs tc D w U := by
  obtain ⟨-, -, -, -, -, hK, hX, hbh, hh, hN, -⟩ := C
  refine ⟨by rw [hU]; exact hP, by rw [hU]; exact hz, va_K.moved hW.alike hK, ?_, sd_nw hW hN⟩
  rw [hU]
  exact (hX.kept (hS.2.1 b (by omega) (by omega))).moved hW.alike
theorem sd_go {mc ms pc : Nat} {ls : Array Slot} {st0 rest : List Value} {a : Array Value} {Q : rQ} {free : Addr → Prop}
    (hr : va_Run p l e R s m args below meth c H locs cells slots mc ms (F0 m pc ls st0) rest (sd_Qc b h Lx xs tc D Q a) free) (hS : va_S (fun q => h ≤ q) s.heap H locs) (hf : ∀ q, free q → h ≤ q)
    (kk : ∀ (r : Option Value) (w' : pW) (H1 : Heap) (locs1 : List Loc), Q r w' → va_P D rx_cl (rx_cw b h tc h w') H1 → H1.size = h + w'.length → va_S (fun q => h ≤ q) s.heap H1 locs1 → W p l e R s m args below meth c H1 locs1 (cells + mc) (slots + ms) Qw (F0 m (pc + 3) ls ((r.map (rx_cv b h)).toList ++ rest))) :
    W p l e R s m args below meth c H locs cells slots Qw (F0 m pc ls st0) := by
  intro T hT X
  obtain ⟨v, st₀, t, T', L, h0, X', hL, e1, e2, ⟨r, w', hv, hq, ⟨hP1, hz1, -, -, -⟩, hz, hk⟩, st⟩ := hr T hT X
  cases hv
  rw [h0] at hz hk
  obtain ⟨t2, a1, b1⟩ := kk r w' T'.heap (locs ++ L) hq (by rw [e1]; exact hP1) (by rw [e1]; exact hz1)
    ⟨Nat.le_trans hS.1 (by rw [e1]; exact hz), fun q h1 h2 => by rw [e1, hk q (Nat.lt_of_lt_of_le h1 hS.1) h2]; exact hS.2.1 q h1 h2, fun q hq => by
      rcases List.mem_append.mp hq with h | h
      · exact hS.2.2 q h
      · exact hf _ (hL q h)⟩ T' rfl X'
  exact ⟨t2, st t2 a1, b1⟩
/-- the words of a callee -/
theorem sd_mw {M : Nat} (hm : mk_m M) : ∀ w ∈ rx_ws M, w ∈ rx_wall := by
  intro w hw
  rcases List.mem_cons.mp hw with rfl | hw
  · exact wg_in hm.1
  · exact hw
theorem sd_V (C : sd_C p s m args meth c own nm cc nL ret b h Lx xs tc D) {d : Nat} {call : rC} (hcall : sd_call b h Lx xs tc D l call d) (hfr : d + 1 ≤ R.frames) (hlo : 40 * d + 40 ≤ R.locals) {pc M n idx : Nat} {ls : Array Slot} {w : pW} (hP : va_P D rx_cl (rx_cw b h tc h w) H) (hz : H.size = h + w.length) (hS : va_S (fun q => h ≤ q) s.heap H locs) (hls : ls.size = nL) (hM : M < 149) (hm : mk_m M) (hn : rx_at (mW M) 5 = n) (hf : cells + (mA M).1 ≤ R.cells ∧ slots + (mA M).2 ≤ R.slots) {Q : rQ} {o : Nat} {as rest : List Value} (hk : rx_at (mW M) 4 = 0) (hl : as.length = n) (hlink : Cond.methodLink own idx (mN M) ∈ rx_wall) (hd : decode cc pc = .ok (.invokevirtual idx, 3)) {ci : Nat} (hci : ci < 8) (hg : gt_c w o = some ci) (hcn : (rx_cd ci).1 = (mN M).cls) (hcd : rx_cl[ci]? = some (rx_cd ci)) (hsz : rx_sz rest ≤ 8) (hc : call M (.ref o :: as) w Q)
    (kk : ∀ (r : Option Value) (w' : pW) (H1 : Heap) (locs1 : List Loc), Q r w' → va_P D rx_cl (rx_cw b h tc h w') H1 → H1.size = h + w'.length → va_S (fun q => h ≤ q) s.heap H1 locs1 → W p l e R s m args below meth c H1 locs1 (cells + (mA M).1) (slots + (mA M).2) Qw (F0 m (pc + 3) ls ((r.map (rx_cv b h)).toList ++ rest.map (rx_cv b h)))) :
    W p l e R s m args below meth c H locs cells slots Qw (F0 m pc ls (as.reverse.map (rx_cv b h) ++ .ref (rx_ad b h o) :: rest.map (rx_cv b h))) := by
  have C' := C
  obtain ⟨hx, hb, hml, hown, hts, hK, hX, hbh, hh, hN, -⟩ := C
  obtain ⟨m1, m2, ⟨m3, m4, m5, m6, -⟩, m7⟩ := id hm
  rw [hk] at m7
  obtain ⟨j, fs, hj, hcell⟩ := gc_at (b := b) (h := h) (tc := tc) hg
  subst hj
  have hgood : GoodIn rx_wall (wsV own idx (mN M).cls (mN M) (rx_ws M)) := by
    refine wl_good fun w hw => ?_
    simp only [wsV, List.mem_append, List.mem_cons, List.not_mem_nil, or_false] at hw
    rcases hw with (rfl | rfl | rfl | rfl) | hw
    · exact hlink
    · exact wg_in m7.1
    · exact wg_in m7.2
    · exact wg_in m2
    · exact sd_mw hm w hw
  refine sd_go (va_runV (As := as.map (rx_cv b h)) (rest := rest.map (rx_cv b h)) (b := h + j) (C := (mN M).cls) ⟨hx, hb, hml, hown, hts⟩ (hcall M (.ref (j + 1) :: as) w Q hM hc) (cwV n hts hgood rfl rfl rfl ⟨rfl, m3, m4, by rw [m5, hn]⟩ ⟨hfr, by show 8 + (mL M + 11) + 40 * d ≤ R.locals; omega⟩) ⟨sd_blind _ _ _ _ _ _ _ _, ?_, fun U hU hW => ⟨rfl, sd_at C' hP hz hS U hU hW⟩⟩ rfl (by rw [List.length_map]; exact hl) hls ?_ (lv_room (by rw [cv_sum]; exact hsz)) hd hf) hS (fun q hq => hq) kk
  · rw [← hcn]
    exact va_recv hK hP hcd hcell
  · show as.reverse.map (rx_cv b h) ++ .ref (h + j) :: rest.map (rx_cv b h) = (as.map (rx_cv b h)).reverse ++ .ref (h + j) :: rest.map (rx_cv b h)
    rw [List.map_reverse]
theorem sd_S (C : sd_C p s m args meth c own nm cc nL ret b h Lx xs tc D) {d : Nat} {call : rC} (hcall : sd_call b h Lx xs tc D l call d) (hfr : d + 1 ≤ R.frames) (hlo : 40 * d + 40 ≤ R.locals) {pc M n idx : Nat} {ls : Array Slot} {w : pW} (hP : va_P D rx_cl (rx_cw b h tc h w) H) (hz : H.size = h + w.length) (hS : va_S (fun q => h ≤ q) s.heap H locs) (hls : ls.size = nL) (hM : M < 149) (hm : mk_m M) (hn : rx_at (mW M) 5 = n) (hf : cells + (mA M).1 ≤ R.cells ∧ slots + (mA M).2 ≤ R.slots) {Q : rQ} {as rest : List Value} (hk : rx_at (mW M) 4 = 1) (hl : as.length = n) (hlink : Cond.methodLink own idx (mN M) ∈ rx_wall) (hd : decode cc pc = .ok (.invokestatic idx, 3)) (hsz : rx_sz rest ≤ 8) (hc : call M as w Q)
    (kk : ∀ (r : Option Value) (w' : pW) (H1 : Heap) (locs1 : List Loc), Q r w' → va_P D rx_cl (rx_cw b h tc h w') H1 → H1.size = h + w'.length → va_S (fun q => h ≤ q) s.heap H1 locs1 → W p l e R s m args below meth c H1 locs1 (cells + (mA M).1) (slots + (mA M).2) Qw (F0 m (pc + 3) ls ((r.map (rx_cv b h)).toList ++ rest.map (rx_cv b h)))) :
    W p l e R s m args below meth c H locs cells slots Qw (F0 m pc ls (as.reverse.map (rx_cv b h) ++ rest.map (rx_cv b h))) := by
  have C' := C
  obtain ⟨hx, hb, hml, hown, hts, hK, hX, hbh, hh, hN, -⟩ := C
  obtain ⟨m1, m2, ⟨m3, m4, m5, m6, -⟩, m7⟩ := id hm
  rw [hk] at m7
  have hgood : GoodIn rx_wall (va_wsS own idx (mN M) (rx_ws M)) := by
    refine wl_good fun w hw => ?_
    simp only [va_wsS, List.mem_append, List.mem_cons, List.not_mem_nil, or_false] at hw
    rcases hw with (rfl | rfl | rfl) | hw
    · exact hlink
    · exact wg_in m7
    · exact wg_in m2
    · exact sd_mw hm w hw
  refine sd_go (va_runS (As := as.map (rx_cv b h)) (rest := rest.map (rx_cv b h)) ⟨hx, hb, hml, hown, hts⟩ (hcall M as w Q hM hc) (va_cwS n hts hgood rfl rfl rfl ⟨m3, m4, by rw [m5, hn]⟩ ⟨hfr, by show 8 + (mL M + 11) + 40 * d ≤ R.locals; omega⟩) ⟨sd_blind _ _ _ _ _ _ _ _, fun U hU hW => ⟨rfl, sd_at C' hP hz hS U hU hW⟩⟩ rfl (by rw [List.length_map]; exact hl) hls ?_ (lv_room (by rw [cv_sum]; exact hsz)) hd hf) hS (fun q hq => hq) kk
  show as.reverse.map (rx_cv b h) ++ rest.map (rx_cv b h) = (as.map (rx_cv b h)).reverse ++ rest.map (rx_cv b h)
  rw [List.map_reverse]
theorem sd_N (C : sd_C p s m args meth c own nm cc nL ret b h Lx xs tc D) {d : Nat} {call : rC} (hcall : sd_call b h Lx xs tc D l call d) (hfr : d + 1 ≤ R.frames) (hlo : 40 * d + 40 ≤ R.locals) {pc M n idx : Nat} {ls : Array Slot} {w : pW} (hP : va_P D rx_cl (rx_cw b h tc h w) H) (hz : H.size = h + w.length) (hS : va_S (fun q => h ≤ q) s.heap H locs) (hls : ls.size = nL) (hM : M < 149) (hm : mk_m M) (hn : rx_at (mW M) 5 = n) (hf : cells + (mA M).1 ≤ R.cells ∧ slots + (mA M).2 ≤ R.slots) {Q : rQ} {as rest : List Value} (hk : rx_at (mW M) 4 = 1) (hl : as.length = n) {host : String} (hlink : Cond.methodLinkNest own idx (mN M) host ∈ lw_tbl) (hd : decode cc pc = .ok (.invokestatic idx, 3)) (hsz : rx_sz rest ≤ 8) (hc : call M as w Q)
    (kk : ∀ (r : Option Value) (w' : pW) (H1 : Heap) (locs1 : List Loc), Q r w' → va_P D rx_cl (rx_cw b h tc h w') H1 → H1.size = h + w'.length → va_S (fun q => h ≤ q) s.heap H1 locs1 → W p l e R s m args below meth c H1 locs1 (cells + (mA M).1) (slots + (mA M).2) Qw (F0 m (pc + 3) ls ((r.map (rx_cv b h)).toList ++ rest.map (rx_cv b h)))) :
    W p l e R s m args below meth c H locs cells slots Qw (F0 m pc ls (as.reverse.map (rx_cv b h) ++ rest.map (rx_cv b h))) := by
  have C' := C
  obtain ⟨hx, hb, hml, hown, hts, hK, hX, hbh, hh, hN, -⟩ := C
  obtain ⟨m1, m2, ⟨m3, m4, m5, m6, -⟩, m7⟩ := id hm
  rw [hk] at m7
  refine sd_go (va_runSN (host := host) (As := as.map (rx_cv b h)) (rest := rest.map (rx_cv b h)) ⟨hx, hb, hml, hown, hts⟩ (hcall M as w Q hM hc) ⟨va_cnB n hts (wl_good (sd_mw hm)) rfl rfl rfl (hN.1 _ _ _ _ hlink) (hts _ (wg_in m2)) ⟨m3, m4, by rw [m5, hn]⟩ ⟨hfr, by show 8 + (mL M + 11) + 40 * d ≤ R.locals; omega⟩, hts _ (wg_in m7), trivial⟩ ⟨sd_blind _ _ _ _ _ _ _ _, fun U hU hW => ⟨rfl, sd_at C' hP hz hS U hU hW⟩⟩ rfl (by rw [List.length_map]; exact hl) hls ?_ (lv_room (by rw [cv_sum]; exact hsz)) hd hf) hS (fun q hq => hq) kk
  show as.reverse.map (rx_cv b h) ++ rest.map (rx_cv b h) = (as.map (rx_cv b h)).reverse ++ rest.map (rx_cv b h)
  rw [List.map_reverse]
theorem sd_I (C : sd_C p s m args meth c own nm cc nL ret b h Lx xs tc D) {d : Nat} {call : rC} (hcall : sd_call b h Lx xs tc D l call d) (hfr : d + 1 ≤ R.frames) (hlo : 40 * d + 40 ≤ R.locals) {pc M n idx : Nat} {ls : Array Slot} {w : pW} (hP : va_P D rx_cl (rx_cw b h tc h w) H) (hz : H.size = h + w.length) (hS : va_S (fun q => h ≤ q) s.heap H locs) (hls : ls.size = nL) (hM : M < 149) (hm : mk_m M) (hn : rx_at (mW M) 5 = n) (hf : cells + (mA M).1 ≤ R.cells ∧ slots + (mA M).2 ≤ R.slots) {Q : rQ} {o : Nat} {as rest : List Value} (hk : rx_at (mW M) 4 = 3) (hl : as.length = n) (hlink : Cond.methodLink own idx (mN M) ∈ rx_wall) (hd : decode cc pc = .ok (.invokespecial idx, 3)) (hsz : rx_sz rest ≤ 8) (hc : call M (.ref o :: as) w Q)
    (kk : ∀ (r : Option Value) (w' : pW) (H1 : Heap) (locs1 : List Loc), Q r w' → va_P D rx_cl (rx_cw b h tc h w') H1 → H1.size = h + w'.length → va_S (fun q => h ≤ q) s.heap H1 locs1 → W p l e R s m args below meth c H1 locs1 (cells + (mA M).1) (slots + (mA M).2) Qw (F0 m (pc + 3) ls ((r.map (rx_cv b h)).toList ++ rest.map (rx_cv b h)))) :
    W p l e R s m args below meth c H locs cells slots Qw (F0 m pc ls (as.reverse.map (rx_cv b h) ++ .ref (rx_ad b h o) :: rest.map (rx_cv b h))) := by
  have C' := C
  obtain ⟨hx, hb, hml, hown, hts, hK, hX, hbh, hh, hN, -⟩ := C
  obtain ⟨m1, m2, ⟨m3, m4, m5, m6, -⟩, m7⟩ := id hm
  rw [hk] at m7
  refine sd_go (va_runI (As := as.map (rx_cv b h)) (rest := rest.map (rx_cv b h)) (b := rx_ad b h o) ⟨hx, hb, hml, hown, hts⟩ (hcall M (.ref o :: as) w Q hM hc) (cwI (ws' := rx_wall) n hts (wl_good (sd_mw hm)) (by unfold rx_ws; rw [m7.2.2]) rfl rfl (hts _ (wg_in m2)) (hts _ hlink) (hts _ (wg_in m7.1)) m7.2.1 ⟨m3, m4, by rw [m5, hn]⟩ ⟨hfr, by show 8 + (mL M + 11) + 40 * d ≤ R.locals; omega⟩) ⟨sd_blind _ _ _ _ _ _ _ _, fun U hU hW => ⟨rfl, sd_at C' hP hz hS U hU hW⟩⟩ rfl (by rw [List.length_map]; exact hl) hls ?_ (lv_room (by rw [cv_sum]; exact hsz)) hd hf) hS (fun q hq => hq) kk
  show as.reverse.map (rx_cv b h) ++ .ref (rx_ad b h o) :: rest.map (rx_cv b h) = (as.map (rx_cv b h)).reverse ++ .ref (rx_ad b h o) :: rest.map (rx_cv b h)
  rw [List.map_reverse]
end SDG
