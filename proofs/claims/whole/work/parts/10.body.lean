/-! PART 10: the small machine is sound: a method's body -/
section SDB
variable {p : Program} {l : Launch} {e : Env} {R : Room} {s : State} {m : MethodId} {args : Array Value} {below : List Frame} {meth : Method} {c : Code} {H : Heap} {locs : List Loc} {cells slots : Nat} {Qw : State → Prop}
variable {b h Lx : Nat} {xs : Nat → Int32} {tc : Nat → ClassId} {D : va_G} {own nm : String} {cc : ByteArray} {nL : Nat} {ret : Option FieldType}
theorem sd_new (C : sd_C p s m args meth c own nm cc nL ret b h Lx xs tc D) {pc ci idx : Nat} {ls : Array Slot} {w : pW} {st : List Value} (hP : va_P D rx_cl (rx_cw b h tc h w) H) (hz : H.size = h + w.length) (hS : va_S (fun q => h ≤ q) s.heap H locs) (hci : ci < 8)
    (h1 : Cond.classLink own idx (rx_cd ci).1 ∈ rx_wall) (h2 : Cond.instantiable (rx_cd ci).1 (rx_cd ci).2.2 ∈ rx_wall) (h3 : Cond.initialized (rx_cd ci).1 ∈ rx_wall) (hd : decode cc pc = .ok (.new idx, 3)) (hc : cells + 1 ≤ R.cells) (hs : slots + (rx_cd ci).2.2 ≤ R.slots)
    (kk : ∀ H1 : Heap, va_P D rx_cl (rx_cw b h tc h (w ++ [.inr (ci, (List.range (rx_cd ci).2.2).map (fun k => defaultValue (rx_ty ci k)))])) H1 → H1.size = h + (w.length + 1) → va_S (fun q => h ≤ q) s.heap H1 locs → W p l e R s m args below meth c H1 locs (cells + 1) (slots + (rx_cd ci).2.2) Qw (F0 m (pc + 3) ls (.ref (h + w.length) :: st))) :
    W p l e R s m args below meth c H locs cells slots Qw (F0 m pc ls st) := by
  obtain ⟨hx, hb, hml, hown, hts, hK, hX, hbh, hh, hN, -⟩ := C
  have hKn := hK.1 ci _ (cl_at ci hci)
  refine W.newcK hx hb hown (hts _ h1) (hts _ h2) (hts _ h3) rfl hd hc hs hKn.2.1 hz fun H1 kC hkC e1 z1 o1 => ?_
  have hk : ∀ (k : Nat) (x : Nat × va_E), (rx_cw b h tc h w)[k]? = some x → H1[x.1]? = H[x.1]? := fun k x hx => o1 x.1 (by rw [← hz]; exact (hP k x hx).lt)
  refine kk H1 ?_ (by rw [z1]; omega) ⟨Nat.le_trans hS.1 (by omega), fun x g1 g2 => (o1 x (by rw [← hz]; exact Nat.lt_of_lt_of_le g1 hS.1)).trans (hS.2.1 x g1 g2), hS.2.2⟩
  rw [cw_app]
  refine (hP.kept hk).app (fun k x hx => ?_)
  have hz : k < 1 := (List.getElem?_eq_some_iff.mp hx).1
  rw [show k = 0 by omega] at hx
  cases hx
  refine ⟨_, cl_at ci hci, (u_born (rx_ty ci) hts (cl_ly ci hci) hKn hkC e1 (cl_tf ci hci)).to (fun j hj => ?_)⟩
  show defaultValue (rx_ty ci j) = vp_V (List.map (rx_cv b h) ((List.range (rx_cd ci).2.2).map (fun k => defaultValue (rx_ty ci k)))) j
  have hcv : ∀ ty : FieldType, rx_cv b h (defaultValue ty) = defaultValue ty := fun ty => by cases ty <;> rfl
  generalize (rx_cd ci).2.2 = N at hj ⊢
  generalize (rx_cd ci).2.2 = N at hj ⊢
  simp [vp_V, List.getD_eq_getElem?_getD, List.getElem?_range hj, hcv]
theorem sd_arr (C : sd_C p s m args meth c own nm cc nL ret b h Lx xs tc D) {pc tg : Nat} {ls : Array Slot} {w : pW} {st : List Value} {a : ArrayType} {n : Int32} (hP : va_P D rx_cl (rx_cw b h tc h w) H) (hz : H.size = h + w.length) (hS : va_S (fun q => h ≤ q) s.heap H locs) (htg : tg < 3) (hty : newarray.typeOf a = rx_tg tg)
    (hn : ¬ n < 0) (hsm : n.toNatClampNeg ≤ 100000) (hd : decode cc pc = .ok (.newarray a, 2)) (hc : cells + 1 ≤ R.cells) (hs : slots + n.toNatClampNeg ≤ R.slots)
    (kk : ∀ H1 : Heap, va_P D rx_cl (rx_cw b h tc h (w ++ [.inl (tg, n.toNatClampNeg, .inl (fun _ => 0))])) H1 → H1.size = h + (w.length + 1) → va_S (fun q => h ≤ q) s.heap H1 locs → W p l e R s m args below meth c H1 locs (cells + 1) (slots + n.toNatClampNeg) Qw (F0 m (pc + 2) ls (.ref (h + w.length) :: st))) :
    W p l e R s m args below meth c H locs cells slots Qw (F0 m pc ls (.int n :: st)) := by
  obtain ⟨hx, hb, hml, hown, hts, hK, hX, hbh, hh, hN, -⟩ := C
  have harr : (Cond.arrayClass (newarray.typeOf a)).before args s = true := by
    rw [hty]
    match tg, htg with
    | 0, _ => exact hts _ (wg_in wo_ar.1)
    | 1, _ => exact hts _ (wg_in wo_ar.2.1)
    | 2, _ => exact hts _ (wg_in wo_ar.2.2)
    | k + 3, hk => exact absurd hk (by omega)
  have hbytes : n.toNatClampNeg * componentBytes (newarray.typeOf a) ≤ 536870912 := by
    have : componentBytes (newarray.typeOf a) ≤ 8 := by cases a <;> decide
    calc n.toNatClampNeg * componentBytes (newarray.typeOf a) ≤ 100000 * 8 := Nat.mul_le_mul hsm this
      _ ≤ 536870912 := by decide
  refine va_newaK hx hb harr rfl hd rfl hn rfl hbytes hc hs hz fun H1 cA e1 z1 o1 hAr hNm => ?_
  have hk : ∀ (k : Nat) (x : Nat × va_E), (rx_cw b h tc h w)[k]? = some x → H1[x.1]? = H[x.1]? := fun k x hx => o1 x.1 (by rw [← hz]; exact (hP k x hx).lt)
  refine kk H1 ?_ (by rw [z1]; omega) ⟨Nat.le_trans hS.1 (by omega), fun x g1 g2 => (o1 x (by rw [← hz]; exact Nat.lt_of_lt_of_le g1 hS.1)).trans (hS.2.1 x g1 g2), hS.2.2⟩
  rw [cw_app]
  refine (hP.kept hk).app (fun k x hx => ?_)
  have hz : k < 1 := (List.getElem?_eq_some_iff.mp hx).1
  rw [show k = 0 by omega] at hx
  cases hx
  show H1[h + w.length]? = some (vp_cell (tc tg) (n.toNatClampNeg, .inl (fun _ => 0)))
  rw [e1, hty]
  have hcA : cA = tc tg := by
    rw [hty] at hNm
    have hk2 := (hK.2 tg (tc tg, rx_tg tg) (by
      match tg, htg with
      | 0, _ => rfl
      | 1, _ => rfl
      | 2, _ => rfl
      | k + 3, hk => exact absurd hk (by omega))).2
    have h3 : s.vm.findClass ("[" ++ (rx_tg tg).toString) = some (tc tg) := by
      match tg, htg, hk2 with
      | 0, _, hk2 => exact hk2
      | 1, _, hk2 => exact hk2
      | 2, _, hk2 => exact hk2
      | k + 3, hk, _ => exact absurd hk (by omega)
    exact Option.some.inj (hNm.symm.trans h3)
  subst hcA
  match tg, htg with
  | 0, _ => rfl
  | 1, _ => rfl
  | 2, _ => rfl
  | k + 3, hk => exact absurd hk (by omega)
theorem sd_put {cl : List vw_C} {A : Nat → Prop} {tys : List (ClassId × FieldType)} {ws : va_W} {H0 : Heap} {a pc : Nat} {ls : Array Slot} {rest : List Value} (hexec : p.tables.exec = Jvm.exec) (hb : c.code = cc) {own ref Cn : String} {T : u_T} {N ci index : Nat} {Ts : List Cond} (hts : ∀ w ∈ Ts, w.before args s = true) (hin : ∀ w ∈ u_ws Cn T N, w ∈ Ts) (ty0 : Nat → FieldType) (hty : ∀ k, k < N → parseFieldDescriptor (T k).2.2.1 = some (ty0 k)) (hnm : ∀ a, a < N → ∀ b, b < N → a ≠ b → (T a).2.1 ≠ (T b).2.1) (hown : s.vm.findClass own = some m.cls) (hK : va_K D cl tys s) (hP : va_P D cl ws H) (hD : va_D A ws) (hS0 : va_S A H0 H locs) (q0 : Nat) {fs : List Value} (he : ws[q0]? = some (a, .inr (ci, fs))) (hc : cl[ci]? = some (Cn, T, N)) (k : Nat) (hk : k < N) (hlink : (Cond.fieldLink own index ref (T k).2.1 (T k).2.2.1).before args s = true) (hsame : ∀ x, s.fieldFound? (T k).1 (T k).2.1 (T k).2.2.1 = some x → s.fieldFound? ref (T k).2.1 (T k).2.2.1 = some x) (hfin : (T k).2.2.2 = false) {ty : FieldType} {v : Value} (hd : parseFieldDescriptor (T k).2.2.1 = some ty) (hn : narrow ty v = v) (hfit : fits ty v = true) (hl : k < fs.length)
    (hdg : decode cc pc = .ok (.putfield index, 3)) (kk : ∀ (H1 : Heap) (locs1 : List Loc), H1.size = H.size → va_P D cl (ws.set q0 (a, .inr (ci, fs.set k v))) H1 → va_D A (ws.set q0 (a, .inr (ci, fs.set k v))) → va_S A H0 H1 locs1 → W p l e R s m args below meth c H1 locs1 cells slots Qw (F0 m (pc + 3) ls rest)) : W p l e R s m args below meth c H locs cells slots Qw (F0 m pc ls (v :: .ref a :: rest)) := by
  have hap := va_apart (own := own) hts hin ty0 hty hnm hK hc
  obtain ⟨r, h1, cell, q1, q2, q3, q4⟩ := hP q0 _ he
  have hr : r = (Cn, T, N) := Option.some.inj (h1.symm.trans hc)
  subst hr
  obtain ⟨hS, hfc, kC, hkC, hkind⟩ := hK.1 ci _ hc
  obtain ⟨cf, kf, fi, f, hi, hsl⟩ := hS k hk
  have hlay := hts _ (hin _ (u_in_lay hk))
  unfold u_lay at hlay
  rw [if_neg (by rw [hfin]; decide)] at hlay
  have hst := (u_facts hfc hkC (u_lays hts hin hk) hi).1
  have h6 := u_store hfc hkC hkind hlay hi hd hn hfit
  refine W.putK hexec hb (f := f) ⟨hown, hlink, ⟨_, _, _, hsame _ hi⟩, hst⟩ (by rw [q2]; exact h6) q1 q3 (by rw [hsl]; exact k2_hasslot (q4 k hk)) rfl rfl hdg fun H' e1 e2 e3 => ?_
  rw [hsl] at e1 ⊢
  exact kk H' _ e2 (hP.set hD he ⟨_, hc, t_OB.to (V := updV (vp_V fs) k v) ⟨_, e1, q2, q3, t_set q4 hap hk v⟩ (fun j _ => vp_updV_set hl v j)⟩ e3) (hD.set he) (hS0.put e2 e3 (hD.2 q0 _ he))
theorem sd_putF {cl : List vw_C} {A : Nat → Prop} {tys : List (ClassId × FieldType)} {ws : va_W} {H0 : Heap} {a pc : Nat} {ls : Array Slot} {rest : List Value} (hexec : p.tables.exec = Jvm.exec) (hb : c.code = cc) {own ref Cn : String} {T : u_T} {N ci index : Nat} {Ts : List Cond} (hts : ∀ w ∈ Ts, w.before args s = true) (hin : ∀ w ∈ u_ws Cn T N, w ∈ Ts) (ty0 : Nat → FieldType) (hty : ∀ k, k < N → parseFieldDescriptor (T k).2.2.1 = some (ty0 k)) (hnm : ∀ a, a < N → ∀ b, b < N → a ≠ b → (T a).2.1 ≠ (T b).2.1) (hown : s.vm.findClass own = some m.cls) (hK : va_K D cl tys s) (hP : va_P D cl ws H) (hD : va_D A ws) (hS0 : va_S A H0 H locs) (q0 : Nat) {fs : List Value} (he : ws[q0]? = some (a, .inr (ci, fs))) (hc : cl[ci]? = some (Cn, T, N)) (k : Nat) (hk : k < N) (hlink : (Cond.fieldLink own index ref (T k).2.1 (T k).2.2.1).before args s = true) (hsame : ∀ x, s.fieldFound? (T k).1 (T k).2.1 (T k).2.2.1 = some x → s.fieldFound? ref (T k).2.1 (T k).2.2.1 = some x) (hfin : (T k).2.2.2 = true) (hin2 : meth.name = "<init>") (hdecl : (T k).1 = own) {ty : FieldType} {v : Value} (hd : parseFieldDescriptor (T k).2.2.1 = some ty) (hn : narrow ty v = v) (hfit : fits ty v = true) (hl : k < fs.length)
    (hdg : decode cc pc = .ok (.putfield index, 3)) (kk : ∀ (H1 : Heap) (locs1 : List Loc), H1.size = H.size → va_P D cl (ws.set q0 (a, .inr (ci, fs.set k v))) H1 → va_D A (ws.set q0 (a, .inr (ci, fs.set k v))) → va_S A H0 H1 locs1 → W p l e R s m args below meth c H1 locs1 cells slots Qw (F0 m (pc + 3) ls rest)) : W p l e R s m args below meth c H locs cells slots Qw (F0 m pc ls (v :: .ref a :: rest)) := by
  have hap := va_apart (own := own) hts hin ty0 hty hnm hK hc
  obtain ⟨r, h1, cell, q1, q2, q3, q4⟩ := hP q0 _ he
  have hr : r = (Cn, T, N) := Option.some.inj (h1.symm.trans hc)
  subst hr
  obtain ⟨hS, hfc, kC, hkC, hkind⟩ := hK.1 ci _ hc
  obtain ⟨cf, kf, fi, f, hi, hsl⟩ := hS k hk
  have hlay := hts _ (hin _ (u_in_lay hk))
  unfold u_lay at hlay
  rw [if_pos hfin] at hlay
  have hst := (u_facts hfc hkC (u_lays hts hin hk) hi).1
  have hcf : m.cls = cf := by
    obtain ⟨_, _, c', _, _, _, -, -, hf', -, -, -, hown2, -⟩ := Cond.laysFinal_spec hlay
    have e1 : c' = cf := by have := hi.symm.trans hf'; simp at this; exact this.1.symm
    rw [hdecl] at hown2
    rw [← e1]; exact Option.some.inj (hown.symm.trans hown2)
  have h6 := u_fits hfc hkC hkind (Or.inr hlay) hi hd hn hfit
  refine W.putFinK hexec hb hown hlink (hsame _ hi) hst hcf hin2 (by rw [q2]; exact h6) q1 q3 (by rw [hsl]; exact k2_hasslot (q4 k hk)) rfl rfl hdg fun H' e1 e2 e3 => ?_
  rw [hsl] at e1 ⊢
  exact kk H' _ e2 (hP.set hD he ⟨_, hc, t_OB.to (V := updV (vp_V fs) k v) ⟨_, e1, q2, q3, t_set q4 hap hk v⟩ (fun j _ => vp_updV_set hl v j)⟩ e3) (hD.set he) (hS0.put e2 e3 (hD.2 q0 _ he))
/-- a store into an array of ints, bytes or booleans -/
theorem sd_ast (C : sd_C p s m args meth c own nm cc nL ret b h Lx xs tc D) {pc tg j n : Nat} {ls : Array Slot} {w : pW} {st : List Value} {f : Nat → Int32} {i x : Int32} {ins : Instr} (hP : va_P D rx_cl (rx_cw b h tc h w) H) (hz : H.size = h + w.length) (hS : va_S (fun q => h ≤ q) s.heap H locs) (hg : gt_a w (j + 1) = some (tg, n, .inl f)) (hin : vp_in i n)
    (hi : (tg = 0 ∧ ins = .iastore) ∨ ((tg = 1 ∨ tg = 2) ∧ ins = .bastore)) (hd : decode cc pc = .ok (ins, 1))
    (kk : ∀ (H1 : Heap) (locs1 : List Loc), va_P D rx_cl (rx_cw b h tc h (pt_a w (j + 1) (tg, n, .inl (upd f i.toNatClampNeg (vp_nar (rx_tg tg) x))))) H1 → H1.size = h + w.length → va_S (fun q => h ≤ q) s.heap H1 locs1 → W p l e R s m args below meth c H1 locs1 cells slots Qw (F0 m (pc + 1) ls st)) :
    W p l e R s m args below meth c H locs cells slots Qw (F0 m pc ls (.int x :: .int i :: .ref (h + j) :: st)) := by
  obtain ⟨hx, hb, hml, hown, hts, hK, hX, hbh, hh, hN, -⟩ := C
  have hD := cw_D b h tc w
  obtain ⟨j', hj', ha⟩ := ga_at (b := b) (h := h) (tc := tc) hg
  cases hj'
  replace ha : (rx_cw b h tc h w)[j]? = some (h + j, .inl (tc tg, n, .inl f)) := ha
  have hcell : H[h + j]? = some (vp_cell (tc tg) (n, .inl f)) := hP j _ ha
  have fin : ∀ (H1 : Heap) (y : Int32), vp_nar (rx_tg tg) x = y → H1[h + j]? = some ((vp_cell (tc tg) (n, .inl f)).setSlot i.toNatClampNeg (.int y)) → H1.size = H.size → (∀ q, q ≠ h + j → H1[q]? = H[q]?) → W p l e R s m args below meth c H1 (locs ++ [⟨h + j, i.toNatClampNeg⟩]) cells slots Qw (F0 m (pc + 1) ls st) := by
    intro H1 y hy e z oq
    refine kk H1 _ ?_ (z.trans hz) (hS.put z oq (hD.2 j _ ha))
    rw [(pa_at w j tg _).1]
    refine hP.set hD ha ?_ oq
    show H1[h + j]? = some (vp_cell (tc tg) (n, .inl (upd f i.toNatClampNeg (vp_nar (rx_tg tg) x))))
    rw [e, vp_cell_i, vp_cell_i, arrV_store, hy]
    congr 2
    funext q
    by_cases hq : q = i.toNatClampNeg
    · subst hq
      simp [updV, upd]
    · simp [updV, upd, hq]
  rcases hi with ⟨rfl, rfl⟩ | ⟨rfl | rfl, rfl⟩
  · exact W.iast hx hb hcell ((hK.2 0 _ rfl).1 n (fun j => .int (f j))) (fun q => by cases q) (by show ¬ (i < 0 ∨ (arrV _ _ _).slots.size ≤ _); rw [arrV_size]; exact hin) rfl rfl hd fun H1 e z oq => fin H1 x rfl e z oq
  · exact W.bast hx hb hcell ((hK.2 1 _ rfl).1 n (fun j => .int (f j))) (fun q => by cases q) (by show ¬ (i < 0 ∨ (arrV _ _ _).slots.size ≤ _); rw [arrV_size]; exact hin) rfl rfl hd fun H1 e z oq => fin H1 _ rfl e z oq
  · exact W.zast hx hb hcell ((hK.2 2 _ rfl).1 n (fun j => .int (f j))) (fun q => by cases q) (by show ¬ (i < 0 ∨ (arrV _ _ _).slots.size ≤ _); rw [arrV_size]; exact hin) rfl rfl hd fun H1 e z oq => fin H1 _ rfl e z oq
theorem sd_ne {M : Nat} (hm : mk_m M) : plainName (mN M).cls = true := hm.2.2.1.2.2.2.2
/-- System.arraycopy between int arrays of the world -/
theorem sd_copy (C : sd_C p s m args meth c own nm cc nL ret b h Lx xs tc D) {pc j0 j1 n0 n1 idx : Nat} {ls : Array Slot} {w : pW} {st : List Value} {f g : Nat → Int32} {sp dp n : Int32} (hP : va_P D rx_cl (rx_cw b h tc h w) H) (hz : H.size = h + w.length) (hS : va_S (fun q => h ≤ q) s.heap H locs)
    (ha0 : (rx_cw b h tc h w)[j0]? = some (h + j0, .inl (tc 0, n0, .inl f))) (ha1 : (rx_cw b h tc h w)[j1]? = some (h + j1, .inl (tc 0, n1, .inl g))) (h1 : ¬ sp < 0) (h2 : ¬ dp < 0) (h3 : ¬ n < 0) (h4 : sp.toNatClampNeg + n.toNatClampNeg ≤ n0) (h5 : dp.toNatClampNeg + n.toNatClampNeg ≤ n1) (hls : ls.size = nL)
    (hframes : 1 ≤ R.frames) (hlocals : (st.map fun v => v.category).sum + 18 ≤ R.locals) (hlink : (Cond.methodLink own idx arraycopyName).before args s = true) (hd : decode cc pc = .ok (.invokestatic idx, 3))
    (kk : ∀ (H1 : Heap) (locs1 : List Loc), va_P D rx_cl ((rx_cw b h tc h w).set j1 (h + j1, .inl (tc 0, n1, .inl (va_cpy f g sp.toNatClampNeg dp.toNatClampNeg n.toNatClampNeg)))) H1 → H1.size = h + w.length → va_S (fun q => h ≤ q) s.heap H1 locs1 → W p l e R s m args below meth c H1 locs1 cells slots Qw (F0 m (pc + 3) ls st)) :
    W p l e R s m args below meth c H locs cells slots Qw (F0 m pc ls (.int n :: .int dp :: .ref (h + j1) :: .int sp :: .ref (h + j0) :: st)) := by
  obtain ⟨hx, hb, hml, hown, hts, hK, hX, hbh, hh, hN, -⟩ := C
  have hD := cw_D b h tc w
  have nn : ∀ z : Int32, ¬ z < 0 → z.toInt = (z.toNatClampNeg : Int) := by
    intro z hz
    have hz0 : (0 : Int) ≤ z.toInt := by
      have := Int32.not_lt.mp hz
      simpa using Int32.le_iff_toInt_le.mp this
    show z.toInt = ((z.toInt.toNat : Nat) : Int)
    omega
  have hloc2 : 2 * (F0 m pc ls (.int n :: .int dp :: .ref (h + j1) :: .int sp :: .ref (h + j0) :: st)).monitorRoom + (st.map fun v => v.category).sum + (nativeFrameWords "java/lang/System" "arraycopy" 5 + 11) ≤ R.locals := by
    have e5 : nativeFrameWords "java/lang/System" "arraycopy" 5 = 7 := by decide +kernel
    rw [e5]
    show 2 * 0 + _ + (7 + 11) ≤ _
    omega
  intro T hT X
  have hc0 : H[h + j0]? = some (vp_cell (tc 0) (n0, .inl f)) := hP j0 _ ha0
  have hc1 : H[h + j1]? = some (vp_cell (tc 0) (n1, .inl g)) := hP j1 _ ha1
  obtain ⟨-, k0, hk0, cm0, hkk0⟩ := (hK.2 0 _ rfl).1 n0 (fun j => .int (f j))
  obtain ⟨-, k1, hk1, cm1, hkk1⟩ := (hK.2 0 _ rfl).1 n1 (fun j => .int (g j))
  obtain ⟨vm', X', step⟩ := X.arraycopy hx hown hlink (hts _ (wg_in wo_ac.1)) (hts _ (wg_in wo_ac.2.1)) (hts _ (wg_in wo_ac.2.2)) (src := h + j0) (dst := h + j1) (cs := vp_cell (tc 0) (n0, .inl f)) (cd := vp_cell (tc 0) (n1, .inl g)) (srcPos := sp) (destPos := dp) (n := n) (by rw [hT]; exact hc0) (by rw [hT]; exact hc1)
    (fun _ h => by cases h) (fun _ h => by cases h) (fun h => by cases h) (fun h => by cases h) hk0 hk1 hkk0 hkk1 rfl h1 h2 h3
    (by rw [nn sp h1, nn n h3]; show ¬ _ > ((arrV (tc 0) n0 (fun j => .int (f j))).slots.size : Int); rw [arrV_size]; omega)
    (by rw [nn dp h2, nn n h3]; show ¬ _ > ((arrV (tc 0) n1 (fun j => .int (g j))).slots.size : Int); rw [arrV_size]; omega)
    (fun vm₁ _ i hi => by
      have e : (vp_cell (tc 0) (n0, .inl f)).slots.getD (sp.toNatClampNeg + i) .null = .int (f (sp.toNatClampNeg + i)) := by
        show (arrV (tc 0) n0 (fun j => .int (f j))).slots.getD _ _ = _
        rw [Array.getD_eq_getD_getElem?, arrV_read _ _ (by omega)]
        rfl
      refine ⟨?_, ?_⟩
      · rw [e]
        rfl
      · rw [e]
        exact trivial)
    (g := F0 m pc ls (.int n :: .int dp :: .ref (h + j1) :: .int sp :: .ref (h + j0) :: st)) rfl (by rw [hml]; exact hls) (rest := st) rfl (by rw [hb]; exact hd) hframes hloc2
  have e1 : copied (vp_cell (tc 0) (n0, .inl f)) (vp_cell (tc 0) (n1, .inl g)) sp dp n = vp_cell (tc 0) (n1, .inl (va_cpy f g sp.toNatClampNeg dp.toNatClampNeg n.toNatClampNeg)) := va_copied (fun z => .int z) (tc 0) (tc 0) f g h4
  rw [e1] at X' step
  have hl : h + j1 < H.size := (Array.getElem?_eq_some_iff.mp hc1).1
  have hheap : ((T.setVm vm').setCell (h + j1) (vp_cell (tc 0) (n1, .inl (va_cpy f g sp.toNatClampNeg dp.toNatClampNeg n.toNatClampNeg)))).heap = H.setIfInBounds (h + j1) (vp_cell (tc 0) (n1, .inl (va_cpy f g sp.toNatClampNeg dp.toNatClampNeg n.toNatClampNeg))) := by rw [← hT]; rfl
  have oq : ∀ q : Nat, q ≠ h + j1 → (H.setIfInBounds (h + j1) (vp_cell (tc 0) (n1, .inl (va_cpy f g sp.toNatClampNeg dp.toNatClampNeg n.toNatClampNeg))))[q]? = H[q]? := fun q hq => by simp [Array.getElem?_setIfInBounds, Ne.symm hq]
  obtain ⟨t, a1, b1⟩ := kk _ _ (hP.set hD ha1 (show (H.setIfInBounds (h + j1) _)[h + j1]? = some _ by simp [Array.getElem?_setIfInBounds, hl]) oq) (by simp; exact hz) ⟨by simp; exact hS.1, fun q g1 g2 => by
      rw [oq q (fun e => g2 (by rw [e]; exact hD.2 j1 _ ha1))]
      exact hS.2.1 q g1 g2, fun q hq => by
      rcases List.mem_append.mp hq with h | h
      · exact hS.2.2 q h
      · obtain ⟨z, -, hz⟩ := List.mem_map.mp h
        rw [← hz]
        exact hD.2 j1 _ ha1⟩ _ hheap X'
  exact ⟨t, step t a1, b1⟩
/-- new byte[8][64]: what is wanted of it (proved in a part of its own, over the whole library) -/
def sd_mna : Prop := ∀ (p : Program) (l : Launch) (e : Env) (R : Room) (s : State) (m : MethodId) (args : Array Value) (below : List Frame) (meth : Method) (c : Code) (H : Heap) (locs : List Loc) (cells slots : Nat) (Qw : State → Prop) (b h Lx : Nat) (xs : Nat → Int32) (tc : Nat → ClassId) (D : va_G) (own nm : String) (cc : ByteArray) (nL : Nat) (ret : Option FieldType) (pc idx : Nat) (ls : Array Slot) (w : pW) (st : List Value),
  sd_C p s m args meth c own nm cc nL ret b h Lx xs tc D → va_P D rx_cl (rx_cw b h tc h w) H → H.size = h + w.length → va_S (fun q => h ≤ q) s.heap H locs → Cond.classLink own idx "[[B" ∈ rx_wall → decode cc pc = .ok (.multianewarray idx 2, 4) → cells + 9 ≤ R.cells → slots + 520 ≤ R.slots →
  (∀ H1 : Heap, va_P D rx_cl (rx_cw b h tc h (w ++ .inl (3, 8, .inr (.inr (.inr (.inr (fun j => if j < 8 then some (w.length + 2 + j) else none))))) :: List.replicate 8 (.inl (1, 64, .inl (fun _ => 0))))) H1 → H1.size = h + (w.length + 9) → va_S (fun q => h ≤ q) s.heap H1 locs → W p l e R s m args below meth c H1 locs (cells + 9) (slots + 520) Qw (F0 m (pc + 4) ls (.ref (h + w.length) :: st))) →
  W p l e R s m args below meth c H locs cells slots Qw (F0 m pc ls (.int 64 :: .int 8 :: st))
/-- a method's body: from a run of the small machine to one of the machine -/
def sd_G (p : Program) (l : Launch) (e : Env) (R : Room) (s : State) (m : MethodId) (args : Array Value) (below : List Frame) (meth : Method) (c : Code) (Qw : State → Prop) (b h : Nat) (tc : Nat → ClassId) (D : va_G) (nL : Nat) (t : List (List rI)) : rK := fun i L st w cells slots =>
  ∀ (H : Heap) (locs : List Loc) (ls : Array Slot), va_P D rx_cl (rx_cw b h tc h w) H → H.size = h + w.length → va_S (fun q => h ≤ q) s.heap H locs → rx_has b h ls nL L → cells ≤ R.cells → slots ≤ R.slots → W p l e R s m args below meth c H locs cells slots Qw (F0 m (rx_e t i).1 ls (st.map (rx_cv b h)))
set_option maxHeartbeats 8000000 in
set_option maxRecDepth 100000 in
theorem sd_step (hmna : sd_mna) (C : sd_C p s m args meth c own nm cc nL ret b h Lx xs tc D) {t : List (List rI)} (hdk : ∀ i, dk_i cc t i = true) (hwk : ∀ i, wk_i own nm (rx_e t i)) (hmk : ∀ M, M < 149 → mk_m M) {d : Nat} {call : rC} (hcall : sd_call b h Lx xs tc D l call d) (hfr : d + 1 ≤ R.frames) (hlo : 40 * d + 40 ≤ R.locals) {Q : rQ}
    (hri : ∀ (x : Int32) (w : pW) (H : Heap) (locs : List Loc) (cells slots pc : Nat) (ls : Array Slot), decode cc pc = .ok (.ireturn, 1) → (∃ ty, ret = some ty ∧ narrow ty (.int x) = .int x) → Q (some (.int x)) w → va_P D rx_cl (rx_cw b h tc h w) H → H.size = h + w.length → va_S (fun q => h ≤ q) s.heap H locs → cells ≤ R.cells → slots ≤ R.slots → W p l e R s m args below meth c H locs cells slots Qw (F0 m pc ls [.int x]))
    (hrv : ∀ (w : pW) (H : Heap) (locs : List Loc) (cells slots pc : Nat) (ls : Array Slot), decode cc pc = .ok (.return_, 1) → ret = none → Q none w → va_P D rx_cl (rx_cw b h tc h w) H → H.size = h + w.length → va_S (fun q => h ≤ q) s.heap H locs → cells ≤ R.cells → slots ≤ R.slots → W p l e R s m args below meth c H locs cells slots Qw (F0 m pc ls []))
    (i : Nat) (L : List (Option Value)) (st : List Value) (w : pW) (cells slots : Nat) (hst : rx_st call Lx xs t ret (R.cells, R.slots) Q (sd_G p l e R s m args below meth c Qw b h tc D nL t) i L st w cells slots) : sd_G p l e R s m args below meth c Qw b h tc D nL t i L st w cells slots := by
  intro H locs ls hP hz hS hl hcc hcs
  have C' := C
  obtain ⟨hx, hb, hml, hown, hts, hK, hX, hbh, hh, hN, hnm, hlk, hrt⟩ := C
  have hD := cw_D b h tc w
  have hd := hdk i
  have hw := hwk i
  have hbl : b < s.heap.size := by omega
  have hbA : ¬ (fun q : Nat => h ≤ q) b := by show ¬ h ≤ b; omega
  simp only [rx_st] at hst
  simp only [dk_i, ck_nx, ck_to] at hd
  generalize hee : rx_e t i = ee at hst hd hw ⊢
  obtain ⟨pc, ins, ln, info, v⟩ := ee
  cases ins with
  | iconst z =>
    simp only [Bool.and_eq_true, decide_eq_true_eq] at hd
    obtain ⟨⟨hd, hnx⟩, hv⟩ := hd
    have k := hst H locs ls hP hz hS hl hcc hcs
    rw [hnx] at k
    exact lv_iconst hx hb hd hv k
  | bipush z =>
    simp only [Bool.and_eq_true, decide_eq_true_eq] at hd
    obtain ⟨⟨hd, hnx⟩, hv⟩ := hd
    have k := hst H locs ls hP hz hS hl hcc hcs
    rw [hnx] at k
    exact lv_bipush hx hb hd hv k
  | sipush z =>
    simp only [Bool.and_eq_true, decide_eq_true_eq] at hd
    obtain ⟨⟨hd, hnx⟩, hv⟩ := hd
    have k := hst H locs ls hP hz hS hl hcc hcs
    rw [hnx] at k
    exact lv_sipush hx hb hd hv k
  | ldc z =>
    simp only [Bool.and_eq_true, decide_eq_true_eq] at hd
    obtain ⟨hd, hnx⟩ := hd
    have k := hst H locs ls hP hz hS hl hcc hcs
    rw [hnx] at k
    exact lv_ldc hx hb hown (hts _ (wg_in hw)) hd k
  | ldc2_w z =>
    simp only [Bool.and_eq_true, decide_eq_true_eq] at hd
    obtain ⟨hd, hnx⟩ := hd
    have k := hst H locs ls hP hz hS hl hcc hcs
    rw [hnx] at k
    exact lv_ldc2 hx hb hown (hts _ (wg_in hw)) hd k
  | iload z =>
    simp only [Bool.and_eq_true, decide_eq_true_eq] at hd
    obtain ⟨hd, hnx⟩ := hd
    simp only [rx_ldi] at hst
    split at hst
    · rename_i x hq
      have k := hst H locs ls hP hz hS hl hcc hcs
      rw [hnx] at k
      exact lv_iload hx hb hd (hl.2.2.1 _ _ hq) k
    · exact hst.elim
  | iload_n z =>
    simp only [Bool.and_eq_true, decide_eq_true_eq] at hd
    obtain ⟨hd, hnx⟩ := hd
    simp only [rx_ldi] at hst
    split at hst
    · rename_i x hq
      have k := hst H locs ls hP hz hS hl hcc hcs
      rw [hnx] at k
      exact lv_iload_n hx hb hd rfl (hl.2.2.1 _ _ hq) k
    · exact hst.elim
  | lload_n z =>
    simp only [Bool.and_eq_true, decide_eq_true_eq] at hd
    obtain ⟨hd, hnx⟩ := hd
    simp only [rx_ldl] at hst
    split at hst
    · rename_i x hq
      have k := hst H locs ls hP hz hS hl hcc hcs
      rw [hnx] at k
      exact lv_lload_n hx hb hd rfl (hl.2.2.1 _ _ hq) k
    · exact hst.elim
  | aload z =>
    simp only [Bool.and_eq_true, decide_eq_true_eq] at hd
    obtain ⟨hd, hnx⟩ := hd
    simp only [rx_lda] at hst
    split at hst
    · rename_i x hq
      have k := hst H locs ls hP hz hS hl hcc hcs
      rw [hnx] at k
      exact lv_aload hx hb hd (hl.2.2.1 _ _ hq) k
    · exact hst.elim
  | aload_n z =>
    simp only [Bool.and_eq_true, decide_eq_true_eq] at hd
    obtain ⟨hd, hnx⟩ := hd
    simp only [rx_lda] at hst
    split at hst
    · rename_i x hq
      have k := hst H locs ls hP hz hS hl hcc hcs
      rw [hnx] at k
      exact lv_aload_n hx hb hd rfl (hl.2.2.1 _ _ hq) k
    · exact hst.elim
  | istore z =>
    simp only [Bool.and_eq_true, decide_eq_true_eq] at hd
    obtain ⟨hd, hnx⟩ := hd
    simp only [rx_sti] at hst
    split at hst
    · rename_i x r
      obtain ⟨⟨h1, h2⟩, h3⟩ := hst
      refine lv_istore hx hb hd (has_lv hl) (by rw [← hl.2.2.2]; exact h2) rfl (fun ls' hl' => ?_)
      have k := h3 H locs ls' hP hz hS (has_set (v := .int x) h1 h2 hl.2.2.2 hl') hcc hcs
      rw [hnx] at k
      exact k
    · exact hst.elim
  | istore_n z =>
    simp only [Bool.and_eq_true, decide_eq_true_eq] at hd
    obtain ⟨hd, hnx⟩ := hd
    simp only [rx_sti] at hst
    split at hst
    · rename_i x r
      obtain ⟨⟨h1, h2⟩, h3⟩ := hst
      refine lv_istore_n hx hb hd rfl (has_lv hl) (by rw [← hl.2.2.2]; exact h2) rfl (fun ls' hl' => ?_)
      have k := h3 H locs ls' hP hz hS (has_set (v := .int x) h1 h2 hl.2.2.2 hl') hcc hcs
      rw [hnx] at k
      exact k
    · exact hst.elim
  | astore_n z =>
    simp only [Bool.and_eq_true, decide_eq_true_eq] at hd
    obtain ⟨hd, hnx⟩ := hd
    simp only [rx_sta] at hst
    split at hst
    · rename_i x r
      obtain ⟨⟨h1, h2⟩, h3⟩ := hst
      refine lv_astore_n hx hb hd rfl (has_lv hl) (by rw [← hl.2.2.2]; exact h2) rfl (fun ls' hl' => ?_)
      have k := h3 H locs ls' hP hz hS (has_set (v := .ref x) h1 h2 hl.2.2.2 hl') hcc hcs
      rw [hnx] at k
      exact k
    · exact hst.elim
  | iinc z zz =>
    simp only [Bool.and_eq_true, decide_eq_true_eq] at hd
    obtain ⟨⟨hd, hnx⟩, hv⟩ := hd
    simp only [rx_inc] at hst
    split at hst
    · rename_i x hq
      obtain ⟨h1, h3⟩ := hst
      have h2 : z < L.length := (List.getElem?_eq_some_iff.mp hq).1
      obtain ⟨k0, hk0⟩ := List.getElem?_of_mem (lv_mem.mpr ⟨.int x, hq, rfl⟩ : (z, rx_cv b h (.int x)) ∈ rx_lv b h L)
      refine lv_iinc (v := x + v) hx hb hd (has_lv hl) hk0 (by rw [hv]) (by rw [← hl.2.2.2]; exact h2) rfl (fun ls' hl' => ?_)
      have k := h3 H locs ls' hP hz hS (has_set (v := .int (x + v)) h1 h2 hl.2.2.2 hl') hcc hcs
      rw [hnx] at k
      exact k
    · exact hst.elim
  | iadd =>
    simp only [Bool.and_eq_true, decide_eq_true_eq] at hd
    obtain ⟨hd, hnx⟩ := hd
    simp only [rx_ii] at hst
    split at hst
    · have k := hst H locs ls hP hz hS hl hcc hcs
      rw [hnx] at k
      exact lv_iadd hx hb hd k
    · exact hst.elim
  | isub =>
    simp only [Bool.and_eq_true, decide_eq_true_eq] at hd
    obtain ⟨hd, hnx⟩ := hd
    simp only [rx_ii] at hst
    split at hst
    · have k := hst H locs ls hP hz hS hl hcc hcs
      rw [hnx] at k
      exact lv_isub hx hb hd k
    · exact hst.elim
  | imul =>
    simp only [Bool.and_eq_true, decide_eq_true_eq] at hd
    obtain ⟨hd, hnx⟩ := hd
    simp only [rx_ii] at hst
    split at hst
    · have k := hst H locs ls hP hz hS hl hcc hcs
      rw [hnx] at k
      exact lv_imul hx hb hd k
    · exact hst.elim
  | iand =>
    simp only [Bool.and_eq_true, decide_eq_true_eq] at hd
    obtain ⟨hd, hnx⟩ := hd
    simp only [rx_ii] at hst
    split at hst
    · have k := hst H locs ls hP hz hS hl hcc hcs
      rw [hnx] at k
      exact lv_iand hx hb hd k
    · exact hst.elim
  | ior =>
    simp only [Bool.and_eq_true, decide_eq_true_eq] at hd
    obtain ⟨hd, hnx⟩ := hd
    simp only [rx_ii] at hst
    split at hst
    · have k := hst H locs ls hP hz hS hl hcc hcs
      rw [hnx] at k
      exact lv_ior hx hb hd k
    · exact hst.elim
  | ishl =>
    simp only [Bool.and_eq_true, decide_eq_true_eq] at hd
    obtain ⟨hd, hnx⟩ := hd
    simp only [rx_ii] at hst
    split at hst
    · have k := hst H locs ls hP hz hS hl hcc hcs
      rw [hnx] at k
      exact lv_ishl hx hb hd k
    · exact hst.elim
  | ishr =>
    simp only [Bool.and_eq_true, decide_eq_true_eq] at hd
    obtain ⟨hd, hnx⟩ := hd
    simp only [rx_ii] at hst
    split at hst
    · have k := hst H locs ls hP hz hS hl hcc hcs
      rw [hnx] at k
      exact lv_ishr hx hb hd k
    · exact hst.elim
  | iushr =>
    simp only [Bool.and_eq_true, decide_eq_true_eq] at hd
    obtain ⟨hd, hnx⟩ := hd
    simp only [rx_ii] at hst
    split at hst
    · have k := hst H locs ls hP hz hS hl hcc hcs
      rw [hnx] at k
      exact lv_iushr hx hb hd rfl k
    · exact hst.elim
  | idiv =>
    simp only [Bool.and_eq_true, decide_eq_true_eq] at hd
    obtain ⟨hd, hnx⟩ := hd
    simp only [rx_di] at hst
    split at hst
    · obtain ⟨h0, hst⟩ := hst
      have k := hst H locs ls hP hz hS hl hcc hcs
      rw [hnx] at k
      exact lv_idiv hx hb hd h0 k
    · exact hst.elim
  | irem =>
    simp only [Bool.and_eq_true, decide_eq_true_eq] at hd
    obtain ⟨hd, hnx⟩ := hd
    simp only [rx_di] at hst
    split at hst
    · obtain ⟨h0, hst⟩ := hst
      have k := hst H locs ls hP hz hS hl hcc hcs
      rw [hnx] at k
      exact lv_irem hx hb hd h0 k
    · exact hst.elim
  | i2b =>
    simp only [Bool.and_eq_true, decide_eq_true_eq] at hd
    obtain ⟨hd, hnx⟩ := hd
    simp only [rx_i] at hst
    split at hst
    · have k := hst H locs ls hP hz hS hl hcc hcs
      rw [hnx] at k
      exact lv_i2b hx hb hd rfl k
    · exact hst.elim
  | i2l =>
    simp only [Bool.and_eq_true, decide_eq_true_eq] at hd
    obtain ⟨hd, hnx⟩ := hd
    dsimp only at hst
    split at hst
    · have k := hst H locs ls hP hz hS hl hcc hcs
      rw [hnx] at k
      exact lv_i2l hx hb hd rfl k
    · exact hst.elim
  | l2i =>
    simp only [Bool.and_eq_true, decide_eq_true_eq] at hd
    obtain ⟨hd, hnx⟩ := hd
    dsimp only at hst
    split at hst
    · have k := hst H locs ls hP hz hS hl hcc hcs
      rw [hnx] at k
      exact lv_l2i hx hb hd rfl k
    · exact hst.elim
  | ladd =>
    simp only [Bool.and_eq_true, decide_eq_true_eq] at hd
    obtain ⟨hd, hnx⟩ := hd
    simp only [rx_ll] at hst
    split at hst
    · have k := hst H locs ls hP hz hS hl hcc hcs
      rw [hnx] at k
      exact lv_ladd hx hb hd k
    · exact hst.elim
  | lsub =>
    simp only [Bool.and_eq_true, decide_eq_true_eq] at hd
    obtain ⟨hd, hnx⟩ := hd
    simp only [rx_ll] at hst
    split at hst
    · have k := hst H locs ls hP hz hS hl hcc hcs
      rw [hnx] at k
      exact lv_lsub hx hb hd k
    · exact hst.elim
  | land =>
    simp only [Bool.and_eq_true, decide_eq_true_eq] at hd
    obtain ⟨hd, hnx⟩ := hd
    simp only [rx_ll] at hst
    split at hst
    · have k := hst H locs ls hP hz hS hl hcc hcs
      rw [hnx] at k
      exact lv_land hx hb hd k
    · exact hst.elim
  | lor =>
    simp only [Bool.and_eq_true, decide_eq_true_eq] at hd
    obtain ⟨hd, hnx⟩ := hd
    simp only [rx_ll] at hst
    split at hst
    · have k := hst H locs ls hP hz hS hl hcc hcs
      rw [hnx] at k
      exact lv_lor hx hb hd k
    · exact hst.elim
  | lshl =>
    simp only [Bool.and_eq_true, decide_eq_true_eq] at hd
    obtain ⟨hd, hnx⟩ := hd
    simp only [rx_li] at hst
    split at hst
    · have k := hst H locs ls hP hz hS hl hcc hcs
      rw [hnx] at k
      exact lv_lshl hx hb hd rfl k
    · exact hst.elim
  | lshr =>
    simp only [Bool.and_eq_true, decide_eq_true_eq] at hd
    obtain ⟨hd, hnx⟩ := hd
    simp only [rx_li] at hst
    split at hst
    · have k := hst H locs ls hP hz hS hl hcc hcs
      rw [hnx] at k
      exact lv_lshr hx hb hd rfl k
    · exact hst.elim
  | lushr =>
    simp only [Bool.and_eq_true, decide_eq_true_eq] at hd
    obtain ⟨hd, hnx⟩ := hd
    simp only [rx_li] at hst
    split at hst
    · have k := hst H locs ls hP hz hS hl hcc hcs
      rw [hnx] at k
      exact lv_lushr hx hb hd rfl k
    · exact hst.elim
  | lcmp =>
    simp only [Bool.and_eq_true, decide_eq_true_eq] at hd
    obtain ⟨hd, hnx⟩ := hd
    dsimp only at hst
    split at hst
    · have k := hst H locs ls hP hz hS hl hcc hcs
      rw [hnx] at k
      exact W.lcmp hx hb hd k
    · exact hst.elim
  | dup =>
    simp only [Bool.and_eq_true, decide_eq_true_eq] at hd
    obtain ⟨hd, hnx⟩ := hd
    dsimp only at hst
    split at hst
    · obtain ⟨h0, hst⟩ := hst
      have k := hst H locs ls hP hz hS hl hcc hcs
      rw [hnx] at k
      exact lv_dup hx hb hd (by rw [cv_cat]; exact h0) k
    · exact hst.elim
  | pop =>
    simp only [Bool.and_eq_true, decide_eq_true_eq] at hd
    obtain ⟨hd, hnx⟩ := hd
    dsimp only at hst
    split at hst
    · obtain ⟨h0, hst⟩ := hst
      have k := hst H locs ls hP hz hS hl hcc hcs
      rw [hnx] at k
      exact lv_pop hx hb hd (by rw [cv_cat]; exact h0) k
    · exact hst.elim
  | goto z =>
    simp only [Bool.and_eq_true, decide_eq_true_eq] at hd
    obtain ⟨hd, ht⟩ := hd
    have k := hst H locs ls hP hz hS hl hcc hcs
    exact lv_goto hx hb hd ht k
  | ifCond o z =>
    simp only [Bool.and_eq_true, decide_eq_true_eq] at hd
    obtain ⟨⟨hd, hnx⟩, ht⟩ := hd
    dsimp only at hst
    split at hst
    · cases o with
      | eq =>
        refine lv_if_eq hx hb hd ht (fun q => ?_) (fun q => ?_)
        · exact hst.1 q H locs ls hP hz hS hl hcc hcs
        · have k := hst.2 q H locs ls hP hz hS hl hcc hcs
          rw [hnx] at k
          exact k
      | ne =>
        refine lv_if_ne hx hb hd ht (fun q => ?_) (fun q => ?_)
        · exact hst.1 q H locs ls hP hz hS hl hcc hcs
        · have k := hst.2 q H locs ls hP hz hS hl hcc hcs
          rw [hnx] at k
          exact k
      | lt =>
        refine lv_if_lt hx hb hd ht (fun q => ?_) (fun q => ?_)
        · exact hst.1 q H locs ls hP hz hS hl hcc hcs
        · have k := hst.2 q H locs ls hP hz hS hl hcc hcs
          rw [hnx] at k
          exact k
      | ge =>
        refine lv_if_ge hx hb hd ht (fun q => ?_) (fun q => ?_)
        · exact hst.1 q H locs ls hP hz hS hl hcc hcs
        · have k := hst.2 q H locs ls hP hz hS hl hcc hcs
          rw [hnx] at k
          exact k
      | gt =>
        refine lv_if_gt hx hb hd ht (fun q => ?_) (fun q => ?_)
        · exact hst.1 q H locs ls hP hz hS hl hcc hcs
        · have k := hst.2 q H locs ls hP hz hS hl hcc hcs
          rw [hnx] at k
          exact k
      | le =>
        refine lv_if_le hx hb hd ht (fun q => ?_) (fun q => ?_)
        · exact hst.1 q H locs ls hP hz hS hl hcc hcs
        · have k := hst.2 q H locs ls hP hz hS hl hcc hcs
          rw [hnx] at k
          exact k
    · exact hst.elim
  | if_icmp o z =>
    simp only [Bool.and_eq_true, decide_eq_true_eq] at hd
    obtain ⟨⟨hd, hnx⟩, ht⟩ := hd
    dsimp only at hst
    split at hst
    · cases o with
      | eq =>
        refine lv_icmp_eq hx hb hd ht (fun q => ?_) (fun q => ?_)
        · exact hst.1 q H locs ls hP hz hS hl hcc hcs
        · have k := hst.2 q H locs ls hP hz hS hl hcc hcs
          rw [hnx] at k
          exact k
      | ne =>
        refine lv_icmp_ne hx hb hd ht (fun q => ?_) (fun q => ?_)
        · exact hst.1 q H locs ls hP hz hS hl hcc hcs
        · have k := hst.2 q H locs ls hP hz hS hl hcc hcs
          rw [hnx] at k
          exact k
      | lt =>
        refine lv_icmp_lt hx hb hd ht (fun q => ?_) (fun q => ?_)
        · exact hst.1 q H locs ls hP hz hS hl hcc hcs
        · have k := hst.2 q H locs ls hP hz hS hl hcc hcs
          rw [hnx] at k
          exact k
      | ge =>
        refine lv_icmp_ge hx hb hd ht (fun q => ?_) (fun q => ?_)
        · exact hst.1 q H locs ls hP hz hS hl hcc hcs
        · have k := hst.2 q H locs ls hP hz hS hl hcc hcs
          rw [hnx] at k
          exact k
      | gt =>
        refine lv_icmp_gt hx hb hd ht (fun q => ?_) (fun q => ?_)
        · exact hst.1 q H locs ls hP hz hS hl hcc hcs
        · have k := hst.2 q H locs ls hP hz hS hl hcc hcs
          rw [hnx] at k
          exact k
      | le =>
        refine lv_icmp_le hx hb hd ht (fun q => ?_) (fun q => ?_)
        · exact hst.1 q H locs ls hP hz hS hl hcc hcs
        · have k := hst.2 q H locs ls hP hz hS hl hcc hcs
          rw [hnx] at k
          exact k
    · exact hst.elim
  | tableswitch df lo hi offs =>
    simp only [Bool.and_eq_true, decide_eq_true_eq] at hd
    obtain ⟨⟨⟨hd, ht⟩, hsz⟩, hall⟩ := hd
    simp only [rx_tsw] at hst
    split at hst
    · rename_i x r
      by_cases q : x.toInt < lo ∨ hi < x.toInt
      · exact lv_tableOut hx hb hd q ht (hst.1 q H locs ls hP hz hS hl hcc hcs)
      · have q1 : ¬ x.toInt < lo := fun z => q (Or.inl z)
        have q2 : ¬ hi < x.toInt := fun z => q (Or.inr z)
        have hlt : (x.toInt - lo).toNat < offs.size := by rw [hsz]; omega
        have hto := List.all_eq_true.mp hall (x.toInt - lo).toNat (List.mem_range.mpr hlt)
        simp only [decide_eq_true_eq] at hto
        refine lv_tableIn hx hb hd q1 q2 (off := offs.getD (x.toInt - lo).toNat 0) ?_ hto (hst.2 q1 q2 H locs ls hP hz hS hl hcc hcs)
        simp [Array.getD, hlt]
    · exact hst.elim
  | getfield z =>
    simp only [Bool.and_eq_true, decide_eq_true_eq] at hd
    obtain ⟨⟨⟨hd, hnx⟩, hci⟩, hk⟩ := hd
    dsimp only at hst
    split at hst
    · split at hst
      · rename_i o r y hg
        have k := hst H locs ls hP hz hS hl hcc hcs
        rw [hnx] at k
        obtain ⟨j, fs, rfl, hcell, hv⟩ := gf_at (b := b) (h := h) (tc := tc) hg
        exact va_get hx hb hts (cl_ly _ hci) hown hK hP j hcell (cl_at _ hci) _ hk (hts _ (wg_in hw)) (fun _ q => q) hv hd k
      · exact hst.elim
    · exact hst.elim
  | putfield z =>
    simp only [Bool.and_eq_true, decide_eq_true_eq] at hd
    obtain ⟨⟨⟨hd, hnx⟩, hci⟩, hk⟩ := hd
    dsimp only at hst
    split at hst
    · split at hst
      · rename_i y o r q0 w' hg
        obtain ⟨⟨hna, hfi⟩, hst⟩ := hst
        obtain ⟨j, fs, rfl, hcell, hlen, hw', hl'⟩ := pf_at (b := b) (h := h) (tc := tc) hg
        have hgo : ∀ (H1 : Heap) (locs1 : List Loc), H1.size = H.size → va_P D rx_cl ((rx_cw b h tc h w).set j (h + j, .inr (rx_at info 0, fs.set (rx_at info 1) (rx_cv b h y)))) H1 → va_D (fun q => h ≤ q) ((rx_cw b h tc h w).set j (h + j, .inr (rx_at info 0, fs.set (rx_at info 1) (rx_cv b h y)))) → va_S (fun q => h ≤ q) s.heap H1 locs1 → W p l e R s m args below meth c H1 locs1 cells slots Qw (F0 m (pc + 3) ls (r.map (rx_cv b h))) := by
          intro H1 locs1 hz1 hP1 _ hS1
          have k := hst H1 locs1 ls (by rw [hw']; exact hP1) (by rw [hz1, hz, hl']) hS1 hl hcc hcs
          rw [hnx] at k
          exact k
        rcases hw.2 with hf | ⟨hi, ho, hf⟩
        · exact sd_put hx hb hts (cl_ly _ hci) (rx_ty (rx_at info 0)) (cl_tf _ hci) (cl_nf _ hci) hown hK hP hD hS j hcell (cl_at _ hci) _ hk (hts _ (wg_in hw.1)) (fun _ q => q) hf (cl_tf _ hci _ hk) (cv_nar b h hna) (by rw [cv_fit]; exact hfi) hlen hd hgo
        · exact sd_putF hx hb hts (cl_ly _ hci) (rx_ty (rx_at info 0)) (cl_tf _ hci) (cl_nf _ hci) hown hK hP hD hS j hcell (cl_at _ hci) _ hk (hts _ (wg_in hw.1)) (fun _ q => q) hf (by rw [hnm]; exact hi) ho (cl_tf _ hci _ hk) (cv_nar b h hna) (by rw [cv_fit]; exact hfi) hlen hd hgo
      · exact hst.elim
    · exact hst.elim
  | iaload =>
    simp only [Bool.and_eq_true, decide_eq_true_eq] at hd
    obtain ⟨hd, hnx⟩ := hd
    simp only [rx_ald] at hst
    split at hst
    · obtain ⟨-, hin, hst⟩ := hst
      have k := hst H locs ls hP hz hS hl hcc hcs
      rw [hnx] at k
      exact va_sld hx hb hX hbl hbA hS hin hd k
    · split at hst
      · rename_i q1 x0 o r q2 tg n f hg
        obtain ⟨htg, hin, hst⟩ := hst
        obtain ⟨j, hj, ha⟩ := ga_at (b := b) (h := h) (tc := tc) hg
        cases hj
        have k := hst H locs ls hP hz hS hl hcc hcs
        rw [hnx] at k
        have htg : tg = 0 := by simpa using htg
        subst htg
        exact va_iald hx hb hK hP o 0 ha rfl hin hd k
      · exact hst.elim
    · exact hst.elim
  | baload =>
    simp only [Bool.and_eq_true, decide_eq_true_eq] at hd
    obtain ⟨hd, hnx⟩ := hd
    simp only [rx_ald] at hst
    split at hst
    · exact absurd hst.1 (by decide)
    · split at hst
      · rename_i q1 x0 o r q2 tg n f hg
        obtain ⟨htg, hin, hst⟩ := hst
        obtain ⟨j, hj, ha⟩ := ga_at (b := b) (h := h) (tc := tc) hg
        cases hj
        have k := hst H locs ls hP hz hS hl hcc hcs
        rw [hnx] at k
        have htg : tg = 1 ∨ tg = 2 := by simpa using htg
        rcases htg with rfl | rfl
        · exact va_bald hx hb hK hP o 1 ha rfl hin hd k
        · exact va_zald hx hb hK hP o 2 ha rfl hin hd k
      · exact hst.elim
    · exact hst.elim
  | aaload =>
    simp only [Bool.and_eq_true, decide_eq_true_eq] at hd
    obtain ⟨hd, hnx⟩ := hd
    simp only [rx_aald] at hst
    split at hst
    · split at hst
      · rename_i q1 x0 o r q2 n f hg
        obtain ⟨hin, y, hy, hst⟩ := hst
        obtain ⟨j, hj, ha⟩ := ga_at (b := b) (h := h) (tc := tc) hg
        cases hj
        have k := hst H locs ls hP hz hS hl hcc hcs
        rw [hnx] at k
        replace ha : (rx_cw b h tc h w)[j]? = some (h + j, .inl (tc 3, n, .inr (.inr (.inr (.inr (fun j => (f j).map (rx_ad b h)))))))  := ha
        have hlt : x0.toNatClampNeg < n := Nat.not_le.mp fun q => hin (Or.inr q)
        refine W.aald (v := .ref (rx_ad b h y)) (ty := .array .byte) hx hb (hP j _ ha) ((hK.2 3 _ rfl).1 n (fun j => va_rf ((f j).map (rx_ad b h)))) rfl (fun q => by cases q) (by show ¬ (x0 < 0 ∨ (arrV _ _ _).slots.size ≤ _); rw [arrV_size]; exact hin) ?_ rfl rfl hd k
        show (arrV _ _ _).slots[_]? = _
        rw [arrV_read _ _ hlt]
        show some (va_rf ((f x0.toNatClampNeg).map (rx_ad b h))) = _
        rw [hy]
        rfl
      · exact hst.elim
    · exact hst.elim
  | iastore =>
    simp only [Bool.and_eq_true, decide_eq_true_eq] at hd
    obtain ⟨hd, hnx⟩ := hd
    simp only [rx_ast] at hst
    split at hst
    · split at hst
      · rename_i q1 x0 i0 o r q2 tg n f hg
        obtain ⟨htg, hin, hst⟩ := hst
        obtain ⟨j, hj, -⟩ := ga_at (b := b) (h := h) (tc := tc) hg
        subst hj
        refine sd_ast C' hP hz hS hg hin (Or.inl ⟨by simpa using htg, rfl⟩) hd (fun H1 locs1 hP1 hz1 hS1 => ?_)
        have k := hst H1 locs1 ls hP1 (by rw [hz1, (pa_at (b := b) (h := h) (tc := tc) w j tg _).2]) hS1 hl hcc hcs
        rw [hnx] at k
        exact k
      · exact hst.elim
    · exact hst.elim
  | bastore =>
    simp only [Bool.and_eq_true, decide_eq_true_eq] at hd
    obtain ⟨hd, hnx⟩ := hd
    simp only [rx_ast] at hst
    split at hst
    · split at hst
      · rename_i q1 x0 i0 o r q2 tg n f hg
        obtain ⟨htg, hin, hst⟩ := hst
        obtain ⟨j, hj, -⟩ := ga_at (b := b) (h := h) (tc := tc) hg
        subst hj
        refine sd_ast C' hP hz hS hg hin (Or.inr ⟨by simpa using htg, rfl⟩) hd (fun H1 locs1 hP1 hz1 hS1 => ?_)
        have k := hst H1 locs1 ls hP1 (by rw [hz1, (pa_at (b := b) (h := h) (tc := tc) w j tg _).2]) hS1 hl hcc hcs
        rw [hnx] at k
        exact k
      · exact hst.elim
    · exact hst.elim
  | arraylength =>
    simp only [Bool.and_eq_true, decide_eq_true_eq] at hd
    obtain ⟨hd, hnx⟩ := hd
    simp only [rx_len] at hst
    split at hst
    · have k := hst H locs ls hP hz hS hl hcc hcs
      rw [hnx] at k
      exact va_slen hx hb hX hbl hbA hS hd k
    · split at hst
      · rename_i q1 o r q2 tg n a0 hg
        obtain ⟨htg, hst⟩ := hst
        obtain ⟨j, hj, ha⟩ := ga_at (b := b) (h := h) (tc := tc) hg
        cases hj
        have k := hst H locs ls hP hz hS hl hcc hcs
        rw [hnx] at k
        have hty : (rx_tys tc)[tg]? = some (tc tg, rx_tg tg) := by
          match tg, htg with
          | 0, _ => rfl
          | 1, _ => rfl
          | 2, _ => rfl
          | 3, _ => rfl
          | z + 4, hz => exact absurd hz (by omega)
        refine va_alen hx hb hK hP o tg ha hty (v := Int32.ofNat n) ?_ hd k
        obtain f | f | f | f | f := a0 <;> rfl
      · exact hst.elim
    · exact hst.elim
  | newarray a =>
    simp only [Bool.and_eq_true, decide_eq_true_eq] at hd
    obtain ⟨⟨⟨hd, hnx⟩, htg⟩, hty⟩ := hd
    dsimp only at hst
    split at hst
    · obtain ⟨⟨h1, h2, h3, h4⟩, hst⟩ := hst
      refine sd_arr C' hP hz hS htg hty h1 h2 hd h3 h4 (fun H1 hP1 hz1 hS1 => ?_)
      have k := hst H1 locs ls hP1 (by rw [hz1, List.length_append]; rfl) hS1 hl h3 h4
      rw [hnx] at k
      exact k
    · exact hst.elim
  | new z =>
    simp only [Bool.and_eq_true, decide_eq_true_eq] at hd
    obtain ⟨⟨hd, hnx⟩, hci⟩ := hd
    obtain ⟨⟨h3, h4⟩, hst⟩ := hst
    refine sd_new C' hP hz hS hci (wg_in hw.1) (wg_in hw.2.1) (wg_in hw.2.2) hd h3 h4 (fun H1 hP1 hz1 hS1 => ?_)
    have k := hst H1 locs ls hP1 (by rw [hz1, List.length_append]; rfl) hS1 hl h3 h4
    rw [hnx] at k
    exact k
  | multianewarray z zz =>
    simp only [Bool.and_eq_true, decide_eq_true_eq] at hd
    obtain ⟨⟨hd, hzz⟩, hnx⟩ := hd
    dsimp only at hst
    split at hst
    · obtain ⟨⟨h3, h4⟩, hst⟩ := hst
      refine hmna p l e R s m args below meth c H locs cells slots Qw b h Lx xs tc D own nm cc nL ret pc z ls w _ C' hP hz hS (wg_in hw) hd h3 h4 (fun H1 hP1 hz1 hS1 => ?_)
      have k := hst H1 locs ls hP1 (by rw [hz1, List.length_append]; rfl) hS1 hl h3 h4
      rw [hnx] at k
      exact k
    · exact hst.elim
  | invokevirtual z =>
    simp only [Bool.and_eq_true, decide_eq_true_eq] at hd
    obtain ⟨⟨hd, hnx⟩, hck⟩ := hd
    simp only [ck_k, Bool.and_eq_true, decide_eq_true_eq] at hck
    obtain ⟨hk0, hst⟩ := hst
    simp only [rx_call, hk0] at hst
    split at hst
    · rename_i q1 o r hdr
      obtain ⟨⟨h1, h2, h3, h4, h5⟩, hst⟩ := hst
      have hst2 : st.map (rx_cv b h) = (st.take (rx_at info 1)).reverse.reverse.map (rx_cv b h) ++ (st.drop (rx_at info 1)).map (rx_cv b h) := by rw [List.reverse_reverse, ← List.map_append, List.take_append_drop]
      obtain ⟨ci, hg, hcn⟩ := Option.map_eq_some_iff.mp h2
      have hci : ci < 8 := by
        obtain ⟨j, fs, hj, hcell⟩ := gc_at (b := b) (h := h) (tc := tc) hg
        obtain ⟨r0, hr0, -⟩ := hP j _ hcell
        exact (List.getElem?_eq_some_iff.mp hr0).1
      rw [hst2, hdr]
      have hlen : (st.take (rx_at info 1)).reverse.length = rx_at info 1 := by rw [List.length_reverse, List.length_take]; omega
      refine sd_V C' hcall hfr hlo hP hz hS hl.1 hck.1.1 (hmk _ hck.1.1) hck.2 ⟨h4, h5⟩ hck.1.2 hlen (wg_in hw) hd hci hg hcn (cl_at ci hci) h3 hst ?_
      · intro r0 w' H1 locs1 hq hP1 hz1 hS1
        have k := hq H1 locs1 ls hP1 hz1 hS1 hl h4 h5
        rw [hnx, List.map_append] at k
        cases r0 <;> exact k
    · exact hst.elim
  | invokestatic z =>
    simp only [Bool.and_eq_true, decide_eq_true_eq] at hd
    obtain ⟨⟨hd, hnx⟩, hck⟩ := hd
    obtain ⟨hk0, hst⟩ := hst
    rcases hk0 with hk0 | hk0 | hk0 | hk0 | hk0
    · simp only [hk0] at hck
      simp only [ck_k, Bool.and_eq_true, decide_eq_true_eq] at hck
      simp only [wk_i, hk0] at hw
      simp only [rx_call, hk0] at hst
      obtain ⟨⟨h1, h3, h4, h5⟩, hst⟩ := hst
      have hst2 : st.map (rx_cv b h) = (st.take (rx_at info 1)).reverse.reverse.map (rx_cv b h) ++ (st.drop (rx_at info 1)).map (rx_cv b h) := by rw [List.reverse_reverse, ← List.map_append, List.take_append_drop]
      rw [hst2]
      have hlen : (st.take (rx_at info 1)).reverse.length = rx_at info 1 := by rw [List.length_reverse, List.length_take]; omega
      refine sd_S C' hcall hfr hlo hP hz hS hl.1 hck.1.1 (hmk _ hck.1.1) hck.2 ⟨h4, h5⟩ hck.1.2 hlen (wg_in hw) hd h3 hst ?_
      · intro r0 w' H1 locs1 hq hP1 hz1 hS1
        have k := hq H1 locs1 ls hP1 hz1 hS1 hl h4 h5
        rw [hnx, List.map_append] at k
        cases r0 <;> exact k
    · simp only [hk0] at hck
      simp only [ck_k, Bool.and_eq_true, decide_eq_true_eq] at hck
      simp only [wk_i, hk0] at hw
      simp only [rx_call, hk0] at hst
      obtain ⟨⟨h1, h3, h4, h5⟩, hst⟩ := hst
      have hst2 : st.map (rx_cv b h) = (st.take (rx_at info 1)).reverse.reverse.map (rx_cv b h) ++ (st.drop (rx_at info 1)).map (rx_cv b h) := by rw [List.reverse_reverse, ← List.map_append, List.take_append_drop]
      rw [hst2]
      have hlen : (st.take (rx_at info 1)).reverse.length = rx_at info 1 := by rw [List.length_reverse, List.length_take]; omega
      refine sd_N C' hcall hfr hlo hP hz hS hl.1 hck.1.1 (hmk _ hck.1.1) hck.2 ⟨h4, h5⟩ hck.1.2 hlen (wg_nest hw) hd h3 hst ?_
      · intro r0 w' H1 locs1 hq hP1 hz1 hS1
        have k := hq H1 locs1 ls hP1 hz1 hS1 hl h4 h5
        rw [hnx, List.map_append] at k
        cases r0 <;> exact k
    · simp only [wk_i, hk0] at hw
      simp only [rx_call, hk0] at hst
      split at hst
      · obtain ⟨h3, hst⟩ := hst
        have k := hst H locs ls hP hz hS hl hcc hcs
        rw [hnx] at k
        exact va_mmax hx hb (by rw [hml, hl.1]) hown (hts _ (wg_in hw)) (hts _ (wg_in wo_mx.1)) (hts _ (wg_in wo_mx.2.1)) (hts _ (wg_in wo_mx.2.2)) (by omega) (by rw [cv_sum]; omega) hcc hcs hd k
      · exact hst.elim
    · simp only [wk_i, hk0] at hw
      simp only [rx_call, hk0] at hst
      split at hst
      · obtain ⟨h3, hst⟩ := hst
        have k := hst H locs ls hP hz hS hl hcc hcs
        rw [hnx] at k
        exact va_mmin hx hb (by rw [hml, hl.1]) hown (hts _ (wg_in hw)) (hts _ (wg_in wo_mn.1)) (hts _ (wg_in wo_mn.2.1)) (hts _ (wg_in wo_mn.2.2)) (by omega) (by rw [cv_sum]; omega) hcc hcs hd k
      · exact hst.elim
    · simp only [wk_i, hk0] at hw
      simp only [rx_call, hk0] at hst
      split at hst
      · split at hst
        · rename_i q1 n0 dp a1 sp a0 r q2 q3 nn0 f nn1 g hg0 hg1
          obtain ⟨⟨h3, g1, g2, g3, g4, g5⟩, hst⟩ := hst
          obtain ⟨j0, hj0, ha0⟩ := ga_at (b := b) (h := h) (tc := tc) hg0
          obtain ⟨j1, hj1, ha1⟩ := ga_at (b := b) (h := h) (tc := tc) hg1
          subst hj0
          subst hj1
          refine sd_copy C' hP hz hS ha0 ha1 g1 g2 g3 g4 g5 hl.1 (by omega) (by rw [cv_sum]; omega) (hts _ (wg_in hw)) hd (fun H1 locs1 hP1 hz1 hS1 => ?_)
          have k := hst H1 locs1 ls (by rw [(pa_at w j1 0 _).1]; exact hP1) (by rw [hz1, (pa_at (b := b) (h := h) (tc := tc) w j1 0 _).2]) hS1 hl hcc hcs
          rw [hnx] at k
          exact k
        · exact hst.elim
      · exact hst.elim
  | invokespecial z =>
    simp only [Bool.and_eq_true, decide_eq_true_eq] at hd
    obtain ⟨⟨hd, hnx⟩, hck⟩ := hd
    obtain ⟨hk0, hst⟩ := hst
    rcases hk0 with hk0 | hk0
    · simp only [hk0] at hck
      simp only [ck_k, Bool.and_eq_true, decide_eq_true_eq] at hck
      simp only [wk_i, hk0] at hw
      simp only [rx_call, hk0] at hst
      split at hst
      · rename_i q1 o r hdr
        obtain ⟨⟨h1, h3, h4, h5⟩, hst⟩ := hst
        have hst2 : st.map (rx_cv b h) = (st.take (rx_at info 1)).reverse.reverse.map (rx_cv b h) ++ (st.drop (rx_at info 1)).map (rx_cv b h) := by rw [List.reverse_reverse, ← List.map_append, List.take_append_drop]
        rw [hst2, hdr]
        have hlen : (st.take (rx_at info 1)).reverse.length = rx_at info 1 := by rw [List.length_reverse, List.length_take]; omega
        refine sd_I C' hcall hfr hlo hP hz hS hl.1 hck.1.1 (hmk _ hck.1.1) hck.2 ⟨h4, h5⟩ hck.1.2 hlen (wg_in hw) hd h3 hst ?_
        · intro r0 w' H1 locs1 hq hP1 hz1 hS1
          have k := hq H1 locs1 ls hP1 hz1 hS1 hl h4 h5
          rw [hnx, List.map_append] at k
          cases r0 <;> exact k
      · exact hst.elim
    · simp only [wk_i, hk0] at hw
      simp only [rx_call, hk0] at hst
      split at hst
      · obtain ⟨h3, hst⟩ := hst
        have k := hst H locs ls hP hz hS hl hcc hcs
        rw [hnx] at k
        exact W.objInit hx hb hown (hts _ (wg_in hw)) (hts _ (wg_in wo_oi.1)) (hts _ (wg_in wo_oi.2)) rfl (by rw [hml]; exact hl.1) rfl hd (by omega) (by show 2 * 0 + _ + 12 ≤ _; rw [cv_sum]; omega) k
      · exact hst.elim
  | ireturn =>
    simp only [decide_eq_true_eq] at hd
    dsimp only at hst
    split at hst
    · exact hri _ w H locs cells slots pc ls hd hst.1 hst.2 hP hz hS hcc hcs
    · exact hst.elim
  | return_ =>
    simp only [decide_eq_true_eq] at hd
    dsimp only at hst
    split at hst
    · exact hrv w H locs cells slots pc ls hd hst.1 hst.2 hP hz hS hcc hcs
    · exact hst.elim
  | _ => exact hst.elim
end SDB
