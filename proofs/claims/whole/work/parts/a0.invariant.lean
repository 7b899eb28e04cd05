/-! PART A0: what holds between two calls -/
def inV (rm K : Nat) (a : aS) : Prop :=
  (dwn a = false → cS rm K a.1.1 ∧ ∃ l1 l2, lv rm K a.1.1 a.1.2.1 l1 l2 ∧ tkn [] l2 = l2 ∧ a.1.2.2 = l1 ++ l2) ∧
  (dwn a = true → opn rm K (cu rm a.1.1) ∧ a.1.1.2.1 = [] ∧ a.1.1.2.2.1 = 0) ∧
  (∀ x ∈ a.2.1.1, bOK x ∧ (x.1 = 2 → x.2.2.length = 0)) ∧ a.2.1.1.length ≤ 8 ∧ a.2.1.2.2.length ≤ 64 ∧ by8 a.2.1.2.2 ∧ (a.2.1.2.1 = false → a.2.1.1 = [])
theorem inV_K {rm K K' : Nat} {a : aS} (h : inV rm K a) (hK : K ≤ K') : inV rm K' a := by
  refine ⟨fun w => ?_, fun w => ?_, h.2.2⟩
  · obtain ⟨h1, l1, l2, h2, h3⟩ := h.1 w
    exact ⟨cS_K h1 hK, l1, l2, lv_K h2 hK, h3⟩
  · obtain ⟨h1, h2⟩ := h.2.1 w
    exact ⟨opn_K h1 hK, h2⟩
theorem inV_wB {rm K : Nat} {a : aS} (hr : 512 ≤ rm ∧ rm ≤ 4096) (hb : K + 10000 < 2 ^ 30 - 6000) (h : inV rm K a) : wB rm a := fun w b h8 ho => by
  obtain ⟨h1, l1, l2, h2, h3, h4⟩ := h.1 w
  rw [h4]
  exact (lv_sto hr hb h1 w h2 h3 h8 ho).2.1
theorem inV_cl {rm K : Nat} {a : aS} (hr : 512 ≤ rm ∧ rm ≤ 4096) (hb : K + 10000 < 2 ^ 30 - 6000) (h : inV rm K a) : dwn a = false → ∀ k, k ≤ 1000 → clI rm k a.1.2.2 a.1.1 a.1.2.1 := fun w k _ => by
  obtain ⟨h1, l1, l2, h2, h3, h4⟩ := h.1 w
  rw [h4]
  obtain ⟨m1, m2, m3, m4, m5⟩ := lvRm h2
  exact (lv_cl (n := k) hr hb (cS_K h1 (Nat.le_add_right _ _)) (fun _ => ⟨lv_K h2 (Nat.le_add_right _ _), h3, by omega, by omega, by omega⟩)).2.1 w
theorem lv_rec {rm K : Nat} {s : dS} {V : vW} {l1 l2 : List lR} (h : lv rm K s V l1 l2) {k : Nat} {e : eN} (he : ent V.2.1 V.1 k = some e) (h1 : e.1 = 1) : ∃ r, rcA rm (cu rm s) e.2.2 r e.2.1 ∧ rcOK r ∧ r.1 = 1 ∧ r.2.2.1 = k ∧ V.2.2 4 ≤ e.2.2 ∧ e.2.2 + rcZ r ≤ V.2.2 5 := by
  obtain ⟨_, hZ, _⟩ := lvRm h
  obtain ⟨hf, heD, hm, h5, h6, hz, hp, hk⟩ := h
  rw [hm] at he
  obtain ⟨i, r, g1, g2, g3, g4, g5⟩ := heD k e he h1
  obtain ⟨hi, g1'⟩ := List.getElem?_eq_some_iff.mp g1
  have eS : l1 ++ l2 = (l1 ++ l2).take i ++ r :: (l1 ++ l2).drop (i + 1) := by
    rw [← g1', List.getElem_cons_drop, List.take_append_drop]
  obtain ⟨q1, q2, q3, q4, q5, q6, q7⟩ := hf.2.2.1
  have hlen : ((l1 ++ l2).take i).length = i := List.length_take_of_le (by omega)
  refine ⟨r, ?_, q1 r (by rw [eS]; exact List.mem_append_right _ List.mem_cons_self), g2, g3, by omega, ?_⟩
  · rw [eS, lgB_app, atL_app, lgB_len, hlen, ← g5, ← g4] at q2
    exact (atL_app.mp q2.2).1
  · have : lgZ (l1 ++ l2) = lgZ ((l1 ++ l2).take i) + (rcZ r + lgZ ((l1 ++ l2).drop (i + 1))) := by
      conv => lhs; rw [eS]
      rw [lgZ_app]
      rfl
    omega
theorem inV_wE {rm K : Nat} {a : aS} (h : inV rm K a) : wE rm a := fun w k e he h1 => by
  obtain ⟨_, l1, l2, h2, _, _⟩ := h.1 w
  exact lv_rec h2 he h1
theorem inV_rt {rm K : Nat} {a : aS} (hb : K + 10000 < 2 ^ 30 - 6000) (h : inV rm K a) : dwn a = false → ∃ all, rtI rm (cu rm a.1.1) a.1.2.1 ∧ lgI rm (cu rm a.1.1) a.1.2.1 all := fun w => by
  obtain ⟨_, l1, l2, ⟨hf, heD, hm, h5, h6, hz, hp, hk⟩, h3, _⟩ := h.1 w
  exact ⟨l2, hf.1, fD_lgI hf ⟨by rw [h3]; exact hm, by rw [h3]; exact h5, by rw [h3]; exact h6⟩ hk (by omega)⟩
theorem inV_kS {rm K : Nat} {a : aS} (h : inV rm K a) : dwn a = false → ∀ t ∈ a.1.2.1.1, 0 < (kS t.2.2.2).length := fun w => by
  obtain ⟨_, l1, l2, h2, _, _⟩ := h.1 w
  exact h2.1.2.1.2.2.2
/-- a call that may have written -/
theorem inV_fin {rm K : Nat} {D : dS × vW × List lR} {T : List bR × Bool × List Nat} {G : List Nat × Nat × Nat} {z : Int32} (h1 : cS rm K D.1) (h2 : D.1.2.2.2.2.2 = false → ∃ l1 l2, lv rm K D.1 D.2.1 l1 l2 ∧ tkn [] l2 = l2 ∧ D.2.2 = l1 ++ l2) (h3 : (∀ x ∈ T.1, bOK x ∧ (x.1 = 2 → x.2.2.length = 0)) ∧ T.1.length ≤ 8 ∧ T.2.2.length ≤ 64 ∧ by8 T.2.2 ∧ (T.2.1 = false → T.1 = [])) : inV rm K (fin rm D T G z).2 := by
  unfold fin
  by_cases h : D.1.2.2.2.2.2 = true
  · rw [if_pos h]
    refine ⟨fun w => (by cases w), fun _ => ⟨h1 _ _, rfl, rfl⟩, fun x hx => (by cases hx), Nat.zero_le _, Nat.zero_le _, fun x hx => (by cases hx), fun _ => rfl⟩
  · rw [if_neg h]
    exact ⟨fun w => ⟨h1, h2 w⟩, fun w => absurd w h, h3⟩
theorem inV_type {rm K : Nat} {a : aS} {x : Int64} {n : Int32} (h : inV rm K a) : inV rm K (aType x n a).2 := by
  unfold aType
  split
  · exact h
  · split
    · exact h
    · rename_i h1 h2
      obtain ⟨k1, k2, k3, k4, k5, k6, k7⟩ := h
      refine ⟨k1, k2, k3, k4, ?_, by8_app k6 (tyB_by _ _), k7⟩
      show (a.2.1.2.2 ++ tyB x n.toNatClampNeg).length ≤ 64
      rw [List.length_append, tyB_len]
      obtain ⟨k, hk, rfl⟩ := nI_of2 (M := 8) (n := 8) (x := n) (by decide) (fun w => h2 (Or.inl (Int32.lt_trans w (by decide)))) (Int32.not_lt.mp (fun w => h2 (Or.inr (Or.inl w))))
      rw [cl_ofI (a := k)]
      have h3 : ¬ 64 < nI a.2.1.2.2.length + nI k := fun w => h2 (Or.inr (Or.inr w))
      rw [nI_add] at h3
      exact nlt_ofI (a := 64) h3
theorem inV_store {rm K : Nat} {a : aS} {b : List bR} {tp : List Nat} (hr : 512 ≤ rm ∧ rm ≤ 4096) (hb : K + 10000 < 2 ^ 30 - 6000) (h : inV rm K a) (hd : dwn a = false) (h8 : b.length ≤ 8) (hbo : ∀ x ∈ b, bOK x ∧ (x.1 = 2 → x.2.2.length = 0)) (ht : tp.length ≤ 64 ∧ by8 tp) : inV rm (K + 10000) (aStore rm b a tp).2 := by
  obtain ⟨h1, l1, l2, h2, h3, h4⟩ := h.1 hd
  obtain ⟨s1, _, _, s4⟩ := lv_sto hr hb h1 hd h2 h3 h8 (fun x hx => (hbo x hx).1)
  have hb2 : ∀ x ∈ b, x.1 = 2 → x.2.2.length = 0 := fun x hx => (hbo x hx).2
  unfold aStore
  refine inV_fin ?_ (fun w => ?_) ⟨fun x hx => (by cases hx), Nat.zero_le _, ht.1, ht.2, fun _ => rfl⟩
  · show cS rm (K + 10000) (sto rm b a.1.1 a.1.2.1 a.1.2.2).1
    rw [h4]
    exact s1 hb2
  · have w' : (sto rm b a.1.1 a.1.2.1 a.1.2.2).1.2.2.2.2.2 = false := w
    rw [h4] at w'
    obtain ⟨k1, k2, d1, d2, d3⟩ := s4 hb2 w'
    refine ⟨k1, k2, ?_, d2, ?_⟩
    · show lv rm (K + 10000) (sto rm b a.1.1 a.1.2.1 a.1.2.2).1 (sto rm b a.1.1 a.1.2.1 a.1.2.2).2.1 k1 k2
      rw [h4]
      exact d1
    · show stLg rm b (ckM rm a.1.1 a.1.2.1 b) a.1.2.2 = k1 ++ k2
      rw [h4]
      exact d3
theorem inV_lay {rm K : Nat} {a : aS} {x : bR} {tp : List Nat} (hr : 512 ≤ rm ∧ rm ≤ 4096) (hb : K + 10000 < 2 ^ 30 - 6000) (h : inV rm K a) (hd : dwn a = false) (h8 : a.2.1.1.length ≠ 8) (hx : bOK x ∧ (x.1 = 2 → x.2.2.length = 0)) (ht : tp.length ≤ 64 ∧ by8 tp) : inV rm (K + 10000) (aLay rm x a tp).2 := by
  have hall : ∀ y ∈ a.2.1.1 ++ [x], bOK y ∧ (y.1 = 2 → y.2.2.length = 0) := fun y hy => by
    rcases List.mem_append.mp hy with z | z
    · exact h.2.2.1 y z
    · rw [List.mem_singleton.mp z]
      exact hx
  have hl : (a.2.1.1 ++ [x]).length ≤ 8 := by
    rw [List.length_append]
    show a.2.1.1.length + 1 ≤ 8
    have := h.2.2.2.1
    omega
  unfold aLay
  split
  · have h' := inV_K h (Nat.le_add_right K 10000)
    exact ⟨h'.1, h'.2.1, hall, hl, ht.1, ht.2, fun w => (by cases w)⟩
  · exact inV_store hr hb h hd hl hall ht
theorem dwn_f {a : aS} (h : ¬ dwn a = true) : dwn a = false := by
  cases hd : dwn a with
  | false => rfl
  | true => exact absurd hd h
theorem inV_put {rm K : Nat} {a : aS} {key : Int32} (hr : 512 ≤ rm ∧ rm ≤ 4096) (hb : K + 10000 < 2 ^ 30 - 6000) (h : inV rm K a) : inV rm (K + 10000) (aPut rm key a).2 := by
  unfold aPut
  split
  · exact inV_K h (Nat.le_add_right _ _)
  · rename_i hd
    split
    · exact inV_K h (Nat.le_add_right _ _)
    · rename_i h2
      have hk : kx_is key = true := by
        cases hk : kx_is key with
        | true => rfl
        | false => exact absurd (Or.inl hk) h2
      obtain ⟨k, hk1, rfl⟩ := kx_nat hk
      rw [cl_ofI (a := k)]
      exact inV_lay hr hb h (dwn_f hd) (fun z => h2 (Or.inr z)) ⟨⟨Nat.zero_lt_one, (by decide : 1 < 3), hk1, h.2.2.2.2.1, h.2.2.2.2.2.1⟩, fun z => absurd (show (1 : Nat) = 2 from z) (by decide)⟩ ⟨Nat.zero_le _, fun x hx => (by cases hx)⟩
theorem inV_remove {rm K : Nat} {a : aS} {key : Int32} (hr : 512 ≤ rm ∧ rm ≤ 4096) (hb : K + 10000 < 2 ^ 30 - 6000) (h : inV rm K a) : inV rm (K + 10000) (aRemove rm key a).2 := by
  unfold aRemove
  split
  · exact inV_K h (Nat.le_add_right _ _)
  · rename_i hd
    split
    · exact inV_K h (Nat.le_add_right _ _)
    · rename_i h2
      split
      · exact inV_K h (Nat.le_add_right _ _)
      · have hk : kx_is key = true := by
          cases hk : kx_is key with
          | true => rfl
          | false => exact absurd (Or.inl hk) h2
        obtain ⟨k, hk1, rfl⟩ := kx_nat hk
        rw [cl_ofI (a := k)]
        exact inV_lay hr hb h (dwn_f hd) (fun z => h2 (Or.inr z)) ⟨⟨(by decide : 0 < 2), (by decide : 2 < 3), hk1, Nat.zero_le _, fun x hx => (by cases hx)⟩, fun _ => rfl⟩ ⟨h.2.2.2.2.1, h.2.2.2.2.2.1⟩
theorem inV_begin {rm K : Nat} {a : aS} (h : inV rm K a) : inV rm K (aBegin a).2 := by
  unfold aBegin
  split
  · exact h
  · split
    · exact h
    · exact ⟨h.1, h.2.1, h.2.2.1, h.2.2.2.1, h.2.2.2.2.1, h.2.2.2.2.2.1, fun w => (by cases w)⟩
theorem inV_noT {rm K : Nat} {a : aS} (h : inV rm K a) : inV rm K (a.1, ([], false, a.2.1.2.2), a.2.2) := ⟨h.1, h.2.1, fun x hx => (by cases hx), Nat.zero_le _, h.2.2.2.2.1, h.2.2.2.2.2.1, fun _ => rfl⟩
theorem inV_commit {rm K : Nat} {a : aS} (hr : 512 ≤ rm ∧ rm ≤ 4096) (hb : K + 10000 < 2 ^ 30 - 6000) (h : inV rm K a) : inV rm (K + 10000) (aCommit rm a).2 := by
  unfold aCommit
  split
  · exact inV_K h (Nat.le_add_right _ _)
  · rename_i hd
    split
    · exact inV_K (inV_noT h) (Nat.le_add_right _ _)
    · exact inV_store hr hb h (dwn_f hd) h.2.2.2.1 h.2.2.1 ⟨h.2.2.2.2.1, h.2.2.2.2.2.1⟩
theorem inV_cancel {rm K : Nat} {a : aS} (h : inV rm K a) : inV rm K (aCancel a).2 := by
  unfold aCancel
  split
  · exact h
  · exact inV_noT h
theorem inV_get {rm K : Nat} {a : aS} {key : Int32} (h : inV rm K a) : inV rm K (aGet rm key a).2 := by
  unfold aGet
  split
  · exact h
  · split
    · exact h
    · split
      · split
        · exact h
        · exact h
      · exact h
theorem inV_sync {rm K : Nat} {a : aS} (hb : K + 10000 < 2 ^ 30 - 6000) (h : inV rm K a) : inV rm K (aSync rm a).2 := by
  unfold aSync
  split
  · exact h
  · rename_i hd
    have hd' := dwn_f hd
    obtain ⟨h1, l1, l2, h2, h3, h4⟩ := h.1 hd'
    refine ⟨fun _ => ⟨cS_sy h1 (fun _ => lv_opn h2 (by omega)), l1, l2, lv_sy hd' h2, h3, h4⟩, fun w => ?_, h.2.2⟩
    have : (sy rm a.1.1).2.2.2.2.2 = true := w
    rw [sy_al] at this
    exact absurd this hd
theorem inV_checkpoint {rm K : Nat} {a : aS} (hr : 512 ≤ rm ∧ rm ≤ 4096) (hb : K + 10000 < 2 ^ 30 - 6000) (h : inV rm K a) : inV rm (K + 10000) (aCheckpoint rm a).2 := by
  unfold aCheckpoint
  split
  · exact inV_K h (Nat.le_add_right _ _)
  · rename_i hd
    obtain ⟨h1, l1, l2, h2, h3, h4⟩ := h.1 (dwn_f hd)
    obtain ⟨m1, m2, m3, m4, m5⟩ := lvRm h2
    obtain ⟨c1, c2⟩ := lv_ck (K := K + 10000) hr.1 hb (cS_K h1 (Nat.le_add_right _ _)) (fun _ => ⟨lv_K h2 (Nat.le_add_right _ _), by omega, by omega⟩)
    exact inV_fin c1 (fun w => ⟨l1 ++ l2, [], (c2 w).1, rfl, by rw [List.append_nil]; exact h4⟩) h.2.2
theorem inV_collect {rm K : Nat} {a : aS} {n : Int32} (hr : 512 ≤ rm ∧ rm ≤ 4096) (hb : K + 10000 < 2 ^ 30 - 6000) (h : inV rm K a) : inV rm (K + 10000) (aCollect rm n a).2 := by
  unfold aCollect
  split
  · exact inV_K h (Nat.le_add_right _ _)
  · rename_i hd
    split
    · exact inV_K h (Nat.le_add_right _ _)
    · obtain ⟨h1, l1, l2, h2, h3, h4⟩ := h.1 (dwn_f hd)
      obtain ⟨m1, m2, m3, m4, m5⟩ := lvRm h2
      obtain ⟨c1, _, c3⟩ := lv_cl (K := K + 10000) (n := n.toNatClampNeg) hr hb (cS_K h1 (Nat.le_add_right _ _)) (fun _ => ⟨lv_K h2 (Nat.le_add_right _ _), h3, by omega, by omega, by omega⟩)
      rw [← h4] at c1 c3
      refine inV_fin c1 (fun w => ?_) h.2.2
      obtain ⟨k1, k2, d1, d2, d3, _⟩ := c3 w
      exact ⟨k1, k2, d1, d2, d3⟩
theorem inV_crash {rm K : Nat} {a : aS} {x y : Int32} (h : inV rm K a) : inV rm K (aCrash rm x y a).2 := by
  unfold aCrash
  split
  · exact h
  · rename_i hd
    split
    · exact h
    · exact ⟨fun w => (by cases w), fun _ => ⟨(h.1 (dwn_f hd)).1 _ _, rfl, rfl⟩, fun x hx => (by cases hx), Nat.zero_le _, Nat.zero_le _, fun x hx => (by cases hx), fun _ => rfl⟩
theorem inV_fail {rm K : Nat} {a : aS} {n x y : Int32} (h : inV rm K a) : inV rm K (aFail n x y a).2 := by
  unfold aFail
  split
  · exact h
  · rename_i hd
    split
    · exact h
    · exact ⟨h.1, fun w => absurd w hd, h.2.2⟩
theorem inV_spare {rm K : Nat} {a : aS} (h : inV rm K a) : inV rm K (aSpare a).2 := by
  unfold aSpare
  split
  · exact h
  · rename_i hd
    exact ⟨h.1, fun w => absurd w hd, h.2.2⟩
theorem tkn_pre : ∀ (l w : List lR), ∃ m, w ++ l = tkn w l ++ m
  | [], w => ⟨w, by rw [List.append_nil]; rfl⟩
  | r :: l, w => by
    show ∃ m, w ++ r :: l = (if r.2.1 = 0 then w ++ r :: tkn [] l else tkn (w ++ [r]) l) ++ m
    split
    · obtain ⟨m, hm⟩ := tkn_pre l []
      refine ⟨m, ?_⟩
      have : l = tkn [] l ++ m := hm
      rw [List.append_assoc, List.cons_append, ← this]
    · obtain ⟨m, hm⟩ := tkn_pre l (w ++ [r])
      refine ⟨m, ?_⟩
      rw [← hm, List.append_assoc]
      rfl
theorem tkn_w : ∀ (w v m : List lR), (∀ r ∈ w, r.2.1 ≠ 0) → tkn v (w ++ m) = tkn (v ++ w) m
  | [], v, m, _ => by rw [List.append_nil]; rfl
  | r :: w, v, m, h => by
    show (if r.2.1 = 0 then _ else tkn (v ++ [r]) (w ++ m)) = _
    rw [if_neg (h r List.mem_cons_self), tkn_w w (v ++ [r]) m (fun x hx => h x (List.mem_cons_of_mem _ hx)), List.append_assoc]
    rfl
theorem tkn_idem : ∀ (l w : List lR), (∀ r ∈ w, r.2.1 ≠ 0) → tkn [] (tkn w l) = tkn w l
  | [], _, _ => rfl
  | r :: l, w, h => by
    show tkn [] (if r.2.1 = 0 then w ++ r :: tkn [] l else tkn (w ++ [r]) l) = (if r.2.1 = 0 then w ++ r :: tkn [] l else tkn (w ++ [r]) l)
    by_cases h0 : r.2.1 = 0
    · rw [if_pos h0, tkn_w w [] _ h]
      show (if r.2.1 = 0 then w ++ r :: tkn [] (tkn [] l) else _) = _
      rw [if_pos h0, tkn_idem l [] (fun x hx => (by cases hx))]
    · rw [if_neg h0]
      refine tkn_idem l (w ++ [r]) (fun x hx => ?_)
      rcases List.mem_append.mp hx with z | z
      · exact h x z
      · rw [List.mem_singleton.mp z]
        exact h0
theorem cS_sy' {rm K : Nat} {s : dS} (hal : s.2.2.2.2.2 = false) (hx : opn rm K (cu rm s)) : cS rm K (sy rm s) := by
  unfold sy
  rw [hal]
  exact fun keep cut => hx
/-- a store is opened -/
theorem lv_open {rm K : Nat} {s : dS} {V : vW} {l1 l2 : List lR} (hr : 512 ≤ rm) (hb : K < 2 ^ 30 - 6000) (hp : s.2.1 = []) (h0 : s.2.2.1 = 0) (hI : fD rm (cu rm s) V l1 l2) (ho : oW V l2) (hK : bdK K V l2) :
    (opS rm s (V.2.2 5)).2.2.2.2.2 = false ∧ cS rm K (opS rm s (V.2.2 5)) ∧ lv rm K (opS rm s (V.2.2 5)) V l1 (tkn [] l2) := by
  have hr0 : 0 < rm := by omega
  obtain ⟨m, hm⟩ := tkn_pre l2 []
  have hm' : l2 = tkn [] l2 ++ m := hm
  have hal : (wr (dUp s) (wL (V.2.2 5 % rm) z12)).2.2.2.2.2 = false := by
    unfold wr dUp
    show decide (s.2.2.1 = 1) = false
    rw [h0]
    rfl
  have hcu : cu rm (wr (dUp s) (wL (V.2.2 5 % rm) z12)) = ap rm (cu rm s) (wL (V.2.2 5 % rm) z12) := cu_wr rfl
  have hZ : lgZ l2 = lgZ (tkn [] l2) + lgZ m := by
    conv => lhs; rw [hm']
    exact lgZ_app _ _
  have hL : l2.length = (tkn [] l2).length + m.length := by
    conv => lhs; rw [hm']
    exact List.length_append
  obtain ⟨g1, g2, ⟨q1, q2, q3, q4, q5, q6, q7⟩, g4⟩ := hI
  have e5 := ho.2.1
  have e6 := ho.2.2
  have hln := lgZ_len (tkn [] l2)
  have hid : tkn [] (tkn [] l2) = tkn [] l2 := tkn_idem l2 [] (fun x hx => (by cases hx))
  have hz12 : z12.length = 12 := rfl
  have hzz : atL rm (ap rm (cu rm s) (wL (V.2.2 5 % rm) z12)) (V.2.2 5) z12 := atL_wr hr0 z12_by (by omega)
  have hK' : bdK K V (tkn [] l2) := ⟨hK.1, hK.2.1, by have := hK.2.2; omega⟩
  have hf : fD rm (ap rm (cu rm s) (wL (V.2.2 5 % rm) z12)) V l1 (tkn [] l2) := by
    refine ⟨rtI_ext (fun k _ j _ => lg_hi hr0 (by have := slC_ge rm k; omega)) g1, tD_ext (fun t _ j _ => lg_hi hr0 (by omega)) g2, ⟨?_, ?_, q3, q4, ?_, ?_, ?_⟩, by rw [hid]; exact g4⟩
    · intro r hr'
      refine q1 r ?_
      rw [hm', ← List.append_assoc]
      exact List.mem_append_left _ hr'
    · rw [hm', ← List.append_assoc, lgB_app, atL_app] at q2
      refine atL_far (m := 12) hr0 q2.1 (a := V.2.2 4) (Nat.le_refl _) ?_ (by omega) (by omega) ?_
      · rw [lgB_len, lgZ_app]
        omega
      · rw [lgB_len, lgZ_app]
        omega
    · rw [← e5, qL_z hzz]
      omega
    · omega
    · omega
  refine ⟨?_, ?_, ?_⟩
  · unfold opS
    rw [sy_al]
    exact hal
  · unfold opS
    exact cS_sy' hal (by rw [hcu]; exact opn_of hf hK' hb)
  · have : lv rm K (wr (dUp s) (wL (V.2.2 5 % rm) z12)) V l1 (tkn [] l2) ∨ True := Or.inr trivial
    unfold opS lv
    rw [cu_sy, hcu]
    refine ⟨hf, by rw [← hid]; rw [hid]; exact g4, ho.1, e5, e6, hzz, ⟨V.2.2 5, by omega, Nat.le_refl _, ?_, ?_⟩, hK'⟩
    · rw [sy_al' hal]
      show 4 * 0 + _ ≤ _
      omega
    · rw [sy_al' hal]
      show 0 + _ ≤ _
      omega
theorem inV_open {rm K : Nat} {a : aS} (hr : 512 ≤ rm ∧ rm ≤ 4096) (hb : K + 10000 < 2 ^ 30 - 6000) (h : inV rm K a) (hd : dwn a = true) : ∃ W all lg, rtI rm (cu rm a.1.1) W ∧ lgI rm (cu rm a.1.1) W all ∧ inV rm K (aOpen rm W all lg a).2 ∧ (∀ t ∈ W.1, tE rm (cu rm a.1.1) t) := by
  obtain ⟨⟨V, l1, l2, f1, f2, f3⟩, hp, h0⟩ := h.2.1 hd
  refine ⟨V, l2, l1 ++ tkn [] l2, f1.1, fD_lgI f1 f2 f3 (by omega), ?_, f1.2.1.1⟩
  obtain ⟨o1, o2, o3⟩ := lv_open hr.1 (by omega) hp h0 f1 f2 f3
  unfold aOpen
  rw [if_pos hd]
  refine ⟨fun _ => ⟨o2, l1, tkn [] l2, o3, tkn_idem l2 [] (fun x hx => (by cases hx)), rfl⟩, fun w => ?_, h.2.2⟩
  have : (opS rm a.1.1 (V.2.2 5)).2.2.2.2.2 = true := w
  rw [o1] at this
  cases this
/-- an empty disk -/
theorem opn_0 {rm : Nat} (hr : 512 ≤ rm) : fD rm (fun _ => 0) ([], m0, fun i => if i = 3 ∨ i = 6 ∨ i = 7 then 1 else 0) [] [] ∧ oW ([], m0, fun i => if i = 3 ∨ i = 6 ∨ i = 7 then 1 else 0) [] ∧ bdK 1 ([], m0, fun i => if i = 3 ∨ i = 6 ∨ i = 7 then 1 else 0) [] := by
  have b0 : ∀ j, bN (fun _ => (0 : Int32)) j = 0 := fun j => by
    show (0 : Int32).toBitVec.toNat % 256 = 0
    decide
  have q0 : ∀ q, qN (fun _ => 0) q = 0 := fun q => by
    unfold qN
    rw [b0, b0, b0, b0]
    decide
  refine ⟨⟨⟨Nat.zero_le _, fun t ht => (by cases ht), fun i _ _ => ?_, Or.inl ⟨rfl, Or.inl (q0 _), Or.inl (q0 _), rfl, rfl, rfl, rfl, rfl⟩⟩, ⟨fun t ht => (by cases ht), ⟨[], [], [], rfl, fun t ht => (by cases ht), fun t ht => (by cases ht), fun t ht => (by cases ht), by decide, by decide, by decide⟩, List.nodup_nil, fun t ht => (by cases ht)⟩, ⟨fun r hr' => (by cases hr'), fun i hi => absurd hi (Nat.not_lt_zero i), rfl, by decide, ?_, ?_, by decide⟩, ?_⟩, ⟨rfl, rfl, rfl⟩, ⟨by decide, by decide, by decide⟩⟩
  · show (if i = 3 ∨ i = 6 ∨ i = 7 then 1 else 0) < 2 ^ 30
    split <;> decide
  · unfold qL
    rw [b0, b0, b0, b0]
    decide
  · show 0 + 0 + 12 ≤ 0 + rm
    omega
  · intro k e he
    cases he
