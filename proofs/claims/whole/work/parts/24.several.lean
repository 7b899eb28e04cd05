/-! PART 24: objects of which there are several: entries (5), views (2), found (3) (printed by wip/whole/gen_sym.py) -/
def oE : Nat → Nat
  | 0 => 8
  | 1 => 15
  | 2 => 24
  | 3 => 29
  | _ => 33
def oV : Nat → Nat
  | 0 => 7
  | _ => 23
def oF : Nat → Nat
  | 0 => 14
  | 1 => 52
  | _ => 53
theorem gE_0 {e : Nat} (he : e < 5) (rm : Nat) (iv : Nat → Int32) (av : Nat → Nat → Int32) (r : pW) : gt_f (wX rm iv av r) 2 (oE e) 0 = some (.ref (oE e + 1)) := match e, he with
  | 0, _ => rfl
  | 1, _ => rfl
  | 2, _ => rfl
  | 3, _ => rfl
  | 4, _ => rfl
  | k + 5, hk => absurd hk (by omega)
theorem gE_1 {e : Nat} (he : e < 5) (rm : Nat) (iv : Nat → Int32) (av : Nat → Nat → Int32) (r : pW) : gt_f (wX rm iv av r) 2 (oE e) 1 = some (.ref (oE e + 2)) := match e, he with
  | 0, _ => rfl
  | 1, _ => rfl
  | 2, _ => rfl
  | 3, _ => rfl
  | 4, _ => rfl
  | k + 5, hk => absurd hk (by omega)
theorem gE_2 {e : Nat} (he : e < 5) (rm : Nat) (iv : Nat → Int32) (av : Nat → Nat → Int32) (r : pW) : gt_f (wX rm iv av r) 2 (oE e) 2 = some (.ref (oE e + 3)) := match e, he with
  | 0, _ => rfl
  | 1, _ => rfl
  | 2, _ => rfl
  | 3, _ => rfl
  | 4, _ => rfl
  | k + 5, hk => absurd hk (by omega)
theorem gE_3 {e : Nat} (he : e < 5) (rm : Nat) (iv : Nat → Int32) (av : Nat → Nat → Int32) (r : pW) : gt_f (wX rm iv av r) 2 (oE e) 3 = some (.int (iv (30 + e))) := match e, he with
  | 0, _ => rfl
  | 1, _ => rfl
  | 2, _ => rfl
  | 3, _ => rfl
  | 4, _ => rfl
  | k + 5, hk => absurd hk (by omega)
theorem pE_3 {e : Nat} (he : e < 5) (rm : Nat) (iv : Nat → Int32) (av : Nat → Nat → Int32) (r : pW) (x : Int32) : pt_f (wX rm iv av r) 2 (oE e) 3 (.int x) = some (wX rm (upd iv (30 + e) x) av r) := match e, he with
  | 0, _ => rfl
  | 1, _ => rfl
  | 2, _ => rfl
  | 3, _ => rfl
  | 4, _ => rfl
  | k + 5, hk => absurd hk (by omega)
theorem gE_c {e : Nat} (he : e < 5) (rm : Nat) (iv : Nat → Int32) (av : Nat → Nat → Int32) (r : pW) : gt_c (wX rm iv av r) (oE e) = some 2 := match e, he with
  | 0, _ => rfl
  | 1, _ => rfl
  | 2, _ => rfl
  | 3, _ => rfl
  | 4, _ => rfl
  | k + 5, hk => absurd hk (by omega)
theorem gEa_0 {e : Nat} (he : e < 5) (rm : Nat) (iv : Nat → Int32) (av : Nat → Nat → Int32) (r : pW) : gt_a (wX rm iv av r) (oE e + 1) = some (0, 120, .inl (av (10 + 3 * e + 0))) := match e, he with
  | 0, _ => rfl
  | 1, _ => rfl
  | 2, _ => rfl
  | 3, _ => rfl
  | 4, _ => rfl
  | k + 5, hk => absurd hk (by omega)
theorem pEa_0 {e : Nat} (he : e < 5) (rm : Nat) (iv : Nat → Int32) (av : Nat → Nat → Int32) (r : pW) (f : Nat → Int32) : pt_a (wX rm iv av r) (oE e + 1) (0, 120, .inl f) = wX rm iv (up_a av (10 + 3 * e + 0) f) r := match e, he with
  | 0, _ => rfl
  | 1, _ => rfl
  | 2, _ => rfl
  | 3, _ => rfl
  | 4, _ => rfl
  | k + 5, hk => absurd hk (by omega)
theorem gEa_1 {e : Nat} (he : e < 5) (rm : Nat) (iv : Nat → Int32) (av : Nat → Nat → Int32) (r : pW) : gt_a (wX rm iv av r) (oE e + 2) = some (0, 120, .inl (av (10 + 3 * e + 1))) := match e, he with
  | 0, _ => rfl
  | 1, _ => rfl
  | 2, _ => rfl
  | 3, _ => rfl
  | 4, _ => rfl
  | k + 5, hk => absurd hk (by omega)
theorem pEa_1 {e : Nat} (he : e < 5) (rm : Nat) (iv : Nat → Int32) (av : Nat → Nat → Int32) (r : pW) (f : Nat → Int32) : pt_a (wX rm iv av r) (oE e + 2) (0, 120, .inl f) = wX rm iv (up_a av (10 + 3 * e + 1) f) r := match e, he with
  | 0, _ => rfl
  | 1, _ => rfl
  | 2, _ => rfl
  | 3, _ => rfl
  | 4, _ => rfl
  | k + 5, hk => absurd hk (by omega)
theorem gEa_2 {e : Nat} (he : e < 5) (rm : Nat) (iv : Nat → Int32) (av : Nat → Nat → Int32) (r : pW) : gt_a (wX rm iv av r) (oE e + 3) = some (0, 120, .inl (av (10 + 3 * e + 2))) := match e, he with
  | 0, _ => rfl
  | 1, _ => rfl
  | 2, _ => rfl
  | 3, _ => rfl
  | 4, _ => rfl
  | k + 5, hk => absurd hk (by omega)
theorem pEa_2 {e : Nat} (he : e < 5) (rm : Nat) (iv : Nat → Int32) (av : Nat → Nat → Int32) (r : pW) (f : Nat → Int32) : pt_a (wX rm iv av r) (oE e + 3) (0, 120, .inl f) = wX rm iv (up_a av (10 + 3 * e + 2) f) r := match e, he with
  | 0, _ => rfl
  | 1, _ => rfl
  | 2, _ => rfl
  | 3, _ => rfl
  | 4, _ => rfl
  | k + 5, hk => absurd hk (by omega)
theorem gV_0 {v : Nat} (hv : v < 2) (rm : Nat) (iv : Nat → Int32) (av : Nat → Nat → Int32) (r : pW) : gt_f (wX rm iv av r) 5 (oV v) 0 = some (.ref 2) := match v, hv with
  | 0, _ => rfl
  | 1, _ => rfl
  | k + 2, hk => absurd hk (by omega)
theorem gV_1 {v : Nat} (hv : v < 2) (rm : Nat) (iv : Nat → Int32) (av : Nat → Nat → Int32) (r : pW) : gt_f (wX rm iv av r) 5 (oV v) 1 = some (.ref (oE (2 * v))) := match v, hv with
  | 0, _ => rfl
  | 1, _ => rfl
  | k + 2, hk => absurd hk (by omega)
theorem gV_2 {v : Nat} (hv : v < 2) (rm : Nat) (iv : Nat → Int32) (av : Nat → Nat → Int32) (r : pW) : gt_f (wX rm iv av r) 5 (oV v) 2 = some (.ref (oV v + 5)) := match v, hv with
  | 0, _ => rfl
  | 1, _ => rfl
  | k + 2, hk => absurd hk (by omega)
theorem gV_c {v : Nat} (hv : v < 2) (rm : Nat) (iv : Nat → Int32) (av : Nat → Nat → Int32) (r : pW) : gt_c (wX rm iv av r) (oV v) = some 5 := match v, hv with
  | 0, _ => rfl
  | 1, _ => rfl
  | k + 2, hk => absurd hk (by omega)
theorem gVp {v : Nat} (hv : v < 2) (rm : Nat) (iv : Nat → Int32) (av : Nat → Nat → Int32) (r : pW) : gt_a (wX rm iv av r) (oV v + 5) = some (0, 6, .inl (av (4 + v))) := match v, hv with
  | 0, _ => rfl
  | 1, _ => rfl
  | k + 2, hk => absurd hk (by omega)
theorem pVp {v : Nat} (hv : v < 2) (rm : Nat) (iv : Nat → Int32) (av : Nat → Nat → Int32) (r : pW) (f : Nat → Int32) : pt_a (wX rm iv av r) (oV v + 5) (0, 6, .inl f) = wX rm iv (up_a av (4 + v) f) r := match v, hv with
  | 0, _ => rfl
  | 1, _ => rfl
  | k + 2, hk => absurd hk (by omega)
theorem gV_3 {v : Nat} (hv : v < 2) (rm : Nat) (iv : Nat → Int32) (av : Nat → Nat → Int32) (r : pW) : gt_f (wX rm iv av r) 5 (oV v) 3 = some (.int (iv (10 + 10 * v + 0))) := match v, hv with
  | 0, _ => rfl
  | 1, _ => rfl
  | k + 2, hk => absurd hk (by omega)
theorem pV_3 {v : Nat} (hv : v < 2) (rm : Nat) (iv : Nat → Int32) (av : Nat → Nat → Int32) (r : pW) (x : Int32) : pt_f (wX rm iv av r) 5 (oV v) 3 (.int x) = some (wX rm (upd iv (10 + 10 * v + 0) x) av r) := match v, hv with
  | 0, _ => rfl
  | 1, _ => rfl
  | k + 2, hk => absurd hk (by omega)
theorem gV_4 {v : Nat} (hv : v < 2) (rm : Nat) (iv : Nat → Int32) (av : Nat → Nat → Int32) (r : pW) : gt_f (wX rm iv av r) 5 (oV v) 4 = some (.int (iv (10 + 10 * v + 1))) := match v, hv with
  | 0, _ => rfl
  | 1, _ => rfl
  | k + 2, hk => absurd hk (by omega)
theorem pV_4 {v : Nat} (hv : v < 2) (rm : Nat) (iv : Nat → Int32) (av : Nat → Nat → Int32) (r : pW) (x : Int32) : pt_f (wX rm iv av r) 5 (oV v) 4 (.int x) = some (wX rm (upd iv (10 + 10 * v + 1) x) av r) := match v, hv with
  | 0, _ => rfl
  | 1, _ => rfl
  | k + 2, hk => absurd hk (by omega)
theorem gV_5 {v : Nat} (hv : v < 2) (rm : Nat) (iv : Nat → Int32) (av : Nat → Nat → Int32) (r : pW) : gt_f (wX rm iv av r) 5 (oV v) 5 = some (.int (iv (10 + 10 * v + 2))) := match v, hv with
  | 0, _ => rfl
  | 1, _ => rfl
  | k + 2, hk => absurd hk (by omega)
theorem pV_5 {v : Nat} (hv : v < 2) (rm : Nat) (iv : Nat → Int32) (av : Nat → Nat → Int32) (r : pW) (x : Int32) : pt_f (wX rm iv av r) 5 (oV v) 5 (.int x) = some (wX rm (upd iv (10 + 10 * v + 2) x) av r) := match v, hv with
  | 0, _ => rfl
  | 1, _ => rfl
  | k + 2, hk => absurd hk (by omega)
theorem gV_6 {v : Nat} (hv : v < 2) (rm : Nat) (iv : Nat → Int32) (av : Nat → Nat → Int32) (r : pW) : gt_f (wX rm iv av r) 5 (oV v) 6 = some (.int (iv (10 + 10 * v + 3))) := match v, hv with
  | 0, _ => rfl
  | 1, _ => rfl
  | k + 2, hk => absurd hk (by omega)
theorem pV_6 {v : Nat} (hv : v < 2) (rm : Nat) (iv : Nat → Int32) (av : Nat → Nat → Int32) (r : pW) (x : Int32) : pt_f (wX rm iv av r) 5 (oV v) 6 (.int x) = some (wX rm (upd iv (10 + 10 * v + 3) x) av r) := match v, hv with
  | 0, _ => rfl
  | 1, _ => rfl
  | k + 2, hk => absurd hk (by omega)
theorem gV_7 {v : Nat} (hv : v < 2) (rm : Nat) (iv : Nat → Int32) (av : Nat → Nat → Int32) (r : pW) : gt_f (wX rm iv av r) 5 (oV v) 7 = some (.int (iv (10 + 10 * v + 4))) := match v, hv with
  | 0, _ => rfl
  | 1, _ => rfl
  | k + 2, hk => absurd hk (by omega)
theorem pV_7 {v : Nat} (hv : v < 2) (rm : Nat) (iv : Nat → Int32) (av : Nat → Nat → Int32) (r : pW) (x : Int32) : pt_f (wX rm iv av r) 5 (oV v) 7 (.int x) = some (wX rm (upd iv (10 + 10 * v + 4) x) av r) := match v, hv with
  | 0, _ => rfl
  | 1, _ => rfl
  | k + 2, hk => absurd hk (by omega)
theorem gV_8 {v : Nat} (hv : v < 2) (rm : Nat) (iv : Nat → Int32) (av : Nat → Nat → Int32) (r : pW) : gt_f (wX rm iv av r) 5 (oV v) 8 = some (.int (iv (10 + 10 * v + 5))) := match v, hv with
  | 0, _ => rfl
  | 1, _ => rfl
  | k + 2, hk => absurd hk (by omega)
theorem pV_8 {v : Nat} (hv : v < 2) (rm : Nat) (iv : Nat → Int32) (av : Nat → Nat → Int32) (r : pW) (x : Int32) : pt_f (wX rm iv av r) 5 (oV v) 8 (.int x) = some (wX rm (upd iv (10 + 10 * v + 5) x) av r) := match v, hv with
  | 0, _ => rfl
  | 1, _ => rfl
  | k + 2, hk => absurd hk (by omega)
theorem gV_9 {v : Nat} (hv : v < 2) (rm : Nat) (iv : Nat → Int32) (av : Nat → Nat → Int32) (r : pW) : gt_f (wX rm iv av r) 5 (oV v) 9 = some (.int (iv (10 + 10 * v + 6))) := match v, hv with
  | 0, _ => rfl
  | 1, _ => rfl
  | k + 2, hk => absurd hk (by omega)
theorem pV_9 {v : Nat} (hv : v < 2) (rm : Nat) (iv : Nat → Int32) (av : Nat → Nat → Int32) (r : pW) (x : Int32) : pt_f (wX rm iv av r) 5 (oV v) 9 (.int x) = some (wX rm (upd iv (10 + 10 * v + 6) x) av r) := match v, hv with
  | 0, _ => rfl
  | 1, _ => rfl
  | k + 2, hk => absurd hk (by omega)
theorem gV_10 {v : Nat} (hv : v < 2) (rm : Nat) (iv : Nat → Int32) (av : Nat → Nat → Int32) (r : pW) : gt_f (wX rm iv av r) 5 (oV v) 10 = some (.int (iv (10 + 10 * v + 7))) := match v, hv with
  | 0, _ => rfl
  | 1, _ => rfl
  | k + 2, hk => absurd hk (by omega)
theorem pV_10 {v : Nat} (hv : v < 2) (rm : Nat) (iv : Nat → Int32) (av : Nat → Nat → Int32) (r : pW) (x : Int32) : pt_f (wX rm iv av r) 5 (oV v) 10 (.int x) = some (wX rm (upd iv (10 + 10 * v + 7) x) av r) := match v, hv with
  | 0, _ => rfl
  | 1, _ => rfl
  | k + 2, hk => absurd hk (by omega)
theorem gF_0 {f : Nat} (hf : f < 3) (rm : Nat) (iv : Nat → Int32) (av : Nat → Nat → Int32) (r : pW) : gt_f (wX rm iv av r) 3 (oF f) 0 = some (.int (iv (40 + 10 * f + 0))) := match f, hf with
  | 0, _ => rfl
  | 1, _ => rfl
  | 2, _ => rfl
  | k + 3, hk => absurd hk (by omega)
theorem pF_0 {f : Nat} (hf : f < 3) (rm : Nat) (iv : Nat → Int32) (av : Nat → Nat → Int32) (r : pW) (x : Int32) : pt_f (wX rm iv av r) 3 (oF f) 0 (.int x) = some (wX rm (upd iv (40 + 10 * f + 0) x) av r) := match f, hf with
  | 0, _ => rfl
  | 1, _ => rfl
  | 2, _ => rfl
  | k + 3, hk => absurd hk (by omega)
theorem gF_1 {f : Nat} (hf : f < 3) (rm : Nat) (iv : Nat → Int32) (av : Nat → Nat → Int32) (r : pW) : gt_f (wX rm iv av r) 3 (oF f) 1 = some (.int (iv (40 + 10 * f + 1))) := match f, hf with
  | 0, _ => rfl
  | 1, _ => rfl
  | 2, _ => rfl
  | k + 3, hk => absurd hk (by omega)
theorem pF_1 {f : Nat} (hf : f < 3) (rm : Nat) (iv : Nat → Int32) (av : Nat → Nat → Int32) (r : pW) (x : Int32) : pt_f (wX rm iv av r) 3 (oF f) 1 (.int x) = some (wX rm (upd iv (40 + 10 * f + 1) x) av r) := match f, hf with
  | 0, _ => rfl
  | 1, _ => rfl
  | 2, _ => rfl
  | k + 3, hk => absurd hk (by omega)
theorem gF_2 {f : Nat} (hf : f < 3) (rm : Nat) (iv : Nat → Int32) (av : Nat → Nat → Int32) (r : pW) : gt_f (wX rm iv av r) 3 (oF f) 2 = some (.int (iv (40 + 10 * f + 2))) := match f, hf with
  | 0, _ => rfl
  | 1, _ => rfl
  | 2, _ => rfl
  | k + 3, hk => absurd hk (by omega)
theorem pF_2 {f : Nat} (hf : f < 3) (rm : Nat) (iv : Nat → Int32) (av : Nat → Nat → Int32) (r : pW) (x : Int32) : pt_f (wX rm iv av r) 3 (oF f) 2 (.int x) = some (wX rm (upd iv (40 + 10 * f + 2) x) av r) := match f, hf with
  | 0, _ => rfl
  | 1, _ => rfl
  | 2, _ => rfl
  | k + 3, hk => absurd hk (by omega)
theorem gF_3 {f : Nat} (hf : f < 3) (rm : Nat) (iv : Nat → Int32) (av : Nat → Nat → Int32) (r : pW) : gt_f (wX rm iv av r) 3 (oF f) 3 = some (.int (iv (40 + 10 * f + 3))) := match f, hf with
  | 0, _ => rfl
  | 1, _ => rfl
  | 2, _ => rfl
  | k + 3, hk => absurd hk (by omega)
theorem pF_3 {f : Nat} (hf : f < 3) (rm : Nat) (iv : Nat → Int32) (av : Nat → Nat → Int32) (r : pW) (x : Int32) : pt_f (wX rm iv av r) 3 (oF f) 3 (.int x) = some (wX rm (upd iv (40 + 10 * f + 3) x) av r) := match f, hf with
  | 0, _ => rfl
  | 1, _ => rfl
  | 2, _ => rfl
  | k + 3, hk => absurd hk (by omega)
theorem gF_4 {f : Nat} (hf : f < 3) (rm : Nat) (iv : Nat → Int32) (av : Nat → Nat → Int32) (r : pW) : gt_f (wX rm iv av r) 3 (oF f) 4 = some (.int (iv (40 + 10 * f + 4))) := match f, hf with
  | 0, _ => rfl
  | 1, _ => rfl
  | 2, _ => rfl
  | k + 3, hk => absurd hk (by omega)
theorem pF_4 {f : Nat} (hf : f < 3) (rm : Nat) (iv : Nat → Int32) (av : Nat → Nat → Int32) (r : pW) (x : Int32) : pt_f (wX rm iv av r) 3 (oF f) 4 (.int x) = some (wX rm (upd iv (40 + 10 * f + 4) x) av r) := match f, hf with
  | 0, _ => rfl
  | 1, _ => rfl
  | 2, _ => rfl
  | k + 3, hk => absurd hk (by omega)
theorem gF_5 {f : Nat} (hf : f < 3) (rm : Nat) (iv : Nat → Int32) (av : Nat → Nat → Int32) (r : pW) : gt_f (wX rm iv av r) 3 (oF f) 5 = some (.int (iv (40 + 10 * f + 5))) := match f, hf with
  | 0, _ => rfl
  | 1, _ => rfl
  | 2, _ => rfl
  | k + 3, hk => absurd hk (by omega)
theorem pF_5 {f : Nat} (hf : f < 3) (rm : Nat) (iv : Nat → Int32) (av : Nat → Nat → Int32) (r : pW) (x : Int32) : pt_f (wX rm iv av r) 3 (oF f) 5 (.int x) = some (wX rm (upd iv (40 + 10 * f + 5) x) av r) := match f, hf with
  | 0, _ => rfl
  | 1, _ => rfl
  | 2, _ => rfl
  | k + 3, hk => absurd hk (by omega)
theorem gF_c {f : Nat} (hf : f < 3) (rm : Nat) (iv : Nat → Int32) (av : Nat → Nat → Int32) (r : pW) : gt_c (wX rm iv av r) (oF f) = some 3 := match f, hf with
  | 0, _ => rfl
  | 1, _ => rfl
  | 2, _ => rfl
  | k + 3, hk => absurd hk (by omega)
