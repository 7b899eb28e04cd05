/-! PART 06: the check, method by method -/
set_option maxRecDepth 100000 in
theorem cw_0 : rw_0 = (lw_tbl.drop 0).take 32 := rfl
set_option maxRecDepth 100000 in
theorem cw_1 : rw_1 = (lw_tbl.drop 32).take 32 := rfl
set_option maxRecDepth 100000 in
theorem cw_2 : rw_2 = (lw_tbl.drop 64).take 32 := rfl
set_option maxRecDepth 100000 in
theorem cw_3 : rw_3 = (lw_tbl.drop 96).take 32 := rfl
set_option maxRecDepth 100000 in
theorem cw_4 : rw_4 = (lw_tbl.drop 128).take 32 := rfl
set_option maxRecDepth 100000 in
theorem cw_5 : rw_5 = (lw_tbl.drop 160).take 32 := rfl
set_option maxRecDepth 100000 in
theorem cw_6 : rw_6 = (lw_tbl.drop 192).take 32 := rfl
set_option maxRecDepth 100000 in
theorem cw_7 : rw_7 = (lw_tbl.drop 224).take 32 := rfl
set_option maxRecDepth 100000 in
theorem cw_8 : rw_8 = (lw_tbl.drop 256).take 32 := rfl
set_option maxRecDepth 100000 in
theorem cw_9 : rw_9 = (lw_tbl.drop 288).take 32 := rfl
set_option maxRecDepth 100000 in
theorem cw_10 : rw_10 = (lw_tbl.drop 320).take 32 := rfl
set_option maxRecDepth 100000 in
theorem cw_11 : rw_11 = (lw_tbl.drop 352).take 32 := rfl
set_option maxRecDepth 100000 in
theorem cw_12 : rw_12 = (lw_tbl.drop 384).take 32 := rfl
set_option maxRecDepth 100000 in
theorem cw_13 : rw_13 = (lw_tbl.drop 416).take 32 := rfl
set_option maxRecDepth 100000 in
theorem cw_14 : rw_14 = (lw_tbl.drop 448).take 32 := rfl
set_option maxRecDepth 100000 in
theorem cw_15 : rw_15 = (lw_tbl.drop 480).take 32 := rfl
set_option maxRecDepth 100000 in
theorem cw_16 : rw_16 = (lw_tbl.drop 512).take 32 := rfl
set_option maxRecDepth 100000 in
theorem cw_17 : rw_17 = (lw_tbl.drop 544).take 32 := rfl
set_option maxRecDepth 100000 in
theorem cw_18 : rw_18 = (lw_tbl.drop 576).take 32 := rfl
set_option maxRecDepth 100000 in
theorem cw_19 : rw_19 = (lw_tbl.drop 608).take 32 := rfl
set_option maxRecDepth 100000 in
theorem cw_20 : rw_20 = (lw_tbl.drop 640).take 32 := rfl
set_option maxRecDepth 100000 in
theorem cw_21 : rw_21 = (lw_tbl.drop 672).take 32 := rfl
set_option maxRecDepth 100000 in
theorem cw_22 : rw_22 = (lw_tbl.drop 704).take 32 := rfl
set_option maxRecDepth 100000 in
theorem cw_23 : rw_23 = (lw_tbl.drop 736).take 32 := rfl
set_option maxRecDepth 100000 in
theorem cw_24 : rw_24 = (lw_tbl.drop 768).take 32 := rfl
set_option maxRecDepth 100000 in
theorem cw_25 : rw_25 = (lw_tbl.drop 800).take 32 := rfl
set_option maxRecDepth 100000 in
theorem cw_26 : rw_26 = (lw_tbl.drop 832).take 32 := rfl
set_option maxRecDepth 100000 in
theorem cw_27 : rw_27 = (lw_tbl.drop 864).take 32 := rfl
set_option maxRecDepth 100000 in
theorem cw_28 : rw_28 = (lw_tbl.drop 896).take 32 := rfl
set_option maxRecDepth 100000 in
theorem cw_29 : rw_29 = (lw_tbl.drop 928).take 32 := rfl
set_option maxRecDepth 100000 in
theorem cw_30 : rw_30 = (lw_tbl.drop 960).take 32 := rfl
set_option maxRecDepth 100000 in
theorem cw_31 : rw_31 = (lw_tbl.drop 992).take 32 := rfl
set_option maxRecDepth 100000 in
theorem cw_32 : rw_32 = (lw_tbl.drop 1024).take 32 := rfl
set_option maxRecDepth 100000 in
theorem cw_33 : rw_33 = (lw_tbl.drop 1056).take 32 := rfl
set_option maxRecDepth 100000 in
theorem cw_34 : rw_34 = (lw_tbl.drop 1088).take 32 := rfl
set_option maxRecDepth 100000 in
theorem cw_35 : rw_35 = (lw_tbl.drop 1120).take 32 := rfl
theorem cw_in : ∀ l ∈ rx_wt, ∀ w ∈ l, w ∈ lw_tbl := by
  intro l hl
  have key : ∀ n, ∀ w ∈ (lw_tbl.drop n).take 32, w ∈ lw_tbl := fun n w hw => List.mem_of_mem_drop (List.mem_of_mem_take hw)
  simp only [rx_wt, List.mem_cons, List.not_mem_nil, or_false] at hl
  rcases hl with rfl | rfl | rfl | rfl | rfl | rfl | rfl | rfl | rfl | rfl | rfl | rfl | rfl | rfl | rfl | rfl | rfl | rfl | rfl | rfl | rfl | rfl | rfl | rfl | rfl | rfl | rfl | rfl | rfl | rfl | rfl | rfl | rfl | rfl | rfl | rfl
  · rw [cw_0]; exact key _
  · rw [cw_1]; exact key _
  · rw [cw_2]; exact key _
  · rw [cw_3]; exact key _
  · rw [cw_4]; exact key _
  · rw [cw_5]; exact key _
  · rw [cw_6]; exact key _
  · rw [cw_7]; exact key _
  · rw [cw_8]; exact key _
  · rw [cw_9]; exact key _
  · rw [cw_10]; exact key _
  · rw [cw_11]; exact key _
  · rw [cw_12]; exact key _
  · rw [cw_13]; exact key _
  · rw [cw_14]; exact key _
  · rw [cw_15]; exact key _
  · rw [cw_16]; exact key _
  · rw [cw_17]; exact key _
  · rw [cw_18]; exact key _
  · rw [cw_19]; exact key _
  · rw [cw_20]; exact key _
  · rw [cw_21]; exact key _
  · rw [cw_22]; exact key _
  · rw [cw_23]; exact key _
  · rw [cw_24]; exact key _
  · rw [cw_25]; exact key _
  · rw [cw_26]; exact key _
  · rw [cw_27]; exact key _
  · rw [cw_28]; exact key _
  · rw [cw_29]; exact key _
  · rw [cw_30]; exact key _
  · rw [cw_31]; exact key _
  · rw [cw_32]; exact key _
  · rw [cw_33]; exact key _
  · rw [cw_34]; exact key _
  · rw [cw_35]; exact key _
theorem wk_0_0 : wk_l "TrailStore$Batch" "<init>" rt_0_0 := ⟨trivial, ⟨rfl, rfl⟩, trivial, trivial, trivial, ⟨⟨rfl, rfl⟩, Or.inr ⟨rfl, rfl, rfl⟩⟩, trivial, trivial, trivial, ⟨⟨rfl, rfl⟩, Or.inr ⟨rfl, rfl, rfl⟩⟩, trivial, trivial, trivial, ⟨⟨rfl, rfl⟩, Or.inr ⟨rfl, rfl, rfl⟩⟩, trivial, trivial, trivial⟩
theorem wk_0_1 : wk_l "TrailStore$Batch" "<init>" rt_0_1 := ⟨trivial, ⟨rfl, rfl⟩, ⟨⟨rfl, rfl⟩, Or.inr ⟨rfl, rfl, rfl⟩⟩, trivial, trivial⟩
theorem wk_0 : ∀ l ∈ rt_0, wk_l "TrailStore$Batch" "<init>" l := by
  intro l hl
  simp only [rt_0, List.mem_cons, List.not_mem_nil, or_false] at hl
  rcases hl with rfl | rfl
  · exact wk_0_0
  · exact wk_0_1
theorem dk_0_0 : (List.range 32).all (fun i => dk_i prog_2_method_1_code rt_0 (0 + i)) = true := by decide +kernel
theorem dk_0 : ∀ i, i < 32 → dk_i prog_2_method_1_code rt_0 i = true := by
  intro i hi
  by_cases h0 : i < 32
  · have := List.all_eq_true.mp dk_0_0 (i - 0) (List.mem_range.mpr (by omega))
    rwa [show 0 + (i - 0) = i by omega] at this
  exact absurd hi (by omega)
theorem mk_0 : mk_m 0 := ⟨⟨rfl, rfl⟩, ⟨rfl, rfl⟩, by decide +kernel, ⟨⟨rfl, rfl⟩, rfl, rfl⟩⟩
theorem wk_1_0 : wk_l "TrailStore$Batch" "add" rt_1_0 := ⟨trivial, ⟨rfl, rfl⟩, trivial, trivial, trivial, trivial, trivial, trivial, trivial, trivial, trivial, trivial, trivial, ⟨rfl, rfl⟩, trivial, ⟨rfl, rfl⟩, trivial⟩
theorem wk_1_1 : wk_l "TrailStore$Batch" "add" rt_1_1 := ⟨trivial, trivial, trivial, ⟨rfl, rfl⟩, trivial, ⟨rfl, rfl⟩, trivial, trivial, trivial, ⟨rfl, rfl⟩, trivial, ⟨rfl, rfl⟩, trivial, trivial, trivial, trivial, trivial⟩
theorem wk_1_2 : wk_l "TrailStore$Batch" "add" rt_1_2 := ⟨trivial, trivial, trivial, trivial, ⟨rfl, rfl⟩, trivial, ⟨rfl, rfl⟩, trivial, trivial, trivial, trivial, trivial, trivial, trivial, trivial, trivial, trivial⟩
theorem wk_1_3 : wk_l "TrailStore$Batch" "add" rt_1_3 := ⟨trivial, ⟨rfl, rfl⟩, trivial, trivial, ⟨⟨rfl, rfl⟩, Or.inl rfl⟩, trivial, trivial⟩
theorem wk_1 : ∀ l ∈ rt_1, wk_l "TrailStore$Batch" "add" l := by
  intro l hl
  simp only [rt_1, List.mem_cons, List.not_mem_nil, or_false] at hl
  rcases hl with rfl | rfl | rfl | rfl
  · exact wk_1_0
  · exact wk_1_1
  · exact wk_1_2
  · exact wk_1_3
theorem dk_1_0 : (List.range 48).all (fun i => dk_i prog_2_method_2_code rt_1 (0 + i)) = true := by decide +kernel
theorem dk_1_1 : (List.range 16).all (fun i => dk_i prog_2_method_2_code rt_1 (48 + i)) = true := by decide +kernel
theorem dk_1 : ∀ i, i < 64 → dk_i prog_2_method_2_code rt_1 i = true := by
  intro i hi
  by_cases h0 : i < 48
  · have := List.all_eq_true.mp dk_1_0 (i - 0) (List.mem_range.mpr (by omega))
    rwa [show 0 + (i - 0) = i by omega] at this
  by_cases h1 : i < 64
  · have := List.all_eq_true.mp dk_1_1 (i - 48) (List.mem_range.mpr (by omega))
    rwa [show 48 + (i - 48) = i by omega] at this
  exact absurd hi (by omega)
theorem mk_1 : mk_m 1 := ⟨⟨rfl, rfl⟩, ⟨rfl, rfl⟩, by decide +kernel, ⟨⟨rfl, rfl⟩, ⟨rfl, rfl⟩⟩⟩
theorem wk_2_0 : wk_l "TrailStore$Batch" "isFirstOfKey" rt_2_0 := ⟨trivial, trivial, trivial, trivial, trivial, trivial, ⟨rfl, rfl⟩, trivial, trivial, trivial, ⟨rfl, rfl⟩, trivial, trivial, trivial, trivial, trivial, trivial⟩
theorem wk_2_1 : wk_l "TrailStore$Batch" "isFirstOfKey" rt_2_1 := ⟨trivial, trivial, trivial, trivial, trivial⟩
theorem wk_2 : ∀ l ∈ rt_2, wk_l "TrailStore$Batch" "isFirstOfKey" l := by
  intro l hl
  simp only [rt_2, List.mem_cons, List.not_mem_nil, or_false] at hl
  rcases hl with rfl | rfl
  · exact wk_2_0
  · exact wk_2_1
theorem dk_2_0 : (List.range 32).all (fun i => dk_i prog_2_method_3_code rt_2 (0 + i)) = true := by decide +kernel
theorem dk_2 : ∀ i, i < 32 → dk_i prog_2_method_3_code rt_2 i = true := by
  intro i hi
  by_cases h0 : i < 32
  · have := List.all_eq_true.mp dk_2_0 (i - 0) (List.mem_range.mpr (by omega))
    rwa [show 0 + (i - 0) = i by omega] at this
  exact absurd hi (by omega)
theorem mk_2 : mk_m 2 := ⟨⟨rfl, rfl⟩, ⟨rfl, rfl⟩, by decide +kernel, ⟨⟨rfl, rfl⟩, ⟨rfl, rfl⟩⟩⟩
theorem wk_3_0 : wk_l "TrailStore$Batch" "size" rt_3_0 := ⟨trivial, trivial, trivial, trivial, trivial, trivial, ⟨rfl, rfl⟩, trivial, trivial, trivial, trivial, ⟨rfl, rfl⟩, trivial, trivial, trivial, trivial, trivial⟩
theorem wk_3_1 : wk_l "TrailStore$Batch" "size" rt_3_1 := ⟨trivial, trivial, trivial, trivial, trivial, trivial⟩
theorem wk_3 : ∀ l ∈ rt_3, wk_l "TrailStore$Batch" "size" l := by
  intro l hl
  simp only [rt_3, List.mem_cons, List.not_mem_nil, or_false] at hl
  rcases hl with rfl | rfl
  · exact wk_3_0
  · exact wk_3_1
theorem dk_3_0 : (List.range 32).all (fun i => dk_i prog_2_method_4_code rt_3 (0 + i)) = true := by decide +kernel
theorem dk_3 : ∀ i, i < 32 → dk_i prog_2_method_4_code rt_3 i = true := by
  intro i hi
  by_cases h0 : i < 32
  · have := List.all_eq_true.mp dk_3_0 (i - 0) (List.mem_range.mpr (by omega))
    rwa [show 0 + (i - 0) = i by omega] at this
  exact absurd hi (by omega)
theorem mk_3 : mk_m 3 := ⟨⟨rfl, rfl⟩, ⟨rfl, rfl⟩, by decide +kernel, ⟨⟨rfl, rfl⟩, ⟨rfl, rfl⟩⟩⟩
theorem wk_4_0 : wk_l "TrailStore$Disk" "<init>" rt_4_0 := ⟨trivial, ⟨rfl, rfl⟩, trivial, trivial, ⟨⟨rfl, rfl⟩, Or.inr ⟨rfl, rfl, rfl⟩⟩, trivial, trivial, trivial, trivial, trivial, trivial, trivial, ⟨⟨rfl, rfl⟩, Or.inr ⟨rfl, rfl, rfl⟩⟩, trivial, trivial, trivial, trivial⟩
theorem wk_4_1 : wk_l "TrailStore$Disk" "<init>" rt_4_1 := ⟨⟨⟨rfl, rfl⟩, Or.inr ⟨rfl, rfl, rfl⟩⟩, trivial, trivial, trivial, ⟨⟨rfl, rfl⟩, Or.inr ⟨rfl, rfl, rfl⟩⟩, trivial, trivial, trivial, ⟨⟨rfl, rfl⟩, Or.inr ⟨rfl, rfl, rfl⟩⟩, trivial, trivial⟩
theorem wk_4 : ∀ l ∈ rt_4, wk_l "TrailStore$Disk" "<init>" l := by
  intro l hl
  simp only [rt_4, List.mem_cons, List.not_mem_nil, or_false] at hl
  rcases hl with rfl | rfl
  · exact wk_4_0
  · exact wk_4_1
theorem dk_4_0 : (List.range 32).all (fun i => dk_i prog_3_method_1_code rt_4 (0 + i)) = true := by decide +kernel
theorem dk_4 : ∀ i, i < 32 → dk_i prog_3_method_1_code rt_4 i = true := by
  intro i hi
  by_cases h0 : i < 32
  · have := List.all_eq_true.mp dk_4_0 (i - 0) (List.mem_range.mpr (by omega))
    rwa [show 0 + (i - 0) = i by omega] at this
  exact absurd hi (by omega)
theorem mk_4 : mk_m 4 := ⟨⟨rfl, rfl⟩, ⟨rfl, rfl⟩, by decide +kernel, ⟨⟨rfl, rfl⟩, rfl, rfl⟩⟩
theorem wk_5_0 : wk_l "TrailStore$Disk" "cellOf" rt_5_0 := ⟨trivial, trivial, trivial, trivial, trivial, trivial, ⟨rfl, rfl⟩, trivial, trivial, trivial, trivial, trivial, trivial, trivial, trivial, trivial, trivial⟩
theorem wk_5_1 : wk_l "TrailStore$Disk" "cellOf" rt_5_1 := ⟨trivial, trivial, trivial, trivial, trivial, ⟨rfl, rfl⟩, trivial, trivial, trivial, trivial, trivial, trivial, trivial, trivial, trivial, trivial, trivial⟩
theorem wk_5_2 : wk_l "TrailStore$Disk" "cellOf" rt_5_2 := ⟨trivial, trivial, ⟨rfl, rfl⟩, trivial, trivial, trivial, trivial, trivial, trivial⟩
theorem wk_5 : ∀ l ∈ rt_5, wk_l "TrailStore$Disk" "cellOf" l := by
  intro l hl
  simp only [rt_5, List.mem_cons, List.not_mem_nil, or_false] at hl
  rcases hl with rfl | rfl | rfl
  · exact wk_5_0
  · exact wk_5_1
  · exact wk_5_2
theorem dk_5_0 : (List.range 48).all (fun i => dk_i prog_3_method_2_code rt_5 (0 + i)) = true := by decide +kernel
theorem dk_5 : ∀ i, i < 48 → dk_i prog_3_method_2_code rt_5 i = true := by
  intro i hi
  by_cases h0 : i < 48
  · have := List.all_eq_true.mp dk_5_0 (i - 0) (List.mem_range.mpr (by omega))
    rwa [show 0 + (i - 0) = i by omega] at this
  exact absurd hi (by omega)
theorem mk_5 : mk_m 5 := ⟨⟨rfl, rfl⟩, ⟨rfl, rfl⟩, by decide +kernel, ⟨⟨rfl, rfl⟩, ⟨rfl, rfl⟩⟩⟩
theorem wk_6_0 : wk_l "TrailStore$Disk" "logCell" rt_6_0 := ⟨trivial, trivial, ⟨rfl, rfl⟩, trivial, trivial, trivial, trivial, trivial, trivial, ⟨rfl, rfl⟩, trivial, trivial, trivial, trivial, trivial⟩
theorem wk_6 : ∀ l ∈ rt_6, wk_l "TrailStore$Disk" "logCell" l := by
  intro l hl
  simp only [rt_6, List.mem_cons, List.not_mem_nil, or_false] at hl
  subst hl
  exact wk_6_0
theorem dk_6_0 : (List.range 16).all (fun i => dk_i prog_3_method_3_code rt_6 (0 + i)) = true := by decide +kernel
theorem dk_6 : ∀ i, i < 16 → dk_i prog_3_method_3_code rt_6 i = true := by
  intro i hi
  by_cases h0 : i < 16
  · have := List.all_eq_true.mp dk_6_0 (i - 0) (List.mem_range.mpr (by omega))
    rwa [show 0 + (i - 0) = i by omega] at this
  exact absurd hi (by omega)
theorem mk_6 : mk_m 6 := ⟨⟨rfl, rfl⟩, ⟨rfl, rfl⟩, by decide +kernel, ⟨⟨rfl, rfl⟩, ⟨rfl, rfl⟩⟩⟩
theorem wk_7_0 : wk_l "TrailStore$Disk" "tableCell" rt_7_0 := ⟨trivial, ⟨rfl, rfl⟩, trivial, trivial, trivial, trivial, trivial, trivial⟩
theorem wk_7 : ∀ l ∈ rt_7, wk_l "TrailStore$Disk" "tableCell" l := by
  intro l hl
  simp only [rt_7, List.mem_cons, List.not_mem_nil, or_false] at hl
  subst hl
  exact wk_7_0
theorem dk_7_0 : (List.range 16).all (fun i => dk_i prog_3_method_4_code rt_7 (0 + i)) = true := by decide +kernel
theorem dk_7 : ∀ i, i < 16 → dk_i prog_3_method_4_code rt_7 i = true := by
  intro i hi
  by_cases h0 : i < 16
  · have := List.all_eq_true.mp dk_7_0 (i - 0) (List.mem_range.mpr (by omega))
    rwa [show 0 + (i - 0) = i by omega] at this
  exact absurd hi (by omega)
theorem mk_7 : mk_m 7 := ⟨⟨rfl, rfl⟩, ⟨rfl, rfl⟩, by decide +kernel, ⟨⟨rfl, rfl⟩, ⟨rfl, rfl⟩⟩⟩
theorem wk_8_0 : wk_l "TrailStore$Disk" "rootCell" rt_8_0 := ⟨trivial, ⟨rfl, rfl⟩, trivial, trivial, trivial, trivial, trivial, trivial, trivial, trivial, trivial, trivial⟩
theorem wk_8 : ∀ l ∈ rt_8, wk_l "TrailStore$Disk" "rootCell" l := by
  intro l hl
  simp only [rt_8, List.mem_cons, List.not_mem_nil, or_false] at hl
  subst hl
  exact wk_8_0
theorem dk_8_0 : (List.range 16).all (fun i => dk_i prog_3_method_5_code rt_8 (0 + i)) = true := by decide +kernel
theorem dk_8 : ∀ i, i < 16 → dk_i prog_3_method_5_code rt_8 i = true := by
  intro i hi
  by_cases h0 : i < 16
  · have := List.all_eq_true.mp dk_8_0 (i - 0) (List.mem_range.mpr (by omega))
    rwa [show 0 + (i - 0) = i by omega] at this
  exact absurd hi (by omega)
theorem mk_8 : mk_m 8 := ⟨⟨rfl, rfl⟩, ⟨rfl, rfl⟩, by decide +kernel, ⟨⟨rfl, rfl⟩, ⟨rfl, rfl⟩⟩⟩
theorem wk_9_0 : wk_l "TrailStore$Disk" "byteAt" rt_9_0 := ⟨trivial, trivial, trivial, trivial, ⟨rfl, rfl⟩, trivial, trivial, trivial, trivial, trivial, ⟨rfl, rfl⟩, trivial, trivial, trivial, trivial, trivial, trivial⟩
theorem wk_9 : ∀ l ∈ rt_9, wk_l "TrailStore$Disk" "byteAt" l := by
  intro l hl
  simp only [rt_9, List.mem_cons, List.not_mem_nil, or_false] at hl
  subst hl
  exact wk_9_0
theorem dk_9_0 : (List.range 16).all (fun i => dk_i prog_3_method_6_code rt_9 (0 + i)) = true := by decide +kernel
theorem dk_9 : ∀ i, i < 16 → dk_i prog_3_method_6_code rt_9 i = true := by
  intro i hi
  by_cases h0 : i < 16
  · have := List.all_eq_true.mp dk_9_0 (i - 0) (List.mem_range.mpr (by omega))
    rwa [show 0 + (i - 0) = i by omega] at this
  exact absurd hi (by omega)
theorem mk_9 : mk_m 9 := ⟨⟨rfl, rfl⟩, ⟨rfl, rfl⟩, by decide +kernel, ⟨⟨rfl, rfl⟩, ⟨rfl, rfl⟩⟩⟩
theorem wk_10_0 : wk_l "TrailStore$Disk" "numberAt" rt_10_0 := ⟨trivial, trivial, ⟨rfl, rfl⟩, trivial, trivial, trivial, trivial, trivial, trivial, ⟨rfl, rfl⟩, trivial, trivial, trivial, trivial, trivial, trivial, trivial⟩
theorem wk_10_1 : wk_l "TrailStore$Disk" "numberAt" rt_10_1 := ⟨trivial, ⟨rfl, rfl⟩, trivial, trivial, trivial, trivial, trivial, trivial, trivial, ⟨rfl, rfl⟩, trivial, trivial, trivial⟩
theorem wk_10 : ∀ l ∈ rt_10, wk_l "TrailStore$Disk" "numberAt" l := by
  intro l hl
  simp only [rt_10, List.mem_cons, List.not_mem_nil, or_false] at hl
  rcases hl with rfl | rfl
  · exact wk_10_0
  · exact wk_10_1
theorem dk_10_0 : (List.range 32).all (fun i => dk_i prog_3_method_7_code rt_10 (0 + i)) = true := by decide +kernel
theorem dk_10 : ∀ i, i < 32 → dk_i prog_3_method_7_code rt_10 i = true := by
  intro i hi
  by_cases h0 : i < 32
  · have := List.all_eq_true.mp dk_10_0 (i - 0) (List.mem_range.mpr (by omega))
    rwa [show 0 + (i - 0) = i by omega] at this
  exact absurd hi (by omega)
theorem mk_10 : mk_m 10 := ⟨⟨rfl, rfl⟩, ⟨rfl, rfl⟩, by decide +kernel, ⟨⟨rfl, rfl⟩, ⟨rfl, rfl⟩⟩⟩
theorem wk_11_0 : wk_l "TrailStore$Disk" "logByte" rt_11_0 := ⟨trivial, ⟨rfl, rfl⟩, trivial, trivial, ⟨rfl, rfl⟩, trivial, trivial, trivial, trivial, trivial⟩
theorem wk_11 : ∀ l ∈ rt_11, wk_l "TrailStore$Disk" "logByte" l := by
  intro l hl
  simp only [rt_11, List.mem_cons, List.not_mem_nil, or_false] at hl
  subst hl
  exact wk_11_0
theorem dk_11_0 : (List.range 16).all (fun i => dk_i prog_3_method_8_code rt_11 (0 + i)) = true := by decide +kernel
theorem dk_11 : ∀ i, i < 16 → dk_i prog_3_method_8_code rt_11 i = true := by
  intro i hi
  by_cases h0 : i < 16
  · have := List.all_eq_true.mp dk_11_0 (i - 0) (List.mem_range.mpr (by omega))
    rwa [show 0 + (i - 0) = i by omega] at this
  exact absurd hi (by omega)
theorem mk_11 : mk_m 11 := ⟨⟨rfl, rfl⟩, ⟨rfl, rfl⟩, by decide +kernel, ⟨⟨rfl, rfl⟩, ⟨rfl, rfl⟩⟩⟩
theorem wk_12_0 : wk_l "TrailStore$Disk" "logNumber" rt_12_0 := ⟨trivial, trivial, ⟨rfl, rfl⟩, trivial, trivial, trivial, trivial, trivial, trivial, ⟨rfl, rfl⟩, trivial, trivial, trivial, trivial, trivial, trivial, trivial⟩
theorem wk_12_1 : wk_l "TrailStore$Disk" "logNumber" rt_12_1 := ⟨trivial, ⟨rfl, rfl⟩, trivial, trivial, trivial, trivial, trivial, trivial, trivial, ⟨rfl, rfl⟩, trivial, trivial, trivial⟩
theorem wk_12 : ∀ l ∈ rt_12, wk_l "TrailStore$Disk" "logNumber" l := by
  intro l hl
  simp only [rt_12, List.mem_cons, List.not_mem_nil, or_false] at hl
  rcases hl with rfl | rfl
  · exact wk_12_0
  · exact wk_12_1
theorem dk_12_0 : (List.range 32).all (fun i => dk_i prog_3_method_9_code rt_12 (0 + i)) = true := by decide +kernel
theorem dk_12 : ∀ i, i < 32 → dk_i prog_3_method_9_code rt_12 i = true := by
  intro i hi
  by_cases h0 : i < 32
  · have := List.all_eq_true.mp dk_12_0 (i - 0) (List.mem_range.mpr (by omega))
    rwa [show 0 + (i - 0) = i by omega] at this
  exact absurd hi (by omega)
theorem mk_12 : mk_m 12 := ⟨⟨rfl, rfl⟩, ⟨rfl, rfl⟩, by decide +kernel, ⟨⟨rfl, rfl⟩, ⟨rfl, rfl⟩⟩⟩
theorem wk_13_0 : wk_l "TrailStore$Disk" "recordSize" rt_13_0 := ⟨trivial, trivial, trivial, trivial, trivial, ⟨rfl, rfl⟩, trivial, trivial, trivial⟩
theorem wk_13 : ∀ l ∈ rt_13, wk_l "TrailStore$Disk" "recordSize" l := by
  intro l hl
  simp only [rt_13, List.mem_cons, List.not_mem_nil, or_false] at hl
  subst hl
  exact wk_13_0
theorem dk_13_0 : (List.range 16).all (fun i => dk_i prog_3_method_10_code rt_13 (0 + i)) = true := by decide +kernel
theorem dk_13 : ∀ i, i < 16 → dk_i prog_3_method_10_code rt_13 i = true := by
  intro i hi
  by_cases h0 : i < 16
  · have := List.all_eq_true.mp dk_13_0 (i - 0) (List.mem_range.mpr (by omega))
    rwa [show 0 + (i - 0) = i by omega] at this
  exact absurd hi (by omega)
theorem mk_13 : mk_m 13 := ⟨⟨rfl, rfl⟩, ⟨rfl, rfl⟩, by decide +kernel, ⟨⟨rfl, rfl⟩, ⟨rfl, rfl⟩⟩⟩
theorem wk_14_0 : wk_l "TrailStore$Disk" "copyValue" rt_14_0 := ⟨trivial, trivial, trivial, trivial, ⟨rfl, rfl⟩, trivial, trivial, ⟨rfl, rfl⟩, trivial, trivial, trivial, trivial, trivial, trivial, trivial, trivial, trivial⟩
theorem wk_14_1 : wk_l "TrailStore$Disk" "copyValue" rt_14_1 := ⟨trivial, trivial, trivial, trivial, trivial, trivial, ⟨rfl, rfl⟩, trivial, trivial, trivial, trivial, trivial, trivial, trivial⟩
theorem wk_14 : ∀ l ∈ rt_14, wk_l "TrailStore$Disk" "copyValue" l := by
  intro l hl
  simp only [rt_14, List.mem_cons, List.not_mem_nil, or_false] at hl
  rcases hl with rfl | rfl
  · exact wk_14_0
  · exact wk_14_1
theorem dk_14_0 : (List.range 32).all (fun i => dk_i prog_3_method_11_code rt_14 (0 + i)) = true := by decide +kernel
theorem dk_14 : ∀ i, i < 32 → dk_i prog_3_method_11_code rt_14 i = true := by
  intro i hi
  by_cases h0 : i < 32
  · have := List.all_eq_true.mp dk_14_0 (i - 0) (List.mem_range.mpr (by omega))
    rwa [show 0 + (i - 0) = i by omega] at this
  exact absurd hi (by omega)
theorem mk_14 : mk_m 14 := ⟨⟨rfl, rfl⟩, ⟨rfl, rfl⟩, by decide +kernel, ⟨⟨rfl, rfl⟩, ⟨rfl, rfl⟩⟩⟩
theorem wk_15_0 : wk_l "TrailStore$Disk" "sameValue" rt_15_0 := ⟨trivial, trivial, ⟨rfl, rfl⟩, trivial, trivial, trivial, trivial, ⟨rfl, rfl⟩, trivial, trivial, trivial, trivial, trivial, trivial, trivial, trivial, trivial⟩
theorem wk_15_1 : wk_l "TrailStore$Disk" "sameValue" rt_15_1 := ⟨trivial, trivial, trivial, trivial, trivial, trivial, trivial, trivial, ⟨rfl, rfl⟩, trivial, trivial, trivial, trivial, ⟨rfl, rfl⟩, trivial, trivial, trivial⟩
theorem wk_15_2 : wk_l "TrailStore$Disk" "sameValue" rt_15_2 := ⟨trivial, trivial, trivial, trivial, trivial, trivial, trivial, trivial⟩
theorem wk_15 : ∀ l ∈ rt_15, wk_l "TrailStore$Disk" "sameValue" l := by
  intro l hl
  simp only [rt_15, List.mem_cons, List.not_mem_nil, or_false] at hl
  rcases hl with rfl | rfl | rfl
  · exact wk_15_0
  · exact wk_15_1
  · exact wk_15_2
theorem dk_15_0 : (List.range 48).all (fun i => dk_i prog_3_method_12_code rt_15 (0 + i)) = true := by decide +kernel
theorem dk_15 : ∀ i, i < 48 → dk_i prog_3_method_12_code rt_15 i = true := by
  intro i hi
  by_cases h0 : i < 48
  · have := List.all_eq_true.mp dk_15_0 (i - 0) (List.mem_range.mpr (by omega))
    rwa [show 0 + (i - 0) = i by omega] at this
  exact absurd hi (by omega)
theorem mk_15 : mk_m 15 := ⟨⟨rfl, rfl⟩, ⟨rfl, rfl⟩, by decide +kernel, ⟨⟨rfl, rfl⟩, ⟨rfl, rfl⟩⟩⟩
theorem wk_16_0 : wk_l "TrailStore$Disk" "write" rt_16_0 := ⟨trivial, ⟨rfl, rfl⟩, trivial, trivial, trivial, trivial, ⟨rfl, rfl⟩, trivial, trivial, trivial, trivial, trivial, trivial, trivial, trivial, trivial, trivial⟩
theorem wk_16_1 : wk_l "TrailStore$Disk" "write" rt_16_1 := ⟨trivial, trivial, ⟨rfl, rfl⟩, trivial, trivial, trivial, ⟨rfl, rfl⟩, trivial, trivial, trivial, trivial, trivial, ⟨rfl, rfl⟩, trivial, ⟨rfl, rfl⟩, trivial, trivial⟩
theorem wk_16_2 : wk_l "TrailStore$Disk" "write" rt_16_2 := ⟨⟨rfl, rfl⟩, trivial, trivial, trivial, ⟨rfl, rfl⟩, trivial, ⟨rfl, rfl⟩, trivial, trivial, trivial, trivial, ⟨rfl, rfl⟩, trivial, trivial, ⟨⟨rfl, rfl⟩, Or.inl rfl⟩, trivial, trivial⟩
theorem wk_16_3 : wk_l "TrailStore$Disk" "write" rt_16_3 := ⟨trivial, trivial, trivial, trivial, trivial, trivial, trivial, ⟨rfl, rfl⟩, trivial, ⟨rfl, rfl⟩, trivial, ⟨rfl, rfl⟩, trivial, trivial, trivial, trivial, trivial⟩
theorem wk_16_4 : wk_l "TrailStore$Disk" "write" rt_16_4 := ⟨trivial, ⟨rfl, rfl⟩, trivial, trivial, ⟨⟨rfl, rfl⟩, Or.inl rfl⟩, trivial, ⟨rfl, rfl⟩, trivial, trivial, trivial, trivial, trivial, trivial, trivial, trivial, trivial, trivial⟩
theorem wk_16_5 : wk_l "TrailStore$Disk" "write" rt_16_5 := ⟨⟨rfl, rfl⟩, trivial, trivial, trivial, trivial, ⟨rfl, rfl⟩, trivial, trivial, trivial, ⟨rfl, rfl⟩, trivial, trivial, ⟨⟨rfl, rfl⟩, Or.inl rfl⟩, trivial, trivial, ⟨rfl, rfl⟩, trivial⟩
theorem wk_16_6 : wk_l "TrailStore$Disk" "write" rt_16_6 := ⟨trivial, trivial, trivial, trivial, ⟨⟨rfl, rfl⟩, Or.inl rfl⟩, trivial, trivial⟩
theorem wk_16 : ∀ l ∈ rt_16, wk_l "TrailStore$Disk" "write" l := by
  intro l hl
  simp only [rt_16, List.mem_cons, List.not_mem_nil, or_false] at hl
  rcases hl with rfl | rfl | rfl | rfl | rfl | rfl | rfl
  · exact wk_16_0
  · exact wk_16_1
  · exact wk_16_2
  · exact wk_16_3
  · exact wk_16_4
  · exact wk_16_5
  · exact wk_16_6
theorem dk_16_0 : (List.range 48).all (fun i => dk_i prog_3_method_13_code rt_16 (0 + i)) = true := by decide +kernel
theorem dk_16_1 : (List.range 48).all (fun i => dk_i prog_3_method_13_code rt_16 (48 + i)) = true := by decide +kernel
theorem dk_16_2 : (List.range 16).all (fun i => dk_i prog_3_method_13_code rt_16 (96 + i)) = true := by decide +kernel
theorem dk_16 : ∀ i, i < 112 → dk_i prog_3_method_13_code rt_16 i = true := by
  intro i hi
  by_cases h0 : i < 48
  · have := List.all_eq_true.mp dk_16_0 (i - 0) (List.mem_range.mpr (by omega))
    rwa [show 0 + (i - 0) = i by omega] at this
  by_cases h1 : i < 96
  · have := List.all_eq_true.mp dk_16_1 (i - 48) (List.mem_range.mpr (by omega))
    rwa [show 48 + (i - 48) = i by omega] at this
  by_cases h2 : i < 112
  · have := List.all_eq_true.mp dk_16_2 (i - 96) (List.mem_range.mpr (by omega))
    rwa [show 96 + (i - 96) = i by omega] at this
  exact absurd hi (by omega)
theorem mk_16 : mk_m 16 := ⟨⟨rfl, rfl⟩, ⟨rfl, rfl⟩, by decide +kernel, ⟨⟨rfl, rfl⟩, ⟨rfl, rfl⟩⟩⟩
theorem wk_17_0 : wk_l "TrailStore$Disk" "makeLasting" rt_17_0 := ⟨trivial, ⟨rfl, rfl⟩, trivial, trivial, trivial, ⟨⟨rfl, rfl⟩, Or.inl rfl⟩, trivial, trivial, ⟨⟨rfl, rfl⟩, Or.inl rfl⟩, trivial, trivial⟩
theorem wk_17 : ∀ l ∈ rt_17, wk_l "TrailStore$Disk" "makeLasting" l := by
  intro l hl
  simp only [rt_17, List.mem_cons, List.not_mem_nil, or_false] at hl
  subst hl
  exact wk_17_0
theorem dk_17_0 : (List.range 16).all (fun i => dk_i prog_3_method_14_code rt_17 (0 + i)) = true := by decide +kernel
theorem dk_17 : ∀ i, i < 16 → dk_i prog_3_method_14_code rt_17 i = true := by
  intro i hi
  by_cases h0 : i < 16
  · have := List.all_eq_true.mp dk_17_0 (i - 0) (List.mem_range.mpr (by omega))
    rwa [show 0 + (i - 0) = i by omega] at this
  exact absurd hi (by omega)
theorem mk_17 : mk_m 17 := ⟨⟨rfl, rfl⟩, ⟨rfl, rfl⟩, by decide +kernel, ⟨⟨rfl, rfl⟩, ⟨rfl, rfl⟩⟩⟩
theorem wk_18_0 : wk_l "TrailStore$Disk" "takeBack" rt_18_0 := ⟨trivial, ⟨rfl, rfl⟩, trivial, trivial, trivial, trivial, trivial, trivial, trivial, trivial, trivial, trivial, ⟨rfl, rfl⟩, trivial, ⟨rfl, rfl⟩, trivial, trivial⟩
theorem wk_18_1 : wk_l "TrailStore$Disk" "takeBack" rt_18_1 := ⟨trivial, trivial, ⟨⟨rfl, rfl⟩, Or.inl rfl⟩, trivial, ⟨rfl, rfl⟩, trivial, trivial, trivial, trivial, trivial, trivial, trivial, ⟨rfl, rfl⟩, trivial, trivial, trivial, trivial⟩
theorem wk_18_2 : wk_l "TrailStore$Disk" "takeBack" rt_18_2 := ⟨trivial, trivial, trivial, trivial, trivial, trivial, trivial, ⟨rfl, rfl⟩, trivial, trivial, ⟨rfl, rfl⟩, trivial, ⟨rfl, rfl⟩, trivial, trivial, trivial, trivial⟩
theorem wk_18_3 : wk_l "TrailStore$Disk" "takeBack" rt_18_3 := ⟨trivial, trivial, trivial, ⟨rfl, rfl⟩, trivial, trivial, trivial, trivial, trivial, trivial, trivial, ⟨⟨rfl, rfl⟩, Or.inl rfl⟩, trivial, trivial, ⟨⟨rfl, rfl⟩, Or.inl rfl⟩, trivial, trivial⟩
theorem wk_18_4 : wk_l "TrailStore$Disk" "takeBack" rt_18_4 := ⟨trivial, ⟨⟨rfl, rfl⟩, Or.inl rfl⟩, trivial, trivial, ⟨⟨rfl, rfl⟩, Or.inl rfl⟩, trivial, trivial⟩
theorem wk_18 : ∀ l ∈ rt_18, wk_l "TrailStore$Disk" "takeBack" l := by
  intro l hl
  simp only [rt_18, List.mem_cons, List.not_mem_nil, or_false] at hl
  rcases hl with rfl | rfl | rfl | rfl | rfl
  · exact wk_18_0
  · exact wk_18_1
  · exact wk_18_2
  · exact wk_18_3
  · exact wk_18_4
theorem dk_18_0 : (List.range 48).all (fun i => dk_i prog_3_method_15_code rt_18 (0 + i)) = true := by decide +kernel
theorem dk_18_1 : (List.range 32).all (fun i => dk_i prog_3_method_15_code rt_18 (48 + i)) = true := by decide +kernel
theorem dk_18 : ∀ i, i < 80 → dk_i prog_3_method_15_code rt_18 i = true := by
  intro i hi
  by_cases h0 : i < 48
  · have := List.all_eq_true.mp dk_18_0 (i - 0) (List.mem_range.mpr (by omega))
    rwa [show 0 + (i - 0) = i by omega] at this
  by_cases h1 : i < 80
  · have := List.all_eq_true.mp dk_18_1 (i - 48) (List.mem_range.mpr (by omega))
    rwa [show 48 + (i - 48) = i by omega] at this
  exact absurd hi (by omega)
theorem mk_18 : mk_m 18 := ⟨⟨rfl, rfl⟩, ⟨rfl, rfl⟩, by decide +kernel, ⟨⟨rfl, rfl⟩, ⟨rfl, rfl⟩⟩⟩
theorem wk_19_0 : wk_l "TrailStore$Disk" "isInside" rt_19_0 := ⟨trivial, trivial, trivial, trivial, ⟨rfl, rfl⟩, trivial, trivial, trivial, trivial, trivial, trivial, trivial, trivial, trivial, ⟨rfl, rfl⟩, trivial, trivial⟩
theorem wk_19_1 : wk_l "TrailStore$Disk" "isInside" rt_19_1 := ⟨trivial, trivial, trivial, trivial, ⟨rfl, rfl⟩, trivial, trivial, trivial, trivial, trivial, trivial, trivial⟩
theorem wk_19 : ∀ l ∈ rt_19, wk_l "TrailStore$Disk" "isInside" l := by
  intro l hl
  simp only [rt_19, List.mem_cons, List.not_mem_nil, or_false] at hl
  rcases hl with rfl | rfl
  · exact wk_19_0
  · exact wk_19_1
theorem dk_19_0 : (List.range 32).all (fun i => dk_i prog_3_method_16_code rt_19 (0 + i)) = true := by decide +kernel
theorem dk_19 : ∀ i, i < 32 → dk_i prog_3_method_16_code rt_19 i = true := by
  intro i hi
  by_cases h0 : i < 32
  · have := List.all_eq_true.mp dk_19_0 (i - 0) (List.mem_range.mpr (by omega))
    rwa [show 0 + (i - 0) = i by omega] at this
  exact absurd hi (by omega)
theorem mk_19 : mk_m 19 := ⟨⟨rfl, rfl⟩, ⟨rfl, rfl⟩, by decide +kernel, ⟨⟨rfl, rfl⟩, ⟨rfl, rfl⟩⟩⟩
theorem wk_20_0 : wk_l "TrailStore$Disk" "cellBehind" rt_20_0 := ⟨trivial, trivial, trivial, trivial, ⟨rfl, rfl⟩, trivial, trivial, trivial, trivial, trivial, trivial, trivial, trivial⟩
theorem wk_20 : ∀ l ∈ rt_20, wk_l "TrailStore$Disk" "cellBehind" l := by
  intro l hl
  simp only [rt_20, List.mem_cons, List.not_mem_nil, or_false] at hl
  subst hl
  exact wk_20_0
theorem dk_20_0 : (List.range 16).all (fun i => dk_i prog_3_method_17_code rt_20 (0 + i)) = true := by decide +kernel
theorem dk_20 : ∀ i, i < 16 → dk_i prog_3_method_17_code rt_20 i = true := by
  intro i hi
  by_cases h0 : i < 16
  · have := List.all_eq_true.mp dk_20_0 (i - 0) (List.mem_range.mpr (by omega))
    rwa [show 0 + (i - 0) = i by omega] at this
  exact absurd hi (by omega)
theorem mk_20 : mk_m 20 := ⟨⟨rfl, rfl⟩, ⟨rfl, rfl⟩, by decide +kernel, ⟨⟨rfl, rfl⟩, ⟨rfl, rfl⟩⟩⟩
theorem wk_21_0 : wk_l "TrailStore$Entries" "<init>" rt_21_0 := ⟨trivial, ⟨rfl, rfl⟩, trivial, trivial, trivial, ⟨⟨rfl, rfl⟩, Or.inr ⟨rfl, rfl, rfl⟩⟩, trivial, trivial, trivial, ⟨⟨rfl, rfl⟩, Or.inr ⟨rfl, rfl, rfl⟩⟩, trivial, trivial, trivial, ⟨⟨rfl, rfl⟩, Or.inr ⟨rfl, rfl, rfl⟩⟩, trivial, trivial⟩
theorem wk_21 : ∀ l ∈ rt_21, wk_l "TrailStore$Entries" "<init>" l := by
  intro l hl
  simp only [rt_21, List.mem_cons, List.not_mem_nil, or_false] at hl
  subst hl
  exact wk_21_0
theorem dk_21_0 : (List.range 16).all (fun i => dk_i prog_4_method_1_code rt_21 (0 + i)) = true := by decide +kernel
theorem dk_21 : ∀ i, i < 16 → dk_i prog_4_method_1_code rt_21 i = true := by
  intro i hi
  by_cases h0 : i < 16
  · have := List.all_eq_true.mp dk_21_0 (i - 0) (List.mem_range.mpr (by omega))
    rwa [show 0 + (i - 0) = i by omega] at this
  exact absurd hi (by omega)
theorem mk_21 : mk_m 21 := ⟨⟨rfl, rfl⟩, ⟨rfl, rfl⟩, by decide +kernel, ⟨⟨rfl, rfl⟩, rfl, rfl⟩⟩
theorem wk_22_0 : wk_l "TrailStore$Entries" "clear" rt_22_0 := ⟨trivial, trivial, trivial, trivial, trivial, trivial, ⟨rfl, rfl⟩, trivial, trivial, trivial, trivial, trivial, trivial, trivial, ⟨⟨rfl, rfl⟩, Or.inl rfl⟩, trivial, trivial⟩
theorem wk_22 : ∀ l ∈ rt_22, wk_l "TrailStore$Entries" "clear" l := by
  intro l hl
  simp only [rt_22, List.mem_cons, List.not_mem_nil, or_false] at hl
  subst hl
  exact wk_22_0
theorem dk_22_0 : (List.range 16).all (fun i => dk_i prog_4_method_2_code rt_22 (0 + i)) = true := by decide +kernel
theorem dk_22 : ∀ i, i < 16 → dk_i prog_4_method_2_code rt_22 i = true := by
  intro i hi
  by_cases h0 : i < 16
  · have := List.all_eq_true.mp dk_22_0 (i - 0) (List.mem_range.mpr (by omega))
    rwa [show 0 + (i - 0) = i by omega] at this
  exact absurd hi (by omega)
theorem mk_22 : mk_m 22 := ⟨⟨rfl, rfl⟩, ⟨rfl, rfl⟩, by decide +kernel, ⟨⟨rfl, rfl⟩, ⟨rfl, rfl⟩⟩⟩
theorem wk_23_0 : wk_l "TrailStore$Entries" "has" rt_23_0 := ⟨trivial, rfl, trivial, trivial, ⟨rfl, rfl⟩, trivial, trivial, trivial, trivial, trivial, trivial, trivial, trivial⟩
theorem wk_23 : ∀ l ∈ rt_23, wk_l "TrailStore$Entries" "has" l := by
  intro l hl
  simp only [rt_23, List.mem_cons, List.not_mem_nil, or_false] at hl
  subst hl
  exact wk_23_0
theorem dk_23_0 : (List.range 16).all (fun i => dk_i prog_4_method_3_code rt_23 (0 + i)) = true := by decide +kernel
theorem dk_23 : ∀ i, i < 16 → dk_i prog_4_method_3_code rt_23 i = true := by
  intro i hi
  by_cases h0 : i < 16
  · have := List.all_eq_true.mp dk_23_0 (i - 0) (List.mem_range.mpr (by omega))
    rwa [show 0 + (i - 0) = i by omega] at this
  exact absurd hi (by omega)
theorem mk_23 : mk_m 23 := ⟨⟨rfl, rfl⟩, ⟨rfl, rfl⟩, by decide +kernel, ⟨⟨rfl, rfl⟩, ⟨rfl, rfl⟩⟩⟩
theorem wk_24_0 : wk_l "TrailStore$Entries" "set" rt_24_0 := ⟨trivial, rfl, trivial, trivial, trivial, ⟨rfl, rfl⟩, trivial, trivial, trivial, trivial, trivial, ⟨rfl, rfl⟩, trivial, trivial, ⟨⟨rfl, rfl⟩, Or.inl rfl⟩, trivial, trivial⟩
theorem wk_24_1 : wk_l "TrailStore$Entries" "set" rt_24_1 := ⟨⟨rfl, rfl⟩, trivial, trivial, trivial, trivial, ⟨rfl, rfl⟩, trivial, trivial, trivial, trivial, ⟨rfl, rfl⟩, trivial, trivial, trivial, trivial, trivial⟩
theorem wk_24 : ∀ l ∈ rt_24, wk_l "TrailStore$Entries" "set" l := by
  intro l hl
  simp only [rt_24, List.mem_cons, List.not_mem_nil, or_false] at hl
  rcases hl with rfl | rfl
  · exact wk_24_0
  · exact wk_24_1
theorem dk_24_0 : (List.range 32).all (fun i => dk_i prog_4_method_4_code rt_24 (0 + i)) = true := by decide +kernel
theorem dk_24 : ∀ i, i < 32 → dk_i prog_4_method_4_code rt_24 i = true := by
  intro i hi
  by_cases h0 : i < 32
  · have := List.all_eq_true.mp dk_24_0 (i - 0) (List.mem_range.mpr (by omega))
    rwa [show 0 + (i - 0) = i by omega] at this
  exact absurd hi (by omega)
theorem mk_24 : mk_m 24 := ⟨⟨rfl, rfl⟩, ⟨rfl, rfl⟩, by decide +kernel, ⟨⟨rfl, rfl⟩, ⟨rfl, rfl⟩⟩⟩
theorem wk_25_0 : wk_l "TrailStore$Entries" "dropRemovals" rt_25_0 := ⟨trivial, trivial, trivial, trivial, trivial, trivial, ⟨rfl, rfl⟩, trivial, trivial, trivial, trivial, trivial, ⟨rfl, rfl⟩, trivial, trivial, trivial, trivial⟩
theorem wk_25_1 : wk_l "TrailStore$Entries" "dropRemovals" rt_25_1 := ⟨trivial, trivial, ⟨rfl, rfl⟩, trivial, trivial, ⟨⟨rfl, rfl⟩, Or.inl rfl⟩, trivial, trivial, trivial, trivial⟩
theorem wk_25 : ∀ l ∈ rt_25, wk_l "TrailStore$Entries" "dropRemovals" l := by
  intro l hl
  simp only [rt_25, List.mem_cons, List.not_mem_nil, or_false] at hl
  rcases hl with rfl | rfl
  · exact wk_25_0
  · exact wk_25_1
theorem dk_25_0 : (List.range 32).all (fun i => dk_i prog_4_method_5_code rt_25 (0 + i)) = true := by decide +kernel
theorem dk_25 : ∀ i, i < 32 → dk_i prog_4_method_5_code rt_25 i = true := by
  intro i hi
  by_cases h0 : i < 32
  · have := List.all_eq_true.mp dk_25_0 (i - 0) (List.mem_range.mpr (by omega))
    rwa [show 0 + (i - 0) = i by omega] at this
  exact absurd hi (by omega)
theorem mk_25 : mk_m 25 := ⟨⟨rfl, rfl⟩, ⟨rfl, rfl⟩, by decide +kernel, ⟨⟨rfl, rfl⟩, ⟨rfl, rfl⟩⟩⟩
theorem wk_26_0 : wk_l "TrailStore$Entries" "countWith" rt_26_0 := ⟨trivial, ⟨rfl, rfl⟩, trivial, trivial, trivial, trivial, trivial, ⟨rfl, rfl⟩, trivial, trivial, trivial, ⟨rfl, rfl⟩, trivial, trivial, ⟨rfl, rfl⟩, trivial, trivial⟩
theorem wk_26_1 : wk_l "TrailStore$Entries" "countWith" rt_26_1 := ⟨trivial, trivial, ⟨rfl, rfl⟩, trivial, trivial, trivial, trivial, trivial, trivial, trivial⟩
theorem wk_26 : ∀ l ∈ rt_26, wk_l "TrailStore$Entries" "countWith" l := by
  intro l hl
  simp only [rt_26, List.mem_cons, List.not_mem_nil, or_false] at hl
  rcases hl with rfl | rfl
  · exact wk_26_0
  · exact wk_26_1
theorem dk_26_0 : (List.range 32).all (fun i => dk_i prog_4_method_6_code rt_26 (0 + i)) = true := by decide +kernel
theorem dk_26 : ∀ i, i < 32 → dk_i prog_4_method_6_code rt_26 i = true := by
  intro i hi
  by_cases h0 : i < 32
  · have := List.all_eq_true.mp dk_26_0 (i - 0) (List.mem_range.mpr (by omega))
    rwa [show 0 + (i - 0) = i by omega] at this
  exact absurd hi (by omega)
theorem mk_26 : mk_m 26 := ⟨⟨rfl, rfl⟩, ⟨rfl, rfl⟩, by decide +kernel, ⟨⟨rfl, rfl⟩, ⟨rfl, rfl⟩⟩⟩
theorem wk_27_0 : wk_l "TrailStore$Found" "<init>" rt_27_0 := ⟨trivial, ⟨rfl, rfl⟩, trivial, trivial⟩
theorem wk_27 : ∀ l ∈ rt_27, wk_l "TrailStore$Found" "<init>" l := by
  intro l hl
  simp only [rt_27, List.mem_cons, List.not_mem_nil, or_false] at hl
  subst hl
  exact wk_27_0
theorem dk_27_0 : (List.range 16).all (fun i => dk_i prog_5_method_1_code rt_27 (0 + i)) = true := by decide +kernel
theorem dk_27 : ∀ i, i < 16 → dk_i prog_5_method_1_code rt_27 i = true := by
  intro i hi
  by_cases h0 : i < 16
  · have := List.all_eq_true.mp dk_27_0 (i - 0) (List.mem_range.mpr (by omega))
    rwa [show 0 + (i - 0) = i by omega] at this
  exact absurd hi (by omega)
theorem mk_27 : mk_m 27 := ⟨⟨rfl, rfl⟩, ⟨rfl, rfl⟩, by decide +kernel, ⟨⟨rfl, rfl⟩, rfl, rfl⟩⟩
theorem wk_28_0 : wk_l "TrailStore$Found" "clear" rt_28_0 := ⟨trivial, trivial, ⟨⟨rfl, rfl⟩, Or.inl rfl⟩, trivial, trivial, ⟨⟨rfl, rfl⟩, Or.inl rfl⟩, trivial, trivial, ⟨⟨rfl, rfl⟩, Or.inl rfl⟩, trivial, trivial, ⟨⟨rfl, rfl⟩, Or.inl rfl⟩, trivial, trivial, ⟨⟨rfl, rfl⟩, Or.inl rfl⟩, trivial, trivial⟩
theorem wk_28_1 : wk_l "TrailStore$Found" "clear" rt_28_1 := ⟨trivial, ⟨⟨rfl, rfl⟩, Or.inl rfl⟩, trivial, trivial⟩
theorem wk_28 : ∀ l ∈ rt_28, wk_l "TrailStore$Found" "clear" l := by
  intro l hl
  simp only [rt_28, List.mem_cons, List.not_mem_nil, or_false] at hl
  rcases hl with rfl | rfl
  · exact wk_28_0
  · exact wk_28_1
theorem dk_28_0 : (List.range 32).all (fun i => dk_i prog_5_method_2_code rt_28 (0 + i)) = true := by decide +kernel
theorem dk_28 : ∀ i, i < 32 → dk_i prog_5_method_2_code rt_28 i = true := by
  intro i hi
  by_cases h0 : i < 32
  · have := List.all_eq_true.mp dk_28_0 (i - 0) (List.mem_range.mpr (by omega))
    rwa [show 0 + (i - 0) = i by omega] at this
  exact absurd hi (by omega)
theorem mk_28 : mk_m 28 := ⟨⟨rfl, rfl⟩, ⟨rfl, rfl⟩, by decide +kernel, ⟨⟨rfl, rfl⟩, ⟨rfl, rfl⟩⟩⟩
theorem wk_29_0 : wk_l "TrailStore$Keeper" "<init>" rt_29_0 := ⟨trivial, ⟨rfl, rfl⟩, trivial, ⟨⟨rfl, rfl⟩, ⟨rfl, rfl⟩, ⟨rfl, rfl⟩⟩, trivial, ⟨rfl, rfl⟩, ⟨⟨rfl, rfl⟩, Or.inr ⟨rfl, rfl, rfl⟩⟩, trivial, ⟨⟨rfl, rfl⟩, ⟨rfl, rfl⟩, ⟨rfl, rfl⟩⟩, trivial, ⟨rfl, rfl⟩, ⟨⟨rfl, rfl⟩, Or.inr ⟨rfl, rfl, rfl⟩⟩, trivial, trivial, trivial, ⟨⟨rfl, rfl⟩, Or.inr ⟨rfl, rfl, rfl⟩⟩, trivial⟩
theorem wk_29_1 : wk_l "TrailStore$Keeper" "<init>" rt_29_1 := ⟨trivial, trivial, trivial, ⟨⟨rfl, rfl⟩, Or.inr ⟨rfl, rfl, rfl⟩⟩, trivial, trivial, trivial, ⟨⟨rfl, rfl⟩, Or.inr ⟨rfl, rfl, rfl⟩⟩, trivial, trivial, trivial, ⟨⟨rfl, rfl⟩, Or.inr ⟨rfl, rfl, rfl⟩⟩, trivial, trivial, ⟨⟨rfl, rfl⟩, Or.inr ⟨rfl, rfl, rfl⟩⟩, trivial, trivial⟩
theorem wk_29_2 : wk_l "TrailStore$Keeper" "<init>" rt_29_2 := ⟨trivial, ⟨⟨rfl, rfl⟩, Or.inr ⟨rfl, rfl, rfl⟩⟩, trivial, trivial⟩
theorem wk_29 : ∀ l ∈ rt_29, wk_l "TrailStore$Keeper" "<init>" l := by
  intro l hl
  simp only [rt_29, List.mem_cons, List.not_mem_nil, or_false] at hl
  rcases hl with rfl | rfl | rfl
  · exact wk_29_0
  · exact wk_29_1
  · exact wk_29_2
theorem dk_29_0 : (List.range 48).all (fun i => dk_i prog_6_method_1_code rt_29 (0 + i)) = true := by decide +kernel
theorem dk_29 : ∀ i, i < 48 → dk_i prog_6_method_1_code rt_29 i = true := by
  intro i hi
  by_cases h0 : i < 48
  · have := List.all_eq_true.mp dk_29_0 (i - 0) (List.mem_range.mpr (by omega))
    rwa [show 0 + (i - 0) = i by omega] at this
  exact absurd hi (by omega)
theorem mk_29 : mk_m 29 := ⟨⟨rfl, rfl⟩, ⟨rfl, rfl⟩, by decide +kernel, ⟨⟨rfl, rfl⟩, rfl, rfl⟩⟩
theorem wk_30_0 : wk_l "TrailStore$Keeper" "startUp" rt_30_0 := ⟨trivial, ⟨rfl, rfl⟩, trivial, ⟨⟨rfl, rfl⟩, Or.inl rfl⟩, trivial, ⟨rfl, rfl⟩, ⟨rfl, rfl⟩, trivial, trivial, ⟨rfl, rfl⟩, trivial, ⟨rfl, rfl⟩, trivial, ⟨rfl, rfl⟩, ⟨rfl, rfl⟩, ⟨rfl, rfl⟩, trivial⟩
theorem wk_30_1 : wk_l "TrailStore$Keeper" "startUp" rt_30_1 := ⟨trivial, ⟨rfl, rfl⟩, trivial, trivial, ⟨rfl, rfl⟩, trivial, ⟨rfl, rfl⟩, ⟨rfl, rfl⟩, trivial, trivial, trivial⟩
theorem wk_30 : ∀ l ∈ rt_30, wk_l "TrailStore$Keeper" "startUp" l := by
  intro l hl
  simp only [rt_30, List.mem_cons, List.not_mem_nil, or_false] at hl
  rcases hl with rfl | rfl
  · exact wk_30_0
  · exact wk_30_1
theorem dk_30_0 : (List.range 32).all (fun i => dk_i prog_6_method_2_code rt_30 (0 + i)) = true := by decide +kernel
theorem dk_30 : ∀ i, i < 32 → dk_i prog_6_method_2_code rt_30 i = true := by
  intro i hi
  by_cases h0 : i < 32
  · have := List.all_eq_true.mp dk_30_0 (i - 0) (List.mem_range.mpr (by omega))
    rwa [show 0 + (i - 0) = i by omega] at this
  exact absurd hi (by omega)
theorem mk_30 : mk_m 30 := ⟨⟨rfl, rfl⟩, ⟨rfl, rfl⟩, by decide +kernel, ⟨⟨rfl, rfl⟩, ⟨rfl, rfl⟩⟩⟩
theorem wk_31_0 : wk_l "TrailStore$Keeper" "store" rt_31_0 := ⟨trivial, ⟨rfl, rfl⟩, trivial, trivial, trivial, trivial, ⟨rfl, rfl⟩, ⟨rfl, rfl⟩, trivial, ⟨rfl, rfl⟩, trivial, trivial, trivial, ⟨rfl, rfl⟩, trivial, trivial, trivial⟩
theorem wk_31_1 : wk_l "TrailStore$Keeper" "store" rt_31_1 := ⟨⟨rfl, rfl⟩, trivial, trivial, ⟨rfl, rfl⟩, ⟨rfl, rfl⟩, trivial, trivial, trivial, trivial, trivial, trivial, trivial, trivial, trivial, trivial, trivial, trivial⟩
theorem wk_31_2 : wk_l "TrailStore$Keeper" "store" rt_31_2 := ⟨⟨rfl, rfl⟩, ⟨rfl, rfl⟩, trivial, trivial, trivial, trivial, ⟨rfl, rfl⟩, trivial, trivial, trivial, trivial, trivial, ⟨rfl, rfl⟩, trivial, trivial, trivial, trivial⟩
theorem wk_31_3 : wk_l "TrailStore$Keeper" "store" rt_31_3 := ⟨trivial, ⟨rfl, rfl⟩, ⟨rfl, rfl⟩, trivial, ⟨rfl, rfl⟩, trivial, trivial, trivial, ⟨rfl, rfl⟩, trivial, trivial, ⟨rfl, rfl⟩, trivial, ⟨rfl, rfl⟩, trivial, trivial⟩
theorem wk_31 : ∀ l ∈ rt_31, wk_l "TrailStore$Keeper" "store" l := by
  intro l hl
  simp only [rt_31, List.mem_cons, List.not_mem_nil, or_false] at hl
  rcases hl with rfl | rfl | rfl | rfl
  · exact wk_31_0
  · exact wk_31_1
  · exact wk_31_2
  · exact wk_31_3
theorem dk_31_0 : (List.range 48).all (fun i => dk_i prog_6_method_3_code rt_31 (0 + i)) = true := by decide +kernel
theorem dk_31_1 : (List.range 16).all (fun i => dk_i prog_6_method_3_code rt_31 (48 + i)) = true := by decide +kernel
theorem dk_31 : ∀ i, i < 64 → dk_i prog_6_method_3_code rt_31 i = true := by
  intro i hi
  by_cases h0 : i < 48
  · have := List.all_eq_true.mp dk_31_0 (i - 0) (List.mem_range.mpr (by omega))
    rwa [show 0 + (i - 0) = i by omega] at this
  by_cases h1 : i < 64
  · have := List.all_eq_true.mp dk_31_1 (i - 48) (List.mem_range.mpr (by omega))
    rwa [show 48 + (i - 48) = i by omega] at this
  exact absurd hi (by omega)
theorem mk_31 : mk_m 31 := ⟨⟨rfl, rfl⟩, ⟨rfl, rfl⟩, by decide +kernel, ⟨⟨rfl, rfl⟩, ⟨rfl, rfl⟩⟩⟩
theorem wk_32_0 : wk_l "TrailStore$Keeper" "appendAll" rt_32_0 := ⟨trivial, trivial, trivial, trivial, ⟨rfl, rfl⟩, trivial, trivial, trivial, ⟨rfl, rfl⟩, trivial, trivial, trivial, trivial, trivial, trivial, trivial, trivial⟩
theorem wk_32_1 : wk_l "TrailStore$Keeper" "appendAll" rt_32_1 := ⟨trivial, trivial, ⟨rfl, rfl⟩, trivial, trivial, trivial, trivial, trivial, ⟨rfl, rfl⟩, trivial, trivial, trivial, ⟨rfl, rfl⟩, trivial, trivial, trivial, trivial⟩
theorem wk_32_2 : wk_l "TrailStore$Keeper" "appendAll" rt_32_2 := ⟨⟨rfl, rfl⟩, trivial, trivial, ⟨rfl, rfl⟩, trivial, trivial, trivial, trivial⟩
theorem wk_32 : ∀ l ∈ rt_32, wk_l "TrailStore$Keeper" "appendAll" l := by
  intro l hl
  simp only [rt_32, List.mem_cons, List.not_mem_nil, or_false] at hl
  rcases hl with rfl | rfl | rfl
  · exact wk_32_0
  · exact wk_32_1
  · exact wk_32_2
theorem dk_32_0 : (List.range 48).all (fun i => dk_i prog_6_method_4_code rt_32 (0 + i)) = true := by decide +kernel
theorem dk_32 : ∀ i, i < 48 → dk_i prog_6_method_4_code rt_32 i = true := by
  intro i hi
  by_cases h0 : i < 48
  · have := List.all_eq_true.mp dk_32_0 (i - 0) (List.mem_range.mpr (by omega))
    rwa [show 0 + (i - 0) = i by omega] at this
  exact absurd hi (by omega)
theorem mk_32 : mk_m 32 := ⟨⟨rfl, rfl⟩, ⟨rfl, rfl⟩, by decide +kernel, ⟨⟨rfl, rfl⟩, ⟨rfl, rfl⟩⟩⟩
theorem wk_33_0 : wk_l "TrailStore$Keeper" "hasRoom" rt_33_0 := ⟨trivial, ⟨rfl, rfl⟩, ⟨rfl, rfl⟩, trivial, trivial, trivial, trivial, trivial, ⟨rfl, rfl⟩, ⟨rfl, rfl⟩, trivial, trivial, ⟨rfl, rfl⟩, ⟨rfl, rfl⟩, trivial, trivial, trivial⟩
theorem wk_33_1 : wk_l "TrailStore$Keeper" "hasRoom" rt_33_1 := ⟨trivial, trivial, trivial, trivial⟩
theorem wk_33 : ∀ l ∈ rt_33, wk_l "TrailStore$Keeper" "hasRoom" l := by
  intro l hl
  simp only [rt_33, List.mem_cons, List.not_mem_nil, or_false] at hl
  rcases hl with rfl | rfl
  · exact wk_33_0
  · exact wk_33_1
theorem dk_33_0 : (List.range 32).all (fun i => dk_i prog_6_method_5_code rt_33 (0 + i)) = true := by decide +kernel
theorem dk_33 : ∀ i, i < 32 → dk_i prog_6_method_5_code rt_33 i = true := by
  intro i hi
  by_cases h0 : i < 32
  · have := List.all_eq_true.mp dk_33_0 (i - 0) (List.mem_range.mpr (by omega))
    rwa [show 0 + (i - 0) = i by omega] at this
  exact absurd hi (by omega)
theorem mk_33 : mk_m 33 := ⟨⟨rfl, rfl⟩, ⟨rfl, rfl⟩, by decide +kernel, ⟨⟨rfl, rfl⟩, ⟨rfl, rfl⟩⟩⟩
theorem wk_34_0 : wk_l "TrailStore$Keeper" "append" rt_34_0 := ⟨trivial, ⟨rfl, rfl⟩, trivial, ⟨rfl, rfl⟩, trivial, ⟨rfl, rfl⟩, ⟨rfl, rfl⟩, trivial, trivial, trivial, trivial, ⟨rfl, rfl⟩, trivial, ⟨rfl, rfl⟩, trivial, trivial, trivial⟩
theorem wk_34_1 : wk_l "TrailStore$Keeper" "append" rt_34_1 := ⟨⟨rfl, rfl⟩, trivial, trivial, trivial, ⟨rfl, rfl⟩, trivial, ⟨rfl, rfl⟩, trivial, ⟨rfl, rfl⟩, ⟨rfl, rfl⟩, trivial, trivial, ⟨rfl, rfl⟩, trivial, trivial, trivial, trivial⟩
theorem wk_34_2 : wk_l "TrailStore$Keeper" "append" rt_34_2 := ⟨⟨rfl, rfl⟩, trivial, ⟨rfl, rfl⟩, trivial, trivial, trivial, trivial, trivial, ⟨rfl, rfl⟩, trivial, trivial, trivial, trivial, trivial, ⟨rfl, rfl⟩, trivial, trivial⟩
theorem wk_34_3 : wk_l "TrailStore$Keeper" "append" rt_34_3 := ⟨trivial, trivial, trivial, trivial, ⟨rfl, rfl⟩, trivial, trivial, ⟨rfl, rfl⟩, ⟨rfl, rfl⟩, ⟨rfl, rfl⟩, trivial, ⟨rfl, rfl⟩, trivial, trivial, ⟨rfl, rfl⟩, ⟨rfl, rfl⟩, trivial⟩
theorem wk_34_4 : wk_l "TrailStore$Keeper" "append" rt_34_4 := ⟨⟨rfl, rfl⟩, trivial, ⟨rfl, rfl⟩, trivial, ⟨rfl, rfl⟩, trivial, ⟨rfl, rfl⟩, ⟨rfl, rfl⟩, ⟨rfl, rfl⟩, trivial, ⟨rfl, rfl⟩, trivial, trivial, ⟨rfl, rfl⟩, trivial, ⟨rfl, rfl⟩, trivial⟩
theorem wk_34_5 : wk_l "TrailStore$Keeper" "append" rt_34_5 := ⟨⟨rfl, rfl⟩, trivial, trivial, trivial, trivial, trivial, ⟨rfl, rfl⟩, ⟨rfl, rfl⟩, trivial, ⟨rfl, rfl⟩, ⟨rfl, rfl⟩, ⟨rfl, rfl⟩, trivial, ⟨rfl, rfl⟩, trivial, ⟨rfl, rfl⟩, trivial⟩
theorem wk_34_6 : wk_l "TrailStore$Keeper" "append" rt_34_6 := ⟨trivial, trivial, trivial, trivial, ⟨⟨rfl, rfl⟩, Or.inl rfl⟩, trivial, ⟨rfl, rfl⟩, trivial, ⟨rfl, rfl⟩, trivial, trivial, ⟨⟨rfl, rfl⟩, Or.inl rfl⟩, trivial, trivial⟩
theorem wk_34 : ∀ l ∈ rt_34, wk_l "TrailStore$Keeper" "append" l := by
  intro l hl
  simp only [rt_34, List.mem_cons, List.not_mem_nil, or_false] at hl
  rcases hl with rfl | rfl | rfl | rfl | rfl | rfl | rfl
  · exact wk_34_0
  · exact wk_34_1
  · exact wk_34_2
  · exact wk_34_3
  · exact wk_34_4
  · exact wk_34_5
  · exact wk_34_6
theorem dk_34_0 : (List.range 48).all (fun i => dk_i prog_6_method_6_code rt_34 (0 + i)) = true := by decide +kernel
theorem dk_34_1 : (List.range 48).all (fun i => dk_i prog_6_method_6_code rt_34 (48 + i)) = true := by decide +kernel
theorem dk_34_2 : (List.range 16).all (fun i => dk_i prog_6_method_6_code rt_34 (96 + i)) = true := by decide +kernel
theorem dk_34 : ∀ i, i < 112 → dk_i prog_6_method_6_code rt_34 i = true := by
  intro i hi
  by_cases h0 : i < 48
  · have := List.all_eq_true.mp dk_34_0 (i - 0) (List.mem_range.mpr (by omega))
    rwa [show 0 + (i - 0) = i by omega] at this
  by_cases h1 : i < 96
  · have := List.all_eq_true.mp dk_34_1 (i - 48) (List.mem_range.mpr (by omega))
    rwa [show 48 + (i - 48) = i by omega] at this
  by_cases h2 : i < 112
  · have := List.all_eq_true.mp dk_34_2 (i - 96) (List.mem_range.mpr (by omega))
    rwa [show 96 + (i - 96) = i by omega] at this
  exact absurd hi (by omega)
theorem mk_34 : mk_m 34 := ⟨⟨rfl, rfl⟩, ⟨rfl, rfl⟩, by decide +kernel, ⟨⟨rfl, rfl⟩, ⟨rfl, rfl⟩⟩⟩
theorem wk_35_0 : wk_l "TrailStore$Keeper" "makeCheckpoint" rt_35_0 := ⟨trivial, ⟨rfl, rfl⟩, ⟨rfl, rfl⟩, trivial, ⟨rfl, rfl⟩, ⟨rfl, rfl⟩, ⟨rfl, rfl⟩, trivial, trivial, trivial, ⟨rfl, rfl⟩, ⟨rfl, rfl⟩, ⟨⟨rfl, rfl⟩, Or.inl rfl⟩, trivial, trivial, trivial, trivial⟩
theorem wk_35_1 : wk_l "TrailStore$Keeper" "makeCheckpoint" rt_35_1 := ⟨⟨rfl, rfl⟩, ⟨rfl, rfl⟩, trivial, ⟨rfl, rfl⟩, trivial, ⟨rfl, rfl⟩, trivial, ⟨rfl, rfl⟩, trivial, trivial, trivial, trivial, trivial, trivial, trivial, trivial, trivial⟩
theorem wk_35_2 : wk_l "TrailStore$Keeper" "makeCheckpoint" rt_35_2 := ⟨trivial, trivial, trivial, trivial, trivial, trivial, ⟨rfl, rfl⟩, trivial, ⟨rfl, rfl⟩, trivial, trivial, ⟨rfl, rfl⟩, trivial, trivial, ⟨rfl, rfl⟩, ⟨rfl, rfl⟩, trivial⟩
theorem wk_35_3 : wk_l "TrailStore$Keeper" "makeCheckpoint" rt_35_3 := ⟨trivial, trivial, trivial, trivial, ⟨rfl, rfl⟩, ⟨rfl, rfl⟩, trivial, trivial, trivial, ⟨rfl, rfl⟩, trivial, ⟨rfl, rfl⟩, trivial, ⟨rfl, rfl⟩, ⟨rfl, rfl⟩, trivial, trivial⟩
theorem wk_35_4 : wk_l "TrailStore$Keeper" "makeCheckpoint" rt_35_4 := ⟨trivial, trivial, trivial, trivial, trivial, trivial, trivial, trivial, ⟨rfl, rfl⟩, ⟨rfl, rfl⟩, ⟨rfl, rfl⟩, trivial, ⟨rfl, rfl⟩, ⟨rfl, rfl⟩, trivial, ⟨rfl, rfl⟩, trivial⟩
theorem wk_35_5 : wk_l "TrailStore$Keeper" "makeCheckpoint" rt_35_5 := ⟨trivial, ⟨rfl, rfl⟩, ⟨rfl, rfl⟩, ⟨⟨rfl, rfl⟩, Or.inl rfl⟩, trivial, ⟨rfl, rfl⟩, trivial, ⟨rfl, rfl⟩, ⟨rfl, rfl⟩, ⟨⟨rfl, rfl⟩, Or.inl rfl⟩, trivial, ⟨rfl, rfl⟩, trivial, ⟨rfl, rfl⟩, ⟨rfl, rfl⟩, trivial, trivial⟩
theorem wk_35 : ∀ l ∈ rt_35, wk_l "TrailStore$Keeper" "makeCheckpoint" l := by
  intro l hl
  simp only [rt_35, List.mem_cons, List.not_mem_nil, or_false] at hl
  rcases hl with rfl | rfl | rfl | rfl | rfl | rfl
  · exact wk_35_0
  · exact wk_35_1
  · exact wk_35_2
  · exact wk_35_3
  · exact wk_35_4
  · exact wk_35_5
theorem dk_35_0 : (List.range 48).all (fun i => dk_i prog_6_method_7_code rt_35 (0 + i)) = true := by decide +kernel
theorem dk_35_1 : (List.range 48).all (fun i => dk_i prog_6_method_7_code rt_35 (48 + i)) = true := by decide +kernel
theorem dk_35 : ∀ i, i < 96 → dk_i prog_6_method_7_code rt_35 i = true := by
  intro i hi
  by_cases h0 : i < 48
  · have := List.all_eq_true.mp dk_35_0 (i - 0) (List.mem_range.mpr (by omega))
    rwa [show 0 + (i - 0) = i by omega] at this
  by_cases h1 : i < 96
  · have := List.all_eq_true.mp dk_35_1 (i - 48) (List.mem_range.mpr (by omega))
    rwa [show 48 + (i - 48) = i by omega] at this
  exact absurd hi (by omega)
theorem mk_35 : mk_m 35 := ⟨⟨rfl, rfl⟩, ⟨rfl, rfl⟩, by decide +kernel, ⟨⟨rfl, rfl⟩, ⟨rfl, rfl⟩⟩⟩
theorem wk_36_0 : wk_l "TrailStore$Keeper" "writeTable" rt_36_0 := ⟨trivial, ⟨rfl, rfl⟩, trivial, trivial, ⟨rfl, rfl⟩, trivial, trivial, trivial, ⟨rfl, rfl⟩, trivial, trivial, trivial, trivial, trivial, trivial, trivial, trivial⟩
theorem wk_36_1 : wk_l "TrailStore$Keeper" "writeTable" rt_36_1 := ⟨trivial, trivial, trivial, trivial, ⟨rfl, rfl⟩, trivial, trivial, trivial, trivial, ⟨rfl, rfl⟩, trivial, trivial, trivial, trivial, trivial, ⟨rfl, rfl⟩, trivial⟩
theorem wk_36_2 : wk_l "TrailStore$Keeper" "writeTable" rt_36_2 := ⟨trivial, trivial, trivial, trivial, ⟨rfl, rfl⟩, trivial, trivial, trivial, trivial, trivial, ⟨rfl, rfl⟩, trivial, trivial, trivial, trivial, ⟨rfl, rfl⟩, trivial⟩
theorem wk_36_3 : wk_l "TrailStore$Keeper" "writeTable" rt_36_3 := ⟨trivial, trivial, ⟨rfl, rfl⟩, trivial, ⟨rfl, rfl⟩, trivial, trivial, trivial, trivial, ⟨rfl, rfl⟩, trivial, trivial, ⟨rfl, rfl⟩, trivial, trivial, ⟨rfl, rfl⟩, trivial⟩
theorem wk_36_4 : wk_l "TrailStore$Keeper" "writeTable" rt_36_4 := ⟨trivial, trivial, trivial, trivial, trivial, trivial, ⟨rfl, rfl⟩, trivial, trivial, trivial, trivial, ⟨rfl, rfl⟩, trivial, trivial, trivial, trivial, trivial⟩
theorem wk_36_5 : wk_l "TrailStore$Keeper" "writeTable" rt_36_5 := ⟨trivial, ⟨rfl, rfl⟩, trivial, trivial, ⟨rfl, rfl⟩, trivial, trivial, trivial, ⟨rfl, rfl⟩, trivial, trivial, trivial, trivial, ⟨rfl, rfl⟩, trivial, trivial, trivial⟩
theorem wk_36_6 : wk_l "TrailStore$Keeper" "writeTable" rt_36_6 := ⟨⟨rfl, rfl⟩, ⟨rfl, rfl⟩, ⟨rfl, rfl⟩, trivial, ⟨rfl, rfl⟩, trivial, trivial, ⟨rfl, rfl⟩, trivial, ⟨rfl, rfl⟩, trivial, trivial, ⟨rfl, rfl⟩, ⟨rfl, rfl⟩, ⟨rfl, rfl⟩, trivial, trivial⟩
theorem wk_36_7 : wk_l "TrailStore$Keeper" "writeTable" rt_36_7 := ⟨⟨rfl, rfl⟩, trivial, trivial, ⟨rfl, rfl⟩, trivial, ⟨rfl, rfl⟩, trivial, ⟨rfl, rfl⟩, trivial, ⟨rfl, rfl⟩, trivial, trivial, ⟨rfl, rfl⟩, trivial, trivial, ⟨rfl, rfl⟩, trivial⟩
theorem wk_36_8 : wk_l "TrailStore$Keeper" "writeTable" rt_36_8 := ⟨trivial, trivial, trivial, trivial, ⟨⟨rfl, rfl⟩, Or.inl rfl⟩, trivial, ⟨rfl, rfl⟩, trivial, ⟨rfl, rfl⟩, trivial, trivial, ⟨⟨rfl, rfl⟩, Or.inl rfl⟩, trivial, ⟨rfl, rfl⟩, trivial, trivial, trivial⟩
theorem wk_36_9 : wk_l "TrailStore$Keeper" "writeTable" rt_36_9 := ⟨trivial, ⟨rfl, rfl⟩, trivial, trivial⟩
theorem wk_36 : ∀ l ∈ rt_36, wk_l "TrailStore$Keeper" "writeTable" l := by
  intro l hl
  simp only [rt_36, List.mem_cons, List.not_mem_nil, or_false] at hl
  rcases hl with rfl | rfl | rfl | rfl | rfl | rfl | rfl | rfl | rfl | rfl
  · exact wk_36_0
  · exact wk_36_1
  · exact wk_36_2
  · exact wk_36_3
  · exact wk_36_4
  · exact wk_36_5
  · exact wk_36_6
  · exact wk_36_7
  · exact wk_36_8
  · exact wk_36_9
theorem dk_36_0 : (List.range 48).all (fun i => dk_i prog_6_method_8_code rt_36 (0 + i)) = true := by decide +kernel
theorem dk_36_1 : (List.range 48).all (fun i => dk_i prog_6_method_8_code rt_36 (48 + i)) = true := by decide +kernel
theorem dk_36_2 : (List.range 48).all (fun i => dk_i prog_6_method_8_code rt_36 (96 + i)) = true := by decide +kernel
theorem dk_36_3 : (List.range 16).all (fun i => dk_i prog_6_method_8_code rt_36 (144 + i)) = true := by decide +kernel
theorem dk_36 : ∀ i, i < 160 → dk_i prog_6_method_8_code rt_36 i = true := by
  intro i hi
  by_cases h0 : i < 48
  · have := List.all_eq_true.mp dk_36_0 (i - 0) (List.mem_range.mpr (by omega))
    rwa [show 0 + (i - 0) = i by omega] at this
  by_cases h1 : i < 96
  · have := List.all_eq_true.mp dk_36_1 (i - 48) (List.mem_range.mpr (by omega))
    rwa [show 48 + (i - 48) = i by omega] at this
  by_cases h2 : i < 144
  · have := List.all_eq_true.mp dk_36_2 (i - 96) (List.mem_range.mpr (by omega))
    rwa [show 96 + (i - 96) = i by omega] at this
  by_cases h3 : i < 160
  · have := List.all_eq_true.mp dk_36_3 (i - 144) (List.mem_range.mpr (by omega))
    rwa [show 144 + (i - 144) = i by omega] at this
  exact absurd hi (by omega)
theorem mk_36 : mk_m 36 := ⟨⟨rfl, rfl⟩, ⟨rfl, rfl⟩, by decide +kernel, ⟨⟨rfl, rfl⟩, ⟨rfl, rfl⟩⟩⟩
theorem wk_37_0 : wk_l "TrailStore$Keeper" "leastFreePlace" rt_37_0 := ⟨trivial, trivial, trivial, trivial, trivial, trivial, ⟨rfl, rfl⟩, trivial, trivial, trivial, trivial, trivial, trivial, trivial, trivial, trivial, trivial⟩
theorem wk_37 : ∀ l ∈ rt_37, wk_l "TrailStore$Keeper" "leastFreePlace" l := by
  intro l hl
  simp only [rt_37, List.mem_cons, List.not_mem_nil, or_false] at hl
  subst hl
  exact wk_37_0
theorem dk_37_0 : (List.range 16).all (fun i => dk_i prog_6_method_9_code rt_37 (0 + i)) = true := by decide +kernel
theorem dk_37 : ∀ i, i < 16 → dk_i prog_6_method_9_code rt_37 i = true := by
  intro i hi
  by_cases h0 : i < 16
  · have := List.all_eq_true.mp dk_37_0 (i - 0) (List.mem_range.mpr (by omega))
    rwa [show 0 + (i - 0) = i by omega] at this
  exact absurd hi (by omega)
theorem mk_37 : mk_m 37 := ⟨⟨rfl, rfl⟩, ⟨rfl, rfl⟩, by decide +kernel, ⟨⟨rfl, rfl⟩, ⟨rfl, rfl⟩⟩⟩
theorem wk_38_0 : wk_l "TrailStore$Keeper" "writeRoot" rt_38_0 := ⟨trivial, ⟨rfl, rfl⟩, trivial, ⟨rfl, rfl⟩, trivial, trivial, ⟨⟨rfl, rfl⟩, Or.inl rfl⟩, trivial, trivial, trivial, trivial, trivial, trivial, ⟨rfl, rfl⟩, trivial, trivial, trivial⟩
theorem wk_38_1 : wk_l "TrailStore$Keeper" "writeRoot" rt_38_1 := ⟨trivial, trivial, trivial, trivial, ⟨rfl, rfl⟩, trivial, trivial, ⟨rfl, rfl⟩, ⟨rfl, rfl⟩, ⟨rfl, rfl⟩, trivial, ⟨rfl, rfl⟩, trivial, trivial, ⟨rfl, rfl⟩, ⟨rfl, rfl⟩, trivial⟩
theorem wk_38_2 : wk_l "TrailStore$Keeper" "writeRoot" rt_38_2 := ⟨⟨rfl, rfl⟩, trivial, ⟨rfl, rfl⟩, trivial, trivial, ⟨rfl, rfl⟩, ⟨rfl, rfl⟩, ⟨rfl, rfl⟩, trivial, ⟨rfl, rfl⟩, trivial, trivial, ⟨rfl, rfl⟩, ⟨rfl, rfl⟩, ⟨rfl, rfl⟩, trivial, trivial⟩
theorem wk_38_3 : wk_l "TrailStore$Keeper" "writeRoot" rt_38_3 := ⟨⟨rfl, rfl⟩, trivial, trivial, ⟨rfl, rfl⟩, ⟨rfl, rfl⟩, ⟨rfl, rfl⟩, trivial, ⟨rfl, rfl⟩, trivial, trivial, ⟨rfl, rfl⟩, ⟨rfl, rfl⟩, trivial, trivial, trivial, trivial, trivial⟩
theorem wk_38_4 : wk_l "TrailStore$Keeper" "writeRoot" rt_38_4 := ⟨trivial, trivial, ⟨rfl, rfl⟩, ⟨rfl, rfl⟩, trivial, trivial, ⟨rfl, rfl⟩, trivial, trivial, trivial, trivial, ⟨rfl, rfl⟩, ⟨rfl, rfl⟩, trivial, trivial, trivial, trivial⟩
theorem wk_38_5 : wk_l "TrailStore$Keeper" "writeRoot" rt_38_5 := ⟨trivial, trivial, trivial, trivial, ⟨rfl, rfl⟩, trivial, trivial, ⟨rfl, rfl⟩, ⟨rfl, rfl⟩, ⟨rfl, rfl⟩, trivial, ⟨rfl, rfl⟩, trivial, ⟨rfl, rfl⟩, ⟨rfl, rfl⟩, ⟨rfl, rfl⟩, trivial⟩
theorem wk_38_6 : wk_l "TrailStore$Keeper" "writeRoot" rt_38_6 := ⟨trivial, trivial, ⟨rfl, rfl⟩, trivial, trivial, trivial, trivial, ⟨rfl, rfl⟩, trivial, trivial, ⟨rfl, rfl⟩, trivial, ⟨rfl, rfl⟩, trivial, trivial, ⟨rfl, rfl⟩, trivial⟩
theorem wk_38_7 : wk_l "TrailStore$Keeper" "writeRoot" rt_38_7 := ⟨trivial, trivial, ⟨rfl, rfl⟩, trivial, ⟨rfl, rfl⟩, trivial, trivial, trivial, trivial, ⟨rfl, rfl⟩, trivial, trivial, ⟨rfl, rfl⟩, trivial, trivial⟩
theorem wk_38 : ∀ l ∈ rt_38, wk_l "TrailStore$Keeper" "writeRoot" l := by
  intro l hl
  simp only [rt_38, List.mem_cons, List.not_mem_nil, or_false] at hl
  rcases hl with rfl | rfl | rfl | rfl | rfl | rfl | rfl | rfl
  · exact wk_38_0
  · exact wk_38_1
  · exact wk_38_2
  · exact wk_38_3
  · exact wk_38_4
  · exact wk_38_5
  · exact wk_38_6
  · exact wk_38_7
theorem dk_38_0 : (List.range 48).all (fun i => dk_i prog_6_method_10_code rt_38 (0 + i)) = true := by decide +kernel
theorem dk_38_1 : (List.range 48).all (fun i => dk_i prog_6_method_10_code rt_38 (48 + i)) = true := by decide +kernel
theorem dk_38_2 : (List.range 32).all (fun i => dk_i prog_6_method_10_code rt_38 (96 + i)) = true := by decide +kernel
theorem dk_38 : ∀ i, i < 128 → dk_i prog_6_method_10_code rt_38 i = true := by
  intro i hi
  by_cases h0 : i < 48
  · have := List.all_eq_true.mp dk_38_0 (i - 0) (List.mem_range.mpr (by omega))
    rwa [show 0 + (i - 0) = i by omega] at this
  by_cases h1 : i < 96
  · have := List.all_eq_true.mp dk_38_1 (i - 48) (List.mem_range.mpr (by omega))
    rwa [show 48 + (i - 48) = i by omega] at this
  by_cases h2 : i < 128
  · have := List.all_eq_true.mp dk_38_2 (i - 96) (List.mem_range.mpr (by omega))
    rwa [show 96 + (i - 96) = i by omega] at this
  exact absurd hi (by omega)
theorem mk_38 : mk_m 38 := ⟨⟨rfl, rfl⟩, ⟨rfl, rfl⟩, by decide +kernel, ⟨⟨rfl, rfl⟩, ⟨rfl, rfl⟩⟩⟩
theorem wk_39_0 : wk_l "TrailStore$Keeper" "collectTail" rt_39_0 := ⟨trivial, ⟨rfl, rfl⟩, ⟨rfl, rfl⟩, trivial, ⟨rfl, rfl⟩, ⟨rfl, rfl⟩, trivial, trivial, ⟨rfl, rfl⟩, trivial, ⟨rfl, rfl⟩, ⟨rfl, rfl⟩, trivial, trivial, ⟨rfl, rfl⟩, ⟨rfl, rfl⟩, trivial⟩
theorem wk_39_1 : wk_l "TrailStore$Keeper" "collectTail" rt_39_1 := ⟨trivial, trivial, trivial, trivial, trivial, trivial, trivial, trivial, trivial, trivial, ⟨rfl, rfl⟩, ⟨rfl, rfl⟩, trivial, trivial, ⟨rfl, rfl⟩, trivial, trivial⟩
theorem wk_39_2 : wk_l "TrailStore$Keeper" "collectTail" rt_39_2 := ⟨trivial, trivial, ⟨rfl, rfl⟩, trivial, trivial, ⟨rfl, rfl⟩, trivial, ⟨rfl, rfl⟩, trivial, trivial, ⟨rfl, rfl⟩, trivial, trivial, ⟨rfl, rfl⟩, ⟨rfl, rfl⟩, trivial, trivial⟩
theorem wk_39_3 : wk_l "TrailStore$Keeper" "collectTail" rt_39_3 := ⟨⟨rfl, rfl⟩, ⟨rfl, rfl⟩, trivial, trivial, trivial, ⟨rfl, rfl⟩, ⟨rfl, rfl⟩, trivial, trivial, trivial, ⟨rfl, rfl⟩, ⟨rfl, rfl⟩, trivial, ⟨rfl, rfl⟩, trivial, trivial, trivial⟩
theorem wk_39_4 : wk_l "TrailStore$Keeper" "collectTail" rt_39_4 := ⟨⟨rfl, rfl⟩, ⟨rfl, rfl⟩, ⟨rfl, rfl⟩, trivial, trivial, trivial, trivial, trivial, trivial, trivial, trivial, trivial, trivial, ⟨rfl, rfl⟩, trivial, trivial, trivial⟩
theorem wk_39_5 : wk_l "TrailStore$Keeper" "collectTail" rt_39_5 := ⟨trivial, trivial, trivial, trivial, ⟨rfl, rfl⟩, trivial, ⟨rfl, rfl⟩, trivial, trivial, ⟨rfl, rfl⟩, ⟨rfl, rfl⟩, ⟨rfl, rfl⟩, trivial, trivial, trivial, trivial, trivial⟩
theorem wk_39_6 : wk_l "TrailStore$Keeper" "collectTail" rt_39_6 := ⟨trivial, trivial, trivial, ⟨rfl, rfl⟩, ⟨rfl, rfl⟩, trivial, ⟨rfl, rfl⟩, trivial, ⟨⟨rfl, rfl⟩, Or.inl rfl⟩, trivial, trivial, trivial, ⟨rfl, rfl⟩, trivial, ⟨rfl, rfl⟩, ⟨rfl, rfl⟩, trivial⟩
theorem wk_39_7 : wk_l "TrailStore$Keeper" "collectTail" rt_39_7 := ⟨trivial, trivial, trivial⟩
theorem wk_39 : ∀ l ∈ rt_39, wk_l "TrailStore$Keeper" "collectTail" l := by
  intro l hl
  simp only [rt_39, List.mem_cons, List.not_mem_nil, or_false] at hl
  rcases hl with rfl | rfl | rfl | rfl | rfl | rfl | rfl | rfl
  · exact wk_39_0
  · exact wk_39_1
  · exact wk_39_2
  · exact wk_39_3
  · exact wk_39_4
  · exact wk_39_5
  · exact wk_39_6
  · exact wk_39_7
theorem dk_39_0 : (List.range 48).all (fun i => dk_i prog_6_method_11_code rt_39 (0 + i)) = true := by decide +kernel
theorem dk_39_1 : (List.range 48).all (fun i => dk_i prog_6_method_11_code rt_39 (48 + i)) = true := by decide +kernel
theorem dk_39_2 : (List.range 32).all (fun i => dk_i prog_6_method_11_code rt_39 (96 + i)) = true := by decide +kernel
theorem dk_39 : ∀ i, i < 128 → dk_i prog_6_method_11_code rt_39 i = true := by
  intro i hi
  by_cases h0 : i < 48
  · have := List.all_eq_true.mp dk_39_0 (i - 0) (List.mem_range.mpr (by omega))
    rwa [show 0 + (i - 0) = i by omega] at this
  by_cases h1 : i < 96
  · have := List.all_eq_true.mp dk_39_1 (i - 48) (List.mem_range.mpr (by omega))
    rwa [show 48 + (i - 48) = i by omega] at this
  by_cases h2 : i < 128
  · have := List.all_eq_true.mp dk_39_2 (i - 96) (List.mem_range.mpr (by omega))
    rwa [show 96 + (i - 96) = i by omega] at this
  exact absurd hi (by omega)
theorem mk_39 : mk_m 39 := ⟨⟨rfl, rfl⟩, ⟨rfl, rfl⟩, by decide +kernel, ⟨⟨rfl, rfl⟩, ⟨rfl, rfl⟩⟩⟩
theorem wk_40_0 : wk_l "TrailStore$Keeper" "setNumber" rt_40_0 := ⟨trivial, trivial, trivial, trivial, trivial, trivial, trivial, trivial, trivial, trivial, trivial, trivial, trivial, trivial, trivial, trivial, trivial⟩
theorem wk_40_1 : wk_l "TrailStore$Keeper" "setNumber" rt_40_1 := ⟨trivial, trivial, trivial, trivial, trivial, trivial, trivial, trivial, trivial, trivial, trivial, trivial, trivial, trivial, trivial, trivial, trivial⟩
theorem wk_40_2 : wk_l "TrailStore$Keeper" "setNumber" rt_40_2 := ⟨trivial, trivial⟩
theorem wk_40 : ∀ l ∈ rt_40, wk_l "TrailStore$Keeper" "setNumber" l := by
  intro l hl
  simp only [rt_40, List.mem_cons, List.not_mem_nil, or_false] at hl
  rcases hl with rfl | rfl | rfl
  · exact wk_40_0
  · exact wk_40_1
  · exact wk_40_2
theorem dk_40_0 : (List.range 48).all (fun i => dk_i prog_6_method_12_code rt_40 (0 + i)) = true := by decide +kernel
theorem dk_40 : ∀ i, i < 48 → dk_i prog_6_method_12_code rt_40 i = true := by
  intro i hi
  by_cases h0 : i < 48
  · have := List.all_eq_true.mp dk_40_0 (i - 0) (List.mem_range.mpr (by omega))
    rwa [show 0 + (i - 0) = i by omega] at this
  exact absurd hi (by omega)
theorem mk_40 : mk_m 40 := ⟨⟨rfl, rfl⟩, ⟨rfl, rfl⟩, by decide +kernel, ⟨rfl, rfl⟩⟩
theorem wk_41_0 : wk_l "TrailStore$View" "<init>" rt_41_0 := ⟨trivial, ⟨rfl, rfl⟩, trivial, ⟨⟨rfl, rfl⟩, ⟨rfl, rfl⟩, ⟨rfl, rfl⟩⟩, trivial, ⟨rfl, rfl⟩, ⟨⟨rfl, rfl⟩, Or.inr ⟨rfl, rfl, rfl⟩⟩, trivial, trivial, trivial, ⟨⟨rfl, rfl⟩, Or.inr ⟨rfl, rfl, rfl⟩⟩, trivial, trivial, ⟨⟨rfl, rfl⟩, Or.inr ⟨rfl, rfl, rfl⟩⟩, trivial, trivial⟩
theorem wk_41 : ∀ l ∈ rt_41, wk_l "TrailStore$View" "<init>" l := by
  intro l hl
  simp only [rt_41, List.mem_cons, List.not_mem_nil, or_false] at hl
  subst hl
  exact wk_41_0
theorem dk_41_0 : (List.range 16).all (fun i => dk_i prog_7_method_1_code rt_41 (0 + i)) = true := by decide +kernel
theorem dk_41 : ∀ i, i < 16 → dk_i prog_7_method_1_code rt_41 i = true := by
  intro i hi
  by_cases h0 : i < 16
  · have := List.all_eq_true.mp dk_41_0 (i - 0) (List.mem_range.mpr (by omega))
    rwa [show 0 + (i - 0) = i by omega] at this
  exact absurd hi (by omega)
theorem mk_41 : mk_m 41 := ⟨⟨rfl, rfl⟩, ⟨rfl, rfl⟩, by decide +kernel, ⟨⟨rfl, rfl⟩, rfl, rfl⟩⟩
theorem wk_42_0 : wk_l "TrailStore$View" "load" rt_42_0 := ⟨trivial, ⟨rfl, rfl⟩, trivial, ⟨rfl, rfl⟩, ⟨rfl, rfl⟩, trivial, trivial, ⟨rfl, rfl⟩, ⟨⟨rfl, rfl⟩, Or.inl rfl⟩, trivial, trivial, ⟨rfl, rfl⟩, ⟨⟨rfl, rfl⟩, Or.inl rfl⟩, trivial, ⟨rfl, rfl⟩, trivial, trivial⟩
theorem wk_42_1 : wk_l "TrailStore$View" "load" rt_42_1 := ⟨trivial, ⟨rfl, rfl⟩, trivial, trivial, ⟨rfl, rfl⟩, trivial, trivial, trivial, trivial, trivial, ⟨rfl, rfl⟩, ⟨rfl, rfl⟩, trivial, trivial, trivial, trivial, trivial⟩
theorem wk_42_2 : wk_l "TrailStore$View" "load" rt_42_2 := ⟨⟨rfl, rfl⟩, trivial, trivial, trivial, ⟨rfl, rfl⟩, trivial, ⟨rfl, rfl⟩, trivial, trivial, trivial, trivial, ⟨rfl, rfl⟩, trivial, trivial, ⟨rfl, rfl⟩, ⟨rfl, rfl⟩, trivial⟩
theorem wk_42_3 : wk_l "TrailStore$View" "load" rt_42_3 := ⟨trivial, trivial, trivial, trivial, trivial, ⟨rfl, rfl⟩, trivial, ⟨rfl, rfl⟩, trivial, trivial, trivial, trivial, trivial, trivial, trivial, trivial, trivial⟩
theorem wk_42_4 : wk_l "TrailStore$View" "load" rt_42_4 := ⟨trivial, trivial, trivial, trivial, trivial, trivial, ⟨rfl, rfl⟩, trivial, trivial, trivial, ⟨rfl, rfl⟩, trivial, trivial, trivial, trivial⟩
theorem wk_42 : ∀ l ∈ rt_42, wk_l "TrailStore$View" "load" l := by
  intro l hl
  simp only [rt_42, List.mem_cons, List.not_mem_nil, or_false] at hl
  rcases hl with rfl | rfl | rfl | rfl | rfl
  · exact wk_42_0
  · exact wk_42_1
  · exact wk_42_2
  · exact wk_42_3
  · exact wk_42_4
theorem dk_42_0 : (List.range 48).all (fun i => dk_i prog_7_method_2_code rt_42 (0 + i)) = true := by decide +kernel
theorem dk_42_1 : (List.range 32).all (fun i => dk_i prog_7_method_2_code rt_42 (48 + i)) = true := by decide +kernel
theorem dk_42 : ∀ i, i < 80 → dk_i prog_7_method_2_code rt_42 i = true := by
  intro i hi
  by_cases h0 : i < 48
  · have := List.all_eq_true.mp dk_42_0 (i - 0) (List.mem_range.mpr (by omega))
    rwa [show 0 + (i - 0) = i by omega] at this
  by_cases h1 : i < 80
  · have := List.all_eq_true.mp dk_42_1 (i - 48) (List.mem_range.mpr (by omega))
    rwa [show 48 + (i - 48) = i by omega] at this
  exact absurd hi (by omega)
theorem mk_42 : mk_m 42 := ⟨⟨rfl, rfl⟩, ⟨rfl, rfl⟩, by decide +kernel, ⟨⟨rfl, rfl⟩, ⟨rfl, rfl⟩⟩⟩
theorem wk_43_0 : wk_l "TrailStore$View" "loadRoot" rt_43_0 := ⟨trivial, trivial, ⟨⟨rfl, rfl⟩, Or.inl rfl⟩, trivial, trivial, ⟨⟨rfl, rfl⟩, Or.inl rfl⟩, trivial, trivial, ⟨⟨rfl, rfl⟩, Or.inl rfl⟩, trivial, trivial, ⟨⟨rfl, rfl⟩, Or.inl rfl⟩, trivial, trivial, ⟨⟨rfl, rfl⟩, Or.inl rfl⟩, trivial, trivial⟩
theorem wk_43_1 : wk_l "TrailStore$View" "loadRoot" rt_43_1 := ⟨trivial, ⟨⟨rfl, rfl⟩, Or.inl rfl⟩, trivial, trivial, trivial, trivial, trivial, trivial, ⟨rfl, rfl⟩, trivial, ⟨rfl, rfl⟩, trivial, trivial, ⟨rfl, rfl⟩, trivial, ⟨rfl, rfl⟩, trivial⟩
theorem wk_43_2 : wk_l "TrailStore$View" "loadRoot" rt_43_2 := ⟨trivial, trivial, trivial, ⟨rfl, rfl⟩, trivial, trivial, trivial, ⟨rfl, rfl⟩, trivial, trivial, trivial, ⟨rfl, rfl⟩, trivial, trivial, trivial, ⟨rfl, rfl⟩, trivial⟩
theorem wk_43_3 : wk_l "TrailStore$View" "loadRoot" rt_43_3 := ⟨trivial, trivial, trivial, trivial⟩
theorem wk_43 : ∀ l ∈ rt_43, wk_l "TrailStore$View" "loadRoot" l := by
  intro l hl
  simp only [rt_43, List.mem_cons, List.not_mem_nil, or_false] at hl
  rcases hl with rfl | rfl | rfl | rfl
  · exact wk_43_0
  · exact wk_43_1
  · exact wk_43_2
  · exact wk_43_3
theorem dk_43_0 : (List.range 48).all (fun i => dk_i prog_7_method_3_code rt_43 (0 + i)) = true := by decide +kernel
theorem dk_43_1 : (List.range 16).all (fun i => dk_i prog_7_method_3_code rt_43 (48 + i)) = true := by decide +kernel
theorem dk_43 : ∀ i, i < 64 → dk_i prog_7_method_3_code rt_43 i = true := by
  intro i hi
  by_cases h0 : i < 48
  · have := List.all_eq_true.mp dk_43_0 (i - 0) (List.mem_range.mpr (by omega))
    rwa [show 0 + (i - 0) = i by omega] at this
  by_cases h1 : i < 64
  · have := List.all_eq_true.mp dk_43_1 (i - 48) (List.mem_range.mpr (by omega))
    rwa [show 48 + (i - 48) = i by omega] at this
  exact absurd hi (by omega)
theorem mk_43 : mk_m 43 := ⟨⟨rfl, rfl⟩, ⟨rfl, rfl⟩, by decide +kernel, ⟨⟨rfl, rfl⟩, ⟨rfl, rfl⟩⟩⟩
theorem wk_44_0 : wk_l "TrailStore$View" "loadRootAt" rt_44_0 := ⟨trivial, trivial, ⟨rfl, rfl⟩, trivial, ⟨rfl, rfl⟩, ⟨⟨rfl, rfl⟩, Or.inl rfl⟩, trivial, trivial, ⟨rfl, rfl⟩, trivial, trivial, trivial, ⟨rfl, rfl⟩, ⟨⟨rfl, rfl⟩, Or.inl rfl⟩, trivial, trivial, trivial⟩
theorem wk_44_1 : wk_l "TrailStore$View" "loadRootAt" rt_44_1 := ⟨⟨rfl, rfl⟩, trivial, trivial, trivial, ⟨rfl, rfl⟩, ⟨⟨rfl, rfl⟩, Or.inl rfl⟩, trivial, trivial, ⟨rfl, rfl⟩, trivial, trivial, trivial, ⟨rfl, rfl⟩, ⟨⟨rfl, rfl⟩, Or.inl rfl⟩, trivial, trivial, trivial⟩
theorem wk_44_2 : wk_l "TrailStore$View" "loadRootAt" rt_44_2 := ⟨⟨rfl, rfl⟩, trivial, trivial, trivial, ⟨rfl, rfl⟩, ⟨⟨rfl, rfl⟩, Or.inl rfl⟩, trivial, trivial, ⟨rfl, rfl⟩, trivial, trivial, trivial, ⟨rfl, rfl⟩, trivial, ⟨rfl, rfl⟩, ⟨⟨rfl, rfl⟩, Or.inl rfl⟩, trivial⟩
theorem wk_44_3 : wk_l "TrailStore$View" "loadRootAt" rt_44_3 := ⟨trivial, trivial, trivial, trivial, ⟨rfl, rfl⟩, trivial, trivial, ⟨rfl, rfl⟩, trivial, trivial, ⟨rfl, rfl⟩, trivial, trivial, trivial, trivial, trivial, trivial⟩
theorem wk_44_4 : wk_l "TrailStore$View" "loadRootAt" rt_44_4 := ⟨⟨rfl, rfl⟩, trivial, trivial, trivial, trivial, trivial⟩
theorem wk_44 : ∀ l ∈ rt_44, wk_l "TrailStore$View" "loadRootAt" l := by
  intro l hl
  simp only [rt_44, List.mem_cons, List.not_mem_nil, or_false] at hl
  rcases hl with rfl | rfl | rfl | rfl | rfl
  · exact wk_44_0
  · exact wk_44_1
  · exact wk_44_2
  · exact wk_44_3
  · exact wk_44_4
theorem dk_44_0 : (List.range 48).all (fun i => dk_i prog_7_method_4_code rt_44 (0 + i)) = true := by decide +kernel
theorem dk_44_1 : (List.range 32).all (fun i => dk_i prog_7_method_4_code rt_44 (48 + i)) = true := by decide +kernel
theorem dk_44 : ∀ i, i < 80 → dk_i prog_7_method_4_code rt_44 i = true := by
  intro i hi
  by_cases h0 : i < 48
  · have := List.all_eq_true.mp dk_44_0 (i - 0) (List.mem_range.mpr (by omega))
    rwa [show 0 + (i - 0) = i by omega] at this
  by_cases h1 : i < 80
  · have := List.all_eq_true.mp dk_44_1 (i - 48) (List.mem_range.mpr (by omega))
    rwa [show 48 + (i - 48) = i by omega] at this
  exact absurd hi (by omega)
theorem mk_44 : mk_m 44 := ⟨⟨rfl, rfl⟩, ⟨rfl, rfl⟩, by decide +kernel, ⟨⟨rfl, rfl⟩, ⟨rfl, rfl⟩⟩⟩
theorem wk_45_0 : wk_l "TrailStore$View" "isRecord" rt_45_0 := ⟨trivial, ⟨rfl, rfl⟩, trivial, ⟨rfl, rfl⟩, trivial, trivial, trivial, trivial, ⟨rfl, rfl⟩, trivial, trivial, trivial, ⟨rfl, rfl⟩, trivial, trivial, trivial, trivial⟩
theorem wk_45_1 : wk_l "TrailStore$View" "isRecord" rt_45_1 := ⟨trivial, trivial, trivial, trivial, trivial, trivial, trivial, trivial, trivial, trivial, trivial, trivial, trivial, trivial, trivial, trivial, trivial⟩
theorem wk_45_2 : wk_l "TrailStore$View" "isRecord" rt_45_2 := ⟨⟨rfl, rfl⟩, trivial, trivial, trivial, ⟨rfl, rfl⟩, rfl, trivial, trivial, ⟨rfl, rfl⟩, trivial, trivial, trivial, ⟨rfl, rfl⟩, trivial, trivial, ⟨rfl, rfl⟩, trivial⟩
theorem wk_45_3 : wk_l "TrailStore$View" "isRecord" rt_45_3 := ⟨trivial, trivial, trivial, ⟨rfl, rfl⟩, trivial, trivial, trivial, ⟨rfl, rfl⟩, trivial, trivial, trivial, ⟨rfl, rfl⟩, trivial, trivial, trivial, trivial, trivial⟩
theorem wk_45_4 : wk_l "TrailStore$View" "isRecord" rt_45_4 := ⟨trivial, trivial, trivial⟩
theorem wk_45 : ∀ l ∈ rt_45, wk_l "TrailStore$View" "isRecord" l := by
  intro l hl
  simp only [rt_45, List.mem_cons, List.not_mem_nil, or_false] at hl
  rcases hl with rfl | rfl | rfl | rfl | rfl
  · exact wk_45_0
  · exact wk_45_1
  · exact wk_45_2
  · exact wk_45_3
  · exact wk_45_4
theorem dk_45_0 : (List.range 48).all (fun i => dk_i prog_7_method_5_code rt_45 (0 + i)) = true := by decide +kernel
theorem dk_45_1 : (List.range 32).all (fun i => dk_i prog_7_method_5_code rt_45 (48 + i)) = true := by decide +kernel
theorem dk_45 : ∀ i, i < 80 → dk_i prog_7_method_5_code rt_45 i = true := by
  intro i hi
  by_cases h0 : i < 48
  · have := List.all_eq_true.mp dk_45_0 (i - 0) (List.mem_range.mpr (by omega))
    rwa [show 0 + (i - 0) = i by omega] at this
  by_cases h1 : i < 80
  · have := List.all_eq_true.mp dk_45_1 (i - 48) (List.mem_range.mpr (by omega))
    rwa [show 48 + (i - 48) = i by omega] at this
  exact absurd hi (by omega)
theorem mk_45 : mk_m 45 := ⟨⟨rfl, rfl⟩, ⟨rfl, rfl⟩, by decide +kernel, ⟨⟨rfl, rfl⟩, ⟨rfl, rfl⟩⟩⟩
theorem wk_46_0 : wk_l "TrailStore$View" "takeRecordsBefore" rt_46_0 := ⟨trivial, ⟨rfl, rfl⟩, trivial, trivial, trivial, trivial, trivial, ⟨rfl, rfl⟩, trivial, ⟨rfl, rfl⟩, ⟨rfl, rfl⟩, trivial, trivial, trivial, trivial, ⟨rfl, rfl⟩, trivial⟩
theorem wk_46_1 : wk_l "TrailStore$View" "takeRecordsBefore" rt_46_1 := ⟨trivial, ⟨rfl, rfl⟩, trivial, ⟨rfl, rfl⟩, trivial, trivial, ⟨rfl, rfl⟩, trivial, trivial, trivial, ⟨rfl, rfl⟩, ⟨rfl, rfl⟩, trivial, trivial, ⟨rfl, rfl⟩, trivial, trivial⟩
theorem wk_46_2 : wk_l "TrailStore$View" "takeRecordsBefore" rt_46_2 := ⟨⟨rfl, rfl⟩, trivial, ⟨rfl, rfl⟩, ⟨rfl, rfl⟩, trivial, ⟨⟨rfl, rfl⟩, Or.inl rfl⟩, trivial, trivial, trivial, trivial, ⟨⟨rfl, rfl⟩, Or.inl rfl⟩, trivial, trivial⟩
theorem wk_46 : ∀ l ∈ rt_46, wk_l "TrailStore$View" "takeRecordsBefore" l := by
  intro l hl
  simp only [rt_46, List.mem_cons, List.not_mem_nil, or_false] at hl
  rcases hl with rfl | rfl | rfl
  · exact wk_46_0
  · exact wk_46_1
  · exact wk_46_2
theorem dk_46_0 : (List.range 48).all (fun i => dk_i prog_7_method_6_code rt_46 (0 + i)) = true := by decide +kernel
theorem dk_46 : ∀ i, i < 48 → dk_i prog_7_method_6_code rt_46 i = true := by
  intro i hi
  by_cases h0 : i < 48
  · have := List.all_eq_true.mp dk_46_0 (i - 0) (List.mem_range.mpr (by omega))
    rwa [show 0 + (i - 0) = i by omega] at this
  exact absurd hi (by omega)
theorem mk_46 : mk_m 46 := ⟨⟨rfl, rfl⟩, ⟨rfl, rfl⟩, by decide +kernel, ⟨⟨rfl, rfl⟩, ⟨rfl, rfl⟩⟩⟩
theorem wk_47_0 : wk_l "TrailStore$View" "tableStart" rt_47_0 := ⟨trivial, ⟨rfl, rfl⟩, trivial, ⟨rfl, rfl⟩, trivial, trivial, ⟨rfl, rfl⟩, trivial, trivial⟩
theorem wk_47 : ∀ l ∈ rt_47, wk_l "TrailStore$View" "tableStart" l := by
  intro l hl
  simp only [rt_47, List.mem_cons, List.not_mem_nil, or_false] at hl
  subst hl
  exact wk_47_0
theorem dk_47_0 : (List.range 16).all (fun i => dk_i prog_7_method_7_code rt_47 (0 + i)) = true := by decide +kernel
theorem dk_47 : ∀ i, i < 16 → dk_i prog_7_method_7_code rt_47 i = true := by
  intro i hi
  by_cases h0 : i < 16
  · have := List.all_eq_true.mp dk_47_0 (i - 0) (List.mem_range.mpr (by omega))
    rwa [show 0 + (i - 0) = i by omega] at this
  exact absurd hi (by omega)
theorem mk_47 : mk_m 47 := ⟨⟨rfl, rfl⟩, ⟨rfl, rfl⟩, by decide +kernel, ⟨⟨rfl, rfl⟩, ⟨rfl, rfl⟩⟩⟩
theorem wk_48_0 : wk_l "TrailStore$View" "placesInUse" rt_48_0 := ⟨trivial, trivial, trivial, trivial, trivial, trivial, ⟨rfl, rfl⟩, trivial, trivial, trivial, trivial, ⟨rfl, rfl⟩, trivial, trivial, trivial, trivial, trivial⟩
theorem wk_48_1 : wk_l "TrailStore$View" "placesInUse" rt_48_1 := ⟨trivial, trivial, trivial, trivial, trivial, trivial⟩
theorem wk_48 : ∀ l ∈ rt_48, wk_l "TrailStore$View" "placesInUse" l := by
  intro l hl
  simp only [rt_48, List.mem_cons, List.not_mem_nil, or_false] at hl
  rcases hl with rfl | rfl
  · exact wk_48_0
  · exact wk_48_1
theorem dk_48_0 : (List.range 32).all (fun i => dk_i prog_7_method_8_code rt_48 (0 + i)) = true := by decide +kernel
theorem dk_48 : ∀ i, i < 32 → dk_i prog_7_method_8_code rt_48 i = true := by
  intro i hi
  by_cases h0 : i < 32
  · have := List.all_eq_true.mp dk_48_0 (i - 0) (List.mem_range.mpr (by omega))
    rwa [show 0 + (i - 0) = i by omega] at this
  exact absurd hi (by omega)
theorem mk_48 : mk_m 48 := ⟨⟨rfl, rfl⟩, ⟨rfl, rfl⟩, by decide +kernel, ⟨⟨rfl, rfl⟩, ⟨rfl, rfl⟩⟩⟩
theorem wk_49_0 : wk_l "TrailStore$View" "tablesUpTo" rt_49_0 := ⟨trivial, trivial, trivial, trivial, ⟨rfl, rfl⟩, trivial, trivial, ⟨rfl, rfl⟩, trivial, trivial, ⟨rfl, rfl⟩, trivial, trivial, ⟨rfl, rfl⟩, trivial, trivial, trivial⟩
theorem wk_49_1 : wk_l "TrailStore$View" "tablesUpTo" rt_49_1 := ⟨trivial, trivial, trivial, trivial, trivial⟩
theorem wk_49 : ∀ l ∈ rt_49, wk_l "TrailStore$View" "tablesUpTo" l := by
  intro l hl
  simp only [rt_49, List.mem_cons, List.not_mem_nil, or_false] at hl
  rcases hl with rfl | rfl
  · exact wk_49_0
  · exact wk_49_1
theorem dk_49_0 : (List.range 32).all (fun i => dk_i prog_7_method_9_code rt_49 (0 + i)) = true := by decide +kernel
theorem dk_49 : ∀ i, i < 32 → dk_i prog_7_method_9_code rt_49 i = true := by
  intro i hi
  by_cases h0 : i < 32
  · have := List.all_eq_true.mp dk_49_0 (i - 0) (List.mem_range.mpr (by omega))
    rwa [show 0 + (i - 0) = i by omega] at this
  exact absurd hi (by omega)
theorem mk_49 : mk_m 49 := ⟨⟨rfl, rfl⟩, ⟨rfl, rfl⟩, by decide +kernel, ⟨⟨rfl, rfl⟩, ⟨rfl, rfl⟩⟩⟩
theorem wk_50_0 : wk_l "TrailStore$View" "find" rt_50_0 := ⟨trivial, ⟨rfl, rfl⟩, trivial, ⟨rfl, rfl⟩, trivial, ⟨rfl, rfl⟩, trivial, trivial, trivial, ⟨rfl, rfl⟩, ⟨rfl, rfl⟩, trivial, trivial, ⟨⟨rfl, rfl⟩, Or.inl rfl⟩, trivial, trivial, trivial⟩
theorem wk_50_1 : wk_l "TrailStore$View" "find" rt_50_1 := ⟨⟨rfl, rfl⟩, ⟨rfl, rfl⟩, trivial, trivial, ⟨⟨rfl, rfl⟩, Or.inl rfl⟩, trivial, trivial, ⟨rfl, rfl⟩, ⟨rfl, rfl⟩, trivial, trivial, ⟨⟨rfl, rfl⟩, Or.inl rfl⟩, trivial, trivial, ⟨⟨rfl, rfl⟩, Or.inl rfl⟩, trivial, trivial⟩
theorem wk_50_2 : wk_l "TrailStore$View" "find" rt_50_2 := ⟨trivial, rfl, trivial, trivial, trivial, trivial, ⟨rfl, rfl⟩, trivial, trivial⟩
theorem wk_50 : ∀ l ∈ rt_50, wk_l "TrailStore$View" "find" l := by
  intro l hl
  simp only [rt_50, List.mem_cons, List.not_mem_nil, or_false] at hl
  rcases hl with rfl | rfl | rfl
  · exact wk_50_0
  · exact wk_50_1
  · exact wk_50_2
theorem dk_50_0 : (List.range 48).all (fun i => dk_i prog_7_method_10_code rt_50 (0 + i)) = true := by decide +kernel
theorem dk_50 : ∀ i, i < 48 → dk_i prog_7_method_10_code rt_50 i = true := by
  intro i hi
  by_cases h0 : i < 48
  · have := List.all_eq_true.mp dk_50_0 (i - 0) (List.mem_range.mpr (by omega))
    rwa [show 0 + (i - 0) = i by omega] at this
  exact absurd hi (by omega)
theorem mk_50 : mk_m 50 := ⟨⟨rfl, rfl⟩, ⟨rfl, rfl⟩, by decide +kernel, ⟨⟨rfl, rfl⟩, ⟨rfl, rfl⟩⟩⟩
theorem wk_51_0 : wk_l "TrailStore$View" "findInTables" rt_51_0 := ⟨trivial, ⟨rfl, rfl⟩, trivial, trivial, trivial, trivial, trivial, ⟨rfl, rfl⟩, trivial, trivial, ⟨rfl, rfl⟩, trivial, trivial, trivial, ⟨rfl, rfl⟩, trivial, trivial⟩
theorem wk_51_1 : wk_l "TrailStore$View" "findInTables" rt_51_1 := ⟨trivial, ⟨rfl, rfl⟩, trivial, trivial, trivial, ⟨rfl, rfl⟩, trivial, trivial, trivial, trivial, trivial, trivial, ⟨rfl, rfl⟩, trivial, trivial, ⟨⟨rfl, rfl⟩, Or.inl rfl⟩, trivial⟩
theorem wk_51_2 : wk_l "TrailStore$View" "findInTables" rt_51_2 := ⟨trivial, trivial, trivial, ⟨rfl, rfl⟩, trivial, trivial, ⟨⟨rfl, rfl⟩, Or.inl rfl⟩, trivial, trivial, trivial, ⟨rfl, rfl⟩, trivial, trivial, trivial, trivial, trivial, trivial⟩
theorem wk_51_3 : wk_l "TrailStore$View" "findInTables" rt_51_3 := ⟨trivial, ⟨rfl, rfl⟩, trivial, trivial, trivial, ⟨rfl, rfl⟩, ⟨⟨rfl, rfl⟩, Or.inl rfl⟩, trivial, trivial, ⟨rfl, rfl⟩, trivial, trivial, trivial, ⟨rfl, rfl⟩, ⟨⟨rfl, rfl⟩, Or.inl rfl⟩, trivial, trivial⟩
theorem wk_51_4 : wk_l "TrailStore$View" "findInTables" rt_51_4 := ⟨trivial, ⟨rfl, rfl⟩, trivial, trivial, trivial, ⟨rfl, rfl⟩, ⟨⟨rfl, rfl⟩, Or.inl rfl⟩, trivial, trivial, trivial, trivial⟩
theorem wk_51 : ∀ l ∈ rt_51, wk_l "TrailStore$View" "findInTables" l := by
  intro l hl
  simp only [rt_51, List.mem_cons, List.not_mem_nil, or_false] at hl
  rcases hl with rfl | rfl | rfl | rfl | rfl
  · exact wk_51_0
  · exact wk_51_1
  · exact wk_51_2
  · exact wk_51_3
  · exact wk_51_4
theorem dk_51_0 : (List.range 48).all (fun i => dk_i prog_7_method_11_code rt_51 (0 + i)) = true := by decide +kernel
theorem dk_51_1 : (List.range 32).all (fun i => dk_i prog_7_method_11_code rt_51 (48 + i)) = true := by decide +kernel
theorem dk_51 : ∀ i, i < 80 → dk_i prog_7_method_11_code rt_51 i = true := by
  intro i hi
  by_cases h0 : i < 48
  · have := List.all_eq_true.mp dk_51_0 (i - 0) (List.mem_range.mpr (by omega))
    rwa [show 0 + (i - 0) = i by omega] at this
  by_cases h1 : i < 80
  · have := List.all_eq_true.mp dk_51_1 (i - 48) (List.mem_range.mpr (by omega))
    rwa [show 48 + (i - 48) = i by omega] at this
  exact absurd hi (by omega)
theorem mk_51 : mk_m 51 := ⟨⟨rfl, rfl⟩, ⟨rfl, rfl⟩, by decide +kernel, ⟨⟨rfl, rfl⟩, ⟨rfl, rfl⟩⟩⟩
theorem wk_52_0 : wk_l "TrailStore$View" "entryCell" rt_52_0 := ⟨trivial, trivial, trivial, ⟨rfl, rfl⟩, trivial, trivial, trivial, ⟨rfl, rfl⟩, trivial, trivial, trivial, trivial, trivial, trivial, trivial, trivial, trivial⟩
theorem wk_52_1 : wk_l "TrailStore$View" "entryCell" rt_52_1 := ⟨trivial, trivial, trivial, trivial, trivial, trivial, trivial, trivial, trivial, trivial, trivial, trivial, trivial, trivial, trivial, trivial, trivial⟩
theorem wk_52_2 : wk_l "TrailStore$View" "entryCell" rt_52_2 := ⟨trivial, trivial, ⟨rfl, rfl⟩, trivial, ⟨rfl, rfl⟩, trivial, trivial, trivial, trivial, trivial, trivial, trivial, trivial, trivial, trivial, trivial, trivial⟩
theorem wk_52_3 : wk_l "TrailStore$View" "entryCell" rt_52_3 := ⟨trivial, trivial, trivial, trivial, trivial, trivial, trivial, trivial, trivial, trivial, trivial, trivial⟩
theorem wk_52 : ∀ l ∈ rt_52, wk_l "TrailStore$View" "entryCell" l := by
  intro l hl
  simp only [rt_52, List.mem_cons, List.not_mem_nil, or_false] at hl
  rcases hl with rfl | rfl | rfl | rfl
  · exact wk_52_0
  · exact wk_52_1
  · exact wk_52_2
  · exact wk_52_3
theorem dk_52_0 : (List.range 48).all (fun i => dk_i prog_7_method_12_code rt_52 (0 + i)) = true := by decide +kernel
theorem dk_52_1 : (List.range 16).all (fun i => dk_i prog_7_method_12_code rt_52 (48 + i)) = true := by decide +kernel
theorem dk_52 : ∀ i, i < 64 → dk_i prog_7_method_12_code rt_52 i = true := by
  intro i hi
  by_cases h0 : i < 48
  · have := List.all_eq_true.mp dk_52_0 (i - 0) (List.mem_range.mpr (by omega))
    rwa [show 0 + (i - 0) = i by omega] at this
  by_cases h1 : i < 64
  · have := List.all_eq_true.mp dk_52_1 (i - 48) (List.mem_range.mpr (by omega))
    rwa [show 48 + (i - 48) = i by omega] at this
  exact absurd hi (by omega)
theorem mk_52 : mk_m 52 := ⟨⟨rfl, rfl⟩, ⟨rfl, rfl⟩, by decide +kernel, ⟨⟨rfl, rfl⟩, ⟨rfl, rfl⟩⟩⟩
theorem wk_53_0 : wk_l "TrailStore$View" "filterBits" rt_53_0 := ⟨trivial, trivial, trivial, trivial, trivial, trivial, trivial, trivial, trivial, trivial, trivial, trivial, trivial, trivial, trivial, trivial, trivial⟩
theorem wk_53_1 : wk_l "TrailStore$View" "filterBits" rt_53_1 := ⟨trivial, trivial, trivial⟩
theorem wk_53 : ∀ l ∈ rt_53, wk_l "TrailStore$View" "filterBits" l := by
  intro l hl
  simp only [rt_53, List.mem_cons, List.not_mem_nil, or_false] at hl
  rcases hl with rfl | rfl
  · exact wk_53_0
  · exact wk_53_1
theorem dk_53_0 : (List.range 32).all (fun i => dk_i prog_7_method_13_code rt_53 (0 + i)) = true := by decide +kernel
theorem dk_53 : ∀ i, i < 32 → dk_i prog_7_method_13_code rt_53 i = true := by
  intro i hi
  by_cases h0 : i < 32
  · have := List.all_eq_true.mp dk_53_0 (i - 0) (List.mem_range.mpr (by omega))
    rwa [show 0 + (i - 0) = i by omega] at this
  exact absurd hi (by omega)
theorem mk_53 : mk_m 53 := ⟨⟨rfl, rfl⟩, ⟨rfl, rfl⟩, by decide +kernel, ⟨rfl, rfl⟩⟩
theorem wk_54_0 : wk_l "TrailStore$View" "gatherAll" rt_54_0 := ⟨trivial, trivial, ⟨rfl, rfl⟩, trivial, ⟨rfl, rfl⟩, trivial, trivial, trivial, trivial, trivial, trivial, ⟨rfl, rfl⟩, ⟨rfl, rfl⟩, trivial, trivial, trivial, trivial⟩
theorem wk_54_1 : wk_l "TrailStore$View" "gatherAll" rt_54_1 := ⟨trivial, trivial, trivial, ⟨rfl, rfl⟩, ⟨rfl, rfl⟩, trivial, trivial, trivial, ⟨rfl, rfl⟩, ⟨rfl, rfl⟩, trivial, trivial, trivial, ⟨rfl, rfl⟩, ⟨rfl, rfl⟩, trivial, trivial⟩
theorem wk_54_2 : wk_l "TrailStore$View" "gatherAll" rt_54_2 := ⟨trivial, ⟨rfl, rfl⟩, trivial, trivial, trivial, trivial⟩
theorem wk_54 : ∀ l ∈ rt_54, wk_l "TrailStore$View" "gatherAll" l := by
  intro l hl
  simp only [rt_54, List.mem_cons, List.not_mem_nil, or_false] at hl
  rcases hl with rfl | rfl | rfl
  · exact wk_54_0
  · exact wk_54_1
  · exact wk_54_2
theorem dk_54_0 : (List.range 48).all (fun i => dk_i prog_7_method_14_code rt_54 (0 + i)) = true := by decide +kernel
theorem dk_54 : ∀ i, i < 48 → dk_i prog_7_method_14_code rt_54 i = true := by
  intro i hi
  by_cases h0 : i < 48
  · have := List.all_eq_true.mp dk_54_0 (i - 0) (List.mem_range.mpr (by omega))
    rwa [show 0 + (i - 0) = i by omega] at this
  exact absurd hi (by omega)
theorem mk_54 : mk_m 54 := ⟨⟨rfl, rfl⟩, ⟨rfl, rfl⟩, by decide +kernel, ⟨⟨rfl, rfl⟩, ⟨rfl, rfl⟩⟩⟩
theorem wk_55_0 : wk_l "TrailStore$View" "gatherTables" rt_55_0 := ⟨trivial, ⟨rfl, rfl⟩, trivial, trivial, trivial, trivial, trivial, trivial, trivial, trivial, ⟨rfl, rfl⟩, trivial, trivial, ⟨rfl, rfl⟩, trivial, trivial, trivial⟩
theorem wk_55_1 : wk_l "TrailStore$View" "gatherTables" rt_55_1 := ⟨trivial, ⟨rfl, rfl⟩, trivial, trivial, trivial, trivial, trivial, trivial, trivial, trivial, trivial, trivial, trivial, trivial, trivial, trivial, trivial⟩
theorem wk_55_2 : wk_l "TrailStore$View" "gatherTables" rt_55_2 := ⟨trivial, trivial, ⟨rfl, rfl⟩, trivial, ⟨rfl, rfl⟩, trivial, ⟨rfl, rfl⟩, trivial, trivial, trivial, ⟨rfl, rfl⟩, trivial, ⟨rfl, rfl⟩, trivial, trivial, trivial, trivial⟩
theorem wk_55_3 : wk_l "TrailStore$View" "gatherTables" rt_55_3 := ⟨⟨rfl, rfl⟩, trivial, ⟨rfl, rfl⟩, trivial, trivial, trivial, ⟨rfl, rfl⟩, ⟨rfl, rfl⟩, trivial, trivial, trivial, trivial, trivial, trivial⟩
theorem wk_55 : ∀ l ∈ rt_55, wk_l "TrailStore$View" "gatherTables" l := by
  intro l hl
  simp only [rt_55, List.mem_cons, List.not_mem_nil, or_false] at hl
  rcases hl with rfl | rfl | rfl | rfl
  · exact wk_55_0
  · exact wk_55_1
  · exact wk_55_2
  · exact wk_55_3
theorem dk_55_0 : (List.range 48).all (fun i => dk_i prog_7_method_15_code rt_55 (0 + i)) = true := by decide +kernel
theorem dk_55_1 : (List.range 16).all (fun i => dk_i prog_7_method_15_code rt_55 (48 + i)) = true := by decide +kernel
theorem dk_55 : ∀ i, i < 64 → dk_i prog_7_method_15_code rt_55 i = true := by
  intro i hi
  by_cases h0 : i < 48
  · have := List.all_eq_true.mp dk_55_0 (i - 0) (List.mem_range.mpr (by omega))
    rwa [show 0 + (i - 0) = i by omega] at this
  by_cases h1 : i < 64
  · have := List.all_eq_true.mp dk_55_1 (i - 48) (List.mem_range.mpr (by omega))
    rwa [show 48 + (i - 48) = i by omega] at this
  exact absurd hi (by omega)
theorem mk_55 : mk_m 55 := ⟨⟨rfl, rfl⟩, ⟨rfl, rfl⟩, by decide +kernel, ⟨⟨rfl, rfl⟩, ⟨rfl, rfl⟩⟩⟩
theorem wk_56_0 : wk_l "TrailStore$View" "replaceNewest" rt_56_0 := ⟨trivial, ⟨rfl, rfl⟩, trivial, trivial, trivial, trivial, trivial, trivial, trivial, trivial, trivial, trivial, trivial, trivial, trivial, trivial, trivial⟩
theorem wk_56_1 : wk_l "TrailStore$View" "replaceNewest" rt_56_1 := ⟨trivial, ⟨rfl, rfl⟩, trivial, trivial, trivial, trivial, ⟨rfl, rfl⟩, trivial, trivial, ⟨rfl, rfl⟩, trivial, trivial, ⟨rfl, rfl⟩, trivial, trivial, trivial, trivial⟩
theorem wk_56_2 : wk_l "TrailStore$View" "replaceNewest" rt_56_2 := ⟨⟨rfl, rfl⟩, trivial, trivial, trivial, trivial, trivial, trivial, trivial, ⟨⟨rfl, rfl⟩, Or.inl rfl⟩, trivial, trivial⟩
theorem wk_56 : ∀ l ∈ rt_56, wk_l "TrailStore$View" "replaceNewest" l := by
  intro l hl
  simp only [rt_56, List.mem_cons, List.not_mem_nil, or_false] at hl
  rcases hl with rfl | rfl | rfl
  · exact wk_56_0
  · exact wk_56_1
  · exact wk_56_2
theorem dk_56_0 : (List.range 48).all (fun i => dk_i prog_7_method_16_code rt_56 (0 + i)) = true := by decide +kernel
theorem dk_56 : ∀ i, i < 48 → dk_i prog_7_method_16_code rt_56 i = true := by
  intro i hi
  by_cases h0 : i < 48
  · have := List.all_eq_true.mp dk_56_0 (i - 0) (List.mem_range.mpr (by omega))
    rwa [show 0 + (i - 0) = i by omega] at this
  exact absurd hi (by omega)
theorem mk_56 : mk_m 56 := ⟨⟨rfl, rfl⟩, ⟨rfl, rfl⟩, by decide +kernel, ⟨⟨rfl, rfl⟩, ⟨rfl, rfl⟩⟩⟩
theorem wk_57_0 : wk_l "TrailStore" "<init>" rt_57_0 := ⟨trivial, ⟨rfl, rfl⟩, trivial, ⟨⟨rfl, rfl⟩, ⟨rfl, rfl⟩, ⟨rfl, rfl⟩⟩, trivial, trivial, trivial, trivial, ⟨rfl, rfl⟩, ⟨rfl, rfl⟩, ⟨rfl, rfl⟩, ⟨⟨rfl, rfl⟩, Or.inr ⟨rfl, rfl, rfl⟩⟩, trivial, ⟨⟨rfl, rfl⟩, ⟨rfl, rfl⟩, ⟨rfl, rfl⟩⟩, trivial, trivial, trivial⟩
theorem wk_57_1 : wk_l "TrailStore" "<init>" rt_57_1 := ⟨⟨rfl, rfl⟩, ⟨rfl, rfl⟩, ⟨⟨rfl, rfl⟩, Or.inr ⟨rfl, rfl, rfl⟩⟩, trivial, ⟨⟨rfl, rfl⟩, ⟨rfl, rfl⟩, ⟨rfl, rfl⟩⟩, trivial, trivial, ⟨rfl, rfl⟩, trivial, ⟨rfl, rfl⟩, ⟨rfl, rfl⟩, ⟨⟨rfl, rfl⟩, Or.inr ⟨rfl, rfl, rfl⟩⟩, trivial, ⟨⟨rfl, rfl⟩, ⟨rfl, rfl⟩, ⟨rfl, rfl⟩⟩, trivial, trivial, trivial⟩
theorem wk_57_2 : wk_l "TrailStore" "<init>" rt_57_2 := ⟨⟨rfl, rfl⟩, ⟨rfl, rfl⟩, ⟨⟨rfl, rfl⟩, Or.inr ⟨rfl, rfl, rfl⟩⟩, trivial, ⟨⟨rfl, rfl⟩, ⟨rfl, rfl⟩, ⟨rfl, rfl⟩⟩, trivial, ⟨rfl, rfl⟩, ⟨⟨rfl, rfl⟩, Or.inr ⟨rfl, rfl, rfl⟩⟩, trivial, ⟨⟨rfl, rfl⟩, ⟨rfl, rfl⟩, ⟨rfl, rfl⟩⟩, trivial, ⟨rfl, rfl⟩, ⟨⟨rfl, rfl⟩, Or.inr ⟨rfl, rfl, rfl⟩⟩, trivial, ⟨⟨rfl, rfl⟩, ⟨rfl, rfl⟩, ⟨rfl, rfl⟩⟩, trivial, trivial⟩
theorem wk_57_3 : wk_l "TrailStore" "<init>" rt_57_3 := ⟨⟨rfl, rfl⟩, ⟨⟨rfl, rfl⟩, Or.inr ⟨rfl, rfl, rfl⟩⟩, trivial, trivial, trivial, ⟨⟨rfl, rfl⟩, Or.inr ⟨rfl, rfl, rfl⟩⟩, trivial, trivial, trivial, ⟨⟨rfl, rfl⟩, Or.inr ⟨rfl, rfl, rfl⟩⟩, trivial, ⟨⟨rfl, rfl⟩, ⟨rfl, rfl⟩, ⟨rfl, rfl⟩⟩, trivial, ⟨rfl, rfl⟩, ⟨⟨rfl, rfl⟩, Or.inr ⟨rfl, rfl, rfl⟩⟩, trivial, trivial⟩
theorem wk_57_4 : wk_l "TrailStore" "<init>" rt_57_4 := ⟨⟨⟨rfl, rfl⟩, ⟨rfl, rfl⟩, ⟨rfl, rfl⟩⟩, trivial, ⟨rfl, rfl⟩, ⟨⟨rfl, rfl⟩, Or.inr ⟨rfl, rfl, rfl⟩⟩, trivial, ⟨rfl, rfl⟩, ⟨rfl, rfl⟩, trivial, trivial, trivial⟩
theorem wk_57 : ∀ l ∈ rt_57, wk_l "TrailStore" "<init>" l := by
  intro l hl
  simp only [rt_57, List.mem_cons, List.not_mem_nil, or_false] at hl
  rcases hl with rfl | rfl | rfl | rfl | rfl
  · exact wk_57_0
  · exact wk_57_1
  · exact wk_57_2
  · exact wk_57_3
  · exact wk_57_4
theorem dk_57_0 : (List.range 48).all (fun i => dk_i prog_1_method_1_code rt_57 (0 + i)) = true := by decide +kernel
theorem dk_57_1 : (List.range 32).all (fun i => dk_i prog_1_method_1_code rt_57 (48 + i)) = true := by decide +kernel
theorem dk_57 : ∀ i, i < 80 → dk_i prog_1_method_1_code rt_57 i = true := by
  intro i hi
  by_cases h0 : i < 48
  · have := List.all_eq_true.mp dk_57_0 (i - 0) (List.mem_range.mpr (by omega))
    rwa [show 0 + (i - 0) = i by omega] at this
  by_cases h1 : i < 80
  · have := List.all_eq_true.mp dk_57_1 (i - 48) (List.mem_range.mpr (by omega))
    rwa [show 48 + (i - 48) = i by omega] at this
  exact absurd hi (by omega)
theorem mk_57 : mk_m 57 := ⟨⟨rfl, rfl⟩, ⟨rfl, rfl⟩, by decide +kernel, ⟨⟨rfl, rfl⟩, rfl, rfl⟩⟩
theorem wk_58_0 : wk_l "TrailStore" "type" rt_58_0 := ⟨trivial, ⟨rfl, rfl⟩, ⟨rfl, rfl⟩, trivial, trivial, trivial, trivial, trivial, trivial, trivial, trivial, trivial, trivial, ⟨rfl, rfl⟩, trivial, trivial, trivial⟩
theorem wk_58_1 : wk_l "TrailStore" "type" rt_58_1 := ⟨trivial, trivial, trivial, trivial, trivial, trivial, trivial, trivial, trivial, trivial, trivial, ⟨rfl, rfl⟩, trivial, ⟨rfl, rfl⟩, trivial, trivial, trivial⟩
theorem wk_58_2 : wk_l "TrailStore" "type" rt_58_2 := ⟨trivial, trivial, trivial, trivial, trivial, trivial, trivial, trivial, ⟨rfl, rfl⟩, trivial, trivial, ⟨⟨rfl, rfl⟩, Or.inl rfl⟩, trivial, trivial, trivial, ⟨rfl, rfl⟩, trivial⟩
theorem wk_58_3 : wk_l "TrailStore" "type" rt_58_3 := ⟨trivial, trivial⟩
theorem wk_58 : ∀ l ∈ rt_58, wk_l "TrailStore" "type" l := by
  intro l hl
  simp only [rt_58, List.mem_cons, List.not_mem_nil, or_false] at hl
  rcases hl with rfl | rfl | rfl | rfl
  · exact wk_58_0
  · exact wk_58_1
  · exact wk_58_2
  · exact wk_58_3
theorem dk_58_0 : (List.range 48).all (fun i => dk_i prog_1_method_2_code rt_58 (0 + i)) = true := by decide +kernel
theorem dk_58_1 : (List.range 16).all (fun i => dk_i prog_1_method_2_code rt_58 (48 + i)) = true := by decide +kernel
theorem dk_58 : ∀ i, i < 64 → dk_i prog_1_method_2_code rt_58 i = true := by
  intro i hi
  by_cases h0 : i < 48
  · have := List.all_eq_true.mp dk_58_0 (i - 0) (List.mem_range.mpr (by omega))
    rwa [show 0 + (i - 0) = i by omega] at this
  by_cases h1 : i < 64
  · have := List.all_eq_true.mp dk_58_1 (i - 48) (List.mem_range.mpr (by omega))
    rwa [show 48 + (i - 48) = i by omega] at this
  exact absurd hi (by omega)
theorem mk_58 : mk_m 58 := ⟨⟨rfl, rfl⟩, ⟨rfl, rfl⟩, by decide +kernel, ⟨⟨rfl, rfl⟩, ⟨rfl, rfl⟩⟩⟩
theorem wk_59_0 : wk_l "TrailStore" "put" rt_59_0 := ⟨trivial, ⟨rfl, rfl⟩, ⟨rfl, rfl⟩, trivial, trivial, trivial, trivial, ⟨rfl, rfl⟩, trivial, trivial, ⟨rfl, rfl⟩, ⟨rfl, rfl⟩, trivial, trivial, trivial, trivial, trivial⟩
theorem wk_59_1 : wk_l "TrailStore" "put" rt_59_1 := ⟨trivial, ⟨rfl, rfl⟩, trivial, trivial, trivial, ⟨rfl, rfl⟩, trivial, ⟨rfl, rfl⟩, ⟨rfl, rfl⟩, trivial, trivial, ⟨⟨rfl, rfl⟩, Or.inl rfl⟩, trivial, ⟨rfl, rfl⟩, trivial, trivial, trivial⟩
theorem wk_59_2 : wk_l "TrailStore" "put" rt_59_2 := ⟨⟨rfl, rfl⟩, ⟨rfl, rfl⟩, trivial, trivial, trivial, ⟨rfl, rfl⟩, trivial, ⟨rfl, rfl⟩, ⟨rfl, rfl⟩, ⟨rfl, rfl⟩, trivial, trivial⟩
theorem wk_59 : ∀ l ∈ rt_59, wk_l "TrailStore" "put" l := by
  intro l hl
  simp only [rt_59, List.mem_cons, List.not_mem_nil, or_false] at hl
  rcases hl with rfl | rfl | rfl
  · exact wk_59_0
  · exact wk_59_1
  · exact wk_59_2
theorem dk_59_0 : (List.range 48).all (fun i => dk_i prog_1_method_3_code rt_59 (0 + i)) = true := by decide +kernel
theorem dk_59 : ∀ i, i < 48 → dk_i prog_1_method_3_code rt_59 i = true := by
  intro i hi
  by_cases h0 : i < 48
  · have := List.all_eq_true.mp dk_59_0 (i - 0) (List.mem_range.mpr (by omega))
    rwa [show 0 + (i - 0) = i by omega] at this
  exact absurd hi (by omega)
theorem mk_59 : mk_m 59 := ⟨⟨rfl, rfl⟩, ⟨rfl, rfl⟩, by decide +kernel, ⟨⟨rfl, rfl⟩, ⟨rfl, rfl⟩⟩⟩
theorem wk_60_0 : wk_l "TrailStore" "remove" rt_60_0 := ⟨trivial, ⟨rfl, rfl⟩, ⟨rfl, rfl⟩, trivial, trivial, trivial, trivial, ⟨rfl, rfl⟩, trivial, trivial, ⟨rfl, rfl⟩, ⟨rfl, rfl⟩, trivial, trivial, trivial, trivial, trivial⟩
theorem wk_60_1 : wk_l "TrailStore" "remove" rt_60_1 := ⟨trivial, ⟨rfl, rfl⟩, trivial, trivial, trivial, ⟨rfl, rfl⟩, trivial, trivial, trivial, trivial, ⟨rfl, rfl⟩, trivial, trivial, trivial, ⟨rfl, rfl⟩, trivial, trivial⟩
theorem wk_60_2 : wk_l "TrailStore" "remove" rt_60_2 := ⟨⟨rfl, rfl⟩, trivial, ⟨rfl, rfl⟩, trivial, trivial, ⟨rfl, rfl⟩, ⟨rfl, rfl⟩, trivial, trivial, trivial, ⟨rfl, rfl⟩, trivial, ⟨rfl, rfl⟩, ⟨rfl, rfl⟩, ⟨rfl, rfl⟩, trivial, trivial⟩
theorem wk_60 : ∀ l ∈ rt_60, wk_l "TrailStore" "remove" l := by
  intro l hl
  simp only [rt_60, List.mem_cons, List.not_mem_nil, or_false] at hl
  rcases hl with rfl | rfl | rfl
  · exact wk_60_0
  · exact wk_60_1
  · exact wk_60_2
theorem dk_60_0 : (List.range 48).all (fun i => dk_i prog_1_method_4_code rt_60 (0 + i)) = true := by decide +kernel
theorem dk_60 : ∀ i, i < 48 → dk_i prog_1_method_4_code rt_60 i = true := by
  intro i hi
  by_cases h0 : i < 48
  · have := List.all_eq_true.mp dk_60_0 (i - 0) (List.mem_range.mpr (by omega))
    rwa [show 0 + (i - 0) = i by omega] at this
  exact absurd hi (by omega)
theorem mk_60 : mk_m 60 := ⟨⟨rfl, rfl⟩, ⟨rfl, rfl⟩, by decide +kernel, ⟨⟨rfl, rfl⟩, ⟨rfl, rfl⟩⟩⟩
theorem wk_61_0 : wk_l "TrailStore" "begin" rt_61_0 := ⟨trivial, ⟨rfl, rfl⟩, ⟨rfl, rfl⟩, trivial, trivial, trivial, trivial, ⟨rfl, rfl⟩, trivial, trivial, trivial, trivial, trivial, ⟨⟨rfl, rfl⟩, Or.inl rfl⟩, trivial, trivial, trivial⟩
theorem wk_61 : ∀ l ∈ rt_61, wk_l "TrailStore" "begin" l := by
  intro l hl
  simp only [rt_61, List.mem_cons, List.not_mem_nil, or_false] at hl
  subst hl
  exact wk_61_0
theorem dk_61_0 : (List.range 16).all (fun i => dk_i prog_1_method_5_code rt_61 (0 + i)) = true := by decide +kernel
theorem dk_61 : ∀ i, i < 16 → dk_i prog_1_method_5_code rt_61 i = true := by
  intro i hi
  by_cases h0 : i < 16
  · have := List.all_eq_true.mp dk_61_0 (i - 0) (List.mem_range.mpr (by omega))
    rwa [show 0 + (i - 0) = i by omega] at this
  exact absurd hi (by omega)
theorem mk_61 : mk_m 61 := ⟨⟨rfl, rfl⟩, ⟨rfl, rfl⟩, by decide +kernel, ⟨⟨rfl, rfl⟩, ⟨rfl, rfl⟩⟩⟩
theorem wk_62_0 : wk_l "TrailStore" "commit" rt_62_0 := ⟨trivial, ⟨rfl, rfl⟩, ⟨rfl, rfl⟩, trivial, trivial, trivial, trivial, ⟨rfl, rfl⟩, ⟨rfl, rfl⟩, trivial, trivial, trivial, ⟨rfl, rfl⟩, trivial, trivial, trivial, trivial⟩
theorem wk_62_1 : wk_l "TrailStore" "commit" rt_62_1 := ⟨⟨rfl, rfl⟩, trivial, ⟨rfl, rfl⟩, ⟨rfl, rfl⟩, ⟨rfl, rfl⟩, trivial, trivial⟩
theorem wk_62 : ∀ l ∈ rt_62, wk_l "TrailStore" "commit" l := by
  intro l hl
  simp only [rt_62, List.mem_cons, List.not_mem_nil, or_false] at hl
  rcases hl with rfl | rfl
  · exact wk_62_0
  · exact wk_62_1
theorem dk_62_0 : (List.range 32).all (fun i => dk_i prog_1_method_6_code rt_62 (0 + i)) = true := by decide +kernel
theorem dk_62 : ∀ i, i < 32 → dk_i prog_1_method_6_code rt_62 i = true := by
  intro i hi
  by_cases h0 : i < 32
  · have := List.all_eq_true.mp dk_62_0 (i - 0) (List.mem_range.mpr (by omega))
    rwa [show 0 + (i - 0) = i by omega] at this
  exact absurd hi (by omega)
theorem mk_62 : mk_m 62 := ⟨⟨rfl, rfl⟩, ⟨rfl, rfl⟩, by decide +kernel, ⟨⟨rfl, rfl⟩, ⟨rfl, rfl⟩⟩⟩
theorem wk_63_0 : wk_l "TrailStore" "cancel" rt_63_0 := ⟨trivial, ⟨rfl, rfl⟩, ⟨rfl, rfl⟩, trivial, trivial, trivial, trivial, trivial, ⟨rfl, rfl⟩, trivial, trivial, ⟨rfl, rfl⟩, ⟨rfl, rfl⟩, trivial, trivial, ⟨rfl, rfl⟩, trivial⟩
theorem wk_63_1 : wk_l "TrailStore" "cancel" rt_63_1 := ⟨trivial, trivial⟩
theorem wk_63 : ∀ l ∈ rt_63, wk_l "TrailStore" "cancel" l := by
  intro l hl
  simp only [rt_63, List.mem_cons, List.not_mem_nil, or_false] at hl
  rcases hl with rfl | rfl
  · exact wk_63_0
  · exact wk_63_1
theorem dk_63_0 : (List.range 32).all (fun i => dk_i prog_1_method_7_code rt_63 (0 + i)) = true := by decide +kernel
theorem dk_63 : ∀ i, i < 32 → dk_i prog_1_method_7_code rt_63 i = true := by
  intro i hi
  by_cases h0 : i < 32
  · have := List.all_eq_true.mp dk_63_0 (i - 0) (List.mem_range.mpr (by omega))
    rwa [show 0 + (i - 0) = i by omega] at this
  exact absurd hi (by omega)
theorem mk_63 : mk_m 63 := ⟨⟨rfl, rfl⟩, ⟨rfl, rfl⟩, by decide +kernel, ⟨⟨rfl, rfl⟩, ⟨rfl, rfl⟩⟩⟩
theorem wk_64_0 : wk_l "TrailStore" "get" rt_64_0 := ⟨trivial, ⟨rfl, rfl⟩, ⟨rfl, rfl⟩, trivial, trivial, trivial, trivial, trivial, ⟨⟨rfl, rfl⟩, Or.inl rfl⟩, trivial, ⟨rfl, rfl⟩, trivial, trivial, ⟨rfl, rfl⟩, ⟨rfl, rfl⟩, trivial, trivial⟩
theorem wk_64_1 : wk_l "TrailStore" "get" rt_64_1 := ⟨⟨rfl, rfl⟩, ⟨rfl, rfl⟩, trivial, trivial, trivial, trivial, trivial, trivial, ⟨rfl, rfl⟩, trivial, ⟨rfl, rfl⟩, ⟨rfl, rfl⟩, trivial, ⟨rfl, rfl⟩, ⟨rfl, rfl⟩, ⟨⟨rfl, rfl⟩, Or.inl rfl⟩, trivial⟩
theorem wk_64_2 : wk_l "TrailStore" "get" rt_64_2 := ⟨trivial, ⟨rfl, rfl⟩, trivial, trivial⟩
theorem wk_64 : ∀ l ∈ rt_64, wk_l "TrailStore" "get" l := by
  intro l hl
  simp only [rt_64, List.mem_cons, List.not_mem_nil, or_false] at hl
  rcases hl with rfl | rfl | rfl
  · exact wk_64_0
  · exact wk_64_1
  · exact wk_64_2
theorem dk_64_0 : (List.range 48).all (fun i => dk_i prog_1_method_8_code rt_64 (0 + i)) = true := by decide +kernel
theorem dk_64 : ∀ i, i < 48 → dk_i prog_1_method_8_code rt_64 i = true := by
  intro i hi
  by_cases h0 : i < 48
  · have := List.all_eq_true.mp dk_64_0 (i - 0) (List.mem_range.mpr (by omega))
    rwa [show 0 + (i - 0) = i by omega] at this
  exact absurd hi (by omega)
theorem mk_64 : mk_m 64 := ⟨⟨rfl, rfl⟩, ⟨rfl, rfl⟩, by decide +kernel, ⟨⟨rfl, rfl⟩, ⟨rfl, rfl⟩⟩⟩
theorem wk_65_0 : wk_l "TrailStore" "read" rt_65_0 := ⟨trivial, trivial, trivial, trivial, ⟨rfl, rfl⟩, trivial, trivial, trivial, trivial, ⟨rfl, rfl⟩, trivial, trivial, trivial, trivial, trivial, trivial⟩
theorem wk_65 : ∀ l ∈ rt_65, wk_l "TrailStore" "read" l := by
  intro l hl
  simp only [rt_65, List.mem_cons, List.not_mem_nil, or_false] at hl
  subst hl
  exact wk_65_0
theorem dk_65_0 : (List.range 16).all (fun i => dk_i prog_1_method_9_code rt_65 (0 + i)) = true := by decide +kernel
theorem dk_65 : ∀ i, i < 16 → dk_i prog_1_method_9_code rt_65 i = true := by
  intro i hi
  by_cases h0 : i < 16
  · have := List.all_eq_true.mp dk_65_0 (i - 0) (List.mem_range.mpr (by omega))
    rwa [show 0 + (i - 0) = i by omega] at this
  exact absurd hi (by omega)
theorem mk_65 : mk_m 65 := ⟨⟨rfl, rfl⟩, ⟨rfl, rfl⟩, by decide +kernel, ⟨⟨rfl, rfl⟩, ⟨rfl, rfl⟩⟩⟩
theorem wk_66_0 : wk_l "TrailStore" "next" rt_66_0 := ⟨trivial, ⟨rfl, rfl⟩, ⟨rfl, rfl⟩, trivial, trivial, trivial, trivial, ⟨rfl, rfl⟩, trivial, ⟨rfl, rfl⟩, ⟨rfl, rfl⟩, trivial, trivial, ⟨rfl, rfl⟩, trivial, trivial, trivial⟩
theorem wk_66_1 : wk_l "TrailStore" "next" rt_66_1 := ⟨trivial, trivial, trivial, ⟨rfl, rfl⟩, ⟨rfl, rfl⟩, trivial, trivial, trivial, trivial, trivial, trivial, trivial, trivial, trivial, trivial, trivial⟩
theorem wk_66 : ∀ l ∈ rt_66, wk_l "TrailStore" "next" l := by
  intro l hl
  simp only [rt_66, List.mem_cons, List.not_mem_nil, or_false] at hl
  rcases hl with rfl | rfl
  · exact wk_66_0
  · exact wk_66_1
theorem dk_66_0 : (List.range 32).all (fun i => dk_i prog_1_method_10_code rt_66 (0 + i)) = true := by decide +kernel
theorem dk_66 : ∀ i, i < 32 → dk_i prog_1_method_10_code rt_66 i = true := by
  intro i hi
  by_cases h0 : i < 32
  · have := List.all_eq_true.mp dk_66_0 (i - 0) (List.mem_range.mpr (by omega))
    rwa [show 0 + (i - 0) = i by omega] at this
  exact absurd hi (by omega)
theorem mk_66 : mk_m 66 := ⟨⟨rfl, rfl⟩, ⟨rfl, rfl⟩, by decide +kernel, ⟨⟨rfl, rfl⟩, ⟨rfl, rfl⟩⟩⟩
theorem wk_67_0 : wk_l "TrailStore" "sync" rt_67_0 := ⟨trivial, ⟨rfl, rfl⟩, ⟨rfl, rfl⟩, trivial, trivial, trivial, trivial, ⟨rfl, rfl⟩, ⟨rfl, rfl⟩, trivial, trivial, ⟨rfl, rfl⟩, ⟨rfl, rfl⟩, trivial, trivial, trivial⟩
theorem wk_67 : ∀ l ∈ rt_67, wk_l "TrailStore" "sync" l := by
  intro l hl
  simp only [rt_67, List.mem_cons, List.not_mem_nil, or_false] at hl
  subst hl
  exact wk_67_0
theorem dk_67_0 : (List.range 16).all (fun i => dk_i prog_1_method_11_code rt_67 (0 + i)) = true := by decide +kernel
theorem dk_67 : ∀ i, i < 16 → dk_i prog_1_method_11_code rt_67 i = true := by
  intro i hi
  by_cases h0 : i < 16
  · have := List.all_eq_true.mp dk_67_0 (i - 0) (List.mem_range.mpr (by omega))
    rwa [show 0 + (i - 0) = i by omega] at this
  exact absurd hi (by omega)
theorem mk_67 : mk_m 67 := ⟨⟨rfl, rfl⟩, ⟨rfl, rfl⟩, by decide +kernel, ⟨⟨rfl, rfl⟩, ⟨rfl, rfl⟩⟩⟩
theorem wk_68_0 : wk_l "TrailStore" "checkpoint" rt_68_0 := ⟨trivial, ⟨rfl, rfl⟩, ⟨rfl, rfl⟩, trivial, trivial, trivial, trivial, ⟨rfl, rfl⟩, ⟨rfl, rfl⟩, trivial, trivial, ⟨rfl, rfl⟩, ⟨rfl, rfl⟩, ⟨rfl, rfl⟩, trivial, trivial⟩
theorem wk_68 : ∀ l ∈ rt_68, wk_l "TrailStore" "checkpoint" l := by
  intro l hl
  simp only [rt_68, List.mem_cons, List.not_mem_nil, or_false] at hl
  subst hl
  exact wk_68_0
theorem dk_68_0 : (List.range 16).all (fun i => dk_i prog_1_method_12_code rt_68 (0 + i)) = true := by decide +kernel
theorem dk_68 : ∀ i, i < 16 → dk_i prog_1_method_12_code rt_68 i = true := by
  intro i hi
  by_cases h0 : i < 16
  · have := List.all_eq_true.mp dk_68_0 (i - 0) (List.mem_range.mpr (by omega))
    rwa [show 0 + (i - 0) = i by omega] at this
  exact absurd hi (by omega)
theorem mk_68 : mk_m 68 := ⟨⟨rfl, rfl⟩, ⟨rfl, rfl⟩, by decide +kernel, ⟨⟨rfl, rfl⟩, ⟨rfl, rfl⟩⟩⟩
theorem wk_69_0 : wk_l "TrailStore" "collect" rt_69_0 := ⟨trivial, ⟨rfl, rfl⟩, ⟨rfl, rfl⟩, trivial, trivial, trivial, trivial, trivial, trivial, trivial, trivial, trivial, trivial, trivial, trivial, trivial, trivial⟩
theorem wk_69_1 : wk_l "TrailStore" "collect" rt_69_1 := ⟨⟨rfl, rfl⟩, trivial, ⟨rfl, rfl⟩, ⟨rfl, rfl⟩, trivial, trivial⟩
theorem wk_69 : ∀ l ∈ rt_69, wk_l "TrailStore" "collect" l := by
  intro l hl
  simp only [rt_69, List.mem_cons, List.not_mem_nil, or_false] at hl
  rcases hl with rfl | rfl
  · exact wk_69_0
  · exact wk_69_1
theorem dk_69_0 : (List.range 32).all (fun i => dk_i prog_1_method_13_code rt_69 (0 + i)) = true := by decide +kernel
theorem dk_69 : ∀ i, i < 32 → dk_i prog_1_method_13_code rt_69 i = true := by
  intro i hi
  by_cases h0 : i < 32
  · have := List.all_eq_true.mp dk_69_0 (i - 0) (List.mem_range.mpr (by omega))
    rwa [show 0 + (i - 0) = i by omega] at this
  exact absurd hi (by omega)
theorem mk_69 : mk_m 69 := ⟨⟨rfl, rfl⟩, ⟨rfl, rfl⟩, by decide +kernel, ⟨⟨rfl, rfl⟩, ⟨rfl, rfl⟩⟩⟩
theorem wk_70_0 : wk_l "TrailStore" "crash" rt_70_0 := ⟨trivial, ⟨rfl, rfl⟩, ⟨rfl, rfl⟩, trivial, trivial, trivial, trivial, trivial, trivial, trivial, trivial, trivial, trivial, ⟨rfl, rfl⟩, ⟨rfl, rfl⟩, trivial, trivial⟩
theorem wk_70_1 : wk_l "TrailStore" "crash" rt_70_1 := ⟨trivial, trivial, trivial, ⟨rfl, rfl⟩, trivial, trivial, trivial⟩
theorem wk_70 : ∀ l ∈ rt_70, wk_l "TrailStore" "crash" l := by
  intro l hl
  simp only [rt_70, List.mem_cons, List.not_mem_nil, or_false] at hl
  rcases hl with rfl | rfl
  · exact wk_70_0
  · exact wk_70_1
theorem dk_70_0 : (List.range 32).all (fun i => dk_i prog_1_method_14_code rt_70 (0 + i)) = true := by decide +kernel
theorem dk_70 : ∀ i, i < 32 → dk_i prog_1_method_14_code rt_70 i = true := by
  intro i hi
  by_cases h0 : i < 32
  · have := List.all_eq_true.mp dk_70_0 (i - 0) (List.mem_range.mpr (by omega))
    rwa [show 0 + (i - 0) = i by omega] at this
  exact absurd hi (by omega)
theorem mk_70 : mk_m 70 := ⟨⟨rfl, rfl⟩, ⟨rfl, rfl⟩, by decide +kernel, ⟨⟨rfl, rfl⟩, ⟨rfl, rfl⟩⟩⟩
theorem wk_71_0 : wk_l "TrailStore" "fail" rt_71_0 := ⟨trivial, ⟨rfl, rfl⟩, ⟨rfl, rfl⟩, trivial, trivial, trivial, trivial, trivial, trivial, trivial, trivial, trivial, trivial, trivial, trivial, trivial, trivial⟩
theorem wk_71_1 : wk_l "TrailStore" "fail" rt_71_1 := ⟨trivial, trivial, trivial, ⟨rfl, rfl⟩, trivial, ⟨⟨rfl, rfl⟩, Or.inl rfl⟩, trivial, ⟨rfl, rfl⟩, trivial, ⟨⟨rfl, rfl⟩, Or.inl rfl⟩, trivial, ⟨rfl, rfl⟩, trivial, ⟨⟨rfl, rfl⟩, Or.inl rfl⟩, trivial, trivial, trivial⟩
theorem wk_71 : ∀ l ∈ rt_71, wk_l "TrailStore" "fail" l := by
  intro l hl
  simp only [rt_71, List.mem_cons, List.not_mem_nil, or_false] at hl
  rcases hl with rfl | rfl
  · exact wk_71_0
  · exact wk_71_1
theorem dk_71_0 : (List.range 32).all (fun i => dk_i prog_1_method_15_code rt_71 (0 + i)) = true := by decide +kernel
theorem dk_71 : ∀ i, i < 32 → dk_i prog_1_method_15_code rt_71 i = true := by
  intro i hi
  by_cases h0 : i < 32
  · have := List.all_eq_true.mp dk_71_0 (i - 0) (List.mem_range.mpr (by omega))
    rwa [show 0 + (i - 0) = i by omega] at this
  exact absurd hi (by omega)
theorem mk_71 : mk_m 71 := ⟨⟨rfl, rfl⟩, ⟨rfl, rfl⟩, by decide +kernel, ⟨⟨rfl, rfl⟩, ⟨rfl, rfl⟩⟩⟩
theorem wk_72_0 : wk_l "TrailStore" "spare" rt_72_0 := ⟨trivial, ⟨rfl, rfl⟩, ⟨rfl, rfl⟩, trivial, trivial, trivial, trivial, ⟨rfl, rfl⟩, ⟨rfl, rfl⟩, trivial, trivial, trivial, trivial, trivial, trivial, ⟨rfl, rfl⟩, trivial⟩
theorem wk_72_1 : wk_l "TrailStore" "spare" rt_72_1 := ⟨trivial, ⟨⟨rfl, rfl⟩, Or.inl rfl⟩, trivial, trivial, trivial⟩
theorem wk_72 : ∀ l ∈ rt_72, wk_l "TrailStore" "spare" l := by
  intro l hl
  simp only [rt_72, List.mem_cons, List.not_mem_nil, or_false] at hl
  rcases hl with rfl | rfl
  · exact wk_72_0
  · exact wk_72_1
theorem dk_72_0 : (List.range 32).all (fun i => dk_i prog_1_method_16_code rt_72 (0 + i)) = true := by decide +kernel
theorem dk_72 : ∀ i, i < 32 → dk_i prog_1_method_16_code rt_72 i = true := by
  intro i hi
  by_cases h0 : i < 32
  · have := List.all_eq_true.mp dk_72_0 (i - 0) (List.mem_range.mpr (by omega))
    rwa [show 0 + (i - 0) = i by omega] at this
  exact absurd hi (by omega)
theorem mk_72 : mk_m 72 := ⟨⟨rfl, rfl⟩, ⟨rfl, rfl⟩, by decide +kernel, ⟨⟨rfl, rfl⟩, ⟨rfl, rfl⟩⟩⟩
theorem wk_73_0 : wk_l "TrailStore" "open" rt_73_0 := ⟨trivial, ⟨rfl, rfl⟩, ⟨rfl, rfl⟩, trivial, trivial, trivial, trivial, ⟨rfl, rfl⟩, ⟨rfl, rfl⟩, trivial, ⟨rfl, rfl⟩, ⟨rfl, rfl⟩, trivial, trivial⟩
theorem wk_73 : ∀ l ∈ rt_73, wk_l "TrailStore" "open" l := by
  intro l hl
  simp only [rt_73, List.mem_cons, List.not_mem_nil, or_false] at hl
  subst hl
  exact wk_73_0
theorem dk_73_0 : (List.range 16).all (fun i => dk_i prog_1_method_17_code rt_73 (0 + i)) = true := by decide +kernel
theorem dk_73 : ∀ i, i < 16 → dk_i prog_1_method_17_code rt_73 i = true := by
  intro i hi
  by_cases h0 : i < 16
  · have := List.all_eq_true.mp dk_73_0 (i - 0) (List.mem_range.mpr (by omega))
    rwa [show 0 + (i - 0) = i by omega] at this
  exact absurd hi (by omega)
theorem mk_73 : mk_m 73 := ⟨⟨rfl, rfl⟩, ⟨rfl, rfl⟩, by decide +kernel, ⟨⟨rfl, rfl⟩, ⟨rfl, rfl⟩⟩⟩
theorem wk_74_0 : wk_l "TrailStore" "told" rt_74_0 := ⟨trivial, trivial, trivial, trivial, ⟨rfl, rfl⟩, ⟨rfl, rfl⟩, trivial, trivial, trivial, trivial, trivial, ⟨rfl, rfl⟩, ⟨rfl, rfl⟩, trivial, trivial, ⟨rfl, rfl⟩, trivial⟩
theorem wk_74_1 : wk_l "TrailStore" "told" rt_74_1 := ⟨⟨rfl, rfl⟩, trivial, trivial, trivial, trivial, trivial, trivial, ⟨rfl, rfl⟩, ⟨rfl, rfl⟩, trivial, trivial, ⟨rfl, rfl⟩, ⟨rfl, rfl⟩, trivial, trivial, ⟨rfl, rfl⟩, trivial⟩
theorem wk_74_2 : wk_l "TrailStore" "told" rt_74_2 := ⟨⟨rfl, rfl⟩, trivial, trivial, ⟨rfl, rfl⟩, ⟨rfl, rfl⟩, trivial, trivial, ⟨rfl, rfl⟩, ⟨rfl, rfl⟩, trivial, trivial, ⟨rfl, rfl⟩, ⟨rfl, rfl⟩, ⟨rfl, rfl⟩, trivial, trivial, trivial⟩
theorem wk_74_3 : wk_l "TrailStore" "told" rt_74_3 := ⟨⟨rfl, rfl⟩, ⟨rfl, rfl⟩, trivial, trivial, ⟨rfl, rfl⟩, ⟨rfl, rfl⟩, trivial, trivial, ⟨rfl, rfl⟩, trivial, trivial, ⟨rfl, rfl⟩, trivial, trivial, ⟨rfl, rfl⟩, trivial, trivial⟩
theorem wk_74_4 : wk_l "TrailStore" "told" rt_74_4 := ⟨trivial, ⟨rfl, rfl⟩, trivial, trivial, ⟨rfl, rfl⟩, ⟨rfl, rfl⟩, trivial, trivial, trivial, trivial, ⟨rfl, rfl⟩, ⟨rfl, rfl⟩, trivial, trivial, trivial, trivial⟩
theorem wk_74 : ∀ l ∈ rt_74, wk_l "TrailStore" "told" l := by
  intro l hl
  simp only [rt_74, List.mem_cons, List.not_mem_nil, or_false] at hl
  rcases hl with rfl | rfl | rfl | rfl | rfl
  · exact wk_74_0
  · exact wk_74_1
  · exact wk_74_2
  · exact wk_74_3
  · exact wk_74_4
theorem dk_74_0 : (List.range 48).all (fun i => dk_i prog_1_method_18_code rt_74 (0 + i)) = true := by decide +kernel
theorem dk_74_1 : (List.range 32).all (fun i => dk_i prog_1_method_18_code rt_74 (48 + i)) = true := by decide +kernel
theorem dk_74 : ∀ i, i < 80 → dk_i prog_1_method_18_code rt_74 i = true := by
  intro i hi
  by_cases h0 : i < 48
  · have := List.all_eq_true.mp dk_74_0 (i - 0) (List.mem_range.mpr (by omega))
    rwa [show 0 + (i - 0) = i by omega] at this
  by_cases h1 : i < 80
  · have := List.all_eq_true.mp dk_74_1 (i - 48) (List.mem_range.mpr (by omega))
    rwa [show 48 + (i - 48) = i by omega] at this
  exact absurd hi (by omega)
theorem mk_74 : mk_m 74 := ⟨⟨rfl, rfl⟩, ⟨rfl, rfl⟩, by decide +kernel, ⟨⟨rfl, rfl⟩, ⟨rfl, rfl⟩⟩⟩
theorem wk_75_0 : wk_l "TrailStore" "table" rt_75_0 := ⟨trivial, ⟨rfl, rfl⟩, ⟨rfl, rfl⟩, trivial, trivial, trivial, trivial, trivial, trivial, trivial, ⟨rfl, rfl⟩, ⟨rfl, rfl⟩, trivial, trivial, trivial, trivial, trivial⟩
theorem wk_75_1 : wk_l "TrailStore" "table" rt_75_1 := ⟨⟨rfl, rfl⟩, trivial, ⟨rfl, rfl⟩, trivial, trivial, ⟨rfl, rfl⟩, trivial, trivial, trivial, ⟨rfl, rfl⟩, trivial, trivial, trivial, trivial, ⟨rfl, rfl⟩, trivial, trivial⟩
theorem wk_75_2 : wk_l "TrailStore" "table" rt_75_2 := ⟨trivial, trivial, ⟨rfl, rfl⟩, trivial, trivial, trivial, trivial, ⟨rfl, rfl⟩, ⟨rfl, rfl⟩, trivial, trivial, trivial, trivial, ⟨rfl, rfl⟩, trivial, trivial, trivial⟩
theorem wk_75_3 : wk_l "TrailStore" "table" rt_75_3 := ⟨trivial, ⟨rfl, rfl⟩, trivial, trivial, ⟨rfl, rfl⟩, trivial, trivial, trivial, ⟨rfl, rfl⟩, trivial, trivial, ⟨rfl, rfl⟩, trivial, trivial, trivial, trivial, trivial⟩
theorem wk_75_4 : wk_l "TrailStore" "table" rt_75_4 := ⟨trivial, trivial, trivial, trivial, trivial, ⟨rfl, rfl⟩, trivial, trivial, ⟨rfl, rfl⟩, trivial, trivial, trivial, ⟨rfl, rfl⟩, trivial, trivial, trivial, trivial⟩
theorem wk_75 : ∀ l ∈ rt_75, wk_l "TrailStore" "table" l := by
  intro l hl
  simp only [rt_75, List.mem_cons, List.not_mem_nil, or_false] at hl
  rcases hl with rfl | rfl | rfl | rfl | rfl
  · exact wk_75_0
  · exact wk_75_1
  · exact wk_75_2
  · exact wk_75_3
  · exact wk_75_4
theorem dk_75_0 : (List.range 48).all (fun i => dk_i prog_1_method_19_code rt_75 (0 + i)) = true := by decide +kernel
theorem dk_75_1 : (List.range 32).all (fun i => dk_i prog_1_method_19_code rt_75 (48 + i)) = true := by decide +kernel
theorem dk_75 : ∀ i, i < 80 → dk_i prog_1_method_19_code rt_75 i = true := by
  intro i hi
  by_cases h0 : i < 48
  · have := List.all_eq_true.mp dk_75_0 (i - 0) (List.mem_range.mpr (by omega))
    rwa [show 0 + (i - 0) = i by omega] at this
  by_cases h1 : i < 80
  · have := List.all_eq_true.mp dk_75_1 (i - 48) (List.mem_range.mpr (by omega))
    rwa [show 48 + (i - 48) = i by omega] at this
  exact absurd hi (by omega)
theorem mk_75 : mk_m 75 := ⟨⟨rfl, rfl⟩, ⟨rfl, rfl⟩, by decide +kernel, ⟨⟨rfl, rfl⟩, ⟨rfl, rfl⟩⟩⟩
theorem wk_76_0 : wk_l "TrailStore" "entry" rt_76_0 := ⟨trivial, ⟨rfl, rfl⟩, ⟨rfl, rfl⟩, trivial, trivial, trivial, trivial, ⟨rfl, rfl⟩, trivial, trivial, ⟨rfl, rfl⟩, ⟨rfl, rfl⟩, trivial, ⟨rfl, rfl⟩, ⟨rfl, rfl⟩, trivial, trivial⟩
theorem wk_76_1 : wk_l "TrailStore" "entry" rt_76_1 := ⟨trivial, trivial, trivial, trivial, trivial, ⟨rfl, rfl⟩, ⟨rfl, rfl⟩, trivial, trivial, ⟨rfl, rfl⟩, ⟨rfl, rfl⟩, trivial, trivial, ⟨rfl, rfl⟩, ⟨rfl, rfl⟩, trivial, trivial⟩
theorem wk_76_2 : wk_l "TrailStore" "entry" rt_76_2 := ⟨trivial, ⟨rfl, rfl⟩, ⟨rfl, rfl⟩, trivial, trivial, trivial, trivial, trivial, trivial, trivial, trivial⟩
theorem wk_76 : ∀ l ∈ rt_76, wk_l "TrailStore" "entry" l := by
  intro l hl
  simp only [rt_76, List.mem_cons, List.not_mem_nil, or_false] at hl
  rcases hl with rfl | rfl | rfl
  · exact wk_76_0
  · exact wk_76_1
  · exact wk_76_2
theorem dk_76_0 : (List.range 48).all (fun i => dk_i prog_1_method_20_code rt_76 (0 + i)) = true := by decide +kernel
theorem dk_76 : ∀ i, i < 48 → dk_i prog_1_method_20_code rt_76 i = true := by
  intro i hi
  by_cases h0 : i < 48
  · have := List.all_eq_true.mp dk_76_0 (i - 0) (List.mem_range.mpr (by omega))
    rwa [show 0 + (i - 0) = i by omega] at this
  exact absurd hi (by omega)
theorem mk_76 : mk_m 76 := ⟨⟨rfl, rfl⟩, ⟨rfl, rfl⟩, by decide +kernel, ⟨⟨rfl, rfl⟩, ⟨rfl, rfl⟩⟩⟩
theorem wk_77_0 : wk_l "TrailStore" "cell" rt_77_0 := ⟨trivial, ⟨rfl, rfl⟩, trivial, trivial, ⟨rfl, rfl⟩, trivial, trivial, trivial, trivial, trivial, trivial, trivial, ⟨rfl, rfl⟩, trivial, ⟨rfl, rfl⟩, trivial, trivial⟩
theorem wk_77 : ∀ l ∈ rt_77, wk_l "TrailStore" "cell" l := by
  intro l hl
  simp only [rt_77, List.mem_cons, List.not_mem_nil, or_false] at hl
  subst hl
  exact wk_77_0
theorem dk_77_0 : (List.range 16).all (fun i => dk_i prog_1_method_21_code rt_77 (0 + i)) = true := by decide +kernel
theorem dk_77 : ∀ i, i < 16 → dk_i prog_1_method_21_code rt_77 i = true := by
  intro i hi
  by_cases h0 : i < 16
  · have := List.all_eq_true.mp dk_77_0 (i - 0) (List.mem_range.mpr (by omega))
    rwa [show 0 + (i - 0) = i by omega] at this
  exact absurd hi (by omega)
theorem mk_77 : mk_m 77 := ⟨⟨rfl, rfl⟩, ⟨rfl, rfl⟩, by decide +kernel, ⟨⟨rfl, rfl⟩, ⟨rfl, rfl⟩⟩⟩
theorem wk_78_0 : wk_l "TrailStore" "check" rt_78_0 := ⟨trivial, ⟨rfl, rfl⟩, ⟨rfl, rfl⟩, trivial, trivial, trivial, trivial, ⟨rfl, rfl⟩, trivial, ⟨rfl, rfl⟩, ⟨rfl, rfl⟩, trivial, ⟨rfl, rfl⟩, ⟨rfl, rfl⟩, trivial, trivial, trivial⟩
theorem wk_78_1 : wk_l "TrailStore" "check" rt_78_1 := ⟨⟨rfl, rfl⟩, trivial, ⟨rfl, rfl⟩, ⟨rfl, rfl⟩, trivial, ⟨rfl, rfl⟩, ⟨rfl, rfl⟩, trivial, ⟨rfl, rfl⟩, ⟨rfl, rfl⟩, trivial, trivial, trivial, ⟨rfl, rfl⟩, ⟨rfl, rfl⟩, trivial, trivial⟩
theorem wk_78_2 : wk_l "TrailStore" "check" rt_78_2 := ⟨⟨rfl, rfl⟩, ⟨rfl, rfl⟩, trivial, trivial, trivial, trivial, trivial, trivial, trivial, trivial, trivial, trivial, trivial, trivial, trivial, trivial, trivial⟩
theorem wk_78_3 : wk_l "TrailStore" "check" rt_78_3 := ⟨trivial, ⟨rfl, rfl⟩, trivial, trivial, trivial, ⟨rfl, rfl⟩, trivial, trivial, trivial, trivial, trivial, trivial, trivial, trivial, trivial, trivial, trivial⟩
theorem wk_78_4 : wk_l "TrailStore" "check" rt_78_4 := ⟨trivial, trivial, trivial, trivial⟩
theorem wk_78 : ∀ l ∈ rt_78, wk_l "TrailStore" "check" l := by
  intro l hl
  simp only [rt_78, List.mem_cons, List.not_mem_nil, or_false] at hl
  rcases hl with rfl | rfl | rfl | rfl | rfl
  · exact wk_78_0
  · exact wk_78_1
  · exact wk_78_2
  · exact wk_78_3
  · exact wk_78_4
theorem dk_78_0 : (List.range 48).all (fun i => dk_i prog_1_method_22_code rt_78 (0 + i)) = true := by decide +kernel
theorem dk_78_1 : (List.range 32).all (fun i => dk_i prog_1_method_22_code rt_78 (48 + i)) = true := by decide +kernel
theorem dk_78 : ∀ i, i < 80 → dk_i prog_1_method_22_code rt_78 i = true := by
  intro i hi
  by_cases h0 : i < 48
  · have := List.all_eq_true.mp dk_78_0 (i - 0) (List.mem_range.mpr (by omega))
    rwa [show 0 + (i - 0) = i by omega] at this
  by_cases h1 : i < 80
  · have := List.all_eq_true.mp dk_78_1 (i - 48) (List.mem_range.mpr (by omega))
    rwa [show 48 + (i - 48) = i by omega] at this
  exact absurd hi (by omega)
theorem mk_78 : mk_m 78 := ⟨⟨rfl, rfl⟩, ⟨rfl, rfl⟩, by decide +kernel, ⟨⟨rfl, rfl⟩, ⟨rfl, rfl⟩⟩⟩
theorem wk_79_0 : wk_l "TrailStore" "isKey" rt_79_0 := ⟨trivial, trivial, trivial, trivial, trivial, trivial, trivial, trivial, trivial, trivial⟩
theorem wk_79 : ∀ l ∈ rt_79, wk_l "TrailStore" "isKey" l := by
  intro l hl
  simp only [rt_79, List.mem_cons, List.not_mem_nil, or_false] at hl
  subst hl
  exact wk_79_0
theorem dk_79_0 : (List.range 16).all (fun i => dk_i prog_1_method_23_code rt_79 (0 + i)) = true := by decide +kernel
theorem dk_79 : ∀ i, i < 16 → dk_i prog_1_method_23_code rt_79 i = true := by
  intro i hi
  by_cases h0 : i < 16
  · have := List.all_eq_true.mp dk_79_0 (i - 0) (List.mem_range.mpr (by omega))
    rwa [show 0 + (i - 0) = i by omega] at this
  exact absurd hi (by omega)
theorem mk_79 : mk_m 79 := ⟨⟨rfl, rfl⟩, ⟨rfl, rfl⟩, by decide +kernel, ⟨rfl, rfl⟩⟩
theorem wk_80_0 : wk_l "TrailStore" "isThere" rt_80_0 := ⟨trivial, ⟨rfl, rfl⟩, trivial, trivial, ⟨rfl, rfl⟩, ⟨rfl, rfl⟩, trivial, ⟨rfl, rfl⟩, ⟨rfl, rfl⟩, trivial, trivial, trivial, trivial, trivial, trivial, trivial⟩
theorem wk_80 : ∀ l ∈ rt_80, wk_l "TrailStore" "isThere" l := by
  intro l hl
  simp only [rt_80, List.mem_cons, List.not_mem_nil, or_false] at hl
  subst hl
  exact wk_80_0
theorem dk_80_0 : (List.range 16).all (fun i => dk_i prog_1_method_24_code rt_80 (0 + i)) = true := by decide +kernel
theorem dk_80 : ∀ i, i < 16 → dk_i prog_1_method_24_code rt_80 i = true := by
  intro i hi
  by_cases h0 : i < 16
  · have := List.all_eq_true.mp dk_80_0 (i - 0) (List.mem_range.mpr (by omega))
    rwa [show 0 + (i - 0) = i by omega] at this
  exact absurd hi (by omega)
theorem mk_80 : mk_m 80 := ⟨⟨rfl, rfl⟩, ⟨rfl, rfl⟩, by decide +kernel, ⟨⟨rfl, rfl⟩, ⟨rfl, rfl⟩⟩⟩
theorem wk_81_0 : wk_l "TrailStore" "keysThere" rt_81_0 := ⟨trivial, ⟨rfl, rfl⟩, trivial, ⟨rfl, rfl⟩, ⟨rfl, rfl⟩, trivial, trivial, trivial, trivial, trivial, trivial, trivial, trivial, ⟨rfl, rfl⟩, ⟨rfl, rfl⟩, trivial, trivial⟩
theorem wk_81_1 : wk_l "TrailStore" "keysThere" rt_81_1 := ⟨trivial, trivial, trivial, trivial, trivial, trivial, trivial, trivial, trivial⟩
theorem wk_81 : ∀ l ∈ rt_81, wk_l "TrailStore" "keysThere" l := by
  intro l hl
  simp only [rt_81, List.mem_cons, List.not_mem_nil, or_false] at hl
  rcases hl with rfl | rfl
  · exact wk_81_0
  · exact wk_81_1
theorem dk_81_0 : (List.range 32).all (fun i => dk_i prog_1_method_25_code rt_81 (0 + i)) = true := by decide +kernel
theorem dk_81 : ∀ i, i < 32 → dk_i prog_1_method_25_code rt_81 i = true := by
  intro i hi
  by_cases h0 : i < 32
  · have := List.all_eq_true.mp dk_81_0 (i - 0) (List.mem_range.mpr (by omega))
    rwa [show 0 + (i - 0) = i by omega] at this
  exact absurd hi (by omega)
theorem mk_81 : mk_m 81 := ⟨⟨rfl, rfl⟩, ⟨rfl, rfl⟩, by decide +kernel, ⟨⟨rfl, rfl⟩, ⟨rfl, rfl⟩⟩⟩
theorem wk_82_0 : wk_l "TrailStore" "bytesThere" rt_82_0 := ⟨trivial, ⟨rfl, rfl⟩, trivial, ⟨rfl, rfl⟩, ⟨rfl, rfl⟩, trivial, trivial, trivial, trivial, trivial, trivial, trivial, trivial, ⟨rfl, rfl⟩, ⟨rfl, rfl⟩, trivial, trivial⟩
theorem wk_82_1 : wk_l "TrailStore" "bytesThere" rt_82_1 := ⟨trivial, trivial, trivial, trivial, trivial, ⟨rfl, rfl⟩, trivial, ⟨rfl, rfl⟩, ⟨rfl, rfl⟩, trivial, trivial, ⟨rfl, rfl⟩, trivial, trivial, trivial, trivial, trivial⟩
theorem wk_82_2 : wk_l "TrailStore" "bytesThere" rt_82_2 := ⟨trivial, trivial, trivial⟩
theorem wk_82 : ∀ l ∈ rt_82, wk_l "TrailStore" "bytesThere" l := by
  intro l hl
  simp only [rt_82, List.mem_cons, List.not_mem_nil, or_false] at hl
  rcases hl with rfl | rfl | rfl
  · exact wk_82_0
  · exact wk_82_1
  · exact wk_82_2
theorem dk_82_0 : (List.range 48).all (fun i => dk_i prog_1_method_26_code rt_82 (0 + i)) = true := by decide +kernel
theorem dk_82 : ∀ i, i < 48 → dk_i prog_1_method_26_code rt_82 i = true := by
  intro i hi
  by_cases h0 : i < 48
  · have := List.all_eq_true.mp dk_82_0 (i - 0) (List.mem_range.mpr (by omega))
    rwa [show 0 + (i - 0) = i by omega] at this
  exact absurd hi (by omega)
theorem mk_82 : mk_m 82 := ⟨⟨rfl, rfl⟩, ⟨rfl, rfl⟩, by decide +kernel, ⟨⟨rfl, rfl⟩, ⟨rfl, rfl⟩⟩⟩
theorem wk_83_0 : wk_l "TrailStore" "hasItsRecord" rt_83_0 := ⟨trivial, ⟨rfl, rfl⟩, ⟨rfl, rfl⟩, trivial, trivial, trivial, trivial, trivial, trivial, trivial, ⟨rfl, rfl⟩, ⟨rfl, rfl⟩, trivial, trivial, trivial, trivial, trivial⟩
theorem wk_83_1 : wk_l "TrailStore" "hasItsRecord" rt_83_1 := ⟨trivial, ⟨rfl, rfl⟩, ⟨rfl, rfl⟩, trivial, trivial, trivial, trivial, ⟨rfl, rfl⟩, trivial, ⟨rfl, rfl⟩, trivial, trivial, ⟨rfl, rfl⟩, ⟨rfl, rfl⟩, trivial, trivial, trivial⟩
theorem wk_83_2 : wk_l "TrailStore" "hasItsRecord" rt_83_2 := ⟨trivial, ⟨rfl, rfl⟩, trivial, trivial, ⟨rfl, rfl⟩, ⟨rfl, rfl⟩, trivial, trivial, ⟨rfl, rfl⟩, trivial, trivial, ⟨rfl, rfl⟩, trivial, ⟨rfl, rfl⟩, trivial, trivial, trivial⟩
theorem wk_83_3 : wk_l "TrailStore" "hasItsRecord" rt_83_3 := ⟨trivial, trivial, trivial, ⟨rfl, rfl⟩, trivial, trivial, trivial, ⟨rfl, rfl⟩, trivial, trivial, trivial, trivial, trivial, trivial, trivial⟩
theorem wk_83 : ∀ l ∈ rt_83, wk_l "TrailStore" "hasItsRecord" l := by
  intro l hl
  simp only [rt_83, List.mem_cons, List.not_mem_nil, or_false] at hl
  rcases hl with rfl | rfl | rfl | rfl
  · exact wk_83_0
  · exact wk_83_1
  · exact wk_83_2
  · exact wk_83_3
theorem dk_83_0 : (List.range 48).all (fun i => dk_i prog_1_method_27_code rt_83 (0 + i)) = true := by decide +kernel
theorem dk_83_1 : (List.range 16).all (fun i => dk_i prog_1_method_27_code rt_83 (48 + i)) = true := by decide +kernel
theorem dk_83 : ∀ i, i < 64 → dk_i prog_1_method_27_code rt_83 i = true := by
  intro i hi
  by_cases h0 : i < 48
  · have := List.all_eq_true.mp dk_83_0 (i - 0) (List.mem_range.mpr (by omega))
    rwa [show 0 + (i - 0) = i by omega] at this
  by_cases h1 : i < 64
  · have := List.all_eq_true.mp dk_83_1 (i - 48) (List.mem_range.mpr (by omega))
    rwa [show 48 + (i - 48) = i by omega] at this
  exact absurd hi (by omega)
theorem mk_83 : mk_m 83 := ⟨⟨rfl, rfl⟩, ⟨rfl, rfl⟩, by decide +kernel, ⟨⟨rfl, rfl⟩, ⟨rfl, rfl⟩⟩⟩
theorem wk_84_0 : wk_l "TrailStore" "isSameReopened" rt_84_0 := ⟨trivial, ⟨rfl, rfl⟩, ⟨rfl, rfl⟩, trivial, trivial, trivial, trivial, trivial, trivial, trivial, trivial, trivial, trivial, ⟨rfl, rfl⟩, ⟨rfl, rfl⟩, trivial, trivial⟩
theorem wk_84_1 : wk_l "TrailStore" "isSameReopened" rt_84_1 := ⟨trivial, trivial, trivial, trivial, trivial, trivial, trivial, trivial, trivial, trivial, trivial, trivial, ⟨rfl, rfl⟩, trivial, ⟨rfl, rfl⟩, ⟨rfl, rfl⟩, trivial⟩
theorem wk_84_2 : wk_l "TrailStore" "isSameReopened" rt_84_2 := ⟨trivial, trivial, trivial, ⟨rfl, rfl⟩, ⟨rfl, rfl⟩, trivial, trivial, ⟨rfl, rfl⟩, trivial, trivial, trivial, trivial, trivial, trivial⟩
theorem wk_84 : ∀ l ∈ rt_84, wk_l "TrailStore" "isSameReopened" l := by
  intro l hl
  simp only [rt_84, List.mem_cons, List.not_mem_nil, or_false] at hl
  rcases hl with rfl | rfl | rfl
  · exact wk_84_0
  · exact wk_84_1
  · exact wk_84_2
theorem dk_84_0 : (List.range 48).all (fun i => dk_i prog_1_method_28_code rt_84 (0 + i)) = true := by decide +kernel
theorem dk_84 : ∀ i, i < 48 → dk_i prog_1_method_28_code rt_84 i = true := by
  intro i hi
  by_cases h0 : i < 48
  · have := List.all_eq_true.mp dk_84_0 (i - 0) (List.mem_range.mpr (by omega))
    rwa [show 0 + (i - 0) = i by omega] at this
  exact absurd hi (by omega)
theorem mk_84 : mk_m 84 := ⟨⟨rfl, rfl⟩, ⟨rfl, rfl⟩, by decide +kernel, ⟨⟨rfl, rfl⟩, ⟨rfl, rfl⟩⟩⟩
theorem wk_85_0 : wk_l "TrailStore" "batchOver" rt_85_0 := ⟨trivial, ⟨rfl, rfl⟩, trivial, ⟨⟨rfl, rfl⟩, Or.inl rfl⟩, trivial, trivial, ⟨⟨rfl, rfl⟩, Or.inl rfl⟩, trivial, trivial, ⟨rfl, rfl⟩, trivial, trivial⟩
theorem wk_85 : ∀ l ∈ rt_85, wk_l "TrailStore" "batchOver" l := by
  intro l hl
  simp only [rt_85, List.mem_cons, List.not_mem_nil, or_false] at hl
  subst hl
  exact wk_85_0
theorem dk_85_0 : (List.range 16).all (fun i => dk_i prog_1_method_29_code rt_85 (0 + i)) = true := by decide +kernel
theorem dk_85 : ∀ i, i < 16 → dk_i prog_1_method_29_code rt_85 i = true := by
  intro i hi
  by_cases h0 : i < 16
  · have := List.all_eq_true.mp dk_85_0 (i - 0) (List.mem_range.mpr (by omega))
    rwa [show 0 + (i - 0) = i by omega] at this
  exact absurd hi (by omega)
theorem mk_85 : mk_m 85 := ⟨⟨rfl, rfl⟩, ⟨rfl, rfl⟩, by decide +kernel, ⟨⟨rfl, rfl⟩, ⟨rfl, rfl⟩⟩⟩
theorem wk_86_0 : wk_l "TrailStore" "ended" rt_86_0 := ⟨trivial, ⟨rfl, rfl⟩, ⟨rfl, rfl⟩, trivial, trivial, trivial, trivial, trivial, ⟨rfl, rfl⟩, ⟨rfl, rfl⟩, trivial, ⟨rfl, rfl⟩, ⟨rfl, rfl⟩, ⟨rfl, rfl⟩, trivial, trivial, trivial⟩
theorem wk_86 : ∀ l ∈ rt_86, wk_l "TrailStore" "ended" l := by
  intro l hl
  simp only [rt_86, List.mem_cons, List.not_mem_nil, or_false] at hl
  subst hl
  exact wk_86_0
theorem dk_86_0 : (List.range 16).all (fun i => dk_i prog_1_method_30_code rt_86 (0 + i)) = true := by decide +kernel
theorem dk_86 : ∀ i, i < 16 → dk_i prog_1_method_30_code rt_86 i = true := by
  intro i hi
  by_cases h0 : i < 16
  · have := List.all_eq_true.mp dk_86_0 (i - 0) (List.mem_range.mpr (by omega))
    rwa [show 0 + (i - 0) = i by omega] at this
  exact absurd hi (by omega)
theorem mk_86 : mk_m 86 := ⟨⟨rfl, rfl⟩, ⟨rfl, rfl⟩, by decide +kernel, ⟨⟨rfl, rfl⟩, ⟨rfl, rfl⟩⟩⟩
theorem wk_87_0 : wk_l "TrailStore" "losePower" rt_87_0 := ⟨trivial, ⟨rfl, rfl⟩, trivial, trivial, ⟨rfl, rfl⟩, trivial, trivial, ⟨⟨rfl, rfl⟩, Or.inl rfl⟩, trivial, ⟨rfl, rfl⟩, trivial, ⟨⟨rfl, rfl⟩, Or.inl rfl⟩, trivial, trivial, ⟨⟨rfl, rfl⟩, Or.inl rfl⟩, trivial, trivial⟩
theorem wk_87 : ∀ l ∈ rt_87, wk_l "TrailStore" "losePower" l := by
  intro l hl
  simp only [rt_87, List.mem_cons, List.not_mem_nil, or_false] at hl
  subst hl
  exact wk_87_0
theorem dk_87_0 : (List.range 16).all (fun i => dk_i prog_1_method_31_code rt_87 (0 + i)) = true := by decide +kernel
theorem dk_87 : ∀ i, i < 16 → dk_i prog_1_method_31_code rt_87 i = true := by
  intro i hi
  by_cases h0 : i < 16
  · have := List.all_eq_true.mp dk_87_0 (i - 0) (List.mem_range.mpr (by omega))
    rwa [show 0 + (i - 0) = i by omega] at this
  exact absurd hi (by omega)
theorem mk_87 : mk_m 87 := ⟨⟨rfl, rfl⟩, ⟨rfl, rfl⟩, by decide +kernel, ⟨⟨rfl, rfl⟩, ⟨rfl, rfl⟩⟩⟩
theorem wk_88_0 : wk_l "TrailStoreModel" "<init>" rt_88_0 := ⟨trivial, ⟨rfl, rfl⟩, trivial, trivial, trivial, ⟨⟨rfl, rfl⟩, Or.inr ⟨rfl, rfl, rfl⟩⟩, trivial, trivial, trivial, ⟨⟨rfl, rfl⟩, Or.inr ⟨rfl, rfl, rfl⟩⟩, trivial, trivial, trivial, ⟨⟨rfl, rfl⟩, Or.inr ⟨rfl, rfl, rfl⟩⟩, trivial, trivial, trivial⟩
theorem wk_88_1 : wk_l "TrailStoreModel" "<init>" rt_88_1 := ⟨trivial, ⟨⟨rfl, rfl⟩, Or.inr ⟨rfl, rfl, rfl⟩⟩, trivial, trivial, trivial, ⟨⟨rfl, rfl⟩, Or.inr ⟨rfl, rfl, rfl⟩⟩, trivial, trivial, trivial, ⟨⟨rfl, rfl⟩, Or.inr ⟨rfl, rfl, rfl⟩⟩, trivial, trivial, trivial, ⟨⟨rfl, rfl⟩, Or.inr ⟨rfl, rfl, rfl⟩⟩, trivial, trivial, trivial⟩
theorem wk_88_2 : wk_l "TrailStoreModel" "<init>" rt_88_2 := ⟨trivial, ⟨⟨rfl, rfl⟩, Or.inr ⟨rfl, rfl, rfl⟩⟩, trivial, ⟨rfl, rfl⟩, trivial, ⟨⟨rfl, rfl⟩, Or.inr ⟨rfl, rfl, rfl⟩⟩, trivial, trivial, trivial, ⟨⟨rfl, rfl⟩, Or.inr ⟨rfl, rfl, rfl⟩⟩, trivial, trivial, trivial, ⟨⟨rfl, rfl⟩, Or.inr ⟨rfl, rfl, rfl⟩⟩, trivial, trivial, trivial⟩
theorem wk_88_3 : wk_l "TrailStoreModel" "<init>" rt_88_3 := ⟨trivial, ⟨⟨rfl, rfl⟩, Or.inr ⟨rfl, rfl, rfl⟩⟩, trivial, trivial, trivial, ⟨⟨rfl, rfl⟩, Or.inr ⟨rfl, rfl, rfl⟩⟩, trivial, trivial, trivial, ⟨⟨rfl, rfl⟩, Or.inr ⟨rfl, rfl, rfl⟩⟩, trivial, trivial, trivial, ⟨⟨rfl, rfl⟩, Or.inr ⟨rfl, rfl, rfl⟩⟩, trivial, trivial, trivial⟩
theorem wk_88_4 : wk_l "TrailStoreModel" "<init>" rt_88_4 := ⟨trivial, ⟨⟨rfl, rfl⟩, Or.inr ⟨rfl, rfl, rfl⟩⟩, trivial, trivial, trivial, ⟨⟨rfl, rfl⟩, Or.inr ⟨rfl, rfl, rfl⟩⟩, trivial, trivial, trivial, ⟨⟨rfl, rfl⟩, Or.inr ⟨rfl, rfl, rfl⟩⟩, trivial, trivial, trivial, ⟨⟨rfl, rfl⟩, Or.inr ⟨rfl, rfl, rfl⟩⟩, trivial, trivial, trivial⟩
theorem wk_88_5 : wk_l "TrailStoreModel" "<init>" rt_88_5 := ⟨trivial, ⟨⟨rfl, rfl⟩, Or.inr ⟨rfl, rfl, rfl⟩⟩, trivial, trivial, trivial, ⟨⟨rfl, rfl⟩, Or.inr ⟨rfl, rfl, rfl⟩⟩, trivial, trivial, trivial, ⟨⟨rfl, rfl⟩, Or.inr ⟨rfl, rfl, rfl⟩⟩, trivial, trivial, trivial, ⟨⟨rfl, rfl⟩, Or.inr ⟨rfl, rfl, rfl⟩⟩, trivial, trivial, trivial⟩
theorem wk_88_6 : wk_l "TrailStoreModel" "<init>" rt_88_6 := ⟨trivial, ⟨⟨rfl, rfl⟩, Or.inr ⟨rfl, rfl, rfl⟩⟩, trivial, trivial, trivial, ⟨⟨rfl, rfl⟩, Or.inr ⟨rfl, rfl, rfl⟩⟩, trivial, trivial, trivial, trivial, trivial, trivial, trivial, trivial, trivial, trivial, trivial⟩
theorem wk_88_7 : wk_l "TrailStoreModel" "<init>" rt_88_7 := ⟨trivial, trivial, ⟨⟨rfl, rfl⟩, Or.inr ⟨rfl, rfl, rfl⟩⟩, trivial, ⟨rfl, rfl⟩, trivial, trivial, trivial, trivial, ⟨rfl, rfl⟩, trivial, trivial, ⟨rfl, rfl⟩, trivial, trivial, ⟨rfl, rfl⟩, trivial⟩
theorem wk_88_8 : wk_l "TrailStoreModel" "<init>" rt_88_8 := ⟨trivial, trivial, ⟨rfl, rfl⟩, trivial, trivial, ⟨rfl, rfl⟩, trivial, trivial, trivial, trivial, ⟨rfl, rfl⟩, trivial, trivial, ⟨rfl, rfl⟩, trivial, trivial, trivial⟩
theorem wk_88_9 : wk_l "TrailStoreModel" "<init>" rt_88_9 := ⟨trivial, trivial, ⟨rfl, rfl⟩, trivial, trivial, trivial, trivial, ⟨rfl, rfl⟩, trivial, trivial, trivial⟩
theorem wk_88 : ∀ l ∈ rt_88, wk_l "TrailStoreModel" "<init>" l := by
  intro l hl
  simp only [rt_88, List.mem_cons, List.not_mem_nil, or_false] at hl
  rcases hl with rfl | rfl | rfl | rfl | rfl | rfl | rfl | rfl | rfl | rfl
  · exact wk_88_0
  · exact wk_88_1
  · exact wk_88_2
  · exact wk_88_3
  · exact wk_88_4
  · exact wk_88_5
  · exact wk_88_6
  · exact wk_88_7
  · exact wk_88_8
  · exact wk_88_9
theorem dk_88_0 : (List.range 48).all (fun i => dk_i prog_9_method_1_code rt_88 (0 + i)) = true := by decide +kernel
theorem dk_88_1 : (List.range 48).all (fun i => dk_i prog_9_method_1_code rt_88 (48 + i)) = true := by decide +kernel
theorem dk_88_2 : (List.range 48).all (fun i => dk_i prog_9_method_1_code rt_88 (96 + i)) = true := by decide +kernel
theorem dk_88_3 : (List.range 16).all (fun i => dk_i prog_9_method_1_code rt_88 (144 + i)) = true := by decide +kernel
theorem dk_88 : ∀ i, i < 160 → dk_i prog_9_method_1_code rt_88 i = true := by
  intro i hi
  by_cases h0 : i < 48
  · have := List.all_eq_true.mp dk_88_0 (i - 0) (List.mem_range.mpr (by omega))
    rwa [show 0 + (i - 0) = i by omega] at this
  by_cases h1 : i < 96
  · have := List.all_eq_true.mp dk_88_1 (i - 48) (List.mem_range.mpr (by omega))
    rwa [show 48 + (i - 48) = i by omega] at this
  by_cases h2 : i < 144
  · have := List.all_eq_true.mp dk_88_2 (i - 96) (List.mem_range.mpr (by omega))
    rwa [show 96 + (i - 96) = i by omega] at this
  by_cases h3 : i < 160
  · have := List.all_eq_true.mp dk_88_3 (i - 144) (List.mem_range.mpr (by omega))
    rwa [show 144 + (i - 144) = i by omega] at this
  exact absurd hi (by omega)
theorem mk_88 : mk_m 88 := ⟨⟨rfl, rfl⟩, ⟨rfl, rfl⟩, by decide +kernel, ⟨⟨rfl, rfl⟩, rfl, rfl⟩⟩
theorem wk_89_0 : wk_l "TrailStoreModel" "placeOf" rt_89_0 := ⟨trivial, ⟨rfl, rfl⟩, trivial, trivial, trivial, trivial, ⟨rfl, rfl⟩, trivial, trivial, trivial, trivial, trivial, trivial⟩
theorem wk_89 : ∀ l ∈ rt_89, wk_l "TrailStoreModel" "placeOf" l := by
  intro l hl
  simp only [rt_89, List.mem_cons, List.not_mem_nil, or_false] at hl
  subst hl
  exact wk_89_0
theorem dk_89_0 : (List.range 16).all (fun i => dk_i prog_9_method_2_code rt_89 (0 + i)) = true := by decide +kernel
theorem dk_89 : ∀ i, i < 16 → dk_i prog_9_method_2_code rt_89 i = true := by
  intro i hi
  by_cases h0 : i < 16
  · have := List.all_eq_true.mp dk_89_0 (i - 0) (List.mem_range.mpr (by omega))
    rwa [show 0 + (i - 0) = i by omega] at this
  exact absurd hi (by omega)
theorem mk_89 : mk_m 89 := ⟨⟨rfl, rfl⟩, ⟨rfl, rfl⟩, by decide +kernel, ⟨⟨rfl, rfl⟩, ⟨rfl, rfl⟩⟩⟩
theorem wk_90_0 : wk_l "TrailStoreModel" "byteAt" rt_90_0 := ⟨trivial, ⟨rfl, rfl⟩, trivial, trivial, trivial, ⟨rfl, rfl⟩, trivial, trivial, trivial, trivial, trivial⟩
theorem wk_90 : ∀ l ∈ rt_90, wk_l "TrailStoreModel" "byteAt" l := by
  intro l hl
  simp only [rt_90, List.mem_cons, List.not_mem_nil, or_false] at hl
  subst hl
  exact wk_90_0
theorem dk_90_0 : (List.range 16).all (fun i => dk_i prog_9_method_3_code rt_90 (0 + i)) = true := by decide +kernel
theorem dk_90 : ∀ i, i < 16 → dk_i prog_9_method_3_code rt_90 i = true := by
  intro i hi
  by_cases h0 : i < 16
  · have := List.all_eq_true.mp dk_90_0 (i - 0) (List.mem_range.mpr (by omega))
    rwa [show 0 + (i - 0) = i by omega] at this
  exact absurd hi (by omega)
theorem mk_90 : mk_m 90 := ⟨⟨rfl, rfl⟩, ⟨rfl, rfl⟩, by decide +kernel, ⟨⟨rfl, rfl⟩, ⟨rfl, rfl⟩⟩⟩
theorem wk_91_0 : wk_l "TrailStoreModel" "four" rt_91_0 := ⟨trivial, trivial, trivial, ⟨rfl, rfl⟩, trivial, trivial, trivial, trivial, trivial, trivial, trivial, ⟨rfl, rfl⟩, trivial, trivial, trivial, trivial, trivial⟩
theorem wk_91_1 : wk_l "TrailStoreModel" "four" rt_91_1 := ⟨trivial, trivial, trivial, trivial, ⟨rfl, rfl⟩, trivial, trivial, trivial, trivial, trivial, trivial, trivial, trivial, ⟨rfl, rfl⟩, trivial, trivial, trivial⟩
theorem wk_91 : ∀ l ∈ rt_91, wk_l "TrailStoreModel" "four" l := by
  intro l hl
  simp only [rt_91, List.mem_cons, List.not_mem_nil, or_false] at hl
  rcases hl with rfl | rfl
  · exact wk_91_0
  · exact wk_91_1
theorem dk_91_0 : (List.range 32).all (fun i => dk_i prog_9_method_4_code rt_91 (0 + i)) = true := by decide +kernel
theorem dk_91 : ∀ i, i < 32 → dk_i prog_9_method_4_code rt_91 i = true := by
  intro i hi
  by_cases h0 : i < 32
  · have := List.all_eq_true.mp dk_91_0 (i - 0) (List.mem_range.mpr (by omega))
    rwa [show 0 + (i - 0) = i by omega] at this
  exact absurd hi (by omega)
theorem mk_91 : mk_m 91 := ⟨⟨rfl, rfl⟩, ⟨rfl, rfl⟩, by decide +kernel, ⟨⟨rfl, rfl⟩, ⟨rfl, rfl⟩⟩⟩
theorem wk_92_0 : wk_l "TrailStoreModel" "put4" rt_92_0 := ⟨trivial, trivial, trivial, trivial, trivial, trivial, ⟨rfl, rfl⟩, trivial, trivial, trivial, trivial, trivial, trivial, trivial, trivial, trivial, trivial⟩
theorem wk_92_1 : wk_l "TrailStoreModel" "put4" rt_92_1 := ⟨trivial, trivial, trivial, trivial, trivial, trivial, trivial⟩
theorem wk_92 : ∀ l ∈ rt_92, wk_l "TrailStoreModel" "put4" l := by
  intro l hl
  simp only [rt_92, List.mem_cons, List.not_mem_nil, or_false] at hl
  rcases hl with rfl | rfl
  · exact wk_92_0
  · exact wk_92_1
theorem dk_92_0 : (List.range 32).all (fun i => dk_i prog_9_method_5_code rt_92 (0 + i)) = true := by decide +kernel
theorem dk_92 : ∀ i, i < 32 → dk_i prog_9_method_5_code rt_92 i = true := by
  intro i hi
  by_cases h0 : i < 32
  · have := List.all_eq_true.mp dk_92_0 (i - 0) (List.mem_range.mpr (by omega))
    rwa [show 0 + (i - 0) = i by omega] at this
  exact absurd hi (by omega)
theorem mk_92 : mk_m 92 := ⟨⟨rfl, rfl⟩, ⟨rfl, rfl⟩, by decide +kernel, ⟨⟨rfl, rfl⟩, ⟨rfl, rfl⟩⟩⟩
theorem wk_93_0 : wk_l "TrailStoreModel" "clearBuffer" rt_93_0 := ⟨trivial, trivial, trivial, trivial, trivial, trivial, ⟨rfl, rfl⟩, trivial, trivial, trivial, trivial, trivial, trivial, trivial⟩
theorem wk_93 : ∀ l ∈ rt_93, wk_l "TrailStoreModel" "clearBuffer" l := by
  intro l hl
  simp only [rt_93, List.mem_cons, List.not_mem_nil, or_false] at hl
  subst hl
  exact wk_93_0
theorem dk_93_0 : (List.range 16).all (fun i => dk_i prog_9_method_6_code rt_93 (0 + i)) = true := by decide +kernel
theorem dk_93 : ∀ i, i < 16 → dk_i prog_9_method_6_code rt_93 i = true := by
  intro i hi
  by_cases h0 : i < 16
  · have := List.all_eq_true.mp dk_93_0 (i - 0) (List.mem_range.mpr (by omega))
    rwa [show 0 + (i - 0) = i by omega] at this
  exact absurd hi (by omega)
theorem mk_93 : mk_m 93 := ⟨⟨rfl, rfl⟩, ⟨rfl, rfl⟩, by decide +kernel, ⟨⟨rfl, rfl⟩, ⟨rfl, rfl⟩⟩⟩
theorem wk_94_0 : wk_l "TrailStoreModel" "write" rt_94_0 := ⟨trivial, ⟨rfl, rfl⟩, trivial, ⟨rfl, rfl⟩, trivial, trivial, trivial, ⟨rfl, rfl⟩, trivial, ⟨rfl, rfl⟩, trivial, trivial, trivial, ⟨rfl, rfl⟩, trivial, ⟨rfl, rfl⟩, trivial⟩
theorem wk_94_1 : wk_l "TrailStoreModel" "write" rt_94_1 := ⟨trivial, trivial, trivial, ⟨rfl, rfl⟩, trivial, ⟨rfl, rfl⟩, trivial, ⟨rfl, rfl⟩, trivial, trivial, trivial, ⟨rfl, rfl⟩, trivial, trivial, ⟨⟨rfl, rfl⟩, Or.inl rfl⟩, trivial, trivial⟩
theorem wk_94_2 : wk_l "TrailStoreModel" "write" rt_94_2 := ⟨trivial, trivial, trivial, trivial, trivial, ⟨rfl, rfl⟩, trivial, ⟨rfl, rfl⟩, trivial, ⟨rfl, rfl⟩, trivial, trivial, trivial, trivial, trivial, ⟨rfl, rfl⟩, trivial⟩
theorem wk_94_3 : wk_l "TrailStoreModel" "write" rt_94_3 := ⟨trivial, trivial, ⟨⟨rfl, rfl⟩, Or.inl rfl⟩, trivial, ⟨rfl, rfl⟩, trivial, trivial, trivial, trivial, trivial, ⟨rfl, rfl⟩, trivial, ⟨rfl, rfl⟩, trivial, trivial, trivial, trivial⟩
theorem wk_94_4 : wk_l "TrailStoreModel" "write" rt_94_4 := ⟨trivial, trivial, trivial, ⟨rfl, rfl⟩, trivial, trivial, trivial, ⟨rfl, rfl⟩, trivial, trivial, ⟨⟨rfl, rfl⟩, Or.inl rfl⟩, trivial, ⟨rfl, rfl⟩, trivial, trivial, trivial, trivial⟩
theorem wk_94_5 : wk_l "TrailStoreModel" "write" rt_94_5 := ⟨⟨rfl, rfl⟩, trivial, ⟨rfl, rfl⟩, ⟨rfl, rfl⟩, trivial, trivial⟩
theorem wk_94 : ∀ l ∈ rt_94, wk_l "TrailStoreModel" "write" l := by
  intro l hl
  simp only [rt_94, List.mem_cons, List.not_mem_nil, or_false] at hl
  rcases hl with rfl | rfl | rfl | rfl | rfl | rfl
  · exact wk_94_0
  · exact wk_94_1
  · exact wk_94_2
  · exact wk_94_3
  · exact wk_94_4
  · exact wk_94_5
theorem dk_94_0 : (List.range 48).all (fun i => dk_i prog_9_method_7_code rt_94 (0 + i)) = true := by decide +kernel
theorem dk_94_1 : (List.range 48).all (fun i => dk_i prog_9_method_7_code rt_94 (48 + i)) = true := by decide +kernel
theorem dk_94 : ∀ i, i < 96 → dk_i prog_9_method_7_code rt_94 i = true := by
  intro i hi
  by_cases h0 : i < 48
  · have := List.all_eq_true.mp dk_94_0 (i - 0) (List.mem_range.mpr (by omega))
    rwa [show 0 + (i - 0) = i by omega] at this
  by_cases h1 : i < 96
  · have := List.all_eq_true.mp dk_94_1 (i - 48) (List.mem_range.mpr (by omega))
    rwa [show 48 + (i - 48) = i by omega] at this
  exact absurd hi (by omega)
theorem mk_94 : mk_m 94 := ⟨⟨rfl, rfl⟩, ⟨rfl, rfl⟩, by decide +kernel, ⟨⟨rfl, rfl⟩, ⟨rfl, rfl⟩⟩⟩
theorem wk_95_0 : wk_l "TrailStoreModel" "lastWrite" rt_95_0 := ⟨trivial, trivial, trivial, trivial, trivial, trivial, ⟨rfl, rfl⟩, trivial, trivial, ⟨rfl, rfl⟩, trivial, trivial, trivial, ⟨rfl, rfl⟩, trivial, trivial, trivial⟩
theorem wk_95_1 : wk_l "TrailStoreModel" "lastWrite" rt_95_1 := ⟨trivial, trivial, ⟨rfl, rfl⟩, trivial, ⟨rfl, rfl⟩, trivial, ⟨rfl, rfl⟩, trivial, trivial, trivial, trivial, trivial, trivial, trivial, trivial, trivial, trivial⟩
theorem wk_95 : ∀ l ∈ rt_95, wk_l "TrailStoreModel" "lastWrite" l := by
  intro l hl
  simp only [rt_95, List.mem_cons, List.not_mem_nil, or_false] at hl
  rcases hl with rfl | rfl
  · exact wk_95_0
  · exact wk_95_1
theorem dk_95_0 : (List.range 32).all (fun i => dk_i prog_9_method_8_code rt_95 (0 + i)) = true := by decide +kernel
theorem dk_95 : ∀ i, i < 32 → dk_i prog_9_method_8_code rt_95 i = true := by
  intro i hi
  by_cases h0 : i < 32
  · have := List.all_eq_true.mp dk_95_0 (i - 0) (List.mem_range.mpr (by omega))
    rwa [show 0 + (i - 0) = i by omega] at this
  exact absurd hi (by omega)
theorem mk_95 : mk_m 95 := ⟨⟨rfl, rfl⟩, ⟨rfl, rfl⟩, by decide +kernel, ⟨⟨rfl, rfl⟩, ⟨rfl, rfl⟩⟩⟩
theorem wk_96_0 : wk_l "TrailStoreModel" "syncAll" rt_96_0 := ⟨trivial, ⟨rfl, rfl⟩, trivial, trivial, trivial, trivial, trivial, trivial, trivial, trivial, trivial, ⟨rfl, rfl⟩, trivial, trivial, ⟨rfl, rfl⟩, trivial, trivial⟩
theorem wk_96_1 : wk_l "TrailStoreModel" "syncAll" rt_96_1 := ⟨trivial, trivial, trivial, ⟨⟨rfl, rfl⟩, Or.inl rfl⟩, trivial, trivial, ⟨⟨rfl, rfl⟩, Or.inl rfl⟩, trivial, trivial, trivial⟩
theorem wk_96 : ∀ l ∈ rt_96, wk_l "TrailStoreModel" "syncAll" l := by
  intro l hl
  simp only [rt_96, List.mem_cons, List.not_mem_nil, or_false] at hl
  rcases hl with rfl | rfl
  · exact wk_96_0
  · exact wk_96_1
theorem dk_96_0 : (List.range 32).all (fun i => dk_i prog_9_method_9_code rt_96 (0 + i)) = true := by decide +kernel
theorem dk_96 : ∀ i, i < 32 → dk_i prog_9_method_9_code rt_96 i = true := by
  intro i hi
  by_cases h0 : i < 32
  · have := List.all_eq_true.mp dk_96_0 (i - 0) (List.mem_range.mpr (by omega))
    rwa [show 0 + (i - 0) = i by omega] at this
  exact absurd hi (by omega)
theorem mk_96 : mk_m 96 := ⟨⟨rfl, rfl⟩, ⟨rfl, rfl⟩, by decide +kernel, ⟨⟨rfl, rfl⟩, ⟨rfl, rfl⟩⟩⟩
theorem wk_97_0 : wk_l "TrailStoreModel" "powerFails" rt_97_0 := ⟨trivial, trivial, trivial, trivial, ⟨rfl, rfl⟩, trivial, trivial, trivial, trivial, trivial, trivial, trivial, trivial, trivial, trivial, trivial, trivial⟩
theorem wk_97_1 : wk_l "TrailStoreModel" "powerFails" rt_97_1 := ⟨⟨rfl, rfl⟩, trivial, trivial, trivial, trivial, ⟨rfl, rfl⟩, trivial, trivial, trivial, trivial, ⟨rfl, rfl⟩, trivial, trivial, trivial, trivial, trivial, trivial⟩
theorem wk_97_2 : wk_l "TrailStoreModel" "powerFails" rt_97_2 := ⟨trivial, ⟨rfl, rfl⟩, trivial, trivial, trivial, trivial, trivial, trivial, ⟨rfl, rfl⟩, trivial, trivial, ⟨rfl, rfl⟩, trivial, trivial, trivial, trivial, trivial⟩
theorem wk_97_3 : wk_l "TrailStoreModel" "powerFails" rt_97_3 := ⟨trivial, trivial, trivial, ⟨⟨rfl, rfl⟩, Or.inl rfl⟩, trivial, trivial, ⟨⟨rfl, rfl⟩, Or.inl rfl⟩, trivial, trivial, ⟨⟨rfl, rfl⟩, Or.inl rfl⟩, trivial, trivial, ⟨⟨rfl, rfl⟩, Or.inl rfl⟩, trivial, trivial, ⟨⟨rfl, rfl⟩, Or.inl rfl⟩, trivial⟩
theorem wk_97_4 : wk_l "TrailStoreModel" "powerFails" rt_97_4 := ⟨trivial, trivial, ⟨⟨rfl, rfl⟩, Or.inl rfl⟩, trivial, trivial, ⟨⟨rfl, rfl⟩, Or.inl rfl⟩, trivial, trivial, ⟨⟨rfl, rfl⟩, Or.inl rfl⟩, trivial, trivial, trivial, trivial, trivial, trivial, ⟨rfl, rfl⟩, trivial⟩
theorem wk_97_5 : wk_l "TrailStoreModel" "powerFails" rt_97_5 := ⟨trivial, trivial, trivial, trivial, trivial, trivial, trivial⟩
theorem wk_97 : ∀ l ∈ rt_97, wk_l "TrailStoreModel" "powerFails" l := by
  intro l hl
  simp only [rt_97, List.mem_cons, List.not_mem_nil, or_false] at hl
  rcases hl with rfl | rfl | rfl | rfl | rfl | rfl
  · exact wk_97_0
  · exact wk_97_1
  · exact wk_97_2
  · exact wk_97_3
  · exact wk_97_4
  · exact wk_97_5
theorem dk_97_0 : (List.range 48).all (fun i => dk_i prog_9_method_10_code rt_97 (0 + i)) = true := by decide +kernel
theorem dk_97_1 : (List.range 48).all (fun i => dk_i prog_9_method_10_code rt_97 (48 + i)) = true := by decide +kernel
theorem dk_97 : ∀ i, i < 96 → dk_i prog_9_method_10_code rt_97 i = true := by
  intro i hi
  by_cases h0 : i < 48
  · have := List.all_eq_true.mp dk_97_0 (i - 0) (List.mem_range.mpr (by omega))
    rwa [show 0 + (i - 0) = i by omega] at this
  by_cases h1 : i < 96
  · have := List.all_eq_true.mp dk_97_1 (i - 48) (List.mem_range.mpr (by omega))
    rwa [show 48 + (i - 48) = i by omega] at this
  exact absurd hi (by omega)
theorem mk_97 : mk_m 97 := ⟨⟨rfl, rfl⟩, ⟨rfl, rfl⟩, by decide +kernel, ⟨⟨rfl, rfl⟩, ⟨rfl, rfl⟩⟩⟩
theorem wk_98_0 : wk_l "TrailStoreModel" "isRecord" rt_98_0 := ⟨trivial, trivial, trivial, ⟨rfl, rfl⟩, trivial, trivial, trivial, trivial, trivial, trivial, ⟨rfl, rfl⟩, trivial, trivial, trivial, trivial, trivial, trivial⟩
theorem wk_98_1 : wk_l "TrailStoreModel" "isRecord" rt_98_1 := ⟨trivial, trivial, trivial, trivial, trivial, trivial, trivial, trivial, trivial, trivial, trivial, trivial, trivial, trivial, trivial, trivial, trivial⟩
theorem wk_98_2 : wk_l "TrailStoreModel" "isRecord" rt_98_2 := ⟨trivial, trivial, trivial, trivial, trivial, ⟨rfl, rfl⟩, trivial, trivial, trivial, trivial, trivial, trivial, trivial, trivial, trivial, trivial, trivial⟩
theorem wk_98_3 : wk_l "TrailStoreModel" "isRecord" rt_98_3 := ⟨⟨rfl, rfl⟩, trivial, trivial, trivial, trivial, trivial, trivial, ⟨rfl, rfl⟩, trivial, trivial, trivial, trivial, trivial, trivial, trivial, ⟨rfl, rfl⟩, trivial⟩
theorem wk_98_4 : wk_l "TrailStoreModel" "isRecord" rt_98_4 := ⟨trivial, trivial, trivial, trivial, trivial, trivial, trivial, trivial, ⟨rfl, rfl⟩, trivial, ⟨rfl, rfl⟩, trivial, trivial, trivial, trivial, trivial, trivial⟩
theorem wk_98_5 : wk_l "TrailStoreModel" "isRecord" rt_98_5 := ⟨trivial, trivial, trivial, trivial⟩
theorem wk_98 : ∀ l ∈ rt_98, wk_l "TrailStoreModel" "isRecord" l := by
  intro l hl
  simp only [rt_98, List.mem_cons, List.not_mem_nil, or_false] at hl
  rcases hl with rfl | rfl | rfl | rfl | rfl | rfl
  · exact wk_98_0
  · exact wk_98_1
  · exact wk_98_2
  · exact wk_98_3
  · exact wk_98_4
  · exact wk_98_5
theorem dk_98_0 : (List.range 48).all (fun i => dk_i prog_9_method_11_code rt_98 (0 + i)) = true := by decide +kernel
theorem dk_98_1 : (List.range 48).all (fun i => dk_i prog_9_method_11_code rt_98 (48 + i)) = true := by decide +kernel
theorem dk_98 : ∀ i, i < 96 → dk_i prog_9_method_11_code rt_98 i = true := by
  intro i hi
  by_cases h0 : i < 48
  · have := List.all_eq_true.mp dk_98_0 (i - 0) (List.mem_range.mpr (by omega))
    rwa [show 0 + (i - 0) = i by omega] at this
  by_cases h1 : i < 96
  · have := List.all_eq_true.mp dk_98_1 (i - 48) (List.mem_range.mpr (by omega))
    rwa [show 48 + (i - 48) = i by omega] at this
  exact absurd hi (by omega)
theorem mk_98 : mk_m 98 := ⟨⟨rfl, rfl⟩, ⟨rfl, rfl⟩, by decide +kernel, ⟨⟨rfl, rfl⟩, ⟨rfl, rfl⟩⟩⟩
theorem wk_99_0 : wk_l "TrailStoreModel" "sizeAt" rt_99_0 := ⟨trivial, trivial, trivial, trivial, trivial, trivial, ⟨rfl, rfl⟩, trivial, trivial, trivial⟩
theorem wk_99 : ∀ l ∈ rt_99, wk_l "TrailStoreModel" "sizeAt" l := by
  intro l hl
  simp only [rt_99, List.mem_cons, List.not_mem_nil, or_false] at hl
  subst hl
  exact wk_99_0
theorem dk_99_0 : (List.range 16).all (fun i => dk_i prog_9_method_12_code rt_99 (0 + i)) = true := by decide +kernel
theorem dk_99 : ∀ i, i < 16 → dk_i prog_9_method_12_code rt_99 i = true := by
  intro i hi
  by_cases h0 : i < 16
  · have := List.all_eq_true.mp dk_99_0 (i - 0) (List.mem_range.mpr (by omega))
    rwa [show 0 + (i - 0) = i by omega] at this
  exact absurd hi (by omega)
theorem mk_99 : mk_m 99 := ⟨⟨rfl, rfl⟩, ⟨rfl, rfl⟩, by decide +kernel, ⟨⟨rfl, rfl⟩, ⟨rfl, rfl⟩⟩⟩
theorem wk_100_0 : wk_l "TrailStoreModel" "append" rt_100_0 := ⟨trivial, trivial, ⟨rfl, rfl⟩, trivial, trivial, trivial, ⟨rfl, rfl⟩, trivial, trivial, trivial, trivial, trivial, ⟨rfl, rfl⟩, trivial, ⟨rfl, rfl⟩, trivial, trivial⟩
theorem wk_100_1 : wk_l "TrailStoreModel" "append" rt_100_1 := ⟨trivial, trivial, trivial, trivial, trivial, trivial, trivial, trivial, ⟨rfl, rfl⟩, trivial, trivial, ⟨rfl, rfl⟩, trivial, trivial, trivial, trivial, trivial⟩
theorem wk_100_2 : wk_l "TrailStoreModel" "append" rt_100_2 := ⟨trivial, trivial, trivial, trivial, ⟨rfl, rfl⟩, trivial, trivial, trivial, ⟨rfl, rfl⟩, trivial, ⟨rfl, rfl⟩, trivial, trivial, trivial, trivial, ⟨rfl, rfl⟩, trivial⟩
theorem wk_100_3 : wk_l "TrailStoreModel" "append" rt_100_3 := ⟨trivial, trivial, trivial, trivial, trivial, ⟨rfl, rfl⟩, trivial, trivial, trivial, trivial, trivial, ⟨rfl, rfl⟩, trivial, trivial, trivial, trivial, trivial⟩
theorem wk_100_4 : wk_l "TrailStoreModel" "append" rt_100_4 := ⟨trivial, ⟨rfl, rfl⟩, trivial, trivial, trivial, trivial, trivial, trivial, ⟨rfl, rfl⟩, ⟨rfl, rfl⟩, trivial, trivial, trivial, ⟨rfl, rfl⟩, ⟨rfl, rfl⟩, trivial, trivial⟩
theorem wk_100_5 : wk_l "TrailStoreModel" "append" rt_100_5 := ⟨trivial, trivial, ⟨rfl, rfl⟩, trivial, ⟨rfl, rfl⟩, trivial, ⟨rfl, rfl⟩, trivial, trivial, trivial, trivial, trivial, ⟨rfl, rfl⟩, trivial, trivial, trivial, trivial⟩
theorem wk_100_6 : wk_l "TrailStoreModel" "append" rt_100_6 := ⟨trivial, ⟨⟨rfl, rfl⟩, Or.inl rfl⟩, trivial, trivial, ⟨rfl, rfl⟩, trivial, trivial, ⟨⟨rfl, rfl⟩, Or.inl rfl⟩, trivial, trivial, trivial⟩
theorem wk_100 : ∀ l ∈ rt_100, wk_l "TrailStoreModel" "append" l := by
  intro l hl
  simp only [rt_100, List.mem_cons, List.not_mem_nil, or_false] at hl
  rcases hl with rfl | rfl | rfl | rfl | rfl | rfl | rfl
  · exact wk_100_0
  · exact wk_100_1
  · exact wk_100_2
  · exact wk_100_3
  · exact wk_100_4
  · exact wk_100_5
  · exact wk_100_6
theorem dk_100_0 : (List.range 48).all (fun i => dk_i prog_9_method_13_code rt_100 (0 + i)) = true := by decide +kernel
theorem dk_100_1 : (List.range 48).all (fun i => dk_i prog_9_method_13_code rt_100 (48 + i)) = true := by decide +kernel
theorem dk_100_2 : (List.range 16).all (fun i => dk_i prog_9_method_13_code rt_100 (96 + i)) = true := by decide +kernel
theorem dk_100 : ∀ i, i < 112 → dk_i prog_9_method_13_code rt_100 i = true := by
  intro i hi
  by_cases h0 : i < 48
  · have := List.all_eq_true.mp dk_100_0 (i - 0) (List.mem_range.mpr (by omega))
    rwa [show 0 + (i - 0) = i by omega] at this
  by_cases h1 : i < 96
  · have := List.all_eq_true.mp dk_100_1 (i - 48) (List.mem_range.mpr (by omega))
    rwa [show 48 + (i - 48) = i by omega] at this
  by_cases h2 : i < 112
  · have := List.all_eq_true.mp dk_100_2 (i - 96) (List.mem_range.mpr (by omega))
    rwa [show 96 + (i - 96) = i by omega] at this
  exact absurd hi (by omega)
theorem mk_100 : mk_m 100 := ⟨⟨rfl, rfl⟩, ⟨rfl, rfl⟩, by decide +kernel, ⟨⟨rfl, rfl⟩, ⟨rfl, rfl⟩⟩⟩
theorem wk_101_0 : wk_l "TrailStoreModel" "remember" rt_101_0 := ⟨trivial, trivial, ⟨rfl, rfl⟩, trivial, ⟨rfl, rfl⟩, trivial, trivial, trivial, trivial, trivial, trivial, trivial, ⟨⟨rfl, rfl⟩, Or.inl rfl⟩, trivial, ⟨rfl, rfl⟩, trivial, trivial⟩
theorem wk_101_1 : wk_l "TrailStoreModel" "remember" rt_101_1 := ⟨trivial, trivial, trivial, ⟨rfl, rfl⟩, trivial, trivial, trivial, trivial, ⟨rfl, rfl⟩, trivial, trivial, trivial, trivial, trivial⟩
theorem wk_101 : ∀ l ∈ rt_101, wk_l "TrailStoreModel" "remember" l := by
  intro l hl
  simp only [rt_101, List.mem_cons, List.not_mem_nil, or_false] at hl
  rcases hl with rfl | rfl
  · exact wk_101_0
  · exact wk_101_1
theorem dk_101_0 : (List.range 32).all (fun i => dk_i prog_9_method_14_code rt_101 (0 + i)) = true := by decide +kernel
theorem dk_101 : ∀ i, i < 32 → dk_i prog_9_method_14_code rt_101 i = true := by
  intro i hi
  by_cases h0 : i < 32
  · have := List.all_eq_true.mp dk_101_0 (i - 0) (List.mem_range.mpr (by omega))
    rwa [show 0 + (i - 0) = i by omega] at this
  exact absurd hi (by omega)
theorem mk_101 : mk_m 101 := ⟨⟨rfl, rfl⟩, ⟨rfl, rfl⟩, by decide +kernel, ⟨⟨rfl, rfl⟩, ⟨rfl, rfl⟩⟩⟩
theorem wk_102_0 : wk_l "TrailStoreModel" "tableByte" rt_102_0 := ⟨trivial, trivial, trivial, ⟨rfl, rfl⟩, trivial, trivial, trivial, trivial, trivial, trivial, ⟨rfl, rfl⟩, trivial, trivial⟩
theorem wk_102 : ∀ l ∈ rt_102, wk_l "TrailStoreModel" "tableByte" l := by
  intro l hl
  simp only [rt_102, List.mem_cons, List.not_mem_nil, or_false] at hl
  subst hl
  exact wk_102_0
theorem dk_102_0 : (List.range 16).all (fun i => dk_i prog_9_method_15_code rt_102 (0 + i)) = true := by decide +kernel
theorem dk_102 : ∀ i, i < 16 → dk_i prog_9_method_15_code rt_102 i = true := by
  intro i hi
  by_cases h0 : i < 16
  · have := List.all_eq_true.mp dk_102_0 (i - 0) (List.mem_range.mpr (by omega))
    rwa [show 0 + (i - 0) = i by omega] at this
  exact absurd hi (by omega)
theorem mk_102 : mk_m 102 := ⟨⟨rfl, rfl⟩, ⟨rfl, rfl⟩, by decide +kernel, ⟨⟨rfl, rfl⟩, ⟨rfl, rfl⟩⟩⟩
theorem wk_103_0 : wk_l "TrailStoreModel" "tableFour" rt_103_0 := ⟨trivial, trivial, trivial, ⟨rfl, rfl⟩, trivial, trivial, trivial, trivial, trivial, trivial, ⟨rfl, rfl⟩, trivial, trivial⟩
theorem wk_103 : ∀ l ∈ rt_103, wk_l "TrailStoreModel" "tableFour" l := by
  intro l hl
  simp only [rt_103, List.mem_cons, List.not_mem_nil, or_false] at hl
  subst hl
  exact wk_103_0
theorem dk_103_0 : (List.range 16).all (fun i => dk_i prog_9_method_16_code rt_103 (0 + i)) = true := by decide +kernel
theorem dk_103 : ∀ i, i < 16 → dk_i prog_9_method_16_code rt_103 i = true := by
  intro i hi
  by_cases h0 : i < 16
  · have := List.all_eq_true.mp dk_103_0 (i - 0) (List.mem_range.mpr (by omega))
    rwa [show 0 + (i - 0) = i by omega] at this
  exact absurd hi (by omega)
theorem mk_103 : mk_m 103 := ⟨⟨rfl, rfl⟩, ⟨rfl, rfl⟩, by decide +kernel, ⟨⟨rfl, rfl⟩, ⟨rfl, rfl⟩⟩⟩
theorem wk_104_0 : wk_l "TrailStoreModel" "levelOf" rt_104_0 := ⟨trivial, trivial, trivial, ⟨rfl, rfl⟩, trivial, trivial⟩
theorem wk_104 : ∀ l ∈ rt_104, wk_l "TrailStoreModel" "levelOf" l := by
  intro l hl
  simp only [rt_104, List.mem_cons, List.not_mem_nil, or_false] at hl
  subst hl
  exact wk_104_0
theorem dk_104_0 : (List.range 16).all (fun i => dk_i prog_9_method_17_code rt_104 (0 + i)) = true := by decide +kernel
theorem dk_104 : ∀ i, i < 16 → dk_i prog_9_method_17_code rt_104 i = true := by
  intro i hi
  by_cases h0 : i < 16
  · have := List.all_eq_true.mp dk_104_0 (i - 0) (List.mem_range.mpr (by omega))
    rwa [show 0 + (i - 0) = i by omega] at this
  exact absurd hi (by omega)
theorem mk_104 : mk_m 104 := ⟨⟨rfl, rfl⟩, ⟨rfl, rfl⟩, by decide +kernel, ⟨⟨rfl, rfl⟩, ⟨rfl, rfl⟩⟩⟩
theorem wk_105_0 : wk_l "TrailStoreModel" "bitsOf" rt_105_0 := ⟨trivial, trivial, trivial, trivial, trivial, trivial, trivial, trivial, trivial, trivial, trivial, trivial, trivial, trivial, trivial, trivial, trivial⟩
theorem wk_105_1 : wk_l "TrailStoreModel" "bitsOf" rt_105_1 := ⟨trivial, trivial, trivial⟩
theorem wk_105 : ∀ l ∈ rt_105, wk_l "TrailStoreModel" "bitsOf" l := by
  intro l hl
  simp only [rt_105, List.mem_cons, List.not_mem_nil, or_false] at hl
  rcases hl with rfl | rfl
  · exact wk_105_0
  · exact wk_105_1
theorem dk_105_0 : (List.range 32).all (fun i => dk_i prog_9_method_18_code rt_105 (0 + i)) = true := by decide +kernel
theorem dk_105 : ∀ i, i < 32 → dk_i prog_9_method_18_code rt_105 i = true := by
  intro i hi
  by_cases h0 : i < 32
  · have := List.all_eq_true.mp dk_105_0 (i - 0) (List.mem_range.mpr (by omega))
    rwa [show 0 + (i - 0) = i by omega] at this
  exact absurd hi (by omega)
theorem mk_105 : mk_m 105 := ⟨⟨rfl, rfl⟩, ⟨rfl, rfl⟩, by decide +kernel, ⟨rfl, rfl⟩⟩
theorem wk_106_0 : wk_l "TrailStoreModel" "placeIn" rt_106_0 := ⟨trivial, trivial, trivial, trivial, trivial, trivial, ⟨rfl, rfl⟩, trivial, trivial, trivial, trivial, trivial, trivial, trivial, trivial, ⟨rfl, rfl⟩, trivial⟩
theorem wk_106_1 : wk_l "TrailStoreModel" "placeIn" rt_106_1 := ⟨trivial, trivial, trivial, trivial, trivial, trivial, trivial, trivial, trivial, trivial, trivial, trivial, trivial⟩
theorem wk_106 : ∀ l ∈ rt_106, wk_l "TrailStoreModel" "placeIn" l := by
  intro l hl
  simp only [rt_106, List.mem_cons, List.not_mem_nil, or_false] at hl
  rcases hl with rfl | rfl
  · exact wk_106_0
  · exact wk_106_1
theorem dk_106_0 : (List.range 32).all (fun i => dk_i prog_9_method_19_code rt_106 (0 + i)) = true := by decide +kernel
theorem dk_106 : ∀ i, i < 32 → dk_i prog_9_method_19_code rt_106 i = true := by
  intro i hi
  by_cases h0 : i < 32
  · have := List.all_eq_true.mp dk_106_0 (i - 0) (List.mem_range.mpr (by omega))
    rwa [show 0 + (i - 0) = i by omega] at this
  exact absurd hi (by omega)
theorem mk_106 : mk_m 106 := ⟨⟨rfl, rfl⟩, ⟨rfl, rfl⟩, by decide +kernel, ⟨⟨rfl, rfl⟩, ⟨rfl, rfl⟩⟩⟩
theorem wk_107_0 : wk_l "TrailStoreModel" "find" rt_107_0 := ⟨trivial, trivial, ⟨⟨rfl, rfl⟩, Or.inl rfl⟩, trivial, trivial, ⟨rfl, rfl⟩, trivial, trivial, trivial, trivial, trivial, trivial, ⟨⟨rfl, rfl⟩, Or.inl rfl⟩, trivial, ⟨rfl, rfl⟩, trivial, trivial⟩
theorem wk_107_1 : wk_l "TrailStoreModel" "find" rt_107_1 := ⟨trivial, trivial, ⟨rfl, rfl⟩, trivial, trivial, ⟨⟨rfl, rfl⟩, Or.inl rfl⟩, trivial, trivial, ⟨rfl, rfl⟩, trivial, trivial, ⟨⟨rfl, rfl⟩, Or.inl rfl⟩, trivial, trivial, ⟨rfl, rfl⟩, trivial, trivial⟩
theorem wk_107_2 : wk_l "TrailStoreModel" "find" rt_107_2 := ⟨trivial, ⟨⟨rfl, rfl⟩, Or.inl rfl⟩, trivial, trivial, trivial, trivial, trivial, trivial, ⟨rfl, rfl⟩, trivial, trivial, trivial, trivial, ⟨rfl, rfl⟩, trivial, trivial, trivial⟩
theorem wk_107_3 : wk_l "TrailStoreModel" "find" rt_107_3 := ⟨trivial, trivial, trivial, trivial, trivial, trivial, trivial, ⟨rfl, rfl⟩, ⟨⟨rfl, rfl⟩, Or.inl rfl⟩, trivial, trivial, trivial, trivial, trivial, trivial, ⟨rfl, rfl⟩, trivial⟩
theorem wk_107_4 : wk_l "TrailStoreModel" "find" rt_107_4 := ⟨⟨⟨rfl, rfl⟩, Or.inl rfl⟩, trivial, trivial, trivial, trivial, trivial, trivial, ⟨rfl, rfl⟩, ⟨⟨rfl, rfl⟩, Or.inl rfl⟩, trivial, trivial, trivial, trivial, trivial, trivial, trivial⟩
theorem wk_107 : ∀ l ∈ rt_107, wk_l "TrailStoreModel" "find" l := by
  intro l hl
  simp only [rt_107, List.mem_cons, List.not_mem_nil, or_false] at hl
  rcases hl with rfl | rfl | rfl | rfl | rfl
  · exact wk_107_0
  · exact wk_107_1
  · exact wk_107_2
  · exact wk_107_3
  · exact wk_107_4
theorem dk_107_0 : (List.range 48).all (fun i => dk_i prog_9_method_20_code rt_107 (0 + i)) = true := by decide +kernel
theorem dk_107_1 : (List.range 32).all (fun i => dk_i prog_9_method_20_code rt_107 (48 + i)) = true := by decide +kernel
theorem dk_107 : ∀ i, i < 80 → dk_i prog_9_method_20_code rt_107 i = true := by
  intro i hi
  by_cases h0 : i < 48
  · have := List.all_eq_true.mp dk_107_0 (i - 0) (List.mem_range.mpr (by omega))
    rwa [show 0 + (i - 0) = i by omega] at this
  by_cases h1 : i < 80
  · have := List.all_eq_true.mp dk_107_1 (i - 48) (List.mem_range.mpr (by omega))
    rwa [show 48 + (i - 48) = i by omega] at this
  exact absurd hi (by omega)
theorem mk_107 : mk_m 107 := ⟨⟨rfl, rfl⟩, ⟨rfl, rfl⟩, by decide +kernel, ⟨⟨rfl, rfl⟩, ⟨rfl, rfl⟩⟩⟩
theorem wk_108_0 : wk_l "TrailStoreModel" "isThere" rt_108_0 := ⟨trivial, trivial, ⟨rfl, rfl⟩, trivial, trivial, ⟨rfl, rfl⟩, trivial, trivial, trivial, trivial, trivial, trivial, trivial⟩
theorem wk_108 : ∀ l ∈ rt_108, wk_l "TrailStoreModel" "isThere" l := by
  intro l hl
  simp only [rt_108, List.mem_cons, List.not_mem_nil, or_false] at hl
  subst hl
  exact wk_108_0
theorem dk_108_0 : (List.range 16).all (fun i => dk_i prog_9_method_21_code rt_108 (0 + i)) = true := by decide +kernel
theorem dk_108 : ∀ i, i < 16 → dk_i prog_9_method_21_code rt_108 i = true := by
  intro i hi
  by_cases h0 : i < 16
  · have := List.all_eq_true.mp dk_108_0 (i - 0) (List.mem_range.mpr (by omega))
    rwa [show 0 + (i - 0) = i by omega] at this
  exact absurd hi (by omega)
theorem mk_108 : mk_m 108 := ⟨⟨rfl, rfl⟩, ⟨rfl, rfl⟩, by decide +kernel, ⟨⟨rfl, rfl⟩, ⟨rfl, rfl⟩⟩⟩
theorem wk_109_0 : wk_l "TrailStoreModel" "clearNew" rt_109_0 := ⟨trivial, trivial, trivial, trivial, trivial, trivial, ⟨rfl, rfl⟩, trivial, trivial, trivial, trivial, trivial, trivial, trivial⟩
theorem wk_109 : ∀ l ∈ rt_109, wk_l "TrailStoreModel" "clearNew" l := by
  intro l hl
  simp only [rt_109, List.mem_cons, List.not_mem_nil, or_false] at hl
  subst hl
  exact wk_109_0
theorem dk_109_0 : (List.range 16).all (fun i => dk_i prog_9_method_22_code rt_109 (0 + i)) = true := by decide +kernel
theorem dk_109 : ∀ i, i < 16 → dk_i prog_9_method_22_code rt_109 i = true := by
  intro i hi
  by_cases h0 : i < 16
  · have := List.all_eq_true.mp dk_109_0 (i - 0) (List.mem_range.mpr (by omega))
    rwa [show 0 + (i - 0) = i by omega] at this
  exact absurd hi (by omega)
theorem mk_109 : mk_m 109 := ⟨⟨rfl, rfl⟩, ⟨rfl, rfl⟩, by decide +kernel, ⟨⟨rfl, rfl⟩, ⟨rfl, rfl⟩⟩⟩
theorem wk_110_0 : wk_l "TrailStoreModel" "gather" rt_110_0 := ⟨trivial, trivial, trivial, trivial, trivial, trivial, ⟨rfl, rfl⟩, trivial, trivial, trivial, trivial, trivial, trivial, trivial, trivial, trivial, trivial⟩
theorem wk_110_1 : wk_l "TrailStoreModel" "gather" rt_110_1 := ⟨trivial, ⟨rfl, rfl⟩, trivial, trivial, ⟨rfl, rfl⟩, trivial, trivial, trivial, trivial, ⟨rfl, rfl⟩, trivial, trivial, trivial, trivial, trivial, trivial, trivial⟩
theorem wk_110_2 : wk_l "TrailStoreModel" "gather" rt_110_2 := ⟨⟨rfl, rfl⟩, trivial, trivial, ⟨rfl, rfl⟩, trivial, trivial, trivial, trivial, trivial, trivial, ⟨rfl, rfl⟩, trivial, trivial, ⟨rfl, rfl⟩, trivial, trivial, trivial⟩
theorem wk_110_3 : wk_l "TrailStoreModel" "gather" rt_110_3 := ⟨trivial, trivial, trivial, trivial, ⟨rfl, rfl⟩, trivial, trivial, trivial, trivial, trivial⟩
theorem wk_110 : ∀ l ∈ rt_110, wk_l "TrailStoreModel" "gather" l := by
  intro l hl
  simp only [rt_110, List.mem_cons, List.not_mem_nil, or_false] at hl
  rcases hl with rfl | rfl | rfl | rfl
  · exact wk_110_0
  · exact wk_110_1
  · exact wk_110_2
  · exact wk_110_3
theorem dk_110_0 : (List.range 48).all (fun i => dk_i prog_9_method_23_code rt_110 (0 + i)) = true := by decide +kernel
theorem dk_110_1 : (List.range 16).all (fun i => dk_i prog_9_method_23_code rt_110 (48 + i)) = true := by decide +kernel
theorem dk_110 : ∀ i, i < 64 → dk_i prog_9_method_23_code rt_110 i = true := by
  intro i hi
  by_cases h0 : i < 48
  · have := List.all_eq_true.mp dk_110_0 (i - 0) (List.mem_range.mpr (by omega))
    rwa [show 0 + (i - 0) = i by omega] at this
  by_cases h1 : i < 64
  · have := List.all_eq_true.mp dk_110_1 (i - 48) (List.mem_range.mpr (by omega))
    rwa [show 48 + (i - 48) = i by omega] at this
  exact absurd hi (by omega)
theorem mk_110 : mk_m 110 := ⟨⟨rfl, rfl⟩, ⟨rfl, rfl⟩, by decide +kernel, ⟨⟨rfl, rfl⟩, ⟨rfl, rfl⟩⟩⟩
theorem wk_111_0 : wk_l "TrailStoreModel" "newCount" rt_111_0 := ⟨trivial, trivial, trivial, trivial, trivial, trivial, trivial, trivial, trivial, ⟨rfl, rfl⟩, trivial, trivial, trivial, trivial, trivial, trivial, trivial⟩
theorem wk_111_1 : wk_l "TrailStoreModel" "newCount" rt_111_1 := ⟨trivial, trivial, trivial, trivial, trivial, trivial, trivial⟩
theorem wk_111 : ∀ l ∈ rt_111, wk_l "TrailStoreModel" "newCount" l := by
  intro l hl
  simp only [rt_111, List.mem_cons, List.not_mem_nil, or_false] at hl
  rcases hl with rfl | rfl
  · exact wk_111_0
  · exact wk_111_1
theorem dk_111_0 : (List.range 32).all (fun i => dk_i prog_9_method_24_code rt_111 (0 + i)) = true := by decide +kernel
theorem dk_111 : ∀ i, i < 32 → dk_i prog_9_method_24_code rt_111 i = true := by
  intro i hi
  by_cases h0 : i < 32
  · have := List.all_eq_true.mp dk_111_0 (i - 0) (List.mem_range.mpr (by omega))
    rwa [show 0 + (i - 0) = i by omega] at this
  exact absurd hi (by omega)
theorem mk_111 : mk_m 111 := ⟨⟨rfl, rfl⟩, ⟨rfl, rfl⟩, by decide +kernel, ⟨⟨rfl, rfl⟩, ⟨rfl, rfl⟩⟩⟩
theorem wk_112_0 : wk_l "TrailStoreModel" "writeTable" rt_112_0 := ⟨trivial, trivial, trivial, trivial, trivial, trivial, trivial, ⟨rfl, rfl⟩, trivial, trivial, trivial, trivial, trivial, trivial, trivial, ⟨rfl, rfl⟩, trivial⟩
theorem wk_112_1 : wk_l "TrailStoreModel" "writeTable" rt_112_1 := ⟨trivial, trivial, trivial, trivial, ⟨rfl, rfl⟩, trivial, trivial, trivial, trivial, trivial, trivial, trivial, trivial, trivial, trivial, trivial, trivial⟩
theorem wk_112_2 : wk_l "TrailStoreModel" "writeTable" rt_112_2 := ⟨trivial, trivial, trivial, trivial, trivial, trivial, trivial, trivial, trivial, trivial, trivial, trivial, trivial, trivial, trivial, trivial, trivial⟩
theorem wk_112_3 : wk_l "TrailStoreModel" "writeTable" rt_112_3 := ⟨trivial, trivial, ⟨rfl, rfl⟩, trivial, trivial, trivial, trivial, trivial, trivial, trivial, trivial, trivial, trivial, ⟨rfl, rfl⟩, trivial, trivial, trivial⟩
theorem wk_112_4 : wk_l "TrailStoreModel" "writeTable" rt_112_4 := ⟨trivial, trivial, trivial, ⟨rfl, rfl⟩, trivial, trivial, trivial, trivial, ⟨rfl, rfl⟩, trivial, trivial, trivial, trivial, trivial, trivial, trivial, trivial⟩
theorem wk_112_5 : wk_l "TrailStoreModel" "writeTable" rt_112_5 := ⟨trivial, trivial, ⟨rfl, rfl⟩, trivial, trivial, ⟨rfl, rfl⟩, trivial, trivial, trivial, trivial, trivial, ⟨rfl, rfl⟩, trivial, trivial, ⟨rfl, rfl⟩, trivial, trivial⟩
theorem wk_112_6 : wk_l "TrailStoreModel" "writeTable" rt_112_6 := ⟨trivial, ⟨rfl, rfl⟩, trivial, trivial, trivial, trivial, trivial, trivial, ⟨rfl, rfl⟩, trivial, trivial, trivial, trivial, ⟨rfl, rfl⟩, trivial, trivial, trivial⟩
theorem wk_112_7 : wk_l "TrailStoreModel" "writeTable" rt_112_7 := ⟨trivial, trivial, trivial, ⟨rfl, rfl⟩, trivial, trivial, trivial, trivial, trivial, ⟨rfl, rfl⟩, trivial, trivial, trivial, trivial, trivial, trivial, trivial⟩
theorem wk_112_8 : wk_l "TrailStoreModel" "writeTable" rt_112_8 := ⟨⟨rfl, rfl⟩, ⟨rfl, rfl⟩, trivial, trivial, trivial, ⟨rfl, rfl⟩, trivial, trivial, trivial, ⟨rfl, rfl⟩, ⟨rfl, rfl⟩, trivial, trivial, ⟨rfl, rfl⟩, trivial, trivial, trivial⟩
theorem wk_112_9 : wk_l "TrailStoreModel" "writeTable" rt_112_9 := ⟨⟨⟨rfl, rfl⟩, Or.inl rfl⟩, trivial, trivial, trivial, trivial, trivial, trivial, trivial, trivial, trivial, trivial, ⟨rfl, rfl⟩, trivial, trivial, trivial⟩
theorem wk_112 : ∀ l ∈ rt_112, wk_l "TrailStoreModel" "writeTable" l := by
  intro l hl
  simp only [rt_112, List.mem_cons, List.not_mem_nil, or_false] at hl
  rcases hl with rfl | rfl | rfl | rfl | rfl | rfl | rfl | rfl | rfl | rfl
  · exact wk_112_0
  · exact wk_112_1
  · exact wk_112_2
  · exact wk_112_3
  · exact wk_112_4
  · exact wk_112_5
  · exact wk_112_6
  · exact wk_112_7
  · exact wk_112_8
  · exact wk_112_9
theorem dk_112_0 : (List.range 48).all (fun i => dk_i prog_9_method_25_code rt_112 (0 + i)) = true := by decide +kernel
theorem dk_112_1 : (List.range 48).all (fun i => dk_i prog_9_method_25_code rt_112 (48 + i)) = true := by decide +kernel
theorem dk_112_2 : (List.range 48).all (fun i => dk_i prog_9_method_25_code rt_112 (96 + i)) = true := by decide +kernel
theorem dk_112_3 : (List.range 16).all (fun i => dk_i prog_9_method_25_code rt_112 (144 + i)) = true := by decide +kernel
theorem dk_112 : ∀ i, i < 160 → dk_i prog_9_method_25_code rt_112 i = true := by
  intro i hi
  by_cases h0 : i < 48
  · have := List.all_eq_true.mp dk_112_0 (i - 0) (List.mem_range.mpr (by omega))
    rwa [show 0 + (i - 0) = i by omega] at this
  by_cases h1 : i < 96
  · have := List.all_eq_true.mp dk_112_1 (i - 48) (List.mem_range.mpr (by omega))
    rwa [show 48 + (i - 48) = i by omega] at this
  by_cases h2 : i < 144
  · have := List.all_eq_true.mp dk_112_2 (i - 96) (List.mem_range.mpr (by omega))
    rwa [show 96 + (i - 96) = i by omega] at this
  by_cases h3 : i < 160
  · have := List.all_eq_true.mp dk_112_3 (i - 144) (List.mem_range.mpr (by omega))
    rwa [show 144 + (i - 144) = i by omega] at this
  exact absurd hi (by omega)
theorem mk_112 : mk_m 112 := ⟨⟨rfl, rfl⟩, ⟨rfl, rfl⟩, by decide +kernel, ⟨⟨rfl, rfl⟩, ⟨rfl, rfl⟩⟩⟩
theorem wk_113_0 : wk_l "TrailStoreModel" "drop" rt_113_0 := ⟨trivial, trivial, trivial, trivial, trivial, trivial, trivial, trivial, ⟨rfl, rfl⟩, trivial, ⟨rfl, rfl⟩, trivial, trivial, trivial, trivial, trivial, trivial⟩
theorem wk_113_1 : wk_l "TrailStoreModel" "drop" rt_113_1 := ⟨trivial, trivial, trivial, trivial, trivial, trivial, trivial, ⟨rfl, rfl⟩, trivial, trivial, ⟨rfl, rfl⟩, trivial, trivial, ⟨rfl, rfl⟩, trivial, trivial, trivial⟩
theorem wk_113_2 : wk_l "TrailStoreModel" "drop" rt_113_2 := ⟨trivial, trivial, trivial, trivial, trivial, trivial, trivial, ⟨rfl, rfl⟩, trivial, trivial, ⟨⟨rfl, rfl⟩, Or.inl rfl⟩, trivial, trivial⟩
theorem wk_113 : ∀ l ∈ rt_113, wk_l "TrailStoreModel" "drop" l := by
  intro l hl
  simp only [rt_113, List.mem_cons, List.not_mem_nil, or_false] at hl
  rcases hl with rfl | rfl | rfl
  · exact wk_113_0
  · exact wk_113_1
  · exact wk_113_2
theorem dk_113_0 : (List.range 48).all (fun i => dk_i prog_9_method_26_code rt_113 (0 + i)) = true := by decide +kernel
theorem dk_113 : ∀ i, i < 48 → dk_i prog_9_method_26_code rt_113 i = true := by
  intro i hi
  by_cases h0 : i < 48
  · have := List.all_eq_true.mp dk_113_0 (i - 0) (List.mem_range.mpr (by omega))
    rwa [show 0 + (i - 0) = i by omega] at this
  exact absurd hi (by omega)
theorem mk_113 : mk_m 113 := ⟨⟨rfl, rfl⟩, ⟨rfl, rfl⟩, by decide +kernel, ⟨⟨rfl, rfl⟩, ⟨rfl, rfl⟩⟩⟩
theorem wk_114_0 : wk_l "TrailStoreModel" "insert" rt_114_0 := ⟨trivial, ⟨rfl, rfl⟩, trivial, trivial, trivial, trivial, trivial, ⟨rfl, rfl⟩, trivial, trivial, ⟨rfl, rfl⟩, trivial, trivial, trivial, trivial, trivial, trivial⟩
theorem wk_114_1 : wk_l "TrailStoreModel" "insert" rt_114_1 := ⟨trivial, trivial, trivial, ⟨rfl, rfl⟩, trivial, trivial, trivial, trivial, trivial, ⟨rfl, rfl⟩, trivial, trivial, ⟨⟨rfl, rfl⟩, Or.inl rfl⟩, trivial, trivial⟩
theorem wk_114 : ∀ l ∈ rt_114, wk_l "TrailStoreModel" "insert" l := by
  intro l hl
  simp only [rt_114, List.mem_cons, List.not_mem_nil, or_false] at hl
  rcases hl with rfl | rfl
  · exact wk_114_0
  · exact wk_114_1
theorem dk_114_0 : (List.range 32).all (fun i => dk_i prog_9_method_27_code rt_114 (0 + i)) = true := by decide +kernel
theorem dk_114 : ∀ i, i < 32 → dk_i prog_9_method_27_code rt_114 i = true := by
  intro i hi
  by_cases h0 : i < 32
  · have := List.all_eq_true.mp dk_114_0 (i - 0) (List.mem_range.mpr (by omega))
    rwa [show 0 + (i - 0) = i by omega] at this
  exact absurd hi (by omega)
theorem mk_114 : mk_m 114 := ⟨⟨rfl, rfl⟩, ⟨rfl, rfl⟩, by decide +kernel, ⟨⟨rfl, rfl⟩, ⟨rfl, rfl⟩⟩⟩
theorem wk_115_0 : wk_l "TrailStoreModel" "countOf" rt_115_0 := ⟨trivial, trivial, trivial, trivial, trivial, trivial, ⟨rfl, rfl⟩, trivial, trivial, trivial, trivial, ⟨rfl, rfl⟩, trivial, trivial, trivial, trivial, trivial⟩
theorem wk_115_1 : wk_l "TrailStoreModel" "countOf" rt_115_1 := ⟨trivial, trivial, trivial, trivial, trivial, trivial, trivial, trivial⟩
theorem wk_115 : ∀ l ∈ rt_115, wk_l "TrailStoreModel" "countOf" l := by
  intro l hl
  simp only [rt_115, List.mem_cons, List.not_mem_nil, or_false] at hl
  rcases hl with rfl | rfl
  · exact wk_115_0
  · exact wk_115_1
theorem dk_115_0 : (List.range 32).all (fun i => dk_i prog_9_method_28_code rt_115 (0 + i)) = true := by decide +kernel
theorem dk_115 : ∀ i, i < 32 → dk_i prog_9_method_28_code rt_115 i = true := by
  intro i hi
  by_cases h0 : i < 32
  · have := List.all_eq_true.mp dk_115_0 (i - 0) (List.mem_range.mpr (by omega))
    rwa [show 0 + (i - 0) = i by omega] at this
  exact absurd hi (by omega)
theorem mk_115 : mk_m 115 := ⟨⟨rfl, rfl⟩, ⟨rfl, rfl⟩, by decide +kernel, ⟨⟨rfl, rfl⟩, ⟨rfl, rfl⟩⟩⟩
theorem wk_116_0 : wk_l "TrailStoreModel" "writeRoot" rt_116_0 := ⟨trivial, trivial, ⟨rfl, rfl⟩, trivial, trivial, ⟨⟨rfl, rfl⟩, Or.inl rfl⟩, trivial, trivial, ⟨rfl, rfl⟩, trivial, trivial, trivial, trivial, trivial, trivial, ⟨rfl, rfl⟩, trivial⟩
theorem wk_116_1 : wk_l "TrailStoreModel" "writeRoot" rt_116_1 := ⟨trivial, trivial, trivial, trivial, trivial, trivial, ⟨rfl, rfl⟩, trivial, ⟨rfl, rfl⟩, trivial, trivial, trivial, trivial, trivial, ⟨rfl, rfl⟩, ⟨rfl, rfl⟩, trivial⟩
theorem wk_116_2 : wk_l "TrailStoreModel" "writeRoot" rt_116_2 := ⟨trivial, trivial, trivial, ⟨rfl, rfl⟩, ⟨rfl, rfl⟩, trivial, trivial, trivial, ⟨rfl, rfl⟩, ⟨rfl, rfl⟩, trivial, trivial, trivial, ⟨rfl, rfl⟩, ⟨rfl, rfl⟩, trivial, trivial⟩
theorem wk_116_3 : wk_l "TrailStoreModel" "writeRoot" rt_116_3 := ⟨trivial, trivial, ⟨rfl, rfl⟩, ⟨rfl, rfl⟩, trivial, ⟨rfl, rfl⟩, trivial, trivial, ⟨rfl, rfl⟩, trivial, trivial, trivial, trivial, trivial, trivial, ⟨rfl, rfl⟩, trivial⟩
theorem wk_116_4 : wk_l "TrailStoreModel" "writeRoot" rt_116_4 := ⟨trivial, trivial, ⟨rfl, rfl⟩, trivial, trivial, trivial, trivial, ⟨rfl, rfl⟩, trivial, trivial, trivial, trivial, trivial, trivial, trivial, trivial, trivial⟩
theorem wk_116_5 : wk_l "TrailStoreModel" "writeRoot" rt_116_5 := ⟨trivial, trivial, ⟨rfl, rfl⟩, trivial, ⟨rfl, rfl⟩, trivial, trivial, trivial, trivial, trivial, ⟨rfl, rfl⟩, ⟨rfl, rfl⟩, trivial, trivial, trivial, trivial, trivial⟩
theorem wk_116_6 : wk_l "TrailStoreModel" "writeRoot" rt_116_6 := ⟨trivial, trivial, ⟨rfl, rfl⟩, trivial, trivial⟩
theorem wk_116 : ∀ l ∈ rt_116, wk_l "TrailStoreModel" "writeRoot" l := by
  intro l hl
  simp only [rt_116, List.mem_cons, List.not_mem_nil, or_false] at hl
  rcases hl with rfl | rfl | rfl | rfl | rfl | rfl | rfl
  · exact wk_116_0
  · exact wk_116_1
  · exact wk_116_2
  · exact wk_116_3
  · exact wk_116_4
  · exact wk_116_5
  · exact wk_116_6
theorem dk_116_0 : (List.range 48).all (fun i => dk_i prog_9_method_29_code rt_116 (0 + i)) = true := by decide +kernel
theorem dk_116_1 : (List.range 48).all (fun i => dk_i prog_9_method_29_code rt_116 (48 + i)) = true := by decide +kernel
theorem dk_116_2 : (List.range 16).all (fun i => dk_i prog_9_method_29_code rt_116 (96 + i)) = true := by decide +kernel
theorem dk_116 : ∀ i, i < 112 → dk_i prog_9_method_29_code rt_116 i = true := by
  intro i hi
  by_cases h0 : i < 48
  · have := List.all_eq_true.mp dk_116_0 (i - 0) (List.mem_range.mpr (by omega))
    rwa [show 0 + (i - 0) = i by omega] at this
  by_cases h1 : i < 96
  · have := List.all_eq_true.mp dk_116_1 (i - 48) (List.mem_range.mpr (by omega))
    rwa [show 48 + (i - 48) = i by omega] at this
  by_cases h2 : i < 112
  · have := List.all_eq_true.mp dk_116_2 (i - 96) (List.mem_range.mpr (by omega))
    rwa [show 96 + (i - 96) = i by omega] at this
  exact absurd hi (by omega)
theorem mk_116 : mk_m 116 := ⟨⟨rfl, rfl⟩, ⟨rfl, rfl⟩, by decide +kernel, ⟨⟨rfl, rfl⟩, ⟨rfl, rfl⟩⟩⟩
theorem wk_117_0 : wk_l "TrailStoreModel" "makeTables" rt_117_0 := ⟨trivial, trivial, trivial, trivial, trivial, trivial, ⟨rfl, rfl⟩, trivial, trivial, trivial, trivial, trivial, trivial, trivial, trivial, trivial, trivial⟩
theorem wk_117_1 : wk_l "TrailStoreModel" "makeTables" rt_117_1 := ⟨trivial, trivial, ⟨rfl, rfl⟩, trivial, trivial, ⟨rfl, rfl⟩, trivial, trivial, trivial, trivial, ⟨rfl, rfl⟩, trivial, trivial, ⟨rfl, rfl⟩, trivial, trivial, trivial⟩
theorem wk_117_2 : wk_l "TrailStoreModel" "makeTables" rt_117_2 := ⟨trivial, trivial, ⟨rfl, rfl⟩, trivial, trivial, ⟨rfl, rfl⟩, trivial, trivial, trivial, trivial, trivial, trivial, trivial, ⟨rfl, rfl⟩, trivial, trivial, trivial⟩
theorem wk_117_3 : wk_l "TrailStoreModel" "makeTables" rt_117_3 := ⟨⟨rfl, rfl⟩, trivial, trivial, trivial, trivial, trivial, ⟨rfl, rfl⟩, trivial, trivial, ⟨rfl, rfl⟩, trivial, trivial, trivial, trivial, trivial, trivial, trivial⟩
theorem wk_117_4 : wk_l "TrailStoreModel" "makeTables" rt_117_4 := ⟨⟨rfl, rfl⟩, trivial, trivial, trivial, ⟨rfl, rfl⟩, trivial, trivial, trivial, trivial, trivial, trivial, trivial, ⟨rfl, rfl⟩, trivial, trivial, trivial, trivial⟩
theorem wk_117_5 : wk_l "TrailStoreModel" "makeTables" rt_117_5 := ⟨trivial, ⟨rfl, rfl⟩, trivial, trivial, ⟨rfl, rfl⟩, trivial, trivial, trivial, ⟨rfl, rfl⟩, trivial, trivial, trivial, trivial, trivial, trivial, trivial, trivial⟩
theorem wk_117_6 : wk_l "TrailStoreModel" "makeTables" rt_117_6 := ⟨trivial, trivial, ⟨rfl, rfl⟩, trivial, trivial, trivial, ⟨rfl, rfl⟩, trivial, trivial, trivial, trivial, ⟨rfl, rfl⟩, trivial, trivial, trivial, ⟨rfl, rfl⟩, trivial⟩
theorem wk_117_7 : wk_l "TrailStoreModel" "makeTables" rt_117_7 := ⟨trivial, trivial, trivial, trivial, trivial, trivial, trivial, trivial, trivial, ⟨rfl, rfl⟩, trivial, trivial, trivial, trivial, trivial, trivial, trivial⟩
theorem wk_117_8 : wk_l "TrailStoreModel" "makeTables" rt_117_8 := ⟨trivial, trivial, ⟨rfl, rfl⟩, trivial, trivial, ⟨rfl, rfl⟩, trivial, trivial, trivial, trivial, trivial, trivial, trivial, ⟨rfl, rfl⟩, trivial, trivial, trivial⟩
theorem wk_117_9 : wk_l "TrailStoreModel" "makeTables" rt_117_9 := ⟨trivial, trivial, trivial, trivial, ⟨rfl, rfl⟩, trivial, trivial, trivial, trivial, trivial, trivial, trivial, trivial, trivial, ⟨rfl, rfl⟩, trivial, trivial⟩
theorem wk_117_10 : wk_l "TrailStoreModel" "makeTables" rt_117_10 := ⟨trivial, ⟨rfl, rfl⟩, trivial, trivial, trivial, trivial, trivial, ⟨rfl, rfl⟩, trivial, trivial, trivial, trivial, trivial, ⟨rfl, rfl⟩, trivial, trivial⟩
theorem wk_117 : ∀ l ∈ rt_117, wk_l "TrailStoreModel" "makeTables" l := by
  intro l hl
  simp only [rt_117, List.mem_cons, List.not_mem_nil, or_false] at hl
  rcases hl with rfl | rfl | rfl | rfl | rfl | rfl | rfl | rfl | rfl | rfl | rfl
  · exact wk_117_0
  · exact wk_117_1
  · exact wk_117_2
  · exact wk_117_3
  · exact wk_117_4
  · exact wk_117_5
  · exact wk_117_6
  · exact wk_117_7
  · exact wk_117_8
  · exact wk_117_9
  · exact wk_117_10
theorem dk_117_0 : (List.range 48).all (fun i => dk_i prog_9_method_30_code rt_117 (0 + i)) = true := by decide +kernel
theorem dk_117_1 : (List.range 48).all (fun i => dk_i prog_9_method_30_code rt_117 (48 + i)) = true := by decide +kernel
theorem dk_117_2 : (List.range 48).all (fun i => dk_i prog_9_method_30_code rt_117 (96 + i)) = true := by decide +kernel
theorem dk_117_3 : (List.range 32).all (fun i => dk_i prog_9_method_30_code rt_117 (144 + i)) = true := by decide +kernel
theorem dk_117 : ∀ i, i < 176 → dk_i prog_9_method_30_code rt_117 i = true := by
  intro i hi
  by_cases h0 : i < 48
  · have := List.all_eq_true.mp dk_117_0 (i - 0) (List.mem_range.mpr (by omega))
    rwa [show 0 + (i - 0) = i by omega] at this
  by_cases h1 : i < 96
  · have := List.all_eq_true.mp dk_117_1 (i - 48) (List.mem_range.mpr (by omega))
    rwa [show 48 + (i - 48) = i by omega] at this
  by_cases h2 : i < 144
  · have := List.all_eq_true.mp dk_117_2 (i - 96) (List.mem_range.mpr (by omega))
    rwa [show 96 + (i - 96) = i by omega] at this
  by_cases h3 : i < 176
  · have := List.all_eq_true.mp dk_117_3 (i - 144) (List.mem_range.mpr (by omega))
    rwa [show 144 + (i - 144) = i by omega] at this
  exact absurd hi (by omega)
theorem mk_117 : mk_m 117 := ⟨⟨rfl, rfl⟩, ⟨rfl, rfl⟩, by decide +kernel, ⟨⟨rfl, rfl⟩, ⟨rfl, rfl⟩⟩⟩
theorem wk_118_0 : wk_l "TrailStoreModel" "checkpointAll" rt_118_0 := ⟨trivial, ⟨rfl, rfl⟩, trivial, trivial, ⟨rfl, rfl⟩, trivial, trivial, ⟨rfl, rfl⟩, trivial, ⟨rfl, rfl⟩, trivial, trivial, trivial, trivial, ⟨⟨rfl, rfl⟩, Or.inl rfl⟩, trivial, trivial⟩
theorem wk_118_1 : wk_l "TrailStoreModel" "checkpointAll" rt_118_1 := ⟨trivial, trivial, trivial, trivial, trivial, ⟨rfl, rfl⟩, trivial, trivial, trivial, trivial, trivial, trivial, ⟨rfl, rfl⟩, trivial, trivial, trivial, trivial⟩
theorem wk_118_2 : wk_l "TrailStoreModel" "checkpointAll" rt_118_2 := ⟨⟨rfl, rfl⟩, ⟨⟨rfl, rfl⟩, Or.inl rfl⟩, trivial, trivial, ⟨rfl, rfl⟩, ⟨⟨rfl, rfl⟩, Or.inl rfl⟩, trivial, ⟨rfl, rfl⟩, trivial, ⟨rfl, rfl⟩, trivial, trivial, ⟨rfl, rfl⟩, trivial, trivial, trivial⟩
theorem wk_118 : ∀ l ∈ rt_118, wk_l "TrailStoreModel" "checkpointAll" l := by
  intro l hl
  simp only [rt_118, List.mem_cons, List.not_mem_nil, or_false] at hl
  rcases hl with rfl | rfl | rfl
  · exact wk_118_0
  · exact wk_118_1
  · exact wk_118_2
theorem dk_118_0 : (List.range 48).all (fun i => dk_i prog_9_method_31_code rt_118 (0 + i)) = true := by decide +kernel
theorem dk_118 : ∀ i, i < 48 → dk_i prog_9_method_31_code rt_118 i = true := by
  intro i hi
  by_cases h0 : i < 48
  · have := List.all_eq_true.mp dk_118_0 (i - 0) (List.mem_range.mpr (by omega))
    rwa [show 0 + (i - 0) = i by omega] at this
  exact absurd hi (by omega)
theorem mk_118 : mk_m 118 := ⟨⟨rfl, rfl⟩, ⟨rfl, rfl⟩, by decide +kernel, ⟨⟨rfl, rfl⟩, ⟨rfl, rfl⟩⟩⟩
theorem wk_119_0 : wk_l "TrailStoreModel" "hasRoom" rt_119_0 := ⟨trivial, ⟨rfl, rfl⟩, trivial, trivial, trivial, trivial, ⟨rfl, rfl⟩, trivial, trivial, ⟨rfl, rfl⟩, trivial, trivial, trivial, ⟨rfl, rfl⟩, trivial, trivial, trivial⟩
theorem wk_119_1 : wk_l "TrailStoreModel" "hasRoom" rt_119_1 := ⟨trivial, trivial, trivial, trivial, trivial, trivial, trivial, trivial⟩
theorem wk_119 : ∀ l ∈ rt_119, wk_l "TrailStoreModel" "hasRoom" l := by
  intro l hl
  simp only [rt_119, List.mem_cons, List.not_mem_nil, or_false] at hl
  rcases hl with rfl | rfl
  · exact wk_119_0
  · exact wk_119_1
theorem dk_119_0 : (List.range 32).all (fun i => dk_i prog_9_method_32_code rt_119 (0 + i)) = true := by decide +kernel
theorem dk_119 : ∀ i, i < 32 → dk_i prog_9_method_32_code rt_119 i = true := by
  intro i hi
  by_cases h0 : i < 32
  · have := List.all_eq_true.mp dk_119_0 (i - 0) (List.mem_range.mpr (by omega))
    rwa [show 0 + (i - 0) = i by omega] at this
  exact absurd hi (by omega)
theorem mk_119 : mk_m 119 := ⟨⟨rfl, rfl⟩, ⟨rfl, rfl⟩, by decide +kernel, ⟨⟨rfl, rfl⟩, ⟨rfl, rfl⟩⟩⟩
theorem wk_120_0 : wk_l "TrailStoreModel" "collecting" rt_120_0 := ⟨trivial, ⟨rfl, rfl⟩, trivial, ⟨rfl, rfl⟩, trivial, trivial, ⟨rfl, rfl⟩, trivial, ⟨rfl, rfl⟩, trivial, trivial, trivial, trivial, ⟨rfl, rfl⟩, trivial, trivial, trivial⟩
theorem wk_120_1 : wk_l "TrailStoreModel" "collecting" rt_120_1 := ⟨⟨rfl, rfl⟩, trivial, trivial, trivial, trivial, trivial, trivial, trivial, trivial, trivial, trivial, trivial, trivial, trivial, trivial, trivial, trivial⟩
theorem wk_120_2 : wk_l "TrailStoreModel" "collecting" rt_120_2 := ⟨trivial, trivial, trivial, ⟨rfl, rfl⟩, trivial, trivial, trivial, ⟨rfl, rfl⟩, trivial, trivial, trivial, ⟨rfl, rfl⟩, trivial, trivial, ⟨rfl, rfl⟩, trivial, trivial⟩
theorem wk_120_3 : wk_l "TrailStoreModel" "collecting" rt_120_3 := ⟨trivial, trivial, ⟨rfl, rfl⟩, trivial, trivial, trivial, trivial, trivial, trivial, trivial, trivial, trivial, trivial, trivial, ⟨rfl, rfl⟩, trivial, trivial⟩
theorem wk_120_4 : wk_l "TrailStoreModel" "collecting" rt_120_4 := ⟨trivial, ⟨rfl, rfl⟩, trivial, trivial, trivial, trivial, ⟨rfl, rfl⟩, trivial, trivial, trivial, trivial, trivial, trivial, trivial, trivial, trivial, trivial⟩
theorem wk_120_5 : wk_l "TrailStoreModel" "collecting" rt_120_5 := ⟨trivial, trivial, trivial, trivial, trivial, trivial, trivial, ⟨rfl, rfl⟩, trivial, trivial, trivial, trivial, trivial, trivial, trivial, trivial, trivial⟩
theorem wk_120_6 : wk_l "TrailStoreModel" "collecting" rt_120_6 := ⟨⟨rfl, rfl⟩, trivial, trivial, trivial, trivial, trivial, ⟨rfl, rfl⟩, trivial, trivial, ⟨rfl, rfl⟩, trivial, trivial, trivial, trivial, trivial, trivial, trivial⟩
theorem wk_120_7 : wk_l "TrailStoreModel" "collecting" rt_120_7 := ⟨trivial, ⟨rfl, rfl⟩, trivial, trivial, trivial, trivial, trivial, trivial, trivial, trivial, ⟨rfl, rfl⟩, trivial, trivial, trivial, trivial, trivial, trivial⟩
theorem wk_120_8 : wk_l "TrailStoreModel" "collecting" rt_120_8 := ⟨trivial, trivial, trivial, trivial, ⟨rfl, rfl⟩, trivial, trivial, trivial, ⟨⟨rfl, rfl⟩, Or.inl rfl⟩, trivial, trivial, trivial, ⟨rfl, rfl⟩, trivial, ⟨rfl, rfl⟩, trivial, trivial⟩
theorem wk_120_9 : wk_l "TrailStoreModel" "collecting" rt_120_9 := ⟨trivial, ⟨rfl, rfl⟩, trivial, trivial, trivial, trivial⟩
theorem wk_120 : ∀ l ∈ rt_120, wk_l "TrailStoreModel" "collecting" l := by
  intro l hl
  simp only [rt_120, List.mem_cons, List.not_mem_nil, or_false] at hl
  rcases hl with rfl | rfl | rfl | rfl | rfl | rfl | rfl | rfl | rfl | rfl
  · exact wk_120_0
  · exact wk_120_1
  · exact wk_120_2
  · exact wk_120_3
  · exact wk_120_4
  · exact wk_120_5
  · exact wk_120_6
  · exact wk_120_7
  · exact wk_120_8
  · exact wk_120_9
theorem dk_120_0 : (List.range 48).all (fun i => dk_i prog_9_method_33_code rt_120 (0 + i)) = true := by decide +kernel
theorem dk_120_1 : (List.range 48).all (fun i => dk_i prog_9_method_33_code rt_120 (48 + i)) = true := by decide +kernel
theorem dk_120_2 : (List.range 48).all (fun i => dk_i prog_9_method_33_code rt_120 (96 + i)) = true := by decide +kernel
theorem dk_120_3 : (List.range 16).all (fun i => dk_i prog_9_method_33_code rt_120 (144 + i)) = true := by decide +kernel
theorem dk_120 : ∀ i, i < 160 → dk_i prog_9_method_33_code rt_120 i = true := by
  intro i hi
  by_cases h0 : i < 48
  · have := List.all_eq_true.mp dk_120_0 (i - 0) (List.mem_range.mpr (by omega))
    rwa [show 0 + (i - 0) = i by omega] at this
  by_cases h1 : i < 96
  · have := List.all_eq_true.mp dk_120_1 (i - 48) (List.mem_range.mpr (by omega))
    rwa [show 48 + (i - 48) = i by omega] at this
  by_cases h2 : i < 144
  · have := List.all_eq_true.mp dk_120_2 (i - 96) (List.mem_range.mpr (by omega))
    rwa [show 96 + (i - 96) = i by omega] at this
  by_cases h3 : i < 160
  · have := List.all_eq_true.mp dk_120_3 (i - 144) (List.mem_range.mpr (by omega))
    rwa [show 144 + (i - 144) = i by omega] at this
  exact absurd hi (by omega)
theorem mk_120 : mk_m 120 := ⟨⟨rfl, rfl⟩, ⟨rfl, rfl⟩, by decide +kernel, ⟨⟨rfl, rfl⟩, ⟨rfl, rfl⟩⟩⟩
theorem wk_121_0 : wk_l "TrailStoreModel" "passLog" rt_121_0 := ⟨trivial, ⟨rfl, rfl⟩, trivial, trivial, trivial, trivial, ⟨rfl, rfl⟩, trivial, trivial, ⟨rfl, rfl⟩, trivial, trivial, trivial, trivial, trivial, trivial, trivial⟩
theorem wk_121_1 : wk_l "TrailStoreModel" "passLog" rt_121_1 := ⟨⟨rfl, rfl⟩, trivial, trivial, trivial, trivial⟩
theorem wk_121 : ∀ l ∈ rt_121, wk_l "TrailStoreModel" "passLog" l := by
  intro l hl
  simp only [rt_121, List.mem_cons, List.not_mem_nil, or_false] at hl
  rcases hl with rfl | rfl
  · exact wk_121_0
  · exact wk_121_1
theorem dk_121_0 : (List.range 32).all (fun i => dk_i prog_9_method_34_code rt_121 (0 + i)) = true := by decide +kernel
theorem dk_121 : ∀ i, i < 32 → dk_i prog_9_method_34_code rt_121 i = true := by
  intro i hi
  by_cases h0 : i < 32
  · have := List.all_eq_true.mp dk_121_0 (i - 0) (List.mem_range.mpr (by omega))
    rwa [show 0 + (i - 0) = i by omega] at this
  exact absurd hi (by omega)
theorem mk_121 : mk_m 121 := ⟨⟨rfl, rfl⟩, ⟨rfl, rfl⟩, by decide +kernel, ⟨⟨rfl, rfl⟩, ⟨rfl, rfl⟩⟩⟩
theorem wk_122_0 : wk_l "TrailStoreModel" "wouldHave" rt_122_0 := ⟨trivial, ⟨rfl, rfl⟩, trivial, trivial, trivial, trivial, trivial, ⟨rfl, rfl⟩, trivial, trivial, ⟨rfl, rfl⟩, trivial, ⟨rfl, rfl⟩, trivial, trivial, trivial, trivial⟩
theorem wk_122_1 : wk_l "TrailStoreModel" "wouldHave" rt_122_1 := ⟨trivial, trivial, trivial, trivial, trivial, trivial, trivial, trivial, trivial, trivial, trivial, trivial, trivial, ⟨rfl, rfl⟩, trivial, trivial, trivial⟩
theorem wk_122_2 : wk_l "TrailStoreModel" "wouldHave" rt_122_2 := ⟨trivial, ⟨rfl, rfl⟩, trivial, trivial, trivial, trivial, trivial, trivial, trivial, trivial, trivial, trivial, trivial, trivial, trivial, trivial, trivial⟩
theorem wk_122_3 : wk_l "TrailStoreModel" "wouldHave" rt_122_3 := ⟨trivial, trivial, trivial, trivial, trivial, trivial, trivial, trivial⟩
theorem wk_122 : ∀ l ∈ rt_122, wk_l "TrailStoreModel" "wouldHave" l := by
  intro l hl
  simp only [rt_122, List.mem_cons, List.not_mem_nil, or_false] at hl
  rcases hl with rfl | rfl | rfl | rfl
  · exact wk_122_0
  · exact wk_122_1
  · exact wk_122_2
  · exact wk_122_3
theorem dk_122_0 : (List.range 48).all (fun i => dk_i prog_9_method_35_code rt_122 (0 + i)) = true := by decide +kernel
theorem dk_122_1 : (List.range 16).all (fun i => dk_i prog_9_method_35_code rt_122 (48 + i)) = true := by decide +kernel
theorem dk_122 : ∀ i, i < 64 → dk_i prog_9_method_35_code rt_122 i = true := by
  intro i hi
  by_cases h0 : i < 48
  · have := List.all_eq_true.mp dk_122_0 (i - 0) (List.mem_range.mpr (by omega))
    rwa [show 0 + (i - 0) = i by omega] at this
  by_cases h1 : i < 64
  · have := List.all_eq_true.mp dk_122_1 (i - 48) (List.mem_range.mpr (by omega))
    rwa [show 48 + (i - 48) = i by omega] at this
  exact absurd hi (by omega)
theorem mk_122 : mk_m 122 := ⟨⟨rfl, rfl⟩, ⟨rfl, rfl⟩, by decide +kernel, ⟨⟨rfl, rfl⟩, ⟨rfl, rfl⟩⟩⟩
theorem wk_123_0 : wk_l "TrailStoreModel" "writeBatch" rt_123_0 := ⟨trivial, ⟨rfl, rfl⟩, trivial, trivial, trivial, ⟨rfl, rfl⟩, trivial, trivial, trivial, trivial, trivial, trivial, ⟨rfl, rfl⟩, trivial, trivial, trivial, trivial⟩
theorem wk_123_1 : wk_l "TrailStoreModel" "writeBatch" rt_123_1 := ⟨trivial, ⟨rfl, rfl⟩, trivial, trivial, trivial, trivial, trivial, trivial, trivial, trivial, ⟨rfl, rfl⟩, trivial, trivial, trivial, trivial, ⟨rfl, rfl⟩, trivial⟩
theorem wk_123_2 : wk_l "TrailStoreModel" "writeBatch" rt_123_2 := ⟨trivial, trivial, ⟨rfl, rfl⟩, trivial, ⟨rfl, rfl⟩, trivial, trivial, trivial, trivial, ⟨rfl, rfl⟩, trivial, trivial, trivial, ⟨⟨rfl, rfl⟩, Or.inl rfl⟩, trivial, trivial, trivial⟩
theorem wk_123_3 : wk_l "TrailStoreModel" "writeBatch" rt_123_3 := ⟨⟨⟨rfl, rfl⟩, Or.inl rfl⟩, trivial, trivial, trivial, ⟨rfl, rfl⟩, trivial, trivial, ⟨rfl, rfl⟩, trivial, trivial, trivial, ⟨rfl, rfl⟩, trivial, ⟨rfl, rfl⟩, trivial, trivial, trivial⟩
theorem wk_123_4 : wk_l "TrailStoreModel" "writeBatch" rt_123_4 := ⟨trivial, trivial, ⟨rfl, rfl⟩, trivial, trivial, ⟨rfl, rfl⟩, trivial, trivial, ⟨rfl, rfl⟩, trivial, trivial, trivial, trivial, trivial, trivial, trivial, trivial⟩
theorem wk_123_5 : wk_l "TrailStoreModel" "writeBatch" rt_123_5 := ⟨trivial, trivial, trivial, ⟨rfl, rfl⟩, trivial, trivial, trivial, trivial, ⟨rfl, rfl⟩, trivial, trivial, ⟨rfl, rfl⟩, trivial, trivial, trivial, trivial, trivial⟩
theorem wk_123_6 : wk_l "TrailStoreModel" "writeBatch" rt_123_6 := ⟨trivial, trivial, trivial, trivial, trivial, trivial, trivial, ⟨rfl, rfl⟩, trivial, trivial, trivial, trivial, trivial, trivial, trivial, trivial, trivial⟩
theorem wk_123_7 : wk_l "TrailStoreModel" "writeBatch" rt_123_7 := ⟨trivial, trivial, trivial, trivial, ⟨rfl, rfl⟩, trivial, trivial, trivial, ⟨rfl, rfl⟩, trivial, trivial, ⟨rfl, rfl⟩, trivial, trivial, trivial, trivial, trivial⟩
theorem wk_123_8 : wk_l "TrailStoreModel" "writeBatch" rt_123_8 := ⟨trivial, trivial, trivial, trivial, trivial, trivial, trivial, trivial, ⟨rfl, rfl⟩, trivial, trivial, trivial, ⟨rfl, rfl⟩, trivial, trivial, trivial, trivial⟩
theorem wk_123_9 : wk_l "TrailStoreModel" "writeBatch" rt_123_9 := ⟨trivial, trivial, trivial, ⟨rfl, rfl⟩, trivial, trivial, trivial, ⟨rfl, rfl⟩, trivial, trivial, trivial, trivial, trivial, trivial, trivial, trivial, trivial⟩
theorem wk_123_10 : wk_l "TrailStoreModel" "writeBatch" rt_123_10 := ⟨trivial, ⟨⟨rfl, rfl⟩, Or.inl rfl⟩, trivial, trivial, ⟨⟨rfl, rfl⟩, Or.inl rfl⟩, trivial, trivial, trivial⟩
theorem wk_123 : ∀ l ∈ rt_123, wk_l "TrailStoreModel" "writeBatch" l := by
  intro l hl
  simp only [rt_123, List.mem_cons, List.not_mem_nil, or_false] at hl
  rcases hl with rfl | rfl | rfl | rfl | rfl | rfl | rfl | rfl | rfl | rfl | rfl
  · exact wk_123_0
  · exact wk_123_1
  · exact wk_123_2
  · exact wk_123_3
  · exact wk_123_4
  · exact wk_123_5
  · exact wk_123_6
  · exact wk_123_7
  · exact wk_123_8
  · exact wk_123_9
  · exact wk_123_10
theorem dk_123_0 : (List.range 48).all (fun i => dk_i prog_9_method_36_code rt_123 (0 + i)) = true := by decide +kernel
theorem dk_123_1 : (List.range 48).all (fun i => dk_i prog_9_method_36_code rt_123 (48 + i)) = true := by decide +kernel
theorem dk_123_2 : (List.range 48).all (fun i => dk_i prog_9_method_36_code rt_123 (96 + i)) = true := by decide +kernel
theorem dk_123_3 : (List.range 32).all (fun i => dk_i prog_9_method_36_code rt_123 (144 + i)) = true := by decide +kernel
theorem dk_123 : ∀ i, i < 176 → dk_i prog_9_method_36_code rt_123 i = true := by
  intro i hi
  by_cases h0 : i < 48
  · have := List.all_eq_true.mp dk_123_0 (i - 0) (List.mem_range.mpr (by omega))
    rwa [show 0 + (i - 0) = i by omega] at this
  by_cases h1 : i < 96
  · have := List.all_eq_true.mp dk_123_1 (i - 48) (List.mem_range.mpr (by omega))
    rwa [show 48 + (i - 48) = i by omega] at this
  by_cases h2 : i < 144
  · have := List.all_eq_true.mp dk_123_2 (i - 96) (List.mem_range.mpr (by omega))
    rwa [show 96 + (i - 96) = i by omega] at this
  by_cases h3 : i < 176
  · have := List.all_eq_true.mp dk_123_3 (i - 144) (List.mem_range.mpr (by omega))
    rwa [show 144 + (i - 144) = i by omega] at this
  exact absurd hi (by omega)
theorem mk_123 : mk_m 123 := ⟨⟨rfl, rfl⟩, ⟨rfl, rfl⟩, by decide +kernel, ⟨⟨rfl, rfl⟩, ⟨rfl, rfl⟩⟩⟩
theorem wk_124_0 : wk_l "TrailStoreModel" "lay" rt_124_0 := ⟨trivial, ⟨rfl, rfl⟩, trivial, ⟨rfl, rfl⟩, trivial, trivial, trivial, ⟨rfl, rfl⟩, trivial, ⟨rfl, rfl⟩, trivial, trivial, trivial, ⟨rfl, rfl⟩, trivial, ⟨rfl, rfl⟩, trivial⟩
theorem wk_124_1 : wk_l "TrailStoreModel" "lay" rt_124_1 := ⟨trivial, trivial, trivial, trivial, ⟨rfl, rfl⟩, trivial, trivial, trivial, trivial, trivial, trivial, trivial, ⟨rfl, rfl⟩, trivial, ⟨rfl, rfl⟩, trivial, trivial⟩
theorem wk_124_2 : wk_l "TrailStoreModel" "lay" rt_124_2 := ⟨trivial, trivial, ⟨rfl, rfl⟩, trivial, trivial, ⟨rfl, rfl⟩, trivial, trivial, trivial, trivial, ⟨rfl, rfl⟩, trivial, trivial, trivial, trivial, trivial, trivial⟩
theorem wk_124_3 : wk_l "TrailStoreModel" "lay" rt_124_3 := ⟨trivial, trivial, ⟨rfl, rfl⟩, trivial, trivial, ⟨⟨rfl, rfl⟩, Or.inl rfl⟩, trivial, trivial⟩
theorem wk_124 : ∀ l ∈ rt_124, wk_l "TrailStoreModel" "lay" l := by
  intro l hl
  simp only [rt_124, List.mem_cons, List.not_mem_nil, or_false] at hl
  rcases hl with rfl | rfl | rfl | rfl
  · exact wk_124_0
  · exact wk_124_1
  · exact wk_124_2
  · exact wk_124_3
theorem dk_124_0 : (List.range 48).all (fun i => dk_i prog_9_method_37_code rt_124 (0 + i)) = true := by decide +kernel
theorem dk_124_1 : (List.range 16).all (fun i => dk_i prog_9_method_37_code rt_124 (48 + i)) = true := by decide +kernel
theorem dk_124 : ∀ i, i < 64 → dk_i prog_9_method_37_code rt_124 i = true := by
  intro i hi
  by_cases h0 : i < 48
  · have := List.all_eq_true.mp dk_124_0 (i - 0) (List.mem_range.mpr (by omega))
    rwa [show 0 + (i - 0) = i by omega] at this
  by_cases h1 : i < 64
  · have := List.all_eq_true.mp dk_124_1 (i - 48) (List.mem_range.mpr (by omega))
    rwa [show 48 + (i - 48) = i by omega] at this
  exact absurd hi (by omega)
theorem mk_124 : mk_m 124 := ⟨⟨rfl, rfl⟩, ⟨rfl, rfl⟩, by decide +kernel, ⟨⟨rfl, rfl⟩, ⟨rfl, rfl⟩⟩⟩
theorem wk_125_0 : wk_l "TrailStoreModel" "openDisk" rt_125_0 := ⟨trivial, trivial, trivial, trivial, ⟨⟨rfl, rfl⟩, Or.inl rfl⟩, trivial, trivial, trivial, trivial, trivial, trivial, trivial, trivial, trivial, trivial, ⟨rfl, rfl⟩, trivial⟩
theorem wk_125_1 : wk_l "TrailStoreModel" "openDisk" rt_125_1 := ⟨trivial, trivial, trivial, trivial, trivial, trivial, trivial, trivial, trivial, trivial, trivial, ⟨rfl, rfl⟩, trivial, trivial, trivial, trivial, trivial⟩
theorem wk_125_2 : wk_l "TrailStoreModel" "openDisk" rt_125_2 := ⟨trivial, ⟨rfl, rfl⟩, trivial, trivial, trivial, trivial, trivial, ⟨⟨rfl, rfl⟩, Or.inl rfl⟩, trivial, trivial, trivial, trivial, trivial, trivial, trivial, trivial, trivial⟩
theorem wk_125_3 : wk_l "TrailStoreModel" "openDisk" rt_125_3 := ⟨trivial, trivial, trivial, trivial, trivial, trivial, trivial, trivial, ⟨rfl, rfl⟩, ⟨⟨rfl, rfl⟩, Or.inl rfl⟩, trivial, trivial, trivial, trivial, trivial, trivial, trivial⟩
theorem wk_125_4 : wk_l "TrailStoreModel" "openDisk" rt_125_4 := ⟨trivial, trivial, trivial, trivial, ⟨rfl, rfl⟩, ⟨⟨rfl, rfl⟩, Or.inl rfl⟩, trivial, trivial, trivial, trivial, trivial, trivial, trivial, trivial, trivial, trivial, trivial⟩
theorem wk_125_5 : wk_l "TrailStoreModel" "openDisk" rt_125_5 := ⟨⟨rfl, rfl⟩, ⟨⟨rfl, rfl⟩, Or.inl rfl⟩, trivial, trivial, trivial, trivial, trivial, trivial, trivial, trivial, trivial, trivial, ⟨rfl, rfl⟩, ⟨⟨rfl, rfl⟩, Or.inl rfl⟩, trivial, trivial, trivial⟩
theorem wk_125_6 : wk_l "TrailStoreModel" "openDisk" rt_125_6 := ⟨trivial, trivial, trivial, trivial, trivial, trivial, trivial, trivial, ⟨rfl, rfl⟩, ⟨⟨rfl, rfl⟩, Or.inl rfl⟩, trivial, trivial, trivial, trivial, ⟨rfl, rfl⟩, trivial, trivial⟩
theorem wk_125_7 : wk_l "TrailStoreModel" "openDisk" rt_125_7 := ⟨trivial, ⟨rfl, rfl⟩, trivial, trivial, trivial, trivial, trivial, trivial, trivial, trivial, ⟨rfl, rfl⟩, trivial, trivial, trivial, trivial, trivial, trivial⟩
theorem wk_125_8 : wk_l "TrailStoreModel" "openDisk" rt_125_8 := ⟨⟨⟨rfl, rfl⟩, Or.inl rfl⟩, trivial, trivial, trivial, trivial, trivial, trivial, ⟨rfl, rfl⟩, trivial, trivial, trivial, trivial, trivial, trivial, trivial, ⟨rfl, rfl⟩, trivial⟩
theorem wk_125_9 : wk_l "TrailStoreModel" "openDisk" rt_125_9 := ⟨⟨⟨rfl, rfl⟩, Or.inl rfl⟩, trivial, trivial, ⟨rfl, rfl⟩, ⟨⟨rfl, rfl⟩, Or.inl rfl⟩, trivial, ⟨rfl, rfl⟩, trivial, trivial, ⟨rfl, rfl⟩, trivial, trivial, trivial, trivial, trivial, trivial, trivial⟩
theorem wk_125_10 : wk_l "TrailStoreModel" "openDisk" rt_125_10 := ⟨⟨rfl, rfl⟩, trivial, trivial, trivial, trivial, ⟨rfl, rfl⟩, trivial, trivial, trivial, trivial, trivial, trivial, trivial, trivial, trivial, ⟨rfl, rfl⟩, trivial⟩
theorem wk_125_11 : wk_l "TrailStoreModel" "openDisk" rt_125_11 := ⟨trivial, trivial, trivial, trivial, trivial, trivial, ⟨rfl, rfl⟩, trivial, trivial, trivial, trivial, trivial, trivial, ⟨rfl, rfl⟩, trivial, trivial, trivial⟩
theorem wk_125_12 : wk_l "TrailStoreModel" "openDisk" rt_125_12 := ⟨⟨rfl, rfl⟩, trivial, trivial, trivial, ⟨rfl, rfl⟩, ⟨rfl, rfl⟩, trivial, trivial, trivial, ⟨rfl, rfl⟩, trivial, ⟨rfl, rfl⟩, ⟨rfl, rfl⟩, trivial, trivial, ⟨rfl, rfl⟩, trivial⟩
theorem wk_125_13 : wk_l "TrailStoreModel" "openDisk" rt_125_13 := ⟨trivial, trivial, ⟨rfl, rfl⟩, ⟨rfl, rfl⟩, trivial, ⟨⟨rfl, rfl⟩, Or.inl rfl⟩, trivial, trivial, ⟨rfl, rfl⟩, trivial, trivial, ⟨⟨rfl, rfl⟩, Or.inl rfl⟩, trivial, trivial, trivial, trivial, trivial⟩
theorem wk_125_14 : wk_l "TrailStoreModel" "openDisk" rt_125_14 := ⟨trivial, ⟨⟨rfl, rfl⟩, Or.inl rfl⟩, trivial, trivial, ⟨⟨rfl, rfl⟩, Or.inl rfl⟩, trivial, trivial, ⟨⟨rfl, rfl⟩, Or.inl rfl⟩, trivial, trivial, ⟨rfl, rfl⟩, trivial, trivial, trivial, ⟨rfl, rfl⟩, trivial, trivial⟩
theorem wk_125_15 : wk_l "TrailStoreModel" "openDisk" rt_125_15 := ⟨⟨rfl, rfl⟩, trivial, ⟨rfl, rfl⟩, trivial, trivial, trivial, trivial⟩
theorem wk_125 : ∀ l ∈ rt_125, wk_l "TrailStoreModel" "openDisk" l := by
  intro l hl
  simp only [rt_125, List.mem_cons, List.not_mem_nil, or_false] at hl
  rcases hl with rfl | rfl | rfl | rfl | rfl | rfl | rfl | rfl | rfl | rfl | rfl | rfl | rfl | rfl | rfl | rfl
  · exact wk_125_0
  · exact wk_125_1
  · exact wk_125_2
  · exact wk_125_3
  · exact wk_125_4
  · exact wk_125_5
  · exact wk_125_6
  · exact wk_125_7
  · exact wk_125_8
  · exact wk_125_9
  · exact wk_125_10
  · exact wk_125_11
  · exact wk_125_12
  · exact wk_125_13
  · exact wk_125_14
  · exact wk_125_15
theorem dk_125_0 : (List.range 48).all (fun i => dk_i prog_9_method_38_code rt_125 (0 + i)) = true := by decide +kernel
theorem dk_125_1 : (List.range 48).all (fun i => dk_i prog_9_method_38_code rt_125 (48 + i)) = true := by decide +kernel
theorem dk_125_2 : (List.range 48).all (fun i => dk_i prog_9_method_38_code rt_125 (96 + i)) = true := by decide +kernel
theorem dk_125_3 : (List.range 48).all (fun i => dk_i prog_9_method_38_code rt_125 (144 + i)) = true := by decide +kernel
theorem dk_125_4 : (List.range 48).all (fun i => dk_i prog_9_method_38_code rt_125 (192 + i)) = true := by decide +kernel
theorem dk_125_5 : (List.range 16).all (fun i => dk_i prog_9_method_38_code rt_125 (240 + i)) = true := by decide +kernel
theorem dk_125 : ∀ i, i < 256 → dk_i prog_9_method_38_code rt_125 i = true := by
  intro i hi
  by_cases h0 : i < 48
  · have := List.all_eq_true.mp dk_125_0 (i - 0) (List.mem_range.mpr (by omega))
    rwa [show 0 + (i - 0) = i by omega] at this
  by_cases h1 : i < 96
  · have := List.all_eq_true.mp dk_125_1 (i - 48) (List.mem_range.mpr (by omega))
    rwa [show 48 + (i - 48) = i by omega] at this
  by_cases h2 : i < 144
  · have := List.all_eq_true.mp dk_125_2 (i - 96) (List.mem_range.mpr (by omega))
    rwa [show 96 + (i - 96) = i by omega] at this
  by_cases h3 : i < 192
  · have := List.all_eq_true.mp dk_125_3 (i - 144) (List.mem_range.mpr (by omega))
    rwa [show 144 + (i - 144) = i by omega] at this
  by_cases h4 : i < 240
  · have := List.all_eq_true.mp dk_125_4 (i - 192) (List.mem_range.mpr (by omega))
    rwa [show 192 + (i - 192) = i by omega] at this
  by_cases h5 : i < 256
  · have := List.all_eq_true.mp dk_125_5 (i - 240) (List.mem_range.mpr (by omega))
    rwa [show 240 + (i - 240) = i by omega] at this
  exact absurd hi (by omega)
theorem mk_125 : mk_m 125 := ⟨⟨rfl, rfl⟩, ⟨rfl, rfl⟩, by decide +kernel, ⟨⟨rfl, rfl⟩, ⟨rfl, rfl⟩⟩⟩
theorem wk_126_0 : wk_l "TrailStoreModel" "open" rt_126_0 := ⟨trivial, ⟨rfl, rfl⟩, trivial, trivial, ⟨rfl, rfl⟩, trivial, trivial, trivial, trivial⟩
theorem wk_126 : ∀ l ∈ rt_126, wk_l "TrailStoreModel" "open" l := by
  intro l hl
  simp only [rt_126, List.mem_cons, List.not_mem_nil, or_false] at hl
  subst hl
  exact wk_126_0
theorem dk_126_0 : (List.range 16).all (fun i => dk_i prog_9_method_39_code rt_126 (0 + i)) = true := by decide +kernel
theorem dk_126 : ∀ i, i < 16 → dk_i prog_9_method_39_code rt_126 i = true := by
  intro i hi
  by_cases h0 : i < 16
  · have := List.all_eq_true.mp dk_126_0 (i - 0) (List.mem_range.mpr (by omega))
    rwa [show 0 + (i - 0) = i by omega] at this
  exact absurd hi (by omega)
theorem mk_126 : mk_m 126 := ⟨⟨rfl, rfl⟩, ⟨rfl, rfl⟩, by decide +kernel, ⟨⟨rfl, rfl⟩, ⟨rfl, rfl⟩⟩⟩
theorem wk_127_0 : wk_l "TrailStoreModel" "isKey" rt_127_0 := ⟨trivial, trivial, trivial, trivial, trivial, trivial, trivial, trivial, trivial, trivial⟩
theorem wk_127 : ∀ l ∈ rt_127, wk_l "TrailStoreModel" "isKey" l := by
  intro l hl
  simp only [rt_127, List.mem_cons, List.not_mem_nil, or_false] at hl
  subst hl
  exact wk_127_0
theorem dk_127_0 : (List.range 16).all (fun i => dk_i prog_9_method_40_code rt_127 (0 + i)) = true := by decide +kernel
theorem dk_127 : ∀ i, i < 16 → dk_i prog_9_method_40_code rt_127 i = true := by
  intro i hi
  by_cases h0 : i < 16
  · have := List.all_eq_true.mp dk_127_0 (i - 0) (List.mem_range.mpr (by omega))
    rwa [show 0 + (i - 0) = i by omega] at this
  exact absurd hi (by omega)
theorem mk_127 : mk_m 127 := ⟨⟨rfl, rfl⟩, ⟨rfl, rfl⟩, by decide +kernel, ⟨rfl, rfl⟩⟩
theorem wk_128_0 : wk_l "TrailStoreModel" "type" rt_128_0 := ⟨trivial, ⟨rfl, rfl⟩, trivial, trivial, trivial, trivial, trivial, trivial, trivial, trivial, trivial, trivial, ⟨rfl, rfl⟩, trivial, trivial, trivial, trivial⟩
theorem wk_128_1 : wk_l "TrailStoreModel" "type" rt_128_1 := ⟨trivial, trivial, trivial, trivial, trivial, trivial, trivial, trivial, trivial, trivial, ⟨rfl, rfl⟩, trivial, ⟨rfl, rfl⟩, trivial, trivial, trivial, trivial⟩
theorem wk_128_2 : wk_l "TrailStoreModel" "type" rt_128_2 := ⟨trivial, trivial, trivial, trivial, trivial, trivial, trivial, ⟨rfl, rfl⟩, trivial, trivial, ⟨⟨rfl, rfl⟩, Or.inl rfl⟩, trivial, trivial, trivial, ⟨rfl, rfl⟩, trivial, trivial⟩
theorem wk_128 : ∀ l ∈ rt_128, wk_l "TrailStoreModel" "type" l := by
  intro l hl
  simp only [rt_128, List.mem_cons, List.not_mem_nil, or_false] at hl
  rcases hl with rfl | rfl | rfl
  · exact wk_128_0
  · exact wk_128_1
  · exact wk_128_2
theorem dk_128_0 : (List.range 48).all (fun i => dk_i prog_9_method_41_code rt_128 (0 + i)) = true := by decide +kernel
theorem dk_128 : ∀ i, i < 48 → dk_i prog_9_method_41_code rt_128 i = true := by
  intro i hi
  by_cases h0 : i < 48
  · have := List.all_eq_true.mp dk_128_0 (i - 0) (List.mem_range.mpr (by omega))
    rwa [show 0 + (i - 0) = i by omega] at this
  exact absurd hi (by omega)
theorem mk_128 : mk_m 128 := ⟨⟨rfl, rfl⟩, ⟨rfl, rfl⟩, by decide +kernel, ⟨⟨rfl, rfl⟩, ⟨rfl, rfl⟩⟩⟩
theorem wk_129_0 : wk_l "TrailStoreModel" "put" rt_129_0 := ⟨trivial, ⟨rfl, rfl⟩, trivial, trivial, trivial, trivial, ⟨rfl, rfl⟩, trivial, trivial, ⟨rfl, rfl⟩, trivial, trivial, ⟨rfl, rfl⟩, trivial, trivial, trivial, trivial⟩
theorem wk_129_1 : wk_l "TrailStoreModel" "put" rt_129_1 := ⟨trivial, trivial, trivial, trivial, ⟨rfl, rfl⟩, trivial, trivial, ⟨⟨rfl, rfl⟩, Or.inl rfl⟩, trivial, ⟨rfl, rfl⟩, trivial, trivial, ⟨rfl, rfl⟩, trivial, trivial, ⟨rfl, rfl⟩, trivial⟩
theorem wk_129_2 : wk_l "TrailStoreModel" "put" rt_129_2 := ⟨trivial, trivial⟩
theorem wk_129 : ∀ l ∈ rt_129, wk_l "TrailStoreModel" "put" l := by
  intro l hl
  simp only [rt_129, List.mem_cons, List.not_mem_nil, or_false] at hl
  rcases hl with rfl | rfl | rfl
  · exact wk_129_0
  · exact wk_129_1
  · exact wk_129_2
theorem dk_129_0 : (List.range 48).all (fun i => dk_i prog_9_method_42_code rt_129 (0 + i)) = true := by decide +kernel
theorem dk_129 : ∀ i, i < 48 → dk_i prog_9_method_42_code rt_129 i = true := by
  intro i hi
  by_cases h0 : i < 48
  · have := List.all_eq_true.mp dk_129_0 (i - 0) (List.mem_range.mpr (by omega))
    rwa [show 0 + (i - 0) = i by omega] at this
  exact absurd hi (by omega)
theorem mk_129 : mk_m 129 := ⟨⟨rfl, rfl⟩, ⟨rfl, rfl⟩, by decide +kernel, ⟨⟨rfl, rfl⟩, ⟨rfl, rfl⟩⟩⟩
theorem wk_130_0 : wk_l "TrailStoreModel" "remove" rt_130_0 := ⟨trivial, ⟨rfl, rfl⟩, trivial, trivial, trivial, trivial, ⟨rfl, rfl⟩, trivial, trivial, ⟨rfl, rfl⟩, trivial, trivial, ⟨rfl, rfl⟩, trivial, trivial, trivial, trivial⟩
theorem wk_130_1 : wk_l "TrailStoreModel" "remove" rt_130_1 := ⟨trivial, trivial, ⟨rfl, rfl⟩, trivial, trivial, trivial, ⟨rfl, rfl⟩, trivial, trivial, trivial, trivial, trivial, trivial, ⟨rfl, rfl⟩, trivial, ⟨rfl, rfl⟩, trivial⟩
theorem wk_130_2 : wk_l "TrailStoreModel" "remove" rt_130_2 := ⟨trivial, trivial, ⟨rfl, rfl⟩, trivial, trivial, ⟨rfl, rfl⟩, trivial, trivial⟩
theorem wk_130 : ∀ l ∈ rt_130, wk_l "TrailStoreModel" "remove" l := by
  intro l hl
  simp only [rt_130, List.mem_cons, List.not_mem_nil, or_false] at hl
  rcases hl with rfl | rfl | rfl
  · exact wk_130_0
  · exact wk_130_1
  · exact wk_130_2
theorem dk_130_0 : (List.range 48).all (fun i => dk_i prog_9_method_43_code rt_130 (0 + i)) = true := by decide +kernel
theorem dk_130 : ∀ i, i < 48 → dk_i prog_9_method_43_code rt_130 i = true := by
  intro i hi
  by_cases h0 : i < 48
  · have := List.all_eq_true.mp dk_130_0 (i - 0) (List.mem_range.mpr (by omega))
    rwa [show 0 + (i - 0) = i by omega] at this
  exact absurd hi (by omega)
theorem mk_130 : mk_m 130 := ⟨⟨rfl, rfl⟩, ⟨rfl, rfl⟩, by decide +kernel, ⟨⟨rfl, rfl⟩, ⟨rfl, rfl⟩⟩⟩
theorem wk_131_0 : wk_l "TrailStoreModel" "begin" rt_131_0 := ⟨trivial, ⟨rfl, rfl⟩, trivial, trivial, trivial, trivial, ⟨rfl, rfl⟩, trivial, trivial, trivial, ⟨⟨rfl, rfl⟩, Or.inl rfl⟩, trivial, trivial, trivial, trivial, trivial, trivial⟩
theorem wk_131_1 : wk_l "TrailStoreModel" "begin" rt_131_1 := ⟨trivial, trivial⟩
theorem wk_131 : ∀ l ∈ rt_131, wk_l "TrailStoreModel" "begin" l := by
  intro l hl
  simp only [rt_131, List.mem_cons, List.not_mem_nil, or_false] at hl
  rcases hl with rfl | rfl
  · exact wk_131_0
  · exact wk_131_1
theorem dk_131_0 : (List.range 32).all (fun i => dk_i prog_9_method_44_code rt_131 (0 + i)) = true := by decide +kernel
theorem dk_131 : ∀ i, i < 32 → dk_i prog_9_method_44_code rt_131 i = true := by
  intro i hi
  by_cases h0 : i < 32
  · have := List.all_eq_true.mp dk_131_0 (i - 0) (List.mem_range.mpr (by omega))
    rwa [show 0 + (i - 0) = i by omega] at this
  exact absurd hi (by omega)
theorem mk_131 : mk_m 131 := ⟨⟨rfl, rfl⟩, ⟨rfl, rfl⟩, by decide +kernel, ⟨⟨rfl, rfl⟩, ⟨rfl, rfl⟩⟩⟩
theorem wk_132_0 : wk_l "TrailStoreModel" "commit" rt_132_0 := ⟨trivial, ⟨rfl, rfl⟩, trivial, trivial, trivial, trivial, ⟨rfl, rfl⟩, trivial, trivial, ⟨rfl, rfl⟩, trivial, trivial, trivial, ⟨⟨rfl, rfl⟩, Or.inl rfl⟩, trivial, trivial, trivial⟩
theorem wk_132_1 : wk_l "TrailStoreModel" "commit" rt_132_1 := ⟨trivial, ⟨rfl, rfl⟩, trivial, trivial⟩
theorem wk_132 : ∀ l ∈ rt_132, wk_l "TrailStoreModel" "commit" l := by
  intro l hl
  simp only [rt_132, List.mem_cons, List.not_mem_nil, or_false] at hl
  rcases hl with rfl | rfl
  · exact wk_132_0
  · exact wk_132_1
theorem dk_132_0 : (List.range 32).all (fun i => dk_i prog_9_method_45_code rt_132 (0 + i)) = true := by decide +kernel
theorem dk_132 : ∀ i, i < 32 → dk_i prog_9_method_45_code rt_132 i = true := by
  intro i hi
  by_cases h0 : i < 32
  · have := List.all_eq_true.mp dk_132_0 (i - 0) (List.mem_range.mpr (by omega))
    rwa [show 0 + (i - 0) = i by omega] at this
  exact absurd hi (by omega)
theorem mk_132 : mk_m 132 := ⟨⟨rfl, rfl⟩, ⟨rfl, rfl⟩, by decide +kernel, ⟨⟨rfl, rfl⟩, ⟨rfl, rfl⟩⟩⟩
theorem wk_133_0 : wk_l "TrailStoreModel" "cancel" rt_133_0 := ⟨trivial, ⟨rfl, rfl⟩, trivial, trivial, trivial, trivial, ⟨rfl, rfl⟩, trivial, trivial, ⟨rfl, rfl⟩, trivial, trivial, trivial, trivial, trivial, ⟨⟨rfl, rfl⟩, Or.inl rfl⟩, trivial⟩
theorem wk_133_1 : wk_l "TrailStoreModel" "cancel" rt_133_1 := ⟨trivial, trivial, ⟨⟨rfl, rfl⟩, Or.inl rfl⟩, trivial, trivial, trivial⟩
theorem wk_133 : ∀ l ∈ rt_133, wk_l "TrailStoreModel" "cancel" l := by
  intro l hl
  simp only [rt_133, List.mem_cons, List.not_mem_nil, or_false] at hl
  rcases hl with rfl | rfl
  · exact wk_133_0
  · exact wk_133_1
theorem dk_133_0 : (List.range 32).all (fun i => dk_i prog_9_method_46_code rt_133 (0 + i)) = true := by decide +kernel
theorem dk_133 : ∀ i, i < 32 → dk_i prog_9_method_46_code rt_133 i = true := by
  intro i hi
  by_cases h0 : i < 32
  · have := List.all_eq_true.mp dk_133_0 (i - 0) (List.mem_range.mpr (by omega))
    rwa [show 0 + (i - 0) = i by omega] at this
  exact absurd hi (by omega)
theorem mk_133 : mk_m 133 := ⟨⟨rfl, rfl⟩, ⟨rfl, rfl⟩, by decide +kernel, ⟨⟨rfl, rfl⟩, ⟨rfl, rfl⟩⟩⟩
theorem wk_134_0 : wk_l "TrailStoreModel" "get" rt_134_0 := ⟨trivial, ⟨rfl, rfl⟩, trivial, trivial, trivial, trivial, trivial, ⟨⟨rfl, rfl⟩, Or.inl rfl⟩, trivial, trivial, ⟨⟨rfl, rfl⟩, Or.inl rfl⟩, trivial, trivial, ⟨⟨rfl, rfl⟩, Or.inl rfl⟩, trivial, ⟨rfl, rfl⟩, trivial⟩
theorem wk_134_1 : wk_l "TrailStoreModel" "get" rt_134_1 := ⟨trivial, trivial, trivial, trivial, ⟨rfl, rfl⟩, trivial, trivial, trivial, trivial, trivial, trivial, trivial, trivial, trivial, trivial, trivial, trivial⟩
theorem wk_134_2 : wk_l "TrailStoreModel" "get" rt_134_2 := ⟨⟨rfl, rfl⟩, trivial, trivial, trivial, trivial, trivial, trivial, ⟨rfl, rfl⟩, trivial, ⟨rfl, rfl⟩, trivial, trivial, ⟨rfl, rfl⟩, trivial, trivial, trivial, trivial⟩
theorem wk_134_3 : wk_l "TrailStoreModel" "get" rt_134_3 := ⟨⟨rfl, rfl⟩, trivial, trivial, ⟨⟨rfl, rfl⟩, Or.inl rfl⟩, trivial, trivial, trivial, ⟨rfl, rfl⟩, trivial, trivial, trivial, trivial, trivial, trivial, trivial, trivial, trivial⟩
theorem wk_134_4 : wk_l "TrailStoreModel" "get" rt_134_4 := ⟨⟨rfl, rfl⟩, trivial, trivial, ⟨⟨rfl, rfl⟩, Or.inl rfl⟩, trivial, trivial, trivial, trivial, ⟨rfl, rfl⟩, trivial, trivial, trivial, trivial, trivial, trivial, trivial, trivial⟩
theorem wk_134_5 : wk_l "TrailStoreModel" "get" rt_134_5 := ⟨⟨rfl, rfl⟩, trivial, trivial, ⟨rfl, rfl⟩, ⟨⟨rfl, rfl⟩, Or.inl rfl⟩, trivial, trivial, trivial, trivial, ⟨rfl, rfl⟩, trivial, trivial, ⟨rfl, rfl⟩, trivial, trivial, trivial, trivial⟩
theorem wk_134_6 : wk_l "TrailStoreModel" "get" rt_134_6 := ⟨trivial, ⟨rfl, rfl⟩, trivial, trivial, trivial, trivial, ⟨rfl, rfl⟩, trivial, trivial, trivial, trivial, trivial, ⟨rfl, rfl⟩, trivial, trivial⟩
theorem wk_134 : ∀ l ∈ rt_134, wk_l "TrailStoreModel" "get" l := by
  intro l hl
  simp only [rt_134, List.mem_cons, List.not_mem_nil, or_false] at hl
  rcases hl with rfl | rfl | rfl | rfl | rfl | rfl | rfl
  · exact wk_134_0
  · exact wk_134_1
  · exact wk_134_2
  · exact wk_134_3
  · exact wk_134_4
  · exact wk_134_5
  · exact wk_134_6
theorem dk_134_0 : (List.range 48).all (fun i => dk_i prog_9_method_47_code rt_134 (0 + i)) = true := by decide +kernel
theorem dk_134_1 : (List.range 48).all (fun i => dk_i prog_9_method_47_code rt_134 (48 + i)) = true := by decide +kernel
theorem dk_134_2 : (List.range 16).all (fun i => dk_i prog_9_method_47_code rt_134 (96 + i)) = true := by decide +kernel
theorem dk_134 : ∀ i, i < 112 → dk_i prog_9_method_47_code rt_134 i = true := by
  intro i hi
  by_cases h0 : i < 48
  · have := List.all_eq_true.mp dk_134_0 (i - 0) (List.mem_range.mpr (by omega))
    rwa [show 0 + (i - 0) = i by omega] at this
  by_cases h1 : i < 96
  · have := List.all_eq_true.mp dk_134_1 (i - 48) (List.mem_range.mpr (by omega))
    rwa [show 48 + (i - 48) = i by omega] at this
  by_cases h2 : i < 112
  · have := List.all_eq_true.mp dk_134_2 (i - 96) (List.mem_range.mpr (by omega))
    rwa [show 96 + (i - 96) = i by omega] at this
  exact absurd hi (by omega)
theorem mk_134 : mk_m 134 := ⟨⟨rfl, rfl⟩, ⟨rfl, rfl⟩, by decide +kernel, ⟨⟨rfl, rfl⟩, ⟨rfl, rfl⟩⟩⟩
theorem wk_135_0 : wk_l "TrailStoreModel" "read" rt_135_0 := ⟨trivial, trivial, trivial, trivial, ⟨rfl, rfl⟩, trivial, trivial, ⟨rfl, rfl⟩, trivial, trivial, trivial, trivial, trivial, trivial, trivial, trivial⟩
theorem wk_135 : ∀ l ∈ rt_135, wk_l "TrailStoreModel" "read" l := by
  intro l hl
  simp only [rt_135, List.mem_cons, List.not_mem_nil, or_false] at hl
  subst hl
  exact wk_135_0
theorem dk_135_0 : (List.range 16).all (fun i => dk_i prog_9_method_48_code rt_135 (0 + i)) = true := by decide +kernel
theorem dk_135 : ∀ i, i < 16 → dk_i prog_9_method_48_code rt_135 i = true := by
  intro i hi
  by_cases h0 : i < 16
  · have := List.all_eq_true.mp dk_135_0 (i - 0) (List.mem_range.mpr (by omega))
    rwa [show 0 + (i - 0) = i by omega] at this
  exact absurd hi (by omega)
theorem mk_135 : mk_m 135 := ⟨⟨rfl, rfl⟩, ⟨rfl, rfl⟩, by decide +kernel, ⟨⟨rfl, rfl⟩, ⟨rfl, rfl⟩⟩⟩
theorem wk_136_0 : wk_l "TrailStoreModel" "next" rt_136_0 := ⟨trivial, ⟨rfl, rfl⟩, trivial, trivial, trivial, trivial, trivial, trivial, trivial, trivial, trivial, trivial, trivial, trivial, trivial, trivial, trivial⟩
theorem wk_136_1 : wk_l "TrailStoreModel" "next" rt_136_1 := ⟨⟨rfl, rfl⟩, trivial, trivial, trivial, trivial, trivial, trivial, trivial, trivial⟩
theorem wk_136 : ∀ l ∈ rt_136, wk_l "TrailStoreModel" "next" l := by
  intro l hl
  simp only [rt_136, List.mem_cons, List.not_mem_nil, or_false] at hl
  rcases hl with rfl | rfl
  · exact wk_136_0
  · exact wk_136_1
theorem dk_136_0 : (List.range 32).all (fun i => dk_i prog_9_method_49_code rt_136 (0 + i)) = true := by decide +kernel
theorem dk_136 : ∀ i, i < 32 → dk_i prog_9_method_49_code rt_136 i = true := by
  intro i hi
  by_cases h0 : i < 32
  · have := List.all_eq_true.mp dk_136_0 (i - 0) (List.mem_range.mpr (by omega))
    rwa [show 0 + (i - 0) = i by omega] at this
  exact absurd hi (by omega)
theorem mk_136 : mk_m 136 := ⟨⟨rfl, rfl⟩, ⟨rfl, rfl⟩, by decide +kernel, ⟨⟨rfl, rfl⟩, ⟨rfl, rfl⟩⟩⟩
theorem wk_137_0 : wk_l "TrailStoreModel" "sync" rt_137_0 := ⟨trivial, ⟨rfl, rfl⟩, trivial, trivial, trivial, trivial, ⟨rfl, rfl⟩, trivial, trivial⟩
theorem wk_137 : ∀ l ∈ rt_137, wk_l "TrailStoreModel" "sync" l := by
  intro l hl
  simp only [rt_137, List.mem_cons, List.not_mem_nil, or_false] at hl
  subst hl
  exact wk_137_0
theorem dk_137_0 : (List.range 16).all (fun i => dk_i prog_9_method_50_code rt_137 (0 + i)) = true := by decide +kernel
theorem dk_137 : ∀ i, i < 16 → dk_i prog_9_method_50_code rt_137 i = true := by
  intro i hi
  by_cases h0 : i < 16
  · have := List.all_eq_true.mp dk_137_0 (i - 0) (List.mem_range.mpr (by omega))
    rwa [show 0 + (i - 0) = i by omega] at this
  exact absurd hi (by omega)
theorem mk_137 : mk_m 137 := ⟨⟨rfl, rfl⟩, ⟨rfl, rfl⟩, by decide +kernel, ⟨⟨rfl, rfl⟩, ⟨rfl, rfl⟩⟩⟩
theorem wk_138_0 : wk_l "TrailStoreModel" "checkpoint" rt_138_0 := ⟨trivial, ⟨rfl, rfl⟩, trivial, trivial, ⟨rfl, rfl⟩, trivial, ⟨rfl, rfl⟩, trivial, trivial, trivial, trivial, ⟨rfl, rfl⟩, trivial, trivial⟩
theorem wk_138 : ∀ l ∈ rt_138, wk_l "TrailStoreModel" "checkpoint" l := by
  intro l hl
  simp only [rt_138, List.mem_cons, List.not_mem_nil, or_false] at hl
  subst hl
  exact wk_138_0
theorem dk_138_0 : (List.range 16).all (fun i => dk_i prog_9_method_51_code rt_138 (0 + i)) = true := by decide +kernel
theorem dk_138 : ∀ i, i < 16 → dk_i prog_9_method_51_code rt_138 i = true := by
  intro i hi
  by_cases h0 : i < 16
  · have := List.all_eq_true.mp dk_138_0 (i - 0) (List.mem_range.mpr (by omega))
    rwa [show 0 + (i - 0) = i by omega] at this
  exact absurd hi (by omega)
theorem mk_138 : mk_m 138 := ⟨⟨rfl, rfl⟩, ⟨rfl, rfl⟩, by decide +kernel, ⟨⟨rfl, rfl⟩, ⟨rfl, rfl⟩⟩⟩
theorem wk_139_0 : wk_l "TrailStoreModel" "collect" rt_139_0 := ⟨trivial, ⟨rfl, rfl⟩, trivial, trivial, trivial, trivial, trivial, trivial, trivial, trivial, trivial, trivial, trivial, trivial, trivial, ⟨rfl, rfl⟩, trivial⟩
theorem wk_139_1 : wk_l "TrailStoreModel" "collect" rt_139_1 := ⟨trivial, trivial, ⟨rfl, rfl⟩, trivial, trivial, trivial, trivial, trivial, trivial⟩
theorem wk_139 : ∀ l ∈ rt_139, wk_l "TrailStoreModel" "collect" l := by
  intro l hl
  simp only [rt_139, List.mem_cons, List.not_mem_nil, or_false] at hl
  rcases hl with rfl | rfl
  · exact wk_139_0
  · exact wk_139_1
theorem dk_139_0 : (List.range 32).all (fun i => dk_i prog_9_method_52_code rt_139 (0 + i)) = true := by decide +kernel
theorem dk_139 : ∀ i, i < 32 → dk_i prog_9_method_52_code rt_139 i = true := by
  intro i hi
  by_cases h0 : i < 32
  · have := List.all_eq_true.mp dk_139_0 (i - 0) (List.mem_range.mpr (by omega))
    rwa [show 0 + (i - 0) = i by omega] at this
  exact absurd hi (by omega)
theorem mk_139 : mk_m 139 := ⟨⟨rfl, rfl⟩, ⟨rfl, rfl⟩, by decide +kernel, ⟨⟨rfl, rfl⟩, ⟨rfl, rfl⟩⟩⟩
theorem wk_140_0 : wk_l "TrailStoreModel" "crash" rt_140_0 := ⟨trivial, ⟨rfl, rfl⟩, trivial, trivial, trivial, trivial, trivial, trivial, trivial, trivial, trivial, trivial, ⟨rfl, rfl⟩, trivial, trivial, trivial, trivial⟩
theorem wk_140_1 : wk_l "TrailStoreModel" "crash" rt_140_1 := ⟨trivial, ⟨rfl, rfl⟩, trivial, trivial, trivial⟩
theorem wk_140 : ∀ l ∈ rt_140, wk_l "TrailStoreModel" "crash" l := by
  intro l hl
  simp only [rt_140, List.mem_cons, List.not_mem_nil, or_false] at hl
  rcases hl with rfl | rfl
  · exact wk_140_0
  · exact wk_140_1
theorem dk_140_0 : (List.range 32).all (fun i => dk_i prog_9_method_53_code rt_140 (0 + i)) = true := by decide +kernel
theorem dk_140 : ∀ i, i < 32 → dk_i prog_9_method_53_code rt_140 i = true := by
  intro i hi
  by_cases h0 : i < 32
  · have := List.all_eq_true.mp dk_140_0 (i - 0) (List.mem_range.mpr (by omega))
    rwa [show 0 + (i - 0) = i by omega] at this
  exact absurd hi (by omega)
theorem mk_140 : mk_m 140 := ⟨⟨rfl, rfl⟩, ⟨rfl, rfl⟩, by decide +kernel, ⟨⟨rfl, rfl⟩, ⟨rfl, rfl⟩⟩⟩
theorem wk_141_0 : wk_l "TrailStoreModel" "fail" rt_141_0 := ⟨trivial, ⟨rfl, rfl⟩, trivial, trivial, trivial, trivial, trivial, trivial, trivial, trivial, trivial, trivial, trivial, trivial, trivial, trivial, trivial⟩
theorem wk_141_1 : wk_l "TrailStoreModel" "fail" rt_141_1 := ⟨trivial, trivial, trivial, ⟨⟨rfl, rfl⟩, Or.inl rfl⟩, trivial, trivial, ⟨⟨rfl, rfl⟩, Or.inl rfl⟩, trivial, trivial, ⟨⟨rfl, rfl⟩, Or.inl rfl⟩, trivial, trivial, trivial⟩
theorem wk_141 : ∀ l ∈ rt_141, wk_l "TrailStoreModel" "fail" l := by
  intro l hl
  simp only [rt_141, List.mem_cons, List.not_mem_nil, or_false] at hl
  rcases hl with rfl | rfl
  · exact wk_141_0
  · exact wk_141_1
theorem dk_141_0 : (List.range 32).all (fun i => dk_i prog_9_method_54_code rt_141 (0 + i)) = true := by decide +kernel
theorem dk_141 : ∀ i, i < 32 → dk_i prog_9_method_54_code rt_141 i = true := by
  intro i hi
  by_cases h0 : i < 32
  · have := List.all_eq_true.mp dk_141_0 (i - 0) (List.mem_range.mpr (by omega))
    rwa [show 0 + (i - 0) = i by omega] at this
  exact absurd hi (by omega)
theorem mk_141 : mk_m 141 := ⟨⟨rfl, rfl⟩, ⟨rfl, rfl⟩, by decide +kernel, ⟨⟨rfl, rfl⟩, ⟨rfl, rfl⟩⟩⟩
theorem wk_142_0 : wk_l "TrailStoreModel" "spare" rt_142_0 := ⟨trivial, ⟨rfl, rfl⟩, trivial, trivial, trivial, trivial, ⟨rfl, rfl⟩, trivial, trivial, trivial, trivial, trivial, trivial, trivial, ⟨⟨rfl, rfl⟩, Or.inl rfl⟩, trivial, trivial⟩
theorem wk_142_1 : wk_l "TrailStoreModel" "spare" rt_142_1 := ⟨trivial, trivial⟩
theorem wk_142 : ∀ l ∈ rt_142, wk_l "TrailStoreModel" "spare" l := by
  intro l hl
  simp only [rt_142, List.mem_cons, List.not_mem_nil, or_false] at hl
  rcases hl with rfl | rfl
  · exact wk_142_0
  · exact wk_142_1
theorem dk_142_0 : (List.range 32).all (fun i => dk_i prog_9_method_55_code rt_142 (0 + i)) = true := by decide +kernel
theorem dk_142 : ∀ i, i < 32 → dk_i prog_9_method_55_code rt_142 i = true := by
  intro i hi
  by_cases h0 : i < 32
  · have := List.all_eq_true.mp dk_142_0 (i - 0) (List.mem_range.mpr (by omega))
    rwa [show 0 + (i - 0) = i by omega] at this
  exact absurd hi (by omega)
theorem mk_142 : mk_m 142 := ⟨⟨rfl, rfl⟩, ⟨rfl, rfl⟩, by decide +kernel, ⟨⟨rfl, rfl⟩, ⟨rfl, rfl⟩⟩⟩
theorem wk_143_0 : wk_l "TrailStoreModel" "told" rt_143_0 := ⟨trivial, trivial, trivial, trivial, trivial, trivial, trivial, trivial, trivial, trivial, ⟨rfl, rfl⟩, trivial, trivial, ⟨rfl, rfl⟩, trivial, trivial, trivial⟩
theorem wk_143_1 : wk_l "TrailStoreModel" "told" rt_143_1 := ⟨⟨rfl, rfl⟩, trivial, trivial, trivial, trivial, trivial, trivial, trivial, trivial, trivial, trivial, trivial, trivial, trivial, trivial, trivial, trivial⟩
theorem wk_143_2 : wk_l "TrailStoreModel" "told" rt_143_2 := ⟨trivial, trivial, trivial, trivial, trivial, trivial, trivial, trivial, trivial, trivial, trivial, ⟨rfl, rfl⟩, trivial, trivial, trivial, trivial, trivial⟩
theorem wk_143_3 : wk_l "TrailStoreModel" "told" rt_143_3 := ⟨trivial, ⟨rfl, rfl⟩, ⟨rfl, rfl⟩, trivial, trivial, trivial, trivial, trivial, trivial, trivial, ⟨rfl, rfl⟩, trivial, trivial, ⟨rfl, rfl⟩, trivial, trivial, trivial⟩
theorem wk_143_4 : wk_l "TrailStoreModel" "told" rt_143_4 := ⟨⟨rfl, rfl⟩, trivial, trivial, ⟨rfl, rfl⟩, trivial, trivial, ⟨rfl, rfl⟩, trivial, trivial, ⟨rfl, rfl⟩, trivial, trivial, ⟨rfl, rfl⟩, trivial, trivial, ⟨rfl, rfl⟩, trivial⟩
theorem wk_143_5 : wk_l "TrailStoreModel" "told" rt_143_5 := ⟨trivial, trivial, trivial, trivial, trivial, trivial, ⟨rfl, rfl⟩, trivial, trivial, ⟨rfl, rfl⟩, trivial, trivial, ⟨rfl, rfl⟩, trivial, trivial, trivial, trivial⟩
theorem wk_143_6 : wk_l "TrailStoreModel" "told" rt_143_6 := ⟨trivial, ⟨rfl, rfl⟩, trivial, trivial⟩
theorem wk_143 : ∀ l ∈ rt_143, wk_l "TrailStoreModel" "told" l := by
  intro l hl
  simp only [rt_143, List.mem_cons, List.not_mem_nil, or_false] at hl
  rcases hl with rfl | rfl | rfl | rfl | rfl | rfl | rfl
  · exact wk_143_0
  · exact wk_143_1
  · exact wk_143_2
  · exact wk_143_3
  · exact wk_143_4
  · exact wk_143_5
  · exact wk_143_6
theorem dk_143_0 : (List.range 48).all (fun i => dk_i prog_9_method_56_code rt_143 (0 + i)) = true := by decide +kernel
theorem dk_143_1 : (List.range 48).all (fun i => dk_i prog_9_method_56_code rt_143 (48 + i)) = true := by decide +kernel
theorem dk_143_2 : (List.range 16).all (fun i => dk_i prog_9_method_56_code rt_143 (96 + i)) = true := by decide +kernel
theorem dk_143 : ∀ i, i < 112 → dk_i prog_9_method_56_code rt_143 i = true := by
  intro i hi
  by_cases h0 : i < 48
  · have := List.all_eq_true.mp dk_143_0 (i - 0) (List.mem_range.mpr (by omega))
    rwa [show 0 + (i - 0) = i by omega] at this
  by_cases h1 : i < 96
  · have := List.all_eq_true.mp dk_143_1 (i - 48) (List.mem_range.mpr (by omega))
    rwa [show 48 + (i - 48) = i by omega] at this
  by_cases h2 : i < 112
  · have := List.all_eq_true.mp dk_143_2 (i - 96) (List.mem_range.mpr (by omega))
    rwa [show 96 + (i - 96) = i by omega] at this
  exact absurd hi (by omega)
theorem mk_143 : mk_m 143 := ⟨⟨rfl, rfl⟩, ⟨rfl, rfl⟩, by decide +kernel, ⟨⟨rfl, rfl⟩, ⟨rfl, rfl⟩⟩⟩
theorem wk_144_0 : wk_l "TrailStoreModel" "table" rt_144_0 := ⟨trivial, ⟨rfl, rfl⟩, trivial, trivial, trivial, trivial, trivial, trivial, trivial, ⟨rfl, rfl⟩, trivial, trivial, trivial, trivial, trivial, trivial, trivial⟩
theorem wk_144_1 : wk_l "TrailStoreModel" "table" rt_144_1 := ⟨trivial, ⟨rfl, rfl⟩, trivial, trivial, trivial, trivial, ⟨rfl, rfl⟩, trivial, trivial, ⟨rfl, rfl⟩, trivial, trivial, trivial, trivial, trivial, trivial, trivial⟩
theorem wk_144_2 : wk_l "TrailStoreModel" "table" rt_144_2 := ⟨⟨rfl, rfl⟩, trivial, trivial, trivial, trivial, ⟨rfl, rfl⟩, trivial, trivial, trivial, trivial, trivial, trivial, trivial, trivial, ⟨rfl, rfl⟩, trivial, trivial⟩
theorem wk_144_3 : wk_l "TrailStoreModel" "table" rt_144_3 := ⟨trivial, ⟨rfl, rfl⟩, trivial, trivial, trivial, trivial, ⟨rfl, rfl⟩, trivial, trivial, trivial, trivial⟩
theorem wk_144 : ∀ l ∈ rt_144, wk_l "TrailStoreModel" "table" l := by
  intro l hl
  simp only [rt_144, List.mem_cons, List.not_mem_nil, or_false] at hl
  rcases hl with rfl | rfl | rfl | rfl
  · exact wk_144_0
  · exact wk_144_1
  · exact wk_144_2
  · exact wk_144_3
theorem dk_144_0 : (List.range 48).all (fun i => dk_i prog_9_method_57_code rt_144 (0 + i)) = true := by decide +kernel
theorem dk_144_1 : (List.range 16).all (fun i => dk_i prog_9_method_57_code rt_144 (48 + i)) = true := by decide +kernel
theorem dk_144 : ∀ i, i < 64 → dk_i prog_9_method_57_code rt_144 i = true := by
  intro i hi
  by_cases h0 : i < 48
  · have := List.all_eq_true.mp dk_144_0 (i - 0) (List.mem_range.mpr (by omega))
    rwa [show 0 + (i - 0) = i by omega] at this
  by_cases h1 : i < 64
  · have := List.all_eq_true.mp dk_144_1 (i - 48) (List.mem_range.mpr (by omega))
    rwa [show 48 + (i - 48) = i by omega] at this
  exact absurd hi (by omega)
theorem mk_144 : mk_m 144 := ⟨⟨rfl, rfl⟩, ⟨rfl, rfl⟩, by decide +kernel, ⟨⟨rfl, rfl⟩, ⟨rfl, rfl⟩⟩⟩
theorem wk_145_0 : wk_l "TrailStoreModel" "entry" rt_145_0 := ⟨trivial, ⟨rfl, rfl⟩, trivial, trivial, trivial, trivial, ⟨rfl, rfl⟩, trivial, trivial, trivial, trivial, trivial, trivial, trivial, trivial, ⟨rfl, rfl⟩, trivial⟩
theorem wk_145_1 : wk_l "TrailStoreModel" "entry" rt_145_1 := ⟨trivial, trivial, trivial, trivial, trivial, trivial, ⟨rfl, rfl⟩, trivial, trivial, trivial, trivial, trivial, ⟨rfl, rfl⟩, trivial, trivial, trivial, trivial⟩
theorem wk_145_2 : wk_l "TrailStoreModel" "entry" rt_145_2 := ⟨trivial, trivial, ⟨rfl, rfl⟩, trivial, trivial, ⟨rfl, rfl⟩, trivial, trivial, trivial, trivial, trivial, trivial⟩
theorem wk_145 : ∀ l ∈ rt_145, wk_l "TrailStoreModel" "entry" l := by
  intro l hl
  simp only [rt_145, List.mem_cons, List.not_mem_nil, or_false] at hl
  rcases hl with rfl | rfl | rfl
  · exact wk_145_0
  · exact wk_145_1
  · exact wk_145_2
theorem dk_145_0 : (List.range 48).all (fun i => dk_i prog_9_method_58_code rt_145 (0 + i)) = true := by decide +kernel
theorem dk_145 : ∀ i, i < 48 → dk_i prog_9_method_58_code rt_145 i = true := by
  intro i hi
  by_cases h0 : i < 48
  · have := List.all_eq_true.mp dk_145_0 (i - 0) (List.mem_range.mpr (by omega))
    rwa [show 0 + (i - 0) = i by omega] at this
  exact absurd hi (by omega)
theorem mk_145 : mk_m 145 := ⟨⟨rfl, rfl⟩, ⟨rfl, rfl⟩, by decide +kernel, ⟨⟨rfl, rfl⟩, ⟨rfl, rfl⟩⟩⟩
theorem wk_146_0 : wk_l "TrailStoreModel" "cell" rt_146_0 := ⟨trivial, trivial, trivial, trivial, trivial, trivial, trivial, trivial, trivial, ⟨rfl, rfl⟩, trivial, trivial, trivial, trivial, ⟨rfl, rfl⟩, trivial, trivial⟩
theorem wk_146_1 : wk_l "TrailStoreModel" "cell" rt_146_1 := ⟨⟨rfl, rfl⟩, trivial, trivial, trivial, trivial, trivial, trivial, trivial, trivial, trivial, trivial, trivial⟩
theorem wk_146 : ∀ l ∈ rt_146, wk_l "TrailStoreModel" "cell" l := by
  intro l hl
  simp only [rt_146, List.mem_cons, List.not_mem_nil, or_false] at hl
  rcases hl with rfl | rfl
  · exact wk_146_0
  · exact wk_146_1
theorem dk_146_0 : (List.range 32).all (fun i => dk_i prog_9_method_59_code rt_146 (0 + i)) = true := by decide +kernel
theorem dk_146 : ∀ i, i < 32 → dk_i prog_9_method_59_code rt_146 i = true := by
  intro i hi
  by_cases h0 : i < 32
  · have := List.all_eq_true.mp dk_146_0 (i - 0) (List.mem_range.mpr (by omega))
    rwa [show 0 + (i - 0) = i by omega] at this
  exact absurd hi (by omega)
theorem mk_146 : mk_m 146 := ⟨⟨rfl, rfl⟩, ⟨rfl, rfl⟩, by decide +kernel, ⟨⟨rfl, rfl⟩, ⟨rfl, rfl⟩⟩⟩
theorem wk_147_0 : wk_l "TrailStoreModel" "check" rt_147_0 := ⟨trivial, ⟨rfl, rfl⟩, trivial, trivial, trivial, trivial, trivial, trivial⟩
theorem wk_147 : ∀ l ∈ rt_147, wk_l "TrailStoreModel" "check" l := by
  intro l hl
  simp only [rt_147, List.mem_cons, List.not_mem_nil, or_false] at hl
  subst hl
  exact wk_147_0
theorem dk_147_0 : (List.range 16).all (fun i => dk_i prog_9_method_60_code rt_147 (0 + i)) = true := by decide +kernel
theorem dk_147 : ∀ i, i < 16 → dk_i prog_9_method_60_code rt_147 i = true := by
  intro i hi
  by_cases h0 : i < 16
  · have := List.all_eq_true.mp dk_147_0 (i - 0) (List.mem_range.mpr (by omega))
    rwa [show 0 + (i - 0) = i by omega] at this
  exact absurd hi (by omega)
theorem mk_147 : mk_m 147 := ⟨⟨rfl, rfl⟩, ⟨rfl, rfl⟩, by decide +kernel, ⟨⟨rfl, rfl⟩, ⟨rfl, rfl⟩⟩⟩
theorem wk_148_0 : wk_l "TrailStoreLaw" "cell" rt_148_0 := ⟨trivial, trivial, trivial, trivial, trivial, trivial, trivial, trivial, trivial, trivial, trivial⟩
theorem wk_148 : ∀ l ∈ rt_148, wk_l "TrailStoreLaw" "cell" l := by
  intro l hl
  simp only [rt_148, List.mem_cons, List.not_mem_nil, or_false] at hl
  subst hl
  exact wk_148_0
theorem dk_148_0 : (List.range 16).all (fun i => dk_i method_2_code rt_148 (0 + i)) = true := by decide +kernel
theorem dk_148 : ∀ i, i < 16 → dk_i method_2_code rt_148 i = true := by
  intro i hi
  by_cases h0 : i < 16
  · have := List.all_eq_true.mp dk_148_0 (i - 0) (List.mem_range.mpr (by omega))
    rwa [show 0 + (i - 0) = i by omega] at this
  exact absurd hi (by omega)
theorem mk_148 : mk_m 148 := ⟨⟨rfl, rfl⟩, ⟨rfl, rfl⟩, by decide +kernel, ⟨rfl, rfl⟩⟩
theorem wk_149_0 : wk_l "TrailStoreLaw" "law" rt_149_0 := ⟨⟨⟨rfl, rfl⟩, ⟨rfl, rfl⟩, ⟨rfl, rfl⟩⟩, trivial, trivial, trivial, ⟨rfl, rfl⟩, ⟨rfl, rfl⟩, trivial, ⟨⟨rfl, rfl⟩, ⟨rfl, rfl⟩, ⟨rfl, rfl⟩⟩, trivial, trivial, trivial, ⟨rfl, rfl⟩, ⟨rfl, rfl⟩, trivial, trivial, trivial, trivial⟩
theorem wk_149_1 : wk_l "TrailStoreLaw" "law" rt_149_1 := ⟨trivial, trivial, trivial, trivial, trivial, trivial, trivial, trivial, trivial, trivial, trivial, trivial, trivial, trivial, trivial, trivial, trivial⟩
theorem wk_149_2 : wk_l "TrailStoreLaw" "law" rt_149_2 := ⟨trivial, trivial, trivial, trivial, trivial, trivial, trivial, trivial, trivial, trivial, trivial, ⟨rfl, rfl⟩, trivial, trivial, trivial, trivial, trivial⟩
theorem wk_149_3 : wk_l "TrailStoreLaw" "law" rt_149_3 := ⟨trivial, trivial, trivial, ⟨rfl, rfl⟩, trivial, trivial, trivial, trivial, trivial, trivial, trivial, trivial, trivial, trivial, trivial, trivial, trivial⟩
theorem wk_149_4 : wk_l "TrailStoreLaw" "law" rt_149_4 := ⟨trivial, trivial, trivial, ⟨rfl, rfl⟩, trivial, trivial, trivial, trivial, trivial, trivial, trivial, ⟨rfl, rfl⟩, trivial, trivial, trivial, trivial, trivial⟩
theorem wk_149_5 : wk_l "TrailStoreLaw" "law" rt_149_5 := ⟨trivial, trivial, trivial, trivial, trivial, ⟨rfl, rfl⟩, trivial, trivial, trivial, trivial, trivial, trivial, ⟨rfl, rfl⟩, trivial, trivial, trivial, trivial⟩
theorem wk_149_6 : wk_l "TrailStoreLaw" "law" rt_149_6 := ⟨trivial, trivial, trivial, trivial, trivial, trivial, ⟨rfl, rfl⟩, trivial, trivial, trivial, trivial, trivial, trivial, ⟨rfl, rfl⟩, trivial, trivial, trivial⟩
theorem wk_149_7 : wk_l "TrailStoreLaw" "law" rt_149_7 := ⟨trivial, trivial, ⟨rfl, rfl⟩, trivial, ⟨rfl, rfl⟩, trivial, trivial, trivial, trivial, ⟨rfl, rfl⟩, trivial, ⟨rfl, rfl⟩, trivial, trivial, trivial, trivial, trivial⟩
theorem wk_149_8 : wk_l "TrailStoreLaw" "law" rt_149_8 := ⟨⟨rfl, rfl⟩, trivial, ⟨rfl, rfl⟩, trivial, trivial, trivial, trivial, trivial, trivial, trivial, trivial, trivial, ⟨rfl, rfl⟩, trivial, trivial, trivial, trivial⟩
theorem wk_149_9 : wk_l "TrailStoreLaw" "law" rt_149_9 := ⟨trivial, trivial, trivial, ⟨rfl, rfl⟩, trivial, trivial, trivial, trivial, trivial, trivial, trivial, trivial, trivial, ⟨rfl, rfl⟩, trivial, trivial, trivial⟩
theorem wk_149_10 : wk_l "TrailStoreLaw" "law" rt_149_10 := ⟨trivial, trivial, trivial, trivial, ⟨rfl, rfl⟩, trivial, trivial, trivial, trivial, trivial, trivial, trivial, trivial, trivial, ⟨rfl, rfl⟩, trivial, trivial⟩
theorem wk_149_11 : wk_l "TrailStoreLaw" "law" rt_149_11 := ⟨trivial, trivial, trivial, trivial, trivial, ⟨rfl, rfl⟩, trivial, trivial, trivial, trivial, ⟨rfl, rfl⟩, trivial, ⟨rfl, rfl⟩, trivial, trivial, trivial, trivial⟩
theorem wk_149_12 : wk_l "TrailStoreLaw" "law" rt_149_12 := ⟨trivial, ⟨rfl, rfl⟩, trivial, ⟨rfl, rfl⟩, trivial, trivial, trivial, trivial, trivial, trivial, trivial, trivial, trivial, ⟨rfl, rfl⟩, trivial, trivial, trivial⟩
theorem wk_149_13 : wk_l "TrailStoreLaw" "law" rt_149_13 := ⟨trivial, trivial, trivial, trivial, ⟨rfl, rfl⟩, trivial, trivial, trivial, trivial, trivial, trivial, trivial, trivial, trivial, trivial, trivial, trivial⟩
theorem wk_149_14 : wk_l "TrailStoreLaw" "law" rt_149_14 := ⟨trivial, trivial, trivial, ⟨rfl, rfl⟩, trivial, trivial, trivial, trivial, trivial, trivial, trivial, trivial, trivial, trivial, trivial, ⟨rfl, rfl⟩, trivial⟩
theorem wk_149_15 : wk_l "TrailStoreLaw" "law" rt_149_15 := ⟨trivial, trivial, trivial, trivial, trivial, trivial, trivial, trivial, trivial, trivial, trivial, trivial, trivial, trivial, trivial, trivial, trivial⟩
theorem wk_149_16 : wk_l "TrailStoreLaw" "law" rt_149_16 := ⟨trivial, trivial, trivial, ⟨rfl, rfl⟩, trivial, trivial, trivial, trivial, trivial, trivial, trivial, trivial, trivial, trivial, trivial, trivial, trivial⟩
theorem wk_149_17 : wk_l "TrailStoreLaw" "law" rt_149_17 := ⟨trivial, trivial, trivial, trivial, ⟨rfl, rfl⟩, trivial, trivial, trivial, trivial, ⟨rfl, rfl⟩, trivial, ⟨rfl, rfl⟩, trivial, trivial, trivial, trivial, trivial⟩
theorem wk_149_18 : wk_l "TrailStoreLaw" "law" rt_149_18 := ⟨⟨rfl, rfl⟩, trivial, ⟨rfl, rfl⟩, trivial, trivial, trivial, trivial, trivial, trivial, trivial, trivial, trivial, ⟨rfl, rfl⟩, trivial, trivial, trivial, trivial⟩
theorem wk_149_19 : wk_l "TrailStoreLaw" "law" rt_149_19 := ⟨trivial, trivial, trivial, ⟨rfl, rfl⟩, trivial, trivial, trivial, trivial, trivial, trivial, trivial, trivial, trivial, trivial, trivial, trivial, trivial⟩
theorem wk_149_20 : wk_l "TrailStoreLaw" "law" rt_149_20 := ⟨trivial, trivial, ⟨rfl, rfl⟩, trivial, trivial, trivial, trivial, trivial, trivial, trivial, trivial, trivial, trivial, trivial, ⟨rfl, rfl⟩, trivial, trivial⟩
theorem wk_149_21 : wk_l "TrailStoreLaw" "law" rt_149_21 := ⟨trivial, trivial, trivial, trivial, trivial, trivial, trivial, trivial, trivial, trivial, trivial, trivial, trivial, ⟨rfl, rfl⟩, trivial, trivial, trivial⟩
theorem wk_149_22 : wk_l "TrailStoreLaw" "law" rt_149_22 := ⟨trivial, trivial, trivial, trivial, trivial, trivial, trivial, trivial, trivial, ⟨rfl, rfl⟩, trivial, trivial, trivial, trivial, trivial, trivial, trivial⟩
theorem wk_149_23 : wk_l "TrailStoreLaw" "law" rt_149_23 := ⟨trivial, trivial, trivial, trivial, trivial, trivial, trivial, trivial, ⟨rfl, rfl⟩, trivial, trivial, trivial, trivial, trivial, trivial, trivial, trivial⟩
theorem wk_149_24 : wk_l "TrailStoreLaw" "law" rt_149_24 := ⟨trivial, trivial, trivial, trivial, ⟨rfl, rfl⟩, trivial, trivial, trivial, trivial, ⟨rfl, rfl⟩, trivial, ⟨rfl, rfl⟩, trivial, trivial, trivial, trivial, trivial⟩
theorem wk_149_25 : wk_l "TrailStoreLaw" "law" rt_149_25 := ⟨trivial, trivial, trivial, trivial⟩
theorem wk_149 : ∀ l ∈ rt_149, wk_l "TrailStoreLaw" "law" l := by
  intro l hl
  simp only [rt_149, List.mem_cons, List.not_mem_nil, or_false] at hl
  rcases hl with rfl | rfl | rfl | rfl | rfl | rfl | rfl | rfl | rfl | rfl | rfl | rfl | rfl | rfl | rfl | rfl | rfl | rfl | rfl | rfl | rfl | rfl | rfl | rfl | rfl | rfl
  · exact wk_149_0
  · exact wk_149_1
  · exact wk_149_2
  · exact wk_149_3
  · exact wk_149_4
  · exact wk_149_5
  · exact wk_149_6
  · exact wk_149_7
  · exact wk_149_8
  · exact wk_149_9
  · exact wk_149_10
  · exact wk_149_11
  · exact wk_149_12
  · exact wk_149_13
  · exact wk_149_14
  · exact wk_149_15
  · exact wk_149_16
  · exact wk_149_17
  · exact wk_149_18
  · exact wk_149_19
  · exact wk_149_20
  · exact wk_149_21
  · exact wk_149_22
  · exact wk_149_23
  · exact wk_149_24
  · exact wk_149_25
theorem dk_149_0 : (List.range 48).all (fun i => dk_i code rt_149 (0 + i)) = true := by decide +kernel
theorem dk_149_1 : (List.range 48).all (fun i => dk_i code rt_149 (48 + i)) = true := by decide +kernel
theorem dk_149_2 : (List.range 48).all (fun i => dk_i code rt_149 (96 + i)) = true := by decide +kernel
theorem dk_149_3 : (List.range 48).all (fun i => dk_i code rt_149 (144 + i)) = true := by decide +kernel
theorem dk_149_4 : (List.range 48).all (fun i => dk_i code rt_149 (192 + i)) = true := by decide +kernel
theorem dk_149_5 : (List.range 48).all (fun i => dk_i code rt_149 (240 + i)) = true := by decide +kernel
theorem dk_149_6 : (List.range 48).all (fun i => dk_i code rt_149 (288 + i)) = true := by decide +kernel
theorem dk_149_7 : (List.range 48).all (fun i => dk_i code rt_149 (336 + i)) = true := by decide +kernel
theorem dk_149_8 : (List.range 32).all (fun i => dk_i code rt_149 (384 + i)) = true := by decide +kernel
theorem dk_149 : ∀ i, i < 416 → dk_i code rt_149 i = true := by
  intro i hi
  by_cases h0 : i < 48
  · have := List.all_eq_true.mp dk_149_0 (i - 0) (List.mem_range.mpr (by omega))
    rwa [show 0 + (i - 0) = i by omega] at this
  by_cases h1 : i < 96
  · have := List.all_eq_true.mp dk_149_1 (i - 48) (List.mem_range.mpr (by omega))
    rwa [show 48 + (i - 48) = i by omega] at this
  by_cases h2 : i < 144
  · have := List.all_eq_true.mp dk_149_2 (i - 96) (List.mem_range.mpr (by omega))
    rwa [show 96 + (i - 96) = i by omega] at this
  by_cases h3 : i < 192
  · have := List.all_eq_true.mp dk_149_3 (i - 144) (List.mem_range.mpr (by omega))
    rwa [show 144 + (i - 144) = i by omega] at this
  by_cases h4 : i < 240
  · have := List.all_eq_true.mp dk_149_4 (i - 192) (List.mem_range.mpr (by omega))
    rwa [show 192 + (i - 192) = i by omega] at this
  by_cases h5 : i < 288
  · have := List.all_eq_true.mp dk_149_5 (i - 240) (List.mem_range.mpr (by omega))
    rwa [show 240 + (i - 240) = i by omega] at this
  by_cases h6 : i < 336
  · have := List.all_eq_true.mp dk_149_6 (i - 288) (List.mem_range.mpr (by omega))
    rwa [show 288 + (i - 288) = i by omega] at this
  by_cases h7 : i < 384
  · have := List.all_eq_true.mp dk_149_7 (i - 336) (List.mem_range.mpr (by omega))
    rwa [show 336 + (i - 336) = i by omega] at this
  by_cases h8 : i < 416
  · have := List.all_eq_true.mp dk_149_8 (i - 384) (List.mem_range.mpr (by omega))
    rwa [show 384 + (i - 384) = i by omega] at this
  exact absurd hi (by omega)
