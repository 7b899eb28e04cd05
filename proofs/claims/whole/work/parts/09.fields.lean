/-! PART 09: the words of the classes: fields, their types and names -/
theorem ly_0 : ∀ w ∈ u_ws cn_0 cf_0 5, w ∈ rx_wall := by
  intro w hw
  obtain ⟨k, hk, rfl⟩ := List.mem_map.mp hw
  have hk := List.mem_range.mp hk
  match k, hk with
  | 0, _ => exact wg_in (k := 317) ⟨rfl, rfl⟩
  | 1, _ => exact wg_in (k := 319) ⟨rfl, rfl⟩
  | 2, _ => exact wg_in (k := 321) ⟨rfl, rfl⟩
  | 3, _ => exact wg_in (k := 323) ⟨rfl, rfl⟩
  | 4, _ => exact wg_in (k := 325) ⟨rfl, rfl⟩
  | k + 5, hk => exact absurd hk (by omega)
theorem nf_0 : ∀ a, a < 5 → ∀ b, b < 5 → a ≠ b → (cf_0 a).2.1 ≠ (cf_0 b).2.1 := by decide +kernel
theorem tf_0 : ∀ k, k < 5 → parseFieldDescriptor (cf_0 k).2.2.1 = some (ct_0 k) := by decide +kernel
theorem ly_1 : ∀ w ∈ u_ws cn_1 cf_1 11, w ∈ rx_wall := by
  intro w hw
  obtain ⟨k, hk, rfl⟩ := List.mem_map.mp hw
  have hk := List.mem_range.mp hk
  match k, hk with
  | 0, _ => exact wg_in (k := 105) ⟨rfl, rfl⟩
  | 1, _ => exact wg_in (k := 107) ⟨rfl, rfl⟩
  | 2, _ => exact wg_in (k := 109) ⟨rfl, rfl⟩
  | 3, _ => exact wg_in (k := 111) ⟨rfl, rfl⟩
  | 4, _ => exact wg_in (k := 113) ⟨rfl, rfl⟩
  | 5, _ => exact wg_in (k := 115) ⟨rfl, rfl⟩
  | 6, _ => exact wg_in (k := 117) ⟨rfl, rfl⟩
  | 7, _ => exact wg_in (k := 119) ⟨rfl, rfl⟩
  | 8, _ => exact wg_in (k := 121) ⟨rfl, rfl⟩
  | 9, _ => exact wg_in (k := 123) ⟨rfl, rfl⟩
  | 10, _ => exact wg_in (k := 125) ⟨rfl, rfl⟩
  | k + 11, hk => exact absurd hk (by omega)
theorem nf_1 : ∀ a, a < 11 → ∀ b, b < 11 → a ≠ b → (cf_1 a).2.1 ≠ (cf_1 b).2.1 := by decide +kernel
theorem tf_1 : ∀ k, k < 11 → parseFieldDescriptor (cf_1 k).2.2.1 = some (ct_1 k) := by decide +kernel
theorem ly_2 : ∀ w ∈ u_ws cn_2 cf_2 4, w ∈ rx_wall := by
  intro w hw
  obtain ⟨k, hk, rfl⟩ := List.mem_map.mp hw
  have hk := List.mem_range.mp hk
  match k, hk with
  | 0, _ => exact wg_in (k := 157) ⟨rfl, rfl⟩
  | 1, _ => exact wg_in (k := 159) ⟨rfl, rfl⟩
  | 2, _ => exact wg_in (k := 161) ⟨rfl, rfl⟩
  | 3, _ => exact wg_in (k := 163) ⟨rfl, rfl⟩
  | k + 4, hk => exact absurd hk (by omega)
theorem nf_2 : ∀ a, a < 4 → ∀ b, b < 4 → a ≠ b → (cf_2 a).2.1 ≠ (cf_2 b).2.1 := by decide +kernel
theorem tf_2 : ∀ k, k < 4 → parseFieldDescriptor (cf_2 k).2.2.1 = some (ct_2 k) := by decide +kernel
theorem ly_3 : ∀ w ∈ u_ws cn_3 cf_3 6, w ∈ rx_wall := by
  intro w hw
  obtain ⟨k, hk, rfl⟩ := List.mem_map.mp hw
  have hk := List.mem_range.mp hk
  match k, hk with
  | 0, _ => exact wg_in (k := 251) ⟨rfl, rfl⟩
  | 1, _ => exact wg_in (k := 253) ⟨rfl, rfl⟩
  | 2, _ => exact wg_in (k := 255) ⟨rfl, rfl⟩
  | 3, _ => exact wg_in (k := 257) ⟨rfl, rfl⟩
  | 4, _ => exact wg_in (k := 259) ⟨rfl, rfl⟩
  | 5, _ => exact wg_in (k := 261) ⟨rfl, rfl⟩
  | k + 6, hk => exact absurd hk (by omega)
theorem nf_3 : ∀ a, a < 6 → ∀ b, b < 6 → a ≠ b → (cf_3 a).2.1 ≠ (cf_3 b).2.1 := by decide +kernel
theorem tf_3 : ∀ k, k < 6 → parseFieldDescriptor (cf_3 k).2.2.1 = some (ct_3 k) := by decide +kernel
theorem ly_4 : ∀ w ∈ u_ws cn_4 cf_4 9, w ∈ rx_wall := by
  intro w hw
  obtain ⟨k, hk, rfl⟩ := List.mem_map.mp hw
  have hk := List.mem_range.mp hk
  match k, hk with
  | 0, _ => exact wg_in (k := 275) ⟨rfl, rfl⟩
  | 1, _ => exact wg_in (k := 277) ⟨rfl, rfl⟩
  | 2, _ => exact wg_in (k := 279) ⟨rfl, rfl⟩
  | 3, _ => exact wg_in (k := 281) ⟨rfl, rfl⟩
  | 4, _ => exact wg_in (k := 283) ⟨rfl, rfl⟩
  | 5, _ => exact wg_in (k := 285) ⟨rfl, rfl⟩
  | 6, _ => exact wg_in (k := 287) ⟨rfl, rfl⟩
  | 7, _ => exact wg_in (k := 289) ⟨rfl, rfl⟩
  | 8, _ => exact wg_in (k := 291) ⟨rfl, rfl⟩
  | k + 9, hk => exact absurd hk (by omega)
theorem nf_4 : ∀ a, a < 9 → ∀ b, b < 9 → a ≠ b → (cf_4 a).2.1 ≠ (cf_4 b).2.1 := by decide +kernel
theorem tf_4 : ∀ k, k < 9 → parseFieldDescriptor (cf_4 k).2.2.1 = some (ct_4 k) := by decide +kernel
theorem ly_5 : ∀ w ∈ u_ws cn_5 cf_5 11, w ∈ rx_wall := by
  intro w hw
  obtain ⟨k, hk, rfl⟩ := List.mem_map.mp hw
  have hk := List.mem_range.mp hk
  match k, hk with
  | 0, _ => exact wg_in (k := 196) ⟨rfl, rfl⟩
  | 1, _ => exact wg_in (k := 198) ⟨rfl, rfl⟩
  | 2, _ => exact wg_in (k := 200) ⟨rfl, rfl⟩
  | 3, _ => exact wg_in (k := 202) ⟨rfl, rfl⟩
  | 4, _ => exact wg_in (k := 204) ⟨rfl, rfl⟩
  | 5, _ => exact wg_in (k := 206) ⟨rfl, rfl⟩
  | 6, _ => exact wg_in (k := 208) ⟨rfl, rfl⟩
  | 7, _ => exact wg_in (k := 210) ⟨rfl, rfl⟩
  | 8, _ => exact wg_in (k := 212) ⟨rfl, rfl⟩
  | 9, _ => exact wg_in (k := 214) ⟨rfl, rfl⟩
  | 10, _ => exact wg_in (k := 216) ⟨rfl, rfl⟩
  | k + 11, hk => exact absurd hk (by omega)
theorem nf_5 : ∀ a, a < 11 → ∀ b, b < 11 → a ≠ b → (cf_5 a).2.1 ≠ (cf_5 b).2.1 := by decide +kernel
theorem tf_5 : ∀ k, k < 11 → parseFieldDescriptor (cf_5 k).2.2.1 = some (ct_5 k) := by decide +kernel
theorem ly_6 : ∀ w ∈ u_ws cn_6 cf_6 14, w ∈ rx_wall := by
  intro w hw
  obtain ⟨k, hk, rfl⟩ := List.mem_map.mp hw
  have hk := List.mem_range.mp hk
  match k, hk with
  | 0, _ => exact wg_in (k := 429) ⟨rfl, rfl⟩
  | 1, _ => exact wg_in (k := 431) ⟨rfl, rfl⟩
  | 2, _ => exact wg_in (k := 433) ⟨rfl, rfl⟩
  | 3, _ => exact wg_in (k := 435) ⟨rfl, rfl⟩
  | 4, _ => exact wg_in (k := 437) ⟨rfl, rfl⟩
  | 5, _ => exact wg_in (k := 439) ⟨rfl, rfl⟩
  | 6, _ => exact wg_in (k := 441) ⟨rfl, rfl⟩
  | 7, _ => exact wg_in (k := 443) ⟨rfl, rfl⟩
  | 8, _ => exact wg_in (k := 445) ⟨rfl, rfl⟩
  | 9, _ => exact wg_in (k := 447) ⟨rfl, rfl⟩
  | 10, _ => exact wg_in (k := 449) ⟨rfl, rfl⟩
  | 11, _ => exact wg_in (k := 451) ⟨rfl, rfl⟩
  | 12, _ => exact wg_in (k := 453) ⟨rfl, rfl⟩
  | 13, _ => exact wg_in (k := 455) ⟨rfl, rfl⟩
  | k + 14, hk => exact absurd hk (by omega)
theorem nf_6 : ∀ a, a < 14 → ∀ b, b < 14 → a ≠ b → (cf_6 a).2.1 ≠ (cf_6 b).2.1 := by decide +kernel
theorem tf_6 : ∀ k, k < 14 → parseFieldDescriptor (cf_6 k).2.2.1 = some (ct_6 k) := by decide +kernel
theorem ly_7 : ∀ w ∈ u_ws cn_7 cf_7 51, w ∈ rx_wall := by
  intro w hw
  obtain ⟨k, hk, rfl⟩ := List.mem_map.mp hw
  have hk := List.mem_range.mp hk
  match k, hk with
  | 0, _ => exact wg_in (k := 840) ⟨rfl, rfl⟩
  | 1, _ => exact wg_in (k := 842) ⟨rfl, rfl⟩
  | 2, _ => exact wg_in (k := 844) ⟨rfl, rfl⟩
  | 3, _ => exact wg_in (k := 846) ⟨rfl, rfl⟩
  | 4, _ => exact wg_in (k := 848) ⟨rfl, rfl⟩
  | 5, _ => exact wg_in (k := 850) ⟨rfl, rfl⟩
  | 6, _ => exact wg_in (k := 852) ⟨rfl, rfl⟩
  | 7, _ => exact wg_in (k := 854) ⟨rfl, rfl⟩
  | 8, _ => exact wg_in (k := 856) ⟨rfl, rfl⟩
  | 9, _ => exact wg_in (k := 858) ⟨rfl, rfl⟩
  | 10, _ => exact wg_in (k := 860) ⟨rfl, rfl⟩
  | 11, _ => exact wg_in (k := 862) ⟨rfl, rfl⟩
  | 12, _ => exact wg_in (k := 864) ⟨rfl, rfl⟩
  | 13, _ => exact wg_in (k := 866) ⟨rfl, rfl⟩
  | 14, _ => exact wg_in (k := 868) ⟨rfl, rfl⟩
  | 15, _ => exact wg_in (k := 870) ⟨rfl, rfl⟩
  | 16, _ => exact wg_in (k := 872) ⟨rfl, rfl⟩
  | 17, _ => exact wg_in (k := 874) ⟨rfl, rfl⟩
  | 18, _ => exact wg_in (k := 876) ⟨rfl, rfl⟩
  | 19, _ => exact wg_in (k := 878) ⟨rfl, rfl⟩
  | 20, _ => exact wg_in (k := 880) ⟨rfl, rfl⟩
  | 21, _ => exact wg_in (k := 882) ⟨rfl, rfl⟩
  | 22, _ => exact wg_in (k := 884) ⟨rfl, rfl⟩
  | 23, _ => exact wg_in (k := 886) ⟨rfl, rfl⟩
  | 24, _ => exact wg_in (k := 888) ⟨rfl, rfl⟩
  | 25, _ => exact wg_in (k := 890) ⟨rfl, rfl⟩
  | 26, _ => exact wg_in (k := 892) ⟨rfl, rfl⟩
  | 27, _ => exact wg_in (k := 894) ⟨rfl, rfl⟩
  | 28, _ => exact wg_in (k := 896) ⟨rfl, rfl⟩
  | 29, _ => exact wg_in (k := 898) ⟨rfl, rfl⟩
  | 30, _ => exact wg_in (k := 900) ⟨rfl, rfl⟩
  | 31, _ => exact wg_in (k := 902) ⟨rfl, rfl⟩
  | 32, _ => exact wg_in (k := 904) ⟨rfl, rfl⟩
  | 33, _ => exact wg_in (k := 906) ⟨rfl, rfl⟩
  | 34, _ => exact wg_in (k := 908) ⟨rfl, rfl⟩
  | 35, _ => exact wg_in (k := 910) ⟨rfl, rfl⟩
  | 36, _ => exact wg_in (k := 912) ⟨rfl, rfl⟩
  | 37, _ => exact wg_in (k := 914) ⟨rfl, rfl⟩
  | 38, _ => exact wg_in (k := 916) ⟨rfl, rfl⟩
  | 39, _ => exact wg_in (k := 918) ⟨rfl, rfl⟩
  | 40, _ => exact wg_in (k := 920) ⟨rfl, rfl⟩
  | 41, _ => exact wg_in (k := 922) ⟨rfl, rfl⟩
  | 42, _ => exact wg_in (k := 924) ⟨rfl, rfl⟩
  | 43, _ => exact wg_in (k := 926) ⟨rfl, rfl⟩
  | 44, _ => exact wg_in (k := 928) ⟨rfl, rfl⟩
  | 45, _ => exact wg_in (k := 930) ⟨rfl, rfl⟩
  | 46, _ => exact wg_in (k := 932) ⟨rfl, rfl⟩
  | 47, _ => exact wg_in (k := 934) ⟨rfl, rfl⟩
  | 48, _ => exact wg_in (k := 936) ⟨rfl, rfl⟩
  | 49, _ => exact wg_in (k := 938) ⟨rfl, rfl⟩
  | 50, _ => exact wg_in (k := 940) ⟨rfl, rfl⟩
  | k + 51, hk => exact absurd hk (by omega)
theorem nf_7 : ∀ a, a < 51 → ∀ b, b < 51 → a ≠ b → (cf_7 a).2.1 ≠ (cf_7 b).2.1 := by decide +kernel
theorem tf_7 : ∀ k, k < 51 → parseFieldDescriptor (cf_7 k).2.2.1 = some (ct_7 k) := by decide +kernel
theorem cl_at : ∀ ci, ci < 8 → rx_cl[ci]? = some (rx_cd ci)
  | 0, _ => rfl
  | 1, _ => rfl
  | 2, _ => rfl
  | 3, _ => rfl
  | 4, _ => rfl
  | 5, _ => rfl
  | 6, _ => rfl
  | 7, _ => rfl
  | k + 8, hk => absurd hk (by omega)
theorem cl_ly : ∀ ci, ci < 8 → ∀ w ∈ u_ws (rx_cd ci).1 (rx_cd ci).2.1 (rx_cd ci).2.2, w ∈ rx_wall
  | 0, _ => ly_0
  | 1, _ => ly_1
  | 2, _ => ly_2
  | 3, _ => ly_3
  | 4, _ => ly_4
  | 5, _ => ly_5
  | 6, _ => ly_6
  | 7, _ => ly_7
  | k + 8, hk => absurd hk (by omega)
theorem cl_nf : ∀ ci, ci < 8 → ∀ a, a < (rx_cd ci).2.2 → ∀ b, b < (rx_cd ci).2.2 → a ≠ b → ((rx_cd ci).2.1 a).2.1 ≠ ((rx_cd ci).2.1 b).2.1
  | 0, _ => nf_0
  | 1, _ => nf_1
  | 2, _ => nf_2
  | 3, _ => nf_3
  | 4, _ => nf_4
  | 5, _ => nf_5
  | 6, _ => nf_6
  | 7, _ => nf_7
  | k + 8, hk => absurd hk (by omega)
theorem cl_tf : ∀ ci, ci < 8 → ∀ k, k < (rx_cd ci).2.2 → parseFieldDescriptor ((rx_cd ci).2.1 k).2.2.1 = some (rx_ty ci k)
  | 0, _ => tf_0
  | 1, _ => tf_1
  | 2, _ => tf_2
  | 3, _ => tf_3
  | 4, _ => tf_4
  | 5, _ => tf_5
  | 6, _ => tf_6
  | 7, _ => tf_7
  | k + 8, hk => absurd hk (by omega)
theorem wo_mx : wk_w 82 (.static Lib.Math.max.name) ∧ wk_w 60 (.initialized "java/lang/Math") ∧ wk_w 83 (.code Lib.Math.max.name Lib.Math.max.code 2 (some .int)) := ⟨⟨rfl, rfl⟩, ⟨rfl, rfl⟩, ⟨rfl, rfl⟩⟩
theorem wo_mn : wk_w 79 (.static Lib.Math.min.name) ∧ wk_w 60 (.initialized "java/lang/Math") ∧ wk_w 80 (.code Lib.Math.min.name Lib.Math.min.code 2 (some .int)) := ⟨⟨rfl, rfl⟩, ⟨rfl, rfl⟩, ⟨rfl, rfl⟩⟩
theorem wo_ac : wk_w 509 (.native arraycopyName) ∧ wk_w 508 (.static arraycopyName) ∧ wk_w 67 (.initialized "java/lang/System") := ⟨⟨rfl, rfl⟩, ⟨rfl, rfl⟩, ⟨rfl, rfl⟩⟩
theorem wo_oi : wk_w 74 (.instanceMethod objectInit) ∧ wk_w 75 (.code objectInit ⟨#[0xb1]⟩ 1 none) := ⟨⟨rfl, rfl⟩, ⟨rfl, rfl⟩⟩
theorem wo_ar : wk_w 129 (.arrayClass .int) ∧ wk_w 128 (.arrayClass .byte) ∧ wk_w 943 (.arrayClass .boolean) := ⟨⟨rfl, rfl⟩, ⟨rfl, rfl⟩, ⟨rfl, rfl⟩⟩
