/-! PART 11: methods by contract, and the law -/
/-- what the tables say of a method -/
def tb_ok (M : Nat) : Prop := (∀ i, dk_i (mC M) (rx_tt.getD M []) i = true) ∧ (∀ i, wk_i (mN M).cls (mN M).name (rx_e (rx_tt.getD M []) i)) ∧ mk_m M
theorem tb_0 : tb_ok 0 := ⟨dk_all (n := 32) (by decide) dk_0, wk_at wk_0, mk_0⟩
theorem tb_1 : tb_ok 1 := ⟨dk_all (n := 64) (by decide) dk_1, wk_at wk_1, mk_1⟩
theorem tb_2 : tb_ok 2 := ⟨dk_all (n := 32) (by decide) dk_2, wk_at wk_2, mk_2⟩
theorem tb_3 : tb_ok 3 := ⟨dk_all (n := 32) (by decide) dk_3, wk_at wk_3, mk_3⟩
theorem tb_4 : tb_ok 4 := ⟨dk_all (n := 32) (by decide) dk_4, wk_at wk_4, mk_4⟩
theorem tb_5 : tb_ok 5 := ⟨dk_all (n := 48) (by decide) dk_5, wk_at wk_5, mk_5⟩
theorem tb_6 : tb_ok 6 := ⟨dk_all (n := 16) (by decide) dk_6, wk_at wk_6, mk_6⟩
theorem tb_7 : tb_ok 7 := ⟨dk_all (n := 16) (by decide) dk_7, wk_at wk_7, mk_7⟩
theorem tb_8 : tb_ok 8 := ⟨dk_all (n := 16) (by decide) dk_8, wk_at wk_8, mk_8⟩
theorem tb_9 : tb_ok 9 := ⟨dk_all (n := 16) (by decide) dk_9, wk_at wk_9, mk_9⟩
theorem tb_10 : tb_ok 10 := ⟨dk_all (n := 32) (by decide) dk_10, wk_at wk_10, mk_10⟩
theorem tb_11 : tb_ok 11 := ⟨dk_all (n := 16) (by decide) dk_11, wk_at wk_11, mk_11⟩
theorem tb_12 : tb_ok 12 := ⟨dk_all (n := 32) (by decide) dk_12, wk_at wk_12, mk_12⟩
theorem tb_13 : tb_ok 13 := ⟨dk_all (n := 16) (by decide) dk_13, wk_at wk_13, mk_13⟩
theorem tb_14 : tb_ok 14 := ⟨dk_all (n := 32) (by decide) dk_14, wk_at wk_14, mk_14⟩
theorem tb_15 : tb_ok 15 := ⟨dk_all (n := 48) (by decide) dk_15, wk_at wk_15, mk_15⟩
theorem tb_16 : tb_ok 16 := ⟨dk_all (n := 112) (by decide) dk_16, wk_at wk_16, mk_16⟩
theorem tb_17 : tb_ok 17 := ⟨dk_all (n := 16) (by decide) dk_17, wk_at wk_17, mk_17⟩
theorem tb_18 : tb_ok 18 := ⟨dk_all (n := 80) (by decide) dk_18, wk_at wk_18, mk_18⟩
theorem tb_19 : tb_ok 19 := ⟨dk_all (n := 32) (by decide) dk_19, wk_at wk_19, mk_19⟩
theorem tb_20 : tb_ok 20 := ⟨dk_all (n := 16) (by decide) dk_20, wk_at wk_20, mk_20⟩
theorem tb_21 : tb_ok 21 := ⟨dk_all (n := 16) (by decide) dk_21, wk_at wk_21, mk_21⟩
theorem tb_22 : tb_ok 22 := ⟨dk_all (n := 16) (by decide) dk_22, wk_at wk_22, mk_22⟩
theorem tb_23 : tb_ok 23 := ⟨dk_all (n := 16) (by decide) dk_23, wk_at wk_23, mk_23⟩
theorem tb_24 : tb_ok 24 := ⟨dk_all (n := 32) (by decide) dk_24, wk_at wk_24, mk_24⟩
theorem tb_25 : tb_ok 25 := ⟨dk_all (n := 32) (by decide) dk_25, wk_at wk_25, mk_25⟩
theorem tb_26 : tb_ok 26 := ⟨dk_all (n := 32) (by decide) dk_26, wk_at wk_26, mk_26⟩
theorem tb_27 : tb_ok 27 := ⟨dk_all (n := 16) (by decide) dk_27, wk_at wk_27, mk_27⟩
theorem tb_28 : tb_ok 28 := ⟨dk_all (n := 32) (by decide) dk_28, wk_at wk_28, mk_28⟩
theorem tb_29 : tb_ok 29 := ⟨dk_all (n := 48) (by decide) dk_29, wk_at wk_29, mk_29⟩
theorem tb_30 : tb_ok 30 := ⟨dk_all (n := 32) (by decide) dk_30, wk_at wk_30, mk_30⟩
theorem tb_31 : tb_ok 31 := ⟨dk_all (n := 64) (by decide) dk_31, wk_at wk_31, mk_31⟩
theorem tb_32 : tb_ok 32 := ⟨dk_all (n := 48) (by decide) dk_32, wk_at wk_32, mk_32⟩
theorem tb_33 : tb_ok 33 := ⟨dk_all (n := 32) (by decide) dk_33, wk_at wk_33, mk_33⟩
theorem tb_34 : tb_ok 34 := ⟨dk_all (n := 112) (by decide) dk_34, wk_at wk_34, mk_34⟩
theorem tb_35 : tb_ok 35 := ⟨dk_all (n := 96) (by decide) dk_35, wk_at wk_35, mk_35⟩
theorem tb_36 : tb_ok 36 := ⟨dk_all (n := 160) (by decide) dk_36, wk_at wk_36, mk_36⟩
theorem tb_37 : tb_ok 37 := ⟨dk_all (n := 16) (by decide) dk_37, wk_at wk_37, mk_37⟩
theorem tb_38 : tb_ok 38 := ⟨dk_all (n := 128) (by decide) dk_38, wk_at wk_38, mk_38⟩
theorem tb_39 : tb_ok 39 := ⟨dk_all (n := 128) (by decide) dk_39, wk_at wk_39, mk_39⟩
theorem tb_40 : tb_ok 40 := ⟨dk_all (n := 48) (by decide) dk_40, wk_at wk_40, mk_40⟩
theorem tb_41 : tb_ok 41 := ⟨dk_all (n := 16) (by decide) dk_41, wk_at wk_41, mk_41⟩
theorem tb_42 : tb_ok 42 := ⟨dk_all (n := 80) (by decide) dk_42, wk_at wk_42, mk_42⟩
theorem tb_43 : tb_ok 43 := ⟨dk_all (n := 64) (by decide) dk_43, wk_at wk_43, mk_43⟩
theorem tb_44 : tb_ok 44 := ⟨dk_all (n := 80) (by decide) dk_44, wk_at wk_44, mk_44⟩
theorem tb_45 : tb_ok 45 := ⟨dk_all (n := 80) (by decide) dk_45, wk_at wk_45, mk_45⟩
theorem tb_46 : tb_ok 46 := ⟨dk_all (n := 48) (by decide) dk_46, wk_at wk_46, mk_46⟩
theorem tb_47 : tb_ok 47 := ⟨dk_all (n := 16) (by decide) dk_47, wk_at wk_47, mk_47⟩
theorem tb_48 : tb_ok 48 := ⟨dk_all (n := 32) (by decide) dk_48, wk_at wk_48, mk_48⟩
theorem tb_49 : tb_ok 49 := ⟨dk_all (n := 32) (by decide) dk_49, wk_at wk_49, mk_49⟩
theorem tb_50 : tb_ok 50 := ⟨dk_all (n := 48) (by decide) dk_50, wk_at wk_50, mk_50⟩
theorem tb_51 : tb_ok 51 := ⟨dk_all (n := 80) (by decide) dk_51, wk_at wk_51, mk_51⟩
theorem tb_52 : tb_ok 52 := ⟨dk_all (n := 64) (by decide) dk_52, wk_at wk_52, mk_52⟩
theorem tb_53 : tb_ok 53 := ⟨dk_all (n := 32) (by decide) dk_53, wk_at wk_53, mk_53⟩
theorem tb_54 : tb_ok 54 := ⟨dk_all (n := 48) (by decide) dk_54, wk_at wk_54, mk_54⟩
theorem tb_55 : tb_ok 55 := ⟨dk_all (n := 64) (by decide) dk_55, wk_at wk_55, mk_55⟩
theorem tb_56 : tb_ok 56 := ⟨dk_all (n := 48) (by decide) dk_56, wk_at wk_56, mk_56⟩
theorem tb_57 : tb_ok 57 := ⟨dk_all (n := 80) (by decide) dk_57, wk_at wk_57, mk_57⟩
theorem tb_58 : tb_ok 58 := ⟨dk_all (n := 64) (by decide) dk_58, wk_at wk_58, mk_58⟩
theorem tb_59 : tb_ok 59 := ⟨dk_all (n := 48) (by decide) dk_59, wk_at wk_59, mk_59⟩
theorem tb_60 : tb_ok 60 := ⟨dk_all (n := 48) (by decide) dk_60, wk_at wk_60, mk_60⟩
theorem tb_61 : tb_ok 61 := ⟨dk_all (n := 16) (by decide) dk_61, wk_at wk_61, mk_61⟩
theorem tb_62 : tb_ok 62 := ⟨dk_all (n := 32) (by decide) dk_62, wk_at wk_62, mk_62⟩
theorem tb_63 : tb_ok 63 := ⟨dk_all (n := 32) (by decide) dk_63, wk_at wk_63, mk_63⟩
theorem tb_64 : tb_ok 64 := ⟨dk_all (n := 48) (by decide) dk_64, wk_at wk_64, mk_64⟩
theorem tb_65 : tb_ok 65 := ⟨dk_all (n := 16) (by decide) dk_65, wk_at wk_65, mk_65⟩
theorem tb_66 : tb_ok 66 := ⟨dk_all (n := 32) (by decide) dk_66, wk_at wk_66, mk_66⟩
theorem tb_67 : tb_ok 67 := ⟨dk_all (n := 16) (by decide) dk_67, wk_at wk_67, mk_67⟩
theorem tb_68 : tb_ok 68 := ⟨dk_all (n := 16) (by decide) dk_68, wk_at wk_68, mk_68⟩
theorem tb_69 : tb_ok 69 := ⟨dk_all (n := 32) (by decide) dk_69, wk_at wk_69, mk_69⟩
theorem tb_70 : tb_ok 70 := ⟨dk_all (n := 32) (by decide) dk_70, wk_at wk_70, mk_70⟩
theorem tb_71 : tb_ok 71 := ⟨dk_all (n := 32) (by decide) dk_71, wk_at wk_71, mk_71⟩
theorem tb_72 : tb_ok 72 := ⟨dk_all (n := 32) (by decide) dk_72, wk_at wk_72, mk_72⟩
theorem tb_73 : tb_ok 73 := ⟨dk_all (n := 16) (by decide) dk_73, wk_at wk_73, mk_73⟩
theorem tb_74 : tb_ok 74 := ⟨dk_all (n := 80) (by decide) dk_74, wk_at wk_74, mk_74⟩
theorem tb_75 : tb_ok 75 := ⟨dk_all (n := 80) (by decide) dk_75, wk_at wk_75, mk_75⟩
theorem tb_76 : tb_ok 76 := ⟨dk_all (n := 48) (by decide) dk_76, wk_at wk_76, mk_76⟩
theorem tb_77 : tb_ok 77 := ⟨dk_all (n := 16) (by decide) dk_77, wk_at wk_77, mk_77⟩
theorem tb_78 : tb_ok 78 := ⟨dk_all (n := 80) (by decide) dk_78, wk_at wk_78, mk_78⟩
theorem tb_79 : tb_ok 79 := ⟨dk_all (n := 16) (by decide) dk_79, wk_at wk_79, mk_79⟩
theorem tb_80 : tb_ok 80 := ⟨dk_all (n := 16) (by decide) dk_80, wk_at wk_80, mk_80⟩
theorem tb_81 : tb_ok 81 := ⟨dk_all (n := 32) (by decide) dk_81, wk_at wk_81, mk_81⟩
theorem tb_82 : tb_ok 82 := ⟨dk_all (n := 48) (by decide) dk_82, wk_at wk_82, mk_82⟩
theorem tb_83 : tb_ok 83 := ⟨dk_all (n := 64) (by decide) dk_83, wk_at wk_83, mk_83⟩
theorem tb_84 : tb_ok 84 := ⟨dk_all (n := 48) (by decide) dk_84, wk_at wk_84, mk_84⟩
theorem tb_85 : tb_ok 85 := ⟨dk_all (n := 16) (by decide) dk_85, wk_at wk_85, mk_85⟩
theorem tb_86 : tb_ok 86 := ⟨dk_all (n := 16) (by decide) dk_86, wk_at wk_86, mk_86⟩
theorem tb_87 : tb_ok 87 := ⟨dk_all (n := 16) (by decide) dk_87, wk_at wk_87, mk_87⟩
theorem tb_88 : tb_ok 88 := ⟨dk_all (n := 160) (by decide) dk_88, wk_at wk_88, mk_88⟩
theorem tb_89 : tb_ok 89 := ⟨dk_all (n := 16) (by decide) dk_89, wk_at wk_89, mk_89⟩
theorem tb_90 : tb_ok 90 := ⟨dk_all (n := 16) (by decide) dk_90, wk_at wk_90, mk_90⟩
theorem tb_91 : tb_ok 91 := ⟨dk_all (n := 32) (by decide) dk_91, wk_at wk_91, mk_91⟩
theorem tb_92 : tb_ok 92 := ⟨dk_all (n := 32) (by decide) dk_92, wk_at wk_92, mk_92⟩
theorem tb_93 : tb_ok 93 := ⟨dk_all (n := 16) (by decide) dk_93, wk_at wk_93, mk_93⟩
theorem tb_94 : tb_ok 94 := ⟨dk_all (n := 96) (by decide) dk_94, wk_at wk_94, mk_94⟩
theorem tb_95 : tb_ok 95 := ⟨dk_all (n := 32) (by decide) dk_95, wk_at wk_95, mk_95⟩
theorem tb_96 : tb_ok 96 := ⟨dk_all (n := 32) (by decide) dk_96, wk_at wk_96, mk_96⟩
theorem tb_97 : tb_ok 97 := ⟨dk_all (n := 96) (by decide) dk_97, wk_at wk_97, mk_97⟩
theorem tb_98 : tb_ok 98 := ⟨dk_all (n := 96) (by decide) dk_98, wk_at wk_98, mk_98⟩
theorem tb_99 : tb_ok 99 := ⟨dk_all (n := 16) (by decide) dk_99, wk_at wk_99, mk_99⟩
theorem tb_100 : tb_ok 100 := ⟨dk_all (n := 112) (by decide) dk_100, wk_at wk_100, mk_100⟩
theorem tb_101 : tb_ok 101 := ⟨dk_all (n := 32) (by decide) dk_101, wk_at wk_101, mk_101⟩
theorem tb_102 : tb_ok 102 := ⟨dk_all (n := 16) (by decide) dk_102, wk_at wk_102, mk_102⟩
theorem tb_103 : tb_ok 103 := ⟨dk_all (n := 16) (by decide) dk_103, wk_at wk_103, mk_103⟩
theorem tb_104 : tb_ok 104 := ⟨dk_all (n := 16) (by decide) dk_104, wk_at wk_104, mk_104⟩
theorem tb_105 : tb_ok 105 := ⟨dk_all (n := 32) (by decide) dk_105, wk_at wk_105, mk_105⟩
theorem tb_106 : tb_ok 106 := ⟨dk_all (n := 32) (by decide) dk_106, wk_at wk_106, mk_106⟩
theorem tb_107 : tb_ok 107 := ⟨dk_all (n := 80) (by decide) dk_107, wk_at wk_107, mk_107⟩
theorem tb_108 : tb_ok 108 := ⟨dk_all (n := 16) (by decide) dk_108, wk_at wk_108, mk_108⟩
theorem tb_109 : tb_ok 109 := ⟨dk_all (n := 16) (by decide) dk_109, wk_at wk_109, mk_109⟩
theorem tb_110 : tb_ok 110 := ⟨dk_all (n := 64) (by decide) dk_110, wk_at wk_110, mk_110⟩
theorem tb_111 : tb_ok 111 := ⟨dk_all (n := 32) (by decide) dk_111, wk_at wk_111, mk_111⟩
theorem tb_112 : tb_ok 112 := ⟨dk_all (n := 160) (by decide) dk_112, wk_at wk_112, mk_112⟩
theorem tb_113 : tb_ok 113 := ⟨dk_all (n := 48) (by decide) dk_113, wk_at wk_113, mk_113⟩
theorem tb_114 : tb_ok 114 := ⟨dk_all (n := 32) (by decide) dk_114, wk_at wk_114, mk_114⟩
theorem tb_115 : tb_ok 115 := ⟨dk_all (n := 32) (by decide) dk_115, wk_at wk_115, mk_115⟩
theorem tb_116 : tb_ok 116 := ⟨dk_all (n := 112) (by decide) dk_116, wk_at wk_116, mk_116⟩
theorem tb_117 : tb_ok 117 := ⟨dk_all (n := 176) (by decide) dk_117, wk_at wk_117, mk_117⟩
theorem tb_118 : tb_ok 118 := ⟨dk_all (n := 48) (by decide) dk_118, wk_at wk_118, mk_118⟩
theorem tb_119 : tb_ok 119 := ⟨dk_all (n := 32) (by decide) dk_119, wk_at wk_119, mk_119⟩
theorem tb_120 : tb_ok 120 := ⟨dk_all (n := 160) (by decide) dk_120, wk_at wk_120, mk_120⟩
theorem tb_121 : tb_ok 121 := ⟨dk_all (n := 32) (by decide) dk_121, wk_at wk_121, mk_121⟩
theorem tb_122 : tb_ok 122 := ⟨dk_all (n := 64) (by decide) dk_122, wk_at wk_122, mk_122⟩
theorem tb_123 : tb_ok 123 := ⟨dk_all (n := 176) (by decide) dk_123, wk_at wk_123, mk_123⟩
theorem tb_124 : tb_ok 124 := ⟨dk_all (n := 64) (by decide) dk_124, wk_at wk_124, mk_124⟩
theorem tb_125 : tb_ok 125 := ⟨dk_all (n := 256) (by decide) dk_125, wk_at wk_125, mk_125⟩
theorem tb_126 : tb_ok 126 := ⟨dk_all (n := 16) (by decide) dk_126, wk_at wk_126, mk_126⟩
theorem tb_127 : tb_ok 127 := ⟨dk_all (n := 16) (by decide) dk_127, wk_at wk_127, mk_127⟩
theorem tb_128 : tb_ok 128 := ⟨dk_all (n := 48) (by decide) dk_128, wk_at wk_128, mk_128⟩
theorem tb_129 : tb_ok 129 := ⟨dk_all (n := 48) (by decide) dk_129, wk_at wk_129, mk_129⟩
theorem tb_130 : tb_ok 130 := ⟨dk_all (n := 48) (by decide) dk_130, wk_at wk_130, mk_130⟩
theorem tb_131 : tb_ok 131 := ⟨dk_all (n := 32) (by decide) dk_131, wk_at wk_131, mk_131⟩
theorem tb_132 : tb_ok 132 := ⟨dk_all (n := 32) (by decide) dk_132, wk_at wk_132, mk_132⟩
theorem tb_133 : tb_ok 133 := ⟨dk_all (n := 32) (by decide) dk_133, wk_at wk_133, mk_133⟩
theorem tb_134 : tb_ok 134 := ⟨dk_all (n := 112) (by decide) dk_134, wk_at wk_134, mk_134⟩
theorem tb_135 : tb_ok 135 := ⟨dk_all (n := 16) (by decide) dk_135, wk_at wk_135, mk_135⟩
theorem tb_136 : tb_ok 136 := ⟨dk_all (n := 32) (by decide) dk_136, wk_at wk_136, mk_136⟩
theorem tb_137 : tb_ok 137 := ⟨dk_all (n := 16) (by decide) dk_137, wk_at wk_137, mk_137⟩
theorem tb_138 : tb_ok 138 := ⟨dk_all (n := 16) (by decide) dk_138, wk_at wk_138, mk_138⟩
theorem tb_139 : tb_ok 139 := ⟨dk_all (n := 32) (by decide) dk_139, wk_at wk_139, mk_139⟩
theorem tb_140 : tb_ok 140 := ⟨dk_all (n := 32) (by decide) dk_140, wk_at wk_140, mk_140⟩
theorem tb_141 : tb_ok 141 := ⟨dk_all (n := 32) (by decide) dk_141, wk_at wk_141, mk_141⟩
theorem tb_142 : tb_ok 142 := ⟨dk_all (n := 32) (by decide) dk_142, wk_at wk_142, mk_142⟩
theorem tb_143 : tb_ok 143 := ⟨dk_all (n := 112) (by decide) dk_143, wk_at wk_143, mk_143⟩
theorem tb_144 : tb_ok 144 := ⟨dk_all (n := 64) (by decide) dk_144, wk_at wk_144, mk_144⟩
theorem tb_145 : tb_ok 145 := ⟨dk_all (n := 48) (by decide) dk_145, wk_at wk_145, mk_145⟩
theorem tb_146 : tb_ok 146 := ⟨dk_all (n := 32) (by decide) dk_146, wk_at wk_146, mk_146⟩
theorem tb_147 : tb_ok 147 := ⟨dk_all (n := 16) (by decide) dk_147, wk_at wk_147, mk_147⟩
theorem tb_148 : tb_ok 148 := ⟨dk_all (n := 16) (by decide) dk_148, wk_at wk_148, mk_148⟩
theorem tb_all (M : Nat) (hM : M < 149) : tb_ok M := by
  rcases Nat.lt_or_ge M 74 with h0_149 | h0_149
  · rcases Nat.lt_or_ge M 37 with h0_74 | h0_74
    · rcases Nat.lt_or_ge M 18 with h0_37 | h0_37
      · rcases Nat.lt_or_ge M 9 with h0_18 | h0_18
        · rcases Nat.lt_or_ge M 4 with h0_9 | h0_9
          · rcases Nat.lt_or_ge M 2 with h0_4 | h0_4
            · rcases Nat.lt_or_ge M 1 with h0_2 | h0_2
              · obtain rfl : M = 0 := by omega
                exact tb_0
              · obtain rfl : M = 1 := by omega
                exact tb_1
            · rcases Nat.lt_or_ge M 3 with h2_4 | h2_4
              · obtain rfl : M = 2 := by omega
                exact tb_2
              · obtain rfl : M = 3 := by omega
                exact tb_3
          · rcases Nat.lt_or_ge M 6 with h4_9 | h4_9
            · rcases Nat.lt_or_ge M 5 with h4_6 | h4_6
              · obtain rfl : M = 4 := by omega
                exact tb_4
              · obtain rfl : M = 5 := by omega
                exact tb_5
            · rcases Nat.lt_or_ge M 7 with h6_9 | h6_9
              · obtain rfl : M = 6 := by omega
                exact tb_6
              · rcases Nat.lt_or_ge M 8 with h7_9 | h7_9
                · obtain rfl : M = 7 := by omega
                  exact tb_7
                · obtain rfl : M = 8 := by omega
                  exact tb_8
        · rcases Nat.lt_or_ge M 13 with h9_18 | h9_18
          · rcases Nat.lt_or_ge M 11 with h9_13 | h9_13
            · rcases Nat.lt_or_ge M 10 with h9_11 | h9_11
              · obtain rfl : M = 9 := by omega
                exact tb_9
              · obtain rfl : M = 10 := by omega
                exact tb_10
            · rcases Nat.lt_or_ge M 12 with h11_13 | h11_13
              · obtain rfl : M = 11 := by omega
                exact tb_11
              · obtain rfl : M = 12 := by omega
                exact tb_12
          · rcases Nat.lt_or_ge M 15 with h13_18 | h13_18
            · rcases Nat.lt_or_ge M 14 with h13_15 | h13_15
              · obtain rfl : M = 13 := by omega
                exact tb_13
              · obtain rfl : M = 14 := by omega
                exact tb_14
            · rcases Nat.lt_or_ge M 16 with h15_18 | h15_18
              · obtain rfl : M = 15 := by omega
                exact tb_15
              · rcases Nat.lt_or_ge M 17 with h16_18 | h16_18
                · obtain rfl : M = 16 := by omega
                  exact tb_16
                · obtain rfl : M = 17 := by omega
                  exact tb_17
      · rcases Nat.lt_or_ge M 27 with h18_37 | h18_37
        · rcases Nat.lt_or_ge M 22 with h18_27 | h18_27
          · rcases Nat.lt_or_ge M 20 with h18_22 | h18_22
            · rcases Nat.lt_or_ge M 19 with h18_20 | h18_20
              · obtain rfl : M = 18 := by omega
                exact tb_18
              · obtain rfl : M = 19 := by omega
                exact tb_19
            · rcases Nat.lt_or_ge M 21 with h20_22 | h20_22
              · obtain rfl : M = 20 := by omega
                exact tb_20
              · obtain rfl : M = 21 := by omega
                exact tb_21
          · rcases Nat.lt_or_ge M 24 with h22_27 | h22_27
            · rcases Nat.lt_or_ge M 23 with h22_24 | h22_24
              · obtain rfl : M = 22 := by omega
                exact tb_22
              · obtain rfl : M = 23 := by omega
                exact tb_23
            · rcases Nat.lt_or_ge M 25 with h24_27 | h24_27
              · obtain rfl : M = 24 := by omega
                exact tb_24
              · rcases Nat.lt_or_ge M 26 with h25_27 | h25_27
                · obtain rfl : M = 25 := by omega
                  exact tb_25
                · obtain rfl : M = 26 := by omega
                  exact tb_26
        · rcases Nat.lt_or_ge M 32 with h27_37 | h27_37
          · rcases Nat.lt_or_ge M 29 with h27_32 | h27_32
            · rcases Nat.lt_or_ge M 28 with h27_29 | h27_29
              · obtain rfl : M = 27 := by omega
                exact tb_27
              · obtain rfl : M = 28 := by omega
                exact tb_28
            · rcases Nat.lt_or_ge M 30 with h29_32 | h29_32
              · obtain rfl : M = 29 := by omega
                exact tb_29
              · rcases Nat.lt_or_ge M 31 with h30_32 | h30_32
                · obtain rfl : M = 30 := by omega
                  exact tb_30
                · obtain rfl : M = 31 := by omega
                  exact tb_31
          · rcases Nat.lt_or_ge M 34 with h32_37 | h32_37
            · rcases Nat.lt_or_ge M 33 with h32_34 | h32_34
              · obtain rfl : M = 32 := by omega
                exact tb_32
              · obtain rfl : M = 33 := by omega
                exact tb_33
            · rcases Nat.lt_or_ge M 35 with h34_37 | h34_37
              · obtain rfl : M = 34 := by omega
                exact tb_34
              · rcases Nat.lt_or_ge M 36 with h35_37 | h35_37
                · obtain rfl : M = 35 := by omega
                  exact tb_35
                · obtain rfl : M = 36 := by omega
                  exact tb_36
    · rcases Nat.lt_or_ge M 55 with h37_74 | h37_74
      · rcases Nat.lt_or_ge M 46 with h37_55 | h37_55
        · rcases Nat.lt_or_ge M 41 with h37_46 | h37_46
          · rcases Nat.lt_or_ge M 39 with h37_41 | h37_41
            · rcases Nat.lt_or_ge M 38 with h37_39 | h37_39
              · obtain rfl : M = 37 := by omega
                exact tb_37
              · obtain rfl : M = 38 := by omega
                exact tb_38
            · rcases Nat.lt_or_ge M 40 with h39_41 | h39_41
              · obtain rfl : M = 39 := by omega
                exact tb_39
              · obtain rfl : M = 40 := by omega
                exact tb_40
          · rcases Nat.lt_or_ge M 43 with h41_46 | h41_46
            · rcases Nat.lt_or_ge M 42 with h41_43 | h41_43
              · obtain rfl : M = 41 := by omega
                exact tb_41
              · obtain rfl : M = 42 := by omega
                exact tb_42
            · rcases Nat.lt_or_ge M 44 with h43_46 | h43_46
              · obtain rfl : M = 43 := by omega
                exact tb_43
              · rcases Nat.lt_or_ge M 45 with h44_46 | h44_46
                · obtain rfl : M = 44 := by omega
                  exact tb_44
                · obtain rfl : M = 45 := by omega
                  exact tb_45
        · rcases Nat.lt_or_ge M 50 with h46_55 | h46_55
          · rcases Nat.lt_or_ge M 48 with h46_50 | h46_50
            · rcases Nat.lt_or_ge M 47 with h46_48 | h46_48
              · obtain rfl : M = 46 := by omega
                exact tb_46
              · obtain rfl : M = 47 := by omega
                exact tb_47
            · rcases Nat.lt_or_ge M 49 with h48_50 | h48_50
              · obtain rfl : M = 48 := by omega
                exact tb_48
              · obtain rfl : M = 49 := by omega
                exact tb_49
          · rcases Nat.lt_or_ge M 52 with h50_55 | h50_55
            · rcases Nat.lt_or_ge M 51 with h50_52 | h50_52
              · obtain rfl : M = 50 := by omega
                exact tb_50
              · obtain rfl : M = 51 := by omega
                exact tb_51
            · rcases Nat.lt_or_ge M 53 with h52_55 | h52_55
              · obtain rfl : M = 52 := by omega
                exact tb_52
              · rcases Nat.lt_or_ge M 54 with h53_55 | h53_55
                · obtain rfl : M = 53 := by omega
                  exact tb_53
                · obtain rfl : M = 54 := by omega
                  exact tb_54
      · rcases Nat.lt_or_ge M 64 with h55_74 | h55_74
        · rcases Nat.lt_or_ge M 59 with h55_64 | h55_64
          · rcases Nat.lt_or_ge M 57 with h55_59 | h55_59
            · rcases Nat.lt_or_ge M 56 with h55_57 | h55_57
              · obtain rfl : M = 55 := by omega
                exact tb_55
              · obtain rfl : M = 56 := by omega
                exact tb_56
            · rcases Nat.lt_or_ge M 58 with h57_59 | h57_59
              · obtain rfl : M = 57 := by omega
                exact tb_57
              · obtain rfl : M = 58 := by omega
                exact tb_58
          · rcases Nat.lt_or_ge M 61 with h59_64 | h59_64
            · rcases Nat.lt_or_ge M 60 with h59_61 | h59_61
              · obtain rfl : M = 59 := by omega
                exact tb_59
              · obtain rfl : M = 60 := by omega
                exact tb_60
            · rcases Nat.lt_or_ge M 62 with h61_64 | h61_64
              · obtain rfl : M = 61 := by omega
                exact tb_61
              · rcases Nat.lt_or_ge M 63 with h62_64 | h62_64
                · obtain rfl : M = 62 := by omega
                  exact tb_62
                · obtain rfl : M = 63 := by omega
                  exact tb_63
        · rcases Nat.lt_or_ge M 69 with h64_74 | h64_74
          · rcases Nat.lt_or_ge M 66 with h64_69 | h64_69
            · rcases Nat.lt_or_ge M 65 with h64_66 | h64_66
              · obtain rfl : M = 64 := by omega
                exact tb_64
              · obtain rfl : M = 65 := by omega
                exact tb_65
            · rcases Nat.lt_or_ge M 67 with h66_69 | h66_69
              · obtain rfl : M = 66 := by omega
                exact tb_66
              · rcases Nat.lt_or_ge M 68 with h67_69 | h67_69
                · obtain rfl : M = 67 := by omega
                  exact tb_67
                · obtain rfl : M = 68 := by omega
                  exact tb_68
          · rcases Nat.lt_or_ge M 71 with h69_74 | h69_74
            · rcases Nat.lt_or_ge M 70 with h69_71 | h69_71
              · obtain rfl : M = 69 := by omega
                exact tb_69
              · obtain rfl : M = 70 := by omega
                exact tb_70
            · rcases Nat.lt_or_ge M 72 with h71_74 | h71_74
              · obtain rfl : M = 71 := by omega
                exact tb_71
              · rcases Nat.lt_or_ge M 73 with h72_74 | h72_74
                · obtain rfl : M = 72 := by omega
                  exact tb_72
                · obtain rfl : M = 73 := by omega
                  exact tb_73
  · rcases Nat.lt_or_ge M 111 with h74_149 | h74_149
    · rcases Nat.lt_or_ge M 92 with h74_111 | h74_111
      · rcases Nat.lt_or_ge M 83 with h74_92 | h74_92
        · rcases Nat.lt_or_ge M 78 with h74_83 | h74_83
          · rcases Nat.lt_or_ge M 76 with h74_78 | h74_78
            · rcases Nat.lt_or_ge M 75 with h74_76 | h74_76
              · obtain rfl : M = 74 := by omega
                exact tb_74
              · obtain rfl : M = 75 := by omega
                exact tb_75
            · rcases Nat.lt_or_ge M 77 with h76_78 | h76_78
              · obtain rfl : M = 76 := by omega
                exact tb_76
              · obtain rfl : M = 77 := by omega
                exact tb_77
          · rcases Nat.lt_or_ge M 80 with h78_83 | h78_83
            · rcases Nat.lt_or_ge M 79 with h78_80 | h78_80
              · obtain rfl : M = 78 := by omega
                exact tb_78
              · obtain rfl : M = 79 := by omega
                exact tb_79
            · rcases Nat.lt_or_ge M 81 with h80_83 | h80_83
              · obtain rfl : M = 80 := by omega
                exact tb_80
              · rcases Nat.lt_or_ge M 82 with h81_83 | h81_83
                · obtain rfl : M = 81 := by omega
                  exact tb_81
                · obtain rfl : M = 82 := by omega
                  exact tb_82
        · rcases Nat.lt_or_ge M 87 with h83_92 | h83_92
          · rcases Nat.lt_or_ge M 85 with h83_87 | h83_87
            · rcases Nat.lt_or_ge M 84 with h83_85 | h83_85
              · obtain rfl : M = 83 := by omega
                exact tb_83
              · obtain rfl : M = 84 := by omega
                exact tb_84
            · rcases Nat.lt_or_ge M 86 with h85_87 | h85_87
              · obtain rfl : M = 85 := by omega
                exact tb_85
              · obtain rfl : M = 86 := by omega
                exact tb_86
          · rcases Nat.lt_or_ge M 89 with h87_92 | h87_92
            · rcases Nat.lt_or_ge M 88 with h87_89 | h87_89
              · obtain rfl : M = 87 := by omega
                exact tb_87
              · obtain rfl : M = 88 := by omega
                exact tb_88
            · rcases Nat.lt_or_ge M 90 with h89_92 | h89_92
              · obtain rfl : M = 89 := by omega
                exact tb_89
              · rcases Nat.lt_or_ge M 91 with h90_92 | h90_92
                · obtain rfl : M = 90 := by omega
                  exact tb_90
                · obtain rfl : M = 91 := by omega
                  exact tb_91
      · rcases Nat.lt_or_ge M 101 with h92_111 | h92_111
        · rcases Nat.lt_or_ge M 96 with h92_101 | h92_101
          · rcases Nat.lt_or_ge M 94 with h92_96 | h92_96
            · rcases Nat.lt_or_ge M 93 with h92_94 | h92_94
              · obtain rfl : M = 92 := by omega
                exact tb_92
              · obtain rfl : M = 93 := by omega
                exact tb_93
            · rcases Nat.lt_or_ge M 95 with h94_96 | h94_96
              · obtain rfl : M = 94 := by omega
                exact tb_94
              · obtain rfl : M = 95 := by omega
                exact tb_95
          · rcases Nat.lt_or_ge M 98 with h96_101 | h96_101
            · rcases Nat.lt_or_ge M 97 with h96_98 | h96_98
              · obtain rfl : M = 96 := by omega
                exact tb_96
              · obtain rfl : M = 97 := by omega
                exact tb_97
            · rcases Nat.lt_or_ge M 99 with h98_101 | h98_101
              · obtain rfl : M = 98 := by omega
                exact tb_98
              · rcases Nat.lt_or_ge M 100 with h99_101 | h99_101
                · obtain rfl : M = 99 := by omega
                  exact tb_99
                · obtain rfl : M = 100 := by omega
                  exact tb_100
        · rcases Nat.lt_or_ge M 106 with h101_111 | h101_111
          · rcases Nat.lt_or_ge M 103 with h101_106 | h101_106
            · rcases Nat.lt_or_ge M 102 with h101_103 | h101_103
              · obtain rfl : M = 101 := by omega
                exact tb_101
              · obtain rfl : M = 102 := by omega
                exact tb_102
            · rcases Nat.lt_or_ge M 104 with h103_106 | h103_106
              · obtain rfl : M = 103 := by omega
                exact tb_103
              · rcases Nat.lt_or_ge M 105 with h104_106 | h104_106
                · obtain rfl : M = 104 := by omega
                  exact tb_104
                · obtain rfl : M = 105 := by omega
                  exact tb_105
          · rcases Nat.lt_or_ge M 108 with h106_111 | h106_111
            · rcases Nat.lt_or_ge M 107 with h106_108 | h106_108
              · obtain rfl : M = 106 := by omega
                exact tb_106
              · obtain rfl : M = 107 := by omega
                exact tb_107
            · rcases Nat.lt_or_ge M 109 with h108_111 | h108_111
              · obtain rfl : M = 108 := by omega
                exact tb_108
              · rcases Nat.lt_or_ge M 110 with h109_111 | h109_111
                · obtain rfl : M = 109 := by omega
                  exact tb_109
                · obtain rfl : M = 110 := by omega
                  exact tb_110
    · rcases Nat.lt_or_ge M 130 with h111_149 | h111_149
      · rcases Nat.lt_or_ge M 120 with h111_130 | h111_130
        · rcases Nat.lt_or_ge M 115 with h111_120 | h111_120
          · rcases Nat.lt_or_ge M 113 with h111_115 | h111_115
            · rcases Nat.lt_or_ge M 112 with h111_113 | h111_113
              · obtain rfl : M = 111 := by omega
                exact tb_111
              · obtain rfl : M = 112 := by omega
                exact tb_112
            · rcases Nat.lt_or_ge M 114 with h113_115 | h113_115
              · obtain rfl : M = 113 := by omega
                exact tb_113
              · obtain rfl : M = 114 := by omega
                exact tb_114
          · rcases Nat.lt_or_ge M 117 with h115_120 | h115_120
            · rcases Nat.lt_or_ge M 116 with h115_117 | h115_117
              · obtain rfl : M = 115 := by omega
                exact tb_115
              · obtain rfl : M = 116 := by omega
                exact tb_116
            · rcases Nat.lt_or_ge M 118 with h117_120 | h117_120
              · obtain rfl : M = 117 := by omega
                exact tb_117
              · rcases Nat.lt_or_ge M 119 with h118_120 | h118_120
                · obtain rfl : M = 118 := by omega
                  exact tb_118
                · obtain rfl : M = 119 := by omega
                  exact tb_119
        · rcases Nat.lt_or_ge M 125 with h120_130 | h120_130
          · rcases Nat.lt_or_ge M 122 with h120_125 | h120_125
            · rcases Nat.lt_or_ge M 121 with h120_122 | h120_122
              · obtain rfl : M = 120 := by omega
                exact tb_120
              · obtain rfl : M = 121 := by omega
                exact tb_121
            · rcases Nat.lt_or_ge M 123 with h122_125 | h122_125
              · obtain rfl : M = 122 := by omega
                exact tb_122
              · rcases Nat.lt_or_ge M 124 with h123_125 | h123_125
                · obtain rfl : M = 123 := by omega
                  exact tb_123
                · obtain rfl : M = 124 := by omega
                  exact tb_124
          · rcases Nat.lt_or_ge M 127 with h125_130 | h125_130
            · rcases Nat.lt_or_ge M 126 with h125_127 | h125_127
              · obtain rfl : M = 125 := by omega
                exact tb_125
              · obtain rfl : M = 126 := by omega
                exact tb_126
            · rcases Nat.lt_or_ge M 128 with h127_130 | h127_130
              · obtain rfl : M = 127 := by omega
                exact tb_127
              · rcases Nat.lt_or_ge M 129 with h128_130 | h128_130
                · obtain rfl : M = 128 := by omega
                  exact tb_128
                · obtain rfl : M = 129 := by omega
                  exact tb_129
      · rcases Nat.lt_or_ge M 139 with h130_149 | h130_149
        · rcases Nat.lt_or_ge M 134 with h130_139 | h130_139
          · rcases Nat.lt_or_ge M 132 with h130_134 | h130_134
            · rcases Nat.lt_or_ge M 131 with h130_132 | h130_132
              · obtain rfl : M = 130 := by omega
                exact tb_130
              · obtain rfl : M = 131 := by omega
                exact tb_131
            · rcases Nat.lt_or_ge M 133 with h132_134 | h132_134
              · obtain rfl : M = 132 := by omega
                exact tb_132
              · obtain rfl : M = 133 := by omega
                exact tb_133
          · rcases Nat.lt_or_ge M 136 with h134_139 | h134_139
            · rcases Nat.lt_or_ge M 135 with h134_136 | h134_136
              · obtain rfl : M = 134 := by omega
                exact tb_134
              · obtain rfl : M = 135 := by omega
                exact tb_135
            · rcases Nat.lt_or_ge M 137 with h136_139 | h136_139
              · obtain rfl : M = 136 := by omega
                exact tb_136
              · rcases Nat.lt_or_ge M 138 with h137_139 | h137_139
                · obtain rfl : M = 137 := by omega
                  exact tb_137
                · obtain rfl : M = 138 := by omega
                  exact tb_138
        · rcases Nat.lt_or_ge M 144 with h139_149 | h139_149
          · rcases Nat.lt_or_ge M 141 with h139_144 | h139_144
            · rcases Nat.lt_or_ge M 140 with h139_141 | h139_141
              · obtain rfl : M = 139 := by omega
                exact tb_139
              · obtain rfl : M = 140 := by omega
                exact tb_140
            · rcases Nat.lt_or_ge M 142 with h141_144 | h141_144
              · obtain rfl : M = 141 := by omega
                exact tb_141
              · rcases Nat.lt_or_ge M 143 with h142_144 | h142_144
                · obtain rfl : M = 142 := by omega
                  exact tb_142
                · obtain rfl : M = 143 := by omega
                  exact tb_143
          · rcases Nat.lt_or_ge M 146 with h144_149 | h144_149
            · rcases Nat.lt_or_ge M 145 with h144_146 | h144_146
              · obtain rfl : M = 144 := by omega
                exact tb_144
              · obtain rfl : M = 145 := by omega
                exact tb_145
            · rcases Nat.lt_or_ge M 147 with h146_149 | h146_149
              · obtain rfl : M = 146 := by omega
                exact tb_146
              · rcases Nat.lt_or_ge M 148 with h147_149 | h147_149
                · obtain rfl : M = 147 := by omega
                  exact tb_147
                · obtain rfl : M = 148 := by omega
                  exact tb_148
theorem tb_pc0 (M : Nat) (hM : M < 149) : (rx_e (rx_tt.getD M []) 0).1 = 0 := by
  have h : (List.range 149).all (fun M => decide ((rx_e (rx_tt.getD M []) 0).1 = 0)) = true := by decide +kernel
  simpa using List.all_eq_true.mp h M (List.mem_range.mpr hM)
section SDM
variable {b h Lx : Nat} {xs : Nat → Int32} {tc : Nat → ClassId} {D : va_G}
set_option maxHeartbeats 1000000 in
/-- every call of the small machine is a contract of the machine -/
theorem sd_met (hmna : sd_mna) (l : Launch) (hbh : b < h) : ∀ d, sd_call b h Lx xs tc D l (rx_R Lx xs d) d
  | 0 => fun _ _ _ _ _ hc => hc.elim
  | d + 1 => by
    intro M a w Q hM hc
    obtain ⟨hen, hrun⟩ := hc
    obtain ⟨hdk, hwk, hmk⟩ := tb_all M hM
    refine Met.ofW (cc := mC M) (maxL := mL M) (ret := mR M) (sd_ne hmk) rfl ?_
    intro p e s m args below meth c s₁ B hml hv
    obtain ⟨rfl, hP, hz, hK, hX, hN⟩ := hv
    have hts := atoms_spec (ws := rx_ws M) B.pre
    have hown : s.vm.findClass (mN M).cls = some m.cls := findClass_of_methodNamed B.named
    have hnm : meth.name = (mN M).name := (name_of_methodNamed B.named B.method).1
    have C : sd_C p s m (a.map (rx_cv b h)).toArray meth c (mN M).cls (mN M).name (mC M) (mL M) (mR M) b h Lx xs tc D := ⟨B.exec, B.bytes, hml, hown, fun w hw => hts w (List.mem_cons_of_mem _ hw), hK, hX, hbh, by omega, hN, hnm, B.notSynchronized, B.returns⟩
    have key := hrun (sd_G p l e (headSpec (rx_ws M) (sd_rm (d + 1) M)).room s m (a.map (rx_cv b h)).toArray below meth c (MQ below (sd_Qc b h Lx xs tc D Q) (a.map (rx_cv b h)).toArray s (mA M).1 (mA M).2 (fun q => h ≤ q)) b h tc D (mL M) (rx_tt.getD M []))
      (sd_step hmna C hdk hwk (fun M hM => (tb_all M hM).2.2) (sd_met hmna l hbh d) (Nat.le_refl _) (by show 40 * d + 40 ≤ 40 * (d + 1); omega)
        (fun x w' H locs cells slots pc ls hd hty hq hP' hz' hS' hcc hcs => by
          obtain ⟨ty, hty, hna⟩ := hty
          refine W.widen (k := (mA M).1) (n := (mA M).2) hcc hcs ?_
          exact W.zret B.exec B.bytes (B.returns.trans hty) hna (fun t ht hW => ⟨some (.int x), w', rfl, hq, sd_at C hP' hz' hS' t ht hW, hS'.F ht⟩) hS'.2.2 hd)
        (fun w' H locs cells slots pc ls hd hty hq hP' hz' hS' hcc hcs => by
          refine W.widen (k := (mA M).1) (n := (mA M).2) hcc hcs ?_
          exact W.vret B.exec B.bytes (B.returns.trans hty) (fun t ht hW => ⟨none, w', rfl, hq, sd_at C hP' hz' hS' t ht hW, hS'.F ht⟩) hS'.2.2 hd))
    rw [lg_entry_eq]
    have k := key s.heap [] _ hP hz va_S.rf (has_en b h hen) (Nat.zero_le _) (Nat.zero_le _)
    have h0 : (rx_e (rx_tt.getD M []) 0).1 = 0 := tb_pc0 M hM
    rw [h0] at k
    exact k
end SDM
