/-! The program is linked as its tables say: written by wip/whole/gen_good.py. -/
section XkGood
variable {sc : Nat × (Nat → Int32)}
theorem xg_getD {α : Type} {l : List α} {n : Nat} {d : α} (h : l.length ≤ n) : l.getD n d = d := by simp [List.getD, List.getElem?_eq_none h]
theorem xg_s {n : Nat} {R : Nat → Prop} (h : ∀ k, k < n → R k) (hn : R n) : ∀ k, k < n + 1 → R k := fun k hk => (Nat.lt_or_eq_of_le (Nat.le_of_lt_succ hk)).elim (h k) (fun e => e ▸ hn)
def xg_R (sc : Nat × (Nat → Int32)) (k : Nat) : Prop := xk_OkL xp_F (xp_P sc) xp_cl xp_BW xp_NW xp_SW xp_exn k 0 (xp_P sc k).1
theorem xg_0 : ∀ k, k < 0 → xg_R sc k := fun k h => absurd h (Nat.not_lt_zero k)
theorem xg_1 : ∀ k, k < 1 → xg_R sc k := xg_s xg_0 xl_0
theorem xg_2 : ∀ k, k < 2 → xg_R sc k := xg_s xg_1 xl_1
theorem xg_3 : ∀ k, k < 3 → xg_R sc k := xg_s xg_2 xl_2
theorem xg_4 : ∀ k, k < 4 → xg_R sc k := xg_s xg_3 xl_3
theorem xg_5 : ∀ k, k < 5 → xg_R sc k := xg_s xg_4 xl_4
theorem xg_6 : ∀ k, k < 6 → xg_R sc k := xg_s xg_5 xl_5
theorem xg_7 : ∀ k, k < 7 → xg_R sc k := xg_s xg_6 xl_6
theorem xg_8 : ∀ k, k < 8 → xg_R sc k := xg_s xg_7 xl_7
theorem xg_9 : ∀ k, k < 9 → xg_R sc k := xg_s xg_8 xl_8
theorem xg_10 : ∀ k, k < 10 → xg_R sc k := xg_s xg_9 xl_9
theorem xg_11 : ∀ k, k < 11 → xg_R sc k := xg_s xg_10 xl_10
theorem xg_12 : ∀ k, k < 12 → xg_R sc k := xg_s xg_11 xl_11
theorem xg_13 : ∀ k, k < 13 → xg_R sc k := xg_s xg_12 xl_12
theorem xg_14 : ∀ k, k < 14 → xg_R sc k := xg_s xg_13 xl_13
theorem xg_15 : ∀ k, k < 15 → xg_R sc k := xg_s xg_14 xl_14
theorem xg_16 : ∀ k, k < 16 → xg_R sc k := xg_s xg_15 xl_15
theorem xg_17 : ∀ k, k < 17 → xg_R sc k := xg_s xg_16 xl_16
theorem xg_18 : ∀ k, k < 18 → xg_R sc k := xg_s xg_17 xl_17
theorem xg_19 : ∀ k, k < 19 → xg_R sc k := xg_s xg_18 xl_18
theorem xg_20 : ∀ k, k < 20 → xg_R sc k := xg_s xg_19 xl_19
theorem xg_21 : ∀ k, k < 21 → xg_R sc k := xg_s xg_20 xl_20
theorem xg_22 : ∀ k, k < 22 → xg_R sc k := xg_s xg_21 xl_21
theorem xg_23 : ∀ k, k < 23 → xg_R sc k := xg_s xg_22 xl_22
theorem xg_24 : ∀ k, k < 24 → xg_R sc k := xg_s xg_23 xl_23
theorem xg_25 : ∀ k, k < 25 → xg_R sc k := xg_s xg_24 xl_24
theorem xg_26 : ∀ k, k < 26 → xg_R sc k := xg_s xg_25 xl_25
theorem xg_27 : ∀ k, k < 27 → xg_R sc k := xg_s xg_26 xl_26
theorem xg_28 : ∀ k, k < 28 → xg_R sc k := xg_s xg_27 xl_27
theorem xg_29 : ∀ k, k < 29 → xg_R sc k := xg_s xg_28 xl_28
theorem xg_30 : ∀ k, k < 30 → xg_R sc k := xg_s xg_29 xl_29
theorem xg_31 : ∀ k, k < 31 → xg_R sc k := xg_s xg_30 xl_30
theorem xg_32 : ∀ k, k < 32 → xg_R sc k := xg_s xg_31 xl_31
theorem xg_33 : ∀ k, k < 33 → xg_R sc k := xg_s xg_32 xl_32
theorem xg_34 : ∀ k, k < 34 → xg_R sc k := xg_s xg_33 xl_33
theorem xg_35 : ∀ k, k < 35 → xg_R sc k := xg_s xg_34 xl_34
theorem xg_36 : ∀ k, k < 36 → xg_R sc k := xg_s xg_35 xl_35
theorem xg_37 : ∀ k, k < 37 → xg_R sc k := xg_s xg_36 xl_36
theorem xg_38 : ∀ k, k < 38 → xg_R sc k := xg_s xg_37 xl_37
theorem xg_39 : ∀ k, k < 39 → xg_R sc k := xg_s xg_38 xl_38
theorem xg_40 : ∀ k, k < 40 → xg_R sc k := xg_s xg_39 xl_39
theorem xg_41 : ∀ k, k < 41 → xg_R sc k := xg_s xg_40 xl_40
theorem xg_42 : ∀ k, k < 42 → xg_R sc k := xg_s xg_41 xl_41
theorem xg_43 : ∀ k, k < 43 → xg_R sc k := xg_s xg_42 xl_42
theorem xg_44 : ∀ k, k < 44 → xg_R sc k := xg_s xg_43 xl_43
theorem xg_45 : ∀ k, k < 45 → xg_R sc k := xg_s xg_44 xl_44
theorem xg_46 : ∀ k, k < 46 → xg_R sc k := xg_s xg_45 xl_45
theorem xg_47 : ∀ k, k < 47 → xg_R sc k := xg_s xg_46 xl_46
theorem xg_48 : ∀ k, k < 48 → xg_R sc k := xg_s xg_47 xl_47
theorem xg_49 : ∀ k, k < 49 → xg_R sc k := xg_s xg_48 xl_48
theorem xg_50 : ∀ k, k < 50 → xg_R sc k := xg_s xg_49 xl_49
theorem xg_51 : ∀ k, k < 51 → xg_R sc k := xg_s xg_50 xl_50
theorem xg_52 : ∀ k, k < 52 → xg_R sc k := xg_s xg_51 xl_51
theorem xg_53 : ∀ k, k < 53 → xg_R sc k := xg_s xg_52 xl_52
theorem xg_54 : ∀ k, k < 54 → xg_R sc k := xg_s xg_53 xl_53
theorem xg_55 : ∀ k, k < 55 → xg_R sc k := xg_s xg_54 xl_54
theorem xg_56 : ∀ k, k < 56 → xg_R sc k := xg_s xg_55 xl_55
theorem xg_57 : ∀ k, k < 57 → xg_R sc k := xg_s xg_56 xl_56
theorem xg_58 : ∀ k, k < 58 → xg_R sc k := xg_s xg_57 xl_57
theorem xg_59 : ∀ k, k < 59 → xg_R sc k := xg_s xg_58 xl_58
theorem xg_60 : ∀ k, k < 60 → xg_R sc k := xg_s xg_59 xl_59
theorem xg_61 : ∀ k, k < 61 → xg_R sc k := xg_s xg_60 xl_60
theorem xg_62 : ∀ k, k < 62 → xg_R sc k := xg_s xg_61 xl_61
theorem xg_63 : ∀ k, k < 63 → xg_R sc k := xg_s xg_62 xl_62
theorem xg_64 : ∀ k, k < 64 → xg_R sc k := xg_s xg_63 xl_63
theorem xg_65 : ∀ k, k < 65 → xg_R sc k := xg_s xg_64 xl_64
theorem xg_66 : ∀ k, k < 66 → xg_R sc k := xg_s xg_65 xl_65
theorem xg_67 : ∀ k, k < 67 → xg_R sc k := xg_s xg_66 xl_66
theorem xg_68 : ∀ k, k < 68 → xg_R sc k := xg_s xg_67 xl_67
theorem xg_69 : ∀ k, k < 69 → xg_R sc k := xg_s xg_68 xl_68
theorem xg_70 : ∀ k, k < 70 → xg_R sc k := xg_s xg_69 xl_69
theorem xg_71 : ∀ k, k < 71 → xg_R sc k := xg_s xg_70 xl_70
theorem xg_72 : ∀ k, k < 72 → xg_R sc k := xg_s xg_71 xl_71
theorem xg_73 : ∀ k, k < 73 → xg_R sc k := xg_s xg_72 xl_72
theorem xg_74 : ∀ k, k < 74 → xg_R sc k := xg_s xg_73 xl_73
theorem xg_75 : ∀ k, k < 75 → xg_R sc k := xg_s xg_74 xl_74
theorem xg_76 : ∀ k, k < 76 → xg_R sc k := xg_s xg_75 xl_75
theorem xg_77 : ∀ k, k < 77 → xg_R sc k := xg_s xg_76 xl_76
theorem xg_78 : ∀ k, k < 78 → xg_R sc k := xg_s xg_77 xl_77
theorem xg_79 : ∀ k, k < 79 → xg_R sc k := xg_s xg_78 xl_78
theorem xg_80 : ∀ k, k < 80 → xg_R sc k := xg_s xg_79 xl_79
theorem xg_81 : ∀ k, k < 81 → xg_R sc k := xg_s xg_80 xl_80
theorem xg_82 : ∀ k, k < 82 → xg_R sc k := xg_s xg_81 xl_81
theorem xg_83 : ∀ k, k < 83 → xg_R sc k := xg_s xg_82 xl_82
theorem xg_84 : ∀ k, k < 84 → xg_R sc k := xg_s xg_83 xl_83
theorem xg_85 : ∀ k, k < 85 → xg_R sc k := xg_s xg_84 xl_84
theorem xg_86 : ∀ k, k < 86 → xg_R sc k := xg_s xg_85 xl_85
theorem xg_87 : ∀ k, k < 87 → xg_R sc k := xg_s xg_86 xl_86
theorem xg_88 : ∀ k, k < 88 → xg_R sc k := xg_s xg_87 xl_87
theorem xg_89 : ∀ k, k < 89 → xg_R sc k := xg_s xg_88 xl_88
theorem xg_90 : ∀ k, k < 90 → xg_R sc k := xg_s xg_89 xl_89
theorem xg_91 : ∀ k, k < 91 → xg_R sc k := xg_s xg_90 xl_90
theorem xg_92 : ∀ k, k < 92 → xg_R sc k := xg_s xg_91 xl_91
theorem xg_93 : ∀ k, k < 93 → xg_R sc k := xg_s xg_92 xl_92
theorem xg_94 : ∀ k, k < 94 → xg_R sc k := xg_s xg_93 xl_93
theorem xg_95 : ∀ k, k < 95 → xg_R sc k := xg_s xg_94 xl_94
theorem xg_96 : ∀ k, k < 96 → xg_R sc k := xg_s xg_95 xl_95
theorem xg_97 : ∀ k, k < 97 → xg_R sc k := xg_s xg_96 xl_96
theorem xg_98 : ∀ k, k < 98 → xg_R sc k := xg_s xg_97 xl_97
theorem xg_99 : ∀ k, k < 99 → xg_R sc k := xg_s xg_98 xl_98
theorem xg_100 : ∀ k, k < 100 → xg_R sc k := xg_s xg_99 xl_99
theorem xg_101 : ∀ k, k < 101 → xg_R sc k := xg_s xg_100 xl_100
theorem xg_102 : ∀ k, k < 102 → xg_R sc k := xg_s xg_101 xl_101
theorem xg_103 : ∀ k, k < 103 → xg_R sc k := xg_s xg_102 xl_102
theorem xg_104 : ∀ k, k < 104 → xg_R sc k := xg_s xg_103 xl_103
theorem xg_105 : ∀ k, k < 105 → xg_R sc k := xg_s xg_104 xl_104
theorem xg_106 : ∀ k, k < 106 → xg_R sc k := xg_s xg_105 xl_105
theorem xg_107 : ∀ k, k < 107 → xg_R sc k := xg_s xg_106 xl_106
theorem xg_108 : ∀ k, k < 108 → xg_R sc k := xg_s xg_107 xl_107
theorem xg_109 : ∀ k, k < 109 → xg_R sc k := xg_s xg_108 xl_108
theorem xg_110 : ∀ k, k < 110 → xg_R sc k := xg_s xg_109 xl_109
theorem xg_111 : ∀ k, k < 111 → xg_R sc k := xg_s xg_110 xl_110
theorem xg_112 : ∀ k, k < 112 → xg_R sc k := xg_s xg_111 xl_111
theorem xg_113 : ∀ k, k < 113 → xg_R sc k := xg_s xg_112 xl_112
theorem xg_114 : ∀ k, k < 114 → xg_R sc k := xg_s xg_113 xl_113
theorem xg_115 : ∀ k, k < 115 → xg_R sc k := xg_s xg_114 xl_114
theorem xg_116 : ∀ k, k < 116 → xg_R sc k := xg_s xg_115 xl_115
theorem xg_117 : ∀ k, k < 117 → xg_R sc k := xg_s xg_116 xl_116
theorem xg_118 : ∀ k, k < 118 → xg_R sc k := xg_s xg_117 xl_117
theorem xg_119 : ∀ k, k < 119 → xg_R sc k := xg_s xg_118 xl_118
theorem xg_120 : ∀ k, k < 120 → xg_R sc k := xg_s xg_119 xl_119
theorem xg_121 : ∀ k, k < 121 → xg_R sc k := xg_s xg_120 xl_120
theorem xg_122 : ∀ k, k < 122 → xg_R sc k := xg_s xg_121 xl_121
theorem xg_123 : ∀ k, k < 123 → xg_R sc k := xg_s xg_122 xl_122
theorem xg_124 : ∀ k, k < 124 → xg_R sc k := xg_s xg_123 xl_123
theorem xg_125 : ∀ k, k < 125 → xg_R sc k := xg_s xg_124 xl_124
theorem xg_126 : ∀ k, k < 126 → xg_R sc k := xg_s xg_125 xl_125
theorem xg_127 : ∀ k, k < 127 → xg_R sc k := xg_s xg_126 xl_126
theorem xg_128 : ∀ k, k < 128 → xg_R sc k := xg_s xg_127 xl_127
theorem xg_129 : ∀ k, k < 129 → xg_R sc k := xg_s xg_128 xl_128
theorem xg_130 : ∀ k, k < 130 → xg_R sc k := xg_s xg_129 xl_129
theorem xg_131 : ∀ k, k < 131 → xg_R sc k := xg_s xg_130 xl_130
theorem xg_132 : ∀ k, k < 132 → xg_R sc k := xg_s xg_131 xl_131
theorem xg_133 : ∀ k, k < 133 → xg_R sc k := xg_s xg_132 xl_132
theorem xg_134 : ∀ k, k < 134 → xg_R sc k := xg_s xg_133 xl_133
theorem xg_135 : ∀ k, k < 135 → xg_R sc k := xg_s xg_134 xl_134
theorem xg_136 : ∀ k, k < 136 → xg_R sc k := xg_s xg_135 xl_135
theorem xg_137 : ∀ k, k < 137 → xg_R sc k := xg_s xg_136 xl_136
theorem xg_138 : ∀ k, k < 138 → xg_R sc k := xg_s xg_137 xl_137
theorem xg_139 : ∀ k, k < 139 → xg_R sc k := xg_s xg_138 xl_138
theorem xg_140 : ∀ k, k < 140 → xg_R sc k := xg_s xg_139 xl_139
theorem xg_141 : ∀ k, k < 141 → xg_R sc k := xg_s xg_140 xl_140
theorem xg_142 : ∀ k, k < 142 → xg_R sc k := xg_s xg_141 xl_141
theorem xg_143 : ∀ k, k < 143 → xg_R sc k := xg_s xg_142 xl_142
theorem xg_144 : ∀ k, k < 144 → xg_R sc k := xg_s xg_143 xl_143
theorem xg_145 : ∀ k, k < 145 → xg_R sc k := xg_s xg_144 xl_144
theorem xg_146 : ∀ k, k < 146 → xg_R sc k := xg_s xg_145 xl_145
theorem xg_147 : ∀ k, k < 147 → xg_R sc k := xg_s xg_146 xl_146
theorem xg_148 : ∀ k, k < 148 → xg_R sc k := xg_s xg_147 xl_147
theorem xg_149 : ∀ k, k < 149 → xg_R sc k := xg_s xg_148 xl_148
theorem xg_150 : ∀ k, k < 150 → xg_R sc k := xg_s xg_149 xl_149
theorem xg_151 : ∀ k, k < 151 → xg_R sc k := xg_s xg_150 xl_150
theorem xg_152 : ∀ k, k < 152 → xg_R sc k := xg_s xg_151 xl_151
theorem xg_153 : ∀ k, k < 153 → xg_R sc k := xg_s xg_152 xl_152
theorem xg_154 : ∀ k, k < 154 → xg_R sc k := xg_s xg_153 xl_153
theorem xg_155 : ∀ k, k < 155 → xg_R sc k := xg_s xg_154 xl_154
theorem xg_156 : ∀ k, k < 156 → xg_R sc k := xg_s xg_155 xl_155
theorem xg_157 : ∀ k, k < 157 → xg_R sc k := xg_s xg_156 xl_156
theorem xg_158 : ∀ k, k < 158 → xg_R sc k := xg_s xg_157 xl_157
theorem xg_159 : ∀ k, k < 159 → xg_R sc k := xg_s xg_158 xl_158
theorem xg_160 : ∀ k, k < 160 → xg_R sc k := xg_s xg_159 xl_159
theorem xg_161 : ∀ k, k < 161 → xg_R sc k := xg_s xg_160 xl_160
theorem xg_162 : ∀ k, k < 162 → xg_R sc k := xg_s xg_161 xl_161
theorem xg_163 : ∀ k, k < 163 → xg_R sc k := xg_s xg_162 xl_162
theorem xg_164 : ∀ k, k < 164 → xg_R sc k := xg_s xg_163 xl_163
theorem xg_165 : ∀ k, k < 165 → xg_R sc k := xg_s xg_164 xl_164
theorem xg_166 : ∀ k, k < 166 → xg_R sc k := xg_s xg_165 xl_165
theorem xg_167 : ∀ k, k < 167 → xg_R sc k := xg_s xg_166 xl_166
theorem xg_168 : ∀ k, k < 168 → xg_R sc k := xg_s xg_167 xl_167
theorem xg_169 : ∀ k, k < 169 → xg_R sc k := xg_s xg_168 xl_168
theorem xg_170 : ∀ k, k < 170 → xg_R sc k := xg_s xg_169 xl_169
theorem xg_171 : ∀ k, k < 171 → xg_R sc k := xg_s xg_170 xl_170
theorem xg_172 : ∀ k, k < 172 → xg_R sc k := xg_s xg_171 xl_171
theorem xg_173 : ∀ k, k < 173 → xg_R sc k := xg_s xg_172 xl_172
theorem xg_174 : ∀ k, k < 174 → xg_R sc k := xg_s xg_173 xl_173
theorem xg_175 : ∀ k, k < 175 → xg_R sc k := xg_s xg_174 xl_174
theorem xg_176 : ∀ k, k < 176 → xg_R sc k := xg_s xg_175 xl_175
theorem xg_177 : ∀ k, k < 177 → xg_R sc k := xg_s xg_176 xl_176
theorem xg_178 : ∀ k, k < 178 → xg_R sc k := xg_s xg_177 xl_177
theorem xg_179 : ∀ k, k < 179 → xg_R sc k := xg_s xg_178 xl_178
theorem xg_180 : ∀ k, k < 180 → xg_R sc k := xg_s xg_179 xl_179
theorem xg_181 : ∀ k, k < 181 → xg_R sc k := xg_s xg_180 xl_180
theorem xp_Pbig {k : Nat} (h : 181 ≤ k) : xp_P sc k = ([], 0, none, [], none) := by
  unfold xp_P
  rcases (show k / 16 = 11 ∨ 12 ≤ k / 16 by omega) with h1 | h1
  · rw [h1]
    have h2 : 5 ≤ k % 16 := by omega
    show (xp_P11 sc).getD (k % 16) _ = _
    exact xg_getD (by simpa [xp_P11] using h2)
  · rw [xg_getD (l := xp_Pl sc) (by simpa [xp_Pl] using h1)]
    simp
theorem xp_Fbig {k : Nat} (h : 181 ≤ k) : xp_F k = (⟨"ExtentShelf", "", ""⟩, ⟨#[]⟩, none, [], 0, 0, []) := by
  unfold xp_F
  rcases (show k / 16 = 11 ∨ 12 ≤ k / 16 by omega) with h1 | h1
  · rw [h1]
    have h2 : 5 ≤ k % 16 := by omega
    show (xp_F11).getD (k % 16) _ = _
    exact xg_getD (by simpa [xp_F11] using h2)
  · rw [xg_getD (l := xp_Fl) (by simpa [xp_Fl] using h1)]
    simp
theorem xp_okA : ∀ k i mi, (xp_P sc k).1[i]? = some mi → xk_OkA xp_F (xp_P sc) xp_cl xp_BW xp_NW xp_SW xp_exn k i mi := by
  intro k i mi h
  by_cases hk : k < 181
  · have h1 := xk_OkL.get _ 0 i mi (xg_181 k hk) h
    rw [Nat.zero_add] at h1
    exact h1
  · rw [xp_Pbig (by omega)] at h
    simp at h
set_option maxRecDepth 100000 in
theorem xp_chk : (List.range 181).all (fun k => plainName (xp_F k).1.cls && (!(xp_P (0, fun _ => 0) k).2.2.2.1.isEmpty || (xp_F k).2.2.2.2.2.2.isEmpty)) = true := by decide +kernel
def xs_R (sc : Nat × (Nat → Int32)) (k : Nat) : Prop := (xp_P sc k).2.2.2.1 = (xp_P (0, fun _ => 0) k).2.2.2.1
theorem xs_0 : ∀ k, k < 0 → xs_R sc k := fun k h => absurd h (Nat.not_lt_zero k)
theorem xs_1 : ∀ k, k < 1 → xs_R sc k := xg_s xs_0 rfl
theorem xs_2 : ∀ k, k < 2 → xs_R sc k := xg_s xs_1 rfl
theorem xs_3 : ∀ k, k < 3 → xs_R sc k := xg_s xs_2 rfl
theorem xs_4 : ∀ k, k < 4 → xs_R sc k := xg_s xs_3 rfl
theorem xs_5 : ∀ k, k < 5 → xs_R sc k := xg_s xs_4 rfl
theorem xs_6 : ∀ k, k < 6 → xs_R sc k := xg_s xs_5 rfl
theorem xs_7 : ∀ k, k < 7 → xs_R sc k := xg_s xs_6 rfl
theorem xs_8 : ∀ k, k < 8 → xs_R sc k := xg_s xs_7 rfl
theorem xs_9 : ∀ k, k < 9 → xs_R sc k := xg_s xs_8 rfl
theorem xs_10 : ∀ k, k < 10 → xs_R sc k := xg_s xs_9 rfl
theorem xs_11 : ∀ k, k < 11 → xs_R sc k := xg_s xs_10 rfl
theorem xs_12 : ∀ k, k < 12 → xs_R sc k := xg_s xs_11 rfl
theorem xs_13 : ∀ k, k < 13 → xs_R sc k := xg_s xs_12 rfl
theorem xs_14 : ∀ k, k < 14 → xs_R sc k := xg_s xs_13 rfl
theorem xs_15 : ∀ k, k < 15 → xs_R sc k := xg_s xs_14 rfl
theorem xs_16 : ∀ k, k < 16 → xs_R sc k := xg_s xs_15 rfl
theorem xs_17 : ∀ k, k < 17 → xs_R sc k := xg_s xs_16 rfl
theorem xs_18 : ∀ k, k < 18 → xs_R sc k := xg_s xs_17 rfl
theorem xs_19 : ∀ k, k < 19 → xs_R sc k := xg_s xs_18 rfl
theorem xs_20 : ∀ k, k < 20 → xs_R sc k := xg_s xs_19 rfl
theorem xs_21 : ∀ k, k < 21 → xs_R sc k := xg_s xs_20 rfl
theorem xs_22 : ∀ k, k < 22 → xs_R sc k := xg_s xs_21 rfl
theorem xs_23 : ∀ k, k < 23 → xs_R sc k := xg_s xs_22 rfl
theorem xs_24 : ∀ k, k < 24 → xs_R sc k := xg_s xs_23 rfl
theorem xs_25 : ∀ k, k < 25 → xs_R sc k := xg_s xs_24 rfl
theorem xs_26 : ∀ k, k < 26 → xs_R sc k := xg_s xs_25 rfl
theorem xs_27 : ∀ k, k < 27 → xs_R sc k := xg_s xs_26 rfl
theorem xs_28 : ∀ k, k < 28 → xs_R sc k := xg_s xs_27 rfl
theorem xs_29 : ∀ k, k < 29 → xs_R sc k := xg_s xs_28 rfl
theorem xs_30 : ∀ k, k < 30 → xs_R sc k := xg_s xs_29 rfl
theorem xs_31 : ∀ k, k < 31 → xs_R sc k := xg_s xs_30 rfl
theorem xs_32 : ∀ k, k < 32 → xs_R sc k := xg_s xs_31 rfl
theorem xs_33 : ∀ k, k < 33 → xs_R sc k := xg_s xs_32 rfl
theorem xs_34 : ∀ k, k < 34 → xs_R sc k := xg_s xs_33 rfl
theorem xs_35 : ∀ k, k < 35 → xs_R sc k := xg_s xs_34 rfl
theorem xs_36 : ∀ k, k < 36 → xs_R sc k := xg_s xs_35 rfl
theorem xs_37 : ∀ k, k < 37 → xs_R sc k := xg_s xs_36 rfl
theorem xs_38 : ∀ k, k < 38 → xs_R sc k := xg_s xs_37 rfl
theorem xs_39 : ∀ k, k < 39 → xs_R sc k := xg_s xs_38 rfl
theorem xs_40 : ∀ k, k < 40 → xs_R sc k := xg_s xs_39 rfl
theorem xs_41 : ∀ k, k < 41 → xs_R sc k := xg_s xs_40 rfl
theorem xs_42 : ∀ k, k < 42 → xs_R sc k := xg_s xs_41 rfl
theorem xs_43 : ∀ k, k < 43 → xs_R sc k := xg_s xs_42 rfl
theorem xs_44 : ∀ k, k < 44 → xs_R sc k := xg_s xs_43 rfl
theorem xs_45 : ∀ k, k < 45 → xs_R sc k := xg_s xs_44 rfl
theorem xs_46 : ∀ k, k < 46 → xs_R sc k := xg_s xs_45 rfl
theorem xs_47 : ∀ k, k < 47 → xs_R sc k := xg_s xs_46 rfl
theorem xs_48 : ∀ k, k < 48 → xs_R sc k := xg_s xs_47 rfl
theorem xs_49 : ∀ k, k < 49 → xs_R sc k := xg_s xs_48 rfl
theorem xs_50 : ∀ k, k < 50 → xs_R sc k := xg_s xs_49 rfl
theorem xs_51 : ∀ k, k < 51 → xs_R sc k := xg_s xs_50 rfl
theorem xs_52 : ∀ k, k < 52 → xs_R sc k := xg_s xs_51 rfl
theorem xs_53 : ∀ k, k < 53 → xs_R sc k := xg_s xs_52 rfl
theorem xs_54 : ∀ k, k < 54 → xs_R sc k := xg_s xs_53 rfl
theorem xs_55 : ∀ k, k < 55 → xs_R sc k := xg_s xs_54 rfl
theorem xs_56 : ∀ k, k < 56 → xs_R sc k := xg_s xs_55 rfl
theorem xs_57 : ∀ k, k < 57 → xs_R sc k := xg_s xs_56 rfl
theorem xs_58 : ∀ k, k < 58 → xs_R sc k := xg_s xs_57 rfl
theorem xs_59 : ∀ k, k < 59 → xs_R sc k := xg_s xs_58 rfl
theorem xs_60 : ∀ k, k < 60 → xs_R sc k := xg_s xs_59 rfl
theorem xs_61 : ∀ k, k < 61 → xs_R sc k := xg_s xs_60 rfl
theorem xs_62 : ∀ k, k < 62 → xs_R sc k := xg_s xs_61 rfl
theorem xs_63 : ∀ k, k < 63 → xs_R sc k := xg_s xs_62 rfl
theorem xs_64 : ∀ k, k < 64 → xs_R sc k := xg_s xs_63 rfl
theorem xs_65 : ∀ k, k < 65 → xs_R sc k := xg_s xs_64 rfl
theorem xs_66 : ∀ k, k < 66 → xs_R sc k := xg_s xs_65 rfl
theorem xs_67 : ∀ k, k < 67 → xs_R sc k := xg_s xs_66 rfl
theorem xs_68 : ∀ k, k < 68 → xs_R sc k := xg_s xs_67 rfl
theorem xs_69 : ∀ k, k < 69 → xs_R sc k := xg_s xs_68 rfl
theorem xs_70 : ∀ k, k < 70 → xs_R sc k := xg_s xs_69 rfl
theorem xs_71 : ∀ k, k < 71 → xs_R sc k := xg_s xs_70 rfl
theorem xs_72 : ∀ k, k < 72 → xs_R sc k := xg_s xs_71 rfl
theorem xs_73 : ∀ k, k < 73 → xs_R sc k := xg_s xs_72 rfl
theorem xs_74 : ∀ k, k < 74 → xs_R sc k := xg_s xs_73 rfl
theorem xs_75 : ∀ k, k < 75 → xs_R sc k := xg_s xs_74 rfl
theorem xs_76 : ∀ k, k < 76 → xs_R sc k := xg_s xs_75 rfl
theorem xs_77 : ∀ k, k < 77 → xs_R sc k := xg_s xs_76 rfl
theorem xs_78 : ∀ k, k < 78 → xs_R sc k := xg_s xs_77 rfl
theorem xs_79 : ∀ k, k < 79 → xs_R sc k := xg_s xs_78 rfl
theorem xs_80 : ∀ k, k < 80 → xs_R sc k := xg_s xs_79 rfl
theorem xs_81 : ∀ k, k < 81 → xs_R sc k := xg_s xs_80 rfl
theorem xs_82 : ∀ k, k < 82 → xs_R sc k := xg_s xs_81 rfl
theorem xs_83 : ∀ k, k < 83 → xs_R sc k := xg_s xs_82 rfl
theorem xs_84 : ∀ k, k < 84 → xs_R sc k := xg_s xs_83 rfl
theorem xs_85 : ∀ k, k < 85 → xs_R sc k := xg_s xs_84 rfl
theorem xs_86 : ∀ k, k < 86 → xs_R sc k := xg_s xs_85 rfl
theorem xs_87 : ∀ k, k < 87 → xs_R sc k := xg_s xs_86 rfl
theorem xs_88 : ∀ k, k < 88 → xs_R sc k := xg_s xs_87 rfl
theorem xs_89 : ∀ k, k < 89 → xs_R sc k := xg_s xs_88 rfl
theorem xs_90 : ∀ k, k < 90 → xs_R sc k := xg_s xs_89 rfl
theorem xs_91 : ∀ k, k < 91 → xs_R sc k := xg_s xs_90 rfl
theorem xs_92 : ∀ k, k < 92 → xs_R sc k := xg_s xs_91 rfl
theorem xs_93 : ∀ k, k < 93 → xs_R sc k := xg_s xs_92 rfl
theorem xs_94 : ∀ k, k < 94 → xs_R sc k := xg_s xs_93 rfl
theorem xs_95 : ∀ k, k < 95 → xs_R sc k := xg_s xs_94 rfl
theorem xs_96 : ∀ k, k < 96 → xs_R sc k := xg_s xs_95 rfl
theorem xs_97 : ∀ k, k < 97 → xs_R sc k := xg_s xs_96 rfl
theorem xs_98 : ∀ k, k < 98 → xs_R sc k := xg_s xs_97 rfl
theorem xs_99 : ∀ k, k < 99 → xs_R sc k := xg_s xs_98 rfl
theorem xs_100 : ∀ k, k < 100 → xs_R sc k := xg_s xs_99 rfl
theorem xs_101 : ∀ k, k < 101 → xs_R sc k := xg_s xs_100 rfl
theorem xs_102 : ∀ k, k < 102 → xs_R sc k := xg_s xs_101 rfl
theorem xs_103 : ∀ k, k < 103 → xs_R sc k := xg_s xs_102 rfl
theorem xs_104 : ∀ k, k < 104 → xs_R sc k := xg_s xs_103 rfl
theorem xs_105 : ∀ k, k < 105 → xs_R sc k := xg_s xs_104 rfl
theorem xs_106 : ∀ k, k < 106 → xs_R sc k := xg_s xs_105 rfl
theorem xs_107 : ∀ k, k < 107 → xs_R sc k := xg_s xs_106 rfl
theorem xs_108 : ∀ k, k < 108 → xs_R sc k := xg_s xs_107 rfl
theorem xs_109 : ∀ k, k < 109 → xs_R sc k := xg_s xs_108 rfl
theorem xs_110 : ∀ k, k < 110 → xs_R sc k := xg_s xs_109 rfl
theorem xs_111 : ∀ k, k < 111 → xs_R sc k := xg_s xs_110 rfl
theorem xs_112 : ∀ k, k < 112 → xs_R sc k := xg_s xs_111 rfl
theorem xs_113 : ∀ k, k < 113 → xs_R sc k := xg_s xs_112 rfl
theorem xs_114 : ∀ k, k < 114 → xs_R sc k := xg_s xs_113 rfl
theorem xs_115 : ∀ k, k < 115 → xs_R sc k := xg_s xs_114 rfl
theorem xs_116 : ∀ k, k < 116 → xs_R sc k := xg_s xs_115 rfl
theorem xs_117 : ∀ k, k < 117 → xs_R sc k := xg_s xs_116 rfl
theorem xs_118 : ∀ k, k < 118 → xs_R sc k := xg_s xs_117 rfl
theorem xs_119 : ∀ k, k < 119 → xs_R sc k := xg_s xs_118 rfl
theorem xs_120 : ∀ k, k < 120 → xs_R sc k := xg_s xs_119 rfl
theorem xs_121 : ∀ k, k < 121 → xs_R sc k := xg_s xs_120 rfl
theorem xs_122 : ∀ k, k < 122 → xs_R sc k := xg_s xs_121 rfl
theorem xs_123 : ∀ k, k < 123 → xs_R sc k := xg_s xs_122 rfl
theorem xs_124 : ∀ k, k < 124 → xs_R sc k := xg_s xs_123 rfl
theorem xs_125 : ∀ k, k < 125 → xs_R sc k := xg_s xs_124 rfl
theorem xs_126 : ∀ k, k < 126 → xs_R sc k := xg_s xs_125 rfl
theorem xs_127 : ∀ k, k < 127 → xs_R sc k := xg_s xs_126 rfl
theorem xs_128 : ∀ k, k < 128 → xs_R sc k := xg_s xs_127 rfl
theorem xs_129 : ∀ k, k < 129 → xs_R sc k := xg_s xs_128 rfl
theorem xs_130 : ∀ k, k < 130 → xs_R sc k := xg_s xs_129 rfl
theorem xs_131 : ∀ k, k < 131 → xs_R sc k := xg_s xs_130 rfl
theorem xs_132 : ∀ k, k < 132 → xs_R sc k := xg_s xs_131 rfl
theorem xs_133 : ∀ k, k < 133 → xs_R sc k := xg_s xs_132 rfl
theorem xs_134 : ∀ k, k < 134 → xs_R sc k := xg_s xs_133 rfl
theorem xs_135 : ∀ k, k < 135 → xs_R sc k := xg_s xs_134 rfl
theorem xs_136 : ∀ k, k < 136 → xs_R sc k := xg_s xs_135 rfl
theorem xs_137 : ∀ k, k < 137 → xs_R sc k := xg_s xs_136 rfl
theorem xs_138 : ∀ k, k < 138 → xs_R sc k := xg_s xs_137 rfl
theorem xs_139 : ∀ k, k < 139 → xs_R sc k := xg_s xs_138 rfl
theorem xs_140 : ∀ k, k < 140 → xs_R sc k := xg_s xs_139 rfl
theorem xs_141 : ∀ k, k < 141 → xs_R sc k := xg_s xs_140 rfl
theorem xs_142 : ∀ k, k < 142 → xs_R sc k := xg_s xs_141 rfl
theorem xs_143 : ∀ k, k < 143 → xs_R sc k := xg_s xs_142 rfl
theorem xs_144 : ∀ k, k < 144 → xs_R sc k := xg_s xs_143 rfl
theorem xs_145 : ∀ k, k < 145 → xs_R sc k := xg_s xs_144 rfl
theorem xs_146 : ∀ k, k < 146 → xs_R sc k := xg_s xs_145 rfl
theorem xs_147 : ∀ k, k < 147 → xs_R sc k := xg_s xs_146 rfl
theorem xs_148 : ∀ k, k < 148 → xs_R sc k := xg_s xs_147 rfl
theorem xs_149 : ∀ k, k < 149 → xs_R sc k := xg_s xs_148 rfl
theorem xs_150 : ∀ k, k < 150 → xs_R sc k := xg_s xs_149 rfl
theorem xs_151 : ∀ k, k < 151 → xs_R sc k := xg_s xs_150 rfl
theorem xs_152 : ∀ k, k < 152 → xs_R sc k := xg_s xs_151 rfl
theorem xs_153 : ∀ k, k < 153 → xs_R sc k := xg_s xs_152 rfl
theorem xs_154 : ∀ k, k < 154 → xs_R sc k := xg_s xs_153 rfl
theorem xs_155 : ∀ k, k < 155 → xs_R sc k := xg_s xs_154 rfl
theorem xs_156 : ∀ k, k < 156 → xs_R sc k := xg_s xs_155 rfl
theorem xs_157 : ∀ k, k < 157 → xs_R sc k := xg_s xs_156 rfl
theorem xs_158 : ∀ k, k < 158 → xs_R sc k := xg_s xs_157 rfl
theorem xs_159 : ∀ k, k < 159 → xs_R sc k := xg_s xs_158 rfl
theorem xs_160 : ∀ k, k < 160 → xs_R sc k := xg_s xs_159 rfl
theorem xs_161 : ∀ k, k < 161 → xs_R sc k := xg_s xs_160 rfl
theorem xs_162 : ∀ k, k < 162 → xs_R sc k := xg_s xs_161 rfl
theorem xs_163 : ∀ k, k < 163 → xs_R sc k := xg_s xs_162 rfl
theorem xs_164 : ∀ k, k < 164 → xs_R sc k := xg_s xs_163 rfl
theorem xs_165 : ∀ k, k < 165 → xs_R sc k := xg_s xs_164 rfl
theorem xs_166 : ∀ k, k < 166 → xs_R sc k := xg_s xs_165 rfl
theorem xs_167 : ∀ k, k < 167 → xs_R sc k := xg_s xs_166 rfl
theorem xs_168 : ∀ k, k < 168 → xs_R sc k := xg_s xs_167 rfl
theorem xs_169 : ∀ k, k < 169 → xs_R sc k := xg_s xs_168 rfl
theorem xs_170 : ∀ k, k < 170 → xs_R sc k := xg_s xs_169 rfl
theorem xs_171 : ∀ k, k < 171 → xs_R sc k := xg_s xs_170 rfl
theorem xs_172 : ∀ k, k < 172 → xs_R sc k := xg_s xs_171 rfl
theorem xs_173 : ∀ k, k < 173 → xs_R sc k := xg_s xs_172 rfl
theorem xs_174 : ∀ k, k < 174 → xs_R sc k := xg_s xs_173 rfl
theorem xs_175 : ∀ k, k < 175 → xs_R sc k := xg_s xs_174 rfl
theorem xs_176 : ∀ k, k < 176 → xs_R sc k := xg_s xs_175 rfl
theorem xs_177 : ∀ k, k < 177 → xs_R sc k := xg_s xs_176 rfl
theorem xs_178 : ∀ k, k < 178 → xs_R sc k := xg_s xs_177 rfl
theorem xs_179 : ∀ k, k < 179 → xs_R sc k := xg_s xs_178 rfl
theorem xs_180 : ∀ k, k < 180 → xs_R sc k := xg_s xs_179 rfl
theorem xs_181 : ∀ k, k < 181 → xs_R sc k := xg_s xs_180 rfl
theorem xp_hsame (k : Nat) : (xp_P sc k).2.2.2.1 = (xp_P (0, fun _ => 0) k).2.2.2.1 := by
  by_cases hk : k < 181
  · exact xs_181 k hk
  · rw [xp_Pbig (by omega), xp_Pbig (by omega)]
theorem xp_chk' (k : Nat) : plainName (xp_F k).1.cls = true ∧ ((xp_P sc k).2.2.2.1 = [] → (xp_F k).2.2.2.2.2.2 = []) := by
  by_cases hk : k < 181
  · have h := List.all_eq_true.mp xp_chk k (List.mem_range.mpr hk)
    simp only [Bool.and_eq_true] at h
    refine ⟨h.1, fun e => ?_⟩
    have h2 := h.2
    rw [xp_hsame] at e
    rw [e] at h2
    exact List.isEmpty_iff.mp (by simpa using h2)
  · have h1 : 181 ≤ k := by omega
    refine ⟨?_, fun _ => ?_⟩
    · rw [xp_Fbig h1]
      rfl
    · rw [xp_Fbig h1]
theorem xp_nest : ∀ q ∈ xp_NW, xk_nest q = true := by
  intro q hq
  rcases List.mem_append.mp hq with h | h
  · exact (Bool.and_eq_true_iff.mp (List.mem_filter.mp h).2).2
  · exact List.all_eq_true.mp (show xp_nc.all xk_nest = true by decide +kernel) q h
theorem xp_good {l : Launch} (hl : l.stackTraces = false) : xk_Good l xp_F (xp_P sc) xp_cl xp_BW xp_NW xp_SW xp_exn :=
  ⟨xp_okA, fun q hq => (List.mem_filter.mp hq).2, xp_nest, hl, fun k => (xp_chk' (sc := sc) k).1, fun k => (xp_chk' k).2⟩
set_option maxRecDepth 100000 in
theorem xh_160_0 : xk_Oh xp_F (xp_P sc) xp_BW xp_NW xp_exn 160 3 0 1 := ⟨[], [(0, 6, 12, 15), (0, 6, 15, 17)], 0, 6, 9, 13, "java/lang/IllegalStateException", 3, 1, rfl, by decide +kernel, by decide +kernel, by decide, (xw_t 111 rfl rfl), xw_n 124 rfl rfl, (fun _ h => absurd h List.not_mem_nil), Or.inr ⟨3, rfl, xd_160_9, rfl⟩, Nat.le_of_ble_eq_true rfl, xd_160_10, xd_160_11, rfl⟩
set_option maxRecDepth 100000 in
theorem xh_160_1 : xk_Oh xp_F (xp_P sc) xp_BW xp_NW xp_exn 160 3 1 2 := ⟨[(0, 6, 9, 13)], [(0, 6, 15, 17)], 0, 6, 12, 15, "java/lang/IllegalArgumentException", 3, 1, rfl, by decide +kernel, by decide +kernel, by decide, (xw_t 112 rfl rfl), xw_n 200 rfl rfl, (List.forall_mem_cons.mpr ⟨⟨by decide, "java/lang/IllegalStateException", (xw_t 111 rfl rfl), xw_c 0 rfl⟩, fun _ h => absurd h List.not_mem_nil⟩), Or.inr ⟨3, rfl, xd_160_12, rfl⟩, Nat.le_of_ble_eq_true rfl, xd_160_13, xd_160_14, rfl⟩
set_option maxRecDepth 100000 in
theorem xh_160_2 : xk_Oh xp_F (xp_P sc) xp_BW xp_NW xp_exn 160 3 2 3 := ⟨[(0, 6, 9, 13), (0, 6, 12, 15)], [], 0, 6, 15, 17, "java/lang/UnsupportedOperationException", 3, 1, rfl, by decide +kernel, by decide +kernel, by decide, (xw_t 113 rfl rfl), xw_n 229 rfl rfl, (List.forall_mem_cons.mpr ⟨⟨by decide, "java/lang/IllegalStateException", (xw_t 111 rfl rfl), xw_c 1 rfl⟩, List.forall_mem_cons.mpr ⟨⟨by decide, "java/lang/IllegalArgumentException", (xw_t 112 rfl rfl), xw_c 5 rfl⟩, fun _ h => absurd h List.not_mem_nil⟩⟩), Or.inr ⟨3, rfl, xd_160_15, rfl⟩, Nat.le_of_ble_eq_true rfl, xd_160_16, xd_160_17, rfl⟩
theorem xi_160 : (List.range 16).all (fun i => match xc_160[i]? with
  | some (.invokeinterface _ _) => decide (i = 3)
  | _ => true) = true := by decide +kernel
theorem xj_160 : ∀ (i j na x : Nat) (z : Nat × Int), (xp_P sc 160).1[i]? = some (.invokeinterface j na) → (xp_P sc 160).2.2.2.1.find? (fun q => q.1 == x) = some z → xk_Oh xp_F (xp_P sc) xp_BW xp_NW xp_exn 160 i x z.2 := by
  intro i j na x z h hz
  have h : xc_160[i]? = some (.invokeinterface j na) := h
  have hi : i < 16 := (List.getElem?_eq_some_iff.mp h).1
  have h1 := List.all_eq_true.mp xi_160 i (List.mem_range.mpr hi)
  rw [h] at h1
  have e1 : i = 3 := of_decide_eq_true h1
  subst e1
  have hx : z.1 = x := by simpa using List.find?_some hz
  subst hx
  have hm : z ∈ [((0 : Nat), (1 : Int)), ((1 : Nat), (2 : Int)), ((2 : Nat), (3 : Int))] := List.mem_of_find?_eq_some hz
  simp only [List.mem_cons, List.not_mem_nil, or_false] at hm
  rcases hm with rfl | rfl | rfl
  · exact xh_160_0
  · exact xh_160_1
  · exact xh_160_2
set_option maxRecDepth 100000 in
theorem xh_161_0 : xk_Oh xp_F (xp_P sc) xp_BW xp_NW xp_exn 161 2 0 1 := ⟨[], [(0, 5, 11, 15), (0, 5, 14, 17)], 0, 5, 8, 13, "java/lang/IllegalStateException", 2, 1, rfl, by decide +kernel, by decide +kernel, by decide, (xw_t 111 rfl rfl), xw_n 124 rfl rfl, (fun _ h => absurd h List.not_mem_nil), Or.inr ⟨2, rfl, xd_161_8, rfl⟩, Nat.le_of_ble_eq_true rfl, xd_161_9, xd_161_10, rfl⟩
set_option maxRecDepth 100000 in
theorem xh_161_1 : xk_Oh xp_F (xp_P sc) xp_BW xp_NW xp_exn 161 2 1 2 := ⟨[(0, 5, 8, 13)], [(0, 5, 14, 17)], 0, 5, 11, 15, "java/lang/IllegalArgumentException", 2, 1, rfl, by decide +kernel, by decide +kernel, by decide, (xw_t 112 rfl rfl), xw_n 200 rfl rfl, (List.forall_mem_cons.mpr ⟨⟨by decide, "java/lang/IllegalStateException", (xw_t 111 rfl rfl), xw_c 0 rfl⟩, fun _ h => absurd h List.not_mem_nil⟩), Or.inr ⟨2, rfl, xd_161_11, rfl⟩, Nat.le_of_ble_eq_true rfl, xd_161_12, xd_161_13, rfl⟩
set_option maxRecDepth 100000 in
theorem xh_161_2 : xk_Oh xp_F (xp_P sc) xp_BW xp_NW xp_exn 161 2 2 3 := ⟨[(0, 5, 8, 13), (0, 5, 11, 15)], [], 0, 5, 14, 17, "java/lang/UnsupportedOperationException", 2, 1, rfl, by decide +kernel, by decide +kernel, by decide, (xw_t 113 rfl rfl), xw_n 229 rfl rfl, (List.forall_mem_cons.mpr ⟨⟨by decide, "java/lang/IllegalStateException", (xw_t 111 rfl rfl), xw_c 1 rfl⟩, List.forall_mem_cons.mpr ⟨⟨by decide, "java/lang/IllegalArgumentException", (xw_t 112 rfl rfl), xw_c 5 rfl⟩, fun _ h => absurd h List.not_mem_nil⟩⟩), Or.inr ⟨2, rfl, xd_161_14, rfl⟩, Nat.le_of_ble_eq_true rfl, xd_161_15, xd_161_16, rfl⟩
theorem xi_161 : (List.range 15).all (fun i => match xc_161[i]? with
  | some (.invokeinterface _ _) => decide (i = 2)
  | _ => true) = true := by decide +kernel
theorem xj_161 : ∀ (i j na x : Nat) (z : Nat × Int), (xp_P sc 161).1[i]? = some (.invokeinterface j na) → (xp_P sc 161).2.2.2.1.find? (fun q => q.1 == x) = some z → xk_Oh xp_F (xp_P sc) xp_BW xp_NW xp_exn 161 i x z.2 := by
  intro i j na x z h hz
  have h : xc_161[i]? = some (.invokeinterface j na) := h
  have hi : i < 15 := (List.getElem?_eq_some_iff.mp h).1
  have h1 := List.all_eq_true.mp xi_161 i (List.mem_range.mpr hi)
  rw [h] at h1
  have e1 : i = 2 := of_decide_eq_true h1
  subst e1
  have hx : z.1 = x := by simpa using List.find?_some hz
  subst hx
  have hm : z ∈ [((0 : Nat), (1 : Int)), ((1 : Nat), (2 : Int)), ((2 : Nat), (3 : Int))] := List.mem_of_find?_eq_some hz
  simp only [List.mem_cons, List.not_mem_nil, or_false] at hm
  rcases hm with rfl | rfl | rfl
  · exact xh_161_0
  · exact xh_161_1
  · exact xh_161_2
set_option maxRecDepth 100000 in
theorem xh_162_0 : xk_Oh xp_F (xp_P sc) xp_BW xp_NW xp_exn 162 4 0 1 := ⟨[], [(0, 9, 15, 15), (0, 9, 18, 17)], 0, 9, 12, 13, "java/lang/IllegalStateException", 3, 1, rfl, by decide +kernel, by decide +kernel, by decide, (xw_t 111 rfl rfl), xw_n 124 rfl rfl, (fun _ h => absurd h List.not_mem_nil), Or.inr ⟨3, rfl, xd_162_12, rfl⟩, Nat.le_of_ble_eq_true rfl, xd_162_13, xd_162_14, rfl⟩
set_option maxRecDepth 100000 in
theorem xh_162_1 : xk_Oh xp_F (xp_P sc) xp_BW xp_NW xp_exn 162 4 1 2 := ⟨[(0, 9, 12, 13)], [(0, 9, 18, 17)], 0, 9, 15, 15, "java/lang/IllegalArgumentException", 3, 1, rfl, by decide +kernel, by decide +kernel, by decide, (xw_t 112 rfl rfl), xw_n 200 rfl rfl, (List.forall_mem_cons.mpr ⟨⟨by decide, "java/lang/IllegalStateException", (xw_t 111 rfl rfl), xw_c 0 rfl⟩, fun _ h => absurd h List.not_mem_nil⟩), Or.inr ⟨3, rfl, xd_162_15, rfl⟩, Nat.le_of_ble_eq_true rfl, xd_162_16, xd_162_17, rfl⟩
set_option maxRecDepth 100000 in
theorem xh_162_2 : xk_Oh xp_F (xp_P sc) xp_BW xp_NW xp_exn 162 4 2 3 := ⟨[(0, 9, 12, 13), (0, 9, 15, 15)], [], 0, 9, 18, 17, "java/lang/UnsupportedOperationException", 3, 1, rfl, by decide +kernel, by decide +kernel, by decide, (xw_t 113 rfl rfl), xw_n 229 rfl rfl, (List.forall_mem_cons.mpr ⟨⟨by decide, "java/lang/IllegalStateException", (xw_t 111 rfl rfl), xw_c 1 rfl⟩, List.forall_mem_cons.mpr ⟨⟨by decide, "java/lang/IllegalArgumentException", (xw_t 112 rfl rfl), xw_c 5 rfl⟩, fun _ h => absurd h List.not_mem_nil⟩⟩), Or.inr ⟨3, rfl, xd_162_18, rfl⟩, Nat.le_of_ble_eq_true rfl, xd_162_19, xd_162_20, rfl⟩
theorem xi_162 : (List.range 19).all (fun i => match xc_162[i]? with
  | some (.invokeinterface _ _) => decide (i = 4)
  | _ => true) = true := by decide +kernel
theorem xj_162 : ∀ (i j na x : Nat) (z : Nat × Int), (xp_P sc 162).1[i]? = some (.invokeinterface j na) → (xp_P sc 162).2.2.2.1.find? (fun q => q.1 == x) = some z → xk_Oh xp_F (xp_P sc) xp_BW xp_NW xp_exn 162 i x z.2 := by
  intro i j na x z h hz
  have h : xc_162[i]? = some (.invokeinterface j na) := h
  have hi : i < 19 := (List.getElem?_eq_some_iff.mp h).1
  have h1 := List.all_eq_true.mp xi_162 i (List.mem_range.mpr hi)
  rw [h] at h1
  have e1 : i = 4 := of_decide_eq_true h1
  subst e1
  have hx : z.1 = x := by simpa using List.find?_some hz
  subst hx
  have hm : z ∈ [((0 : Nat), (1 : Int)), ((1 : Nat), (2 : Int)), ((2 : Nat), (3 : Int))] := List.mem_of_find?_eq_some hz
  simp only [List.mem_cons, List.not_mem_nil, or_false] at hm
  rcases hm with rfl | rfl | rfl
  · exact xh_162_0
  · exact xh_162_1
  · exact xh_162_2
set_option maxRecDepth 100000 in
theorem xh_163_0 : xk_Oh xp_F (xp_P sc) xp_BW xp_NW xp_exn 163 6 0 1 := ⟨[], [(0, 12, 19, 15), (0, 12, 23, 17)], 0, 12, 15, 13, "java/lang/IllegalStateException", 5, 2, rfl, by decide +kernel, by decide +kernel, by decide, (xw_t 111 rfl rfl), xw_n 124 rfl rfl, (fun _ h => absurd h List.not_mem_nil), Or.inl ⟨xd_163_15, rfl⟩, Nat.le_of_ble_eq_true rfl, xd_163_17, xd_163_18, rfl⟩
set_option maxRecDepth 100000 in
theorem xh_163_1 : xk_Oh xp_F (xp_P sc) xp_BW xp_NW xp_exn 163 6 1 2 := ⟨[(0, 12, 15, 13)], [(0, 12, 23, 17)], 0, 12, 19, 15, "java/lang/IllegalArgumentException", 5, 2, rfl, by decide +kernel, by decide +kernel, by decide, (xw_t 112 rfl rfl), xw_n 200 rfl rfl, (List.forall_mem_cons.mpr ⟨⟨by decide, "java/lang/IllegalStateException", (xw_t 111 rfl rfl), xw_c 0 rfl⟩, fun _ h => absurd h List.not_mem_nil⟩), Or.inl ⟨xd_163_19, rfl⟩, Nat.le_of_ble_eq_true rfl, xd_163_21, xd_163_22, rfl⟩
set_option maxRecDepth 100000 in
theorem xh_163_2 : xk_Oh xp_F (xp_P sc) xp_BW xp_NW xp_exn 163 6 2 3 := ⟨[(0, 12, 15, 13), (0, 12, 19, 15)], [], 0, 12, 23, 17, "java/lang/UnsupportedOperationException", 5, 2, rfl, by decide +kernel, by decide +kernel, by decide, (xw_t 113 rfl rfl), xw_n 229 rfl rfl, (List.forall_mem_cons.mpr ⟨⟨by decide, "java/lang/IllegalStateException", (xw_t 111 rfl rfl), xw_c 1 rfl⟩, List.forall_mem_cons.mpr ⟨⟨by decide, "java/lang/IllegalArgumentException", (xw_t 112 rfl rfl), xw_c 5 rfl⟩, fun _ h => absurd h List.not_mem_nil⟩⟩), Or.inl ⟨xd_163_23, rfl⟩, Nat.le_of_ble_eq_true rfl, xd_163_25, xd_163_26, rfl⟩
theorem xi_163 : (List.range 21).all (fun i => match xc_163[i]? with
  | some (.invokeinterface _ _) => decide (i = 6)
  | _ => true) = true := by decide +kernel
theorem xj_163 : ∀ (i j na x : Nat) (z : Nat × Int), (xp_P sc 163).1[i]? = some (.invokeinterface j na) → (xp_P sc 163).2.2.2.1.find? (fun q => q.1 == x) = some z → xk_Oh xp_F (xp_P sc) xp_BW xp_NW xp_exn 163 i x z.2 := by
  intro i j na x z h hz
  have h : xc_163[i]? = some (.invokeinterface j na) := h
  have hi : i < 21 := (List.getElem?_eq_some_iff.mp h).1
  have h1 := List.all_eq_true.mp xi_163 i (List.mem_range.mpr hi)
  rw [h] at h1
  have e1 : i = 6 := of_decide_eq_true h1
  subst e1
  have hx : z.1 = x := by simpa using List.find?_some hz
  subst hx
  have hm : z ∈ [((0 : Nat), (1 : Int)), ((1 : Nat), (2 : Int)), ((2 : Nat), (3 : Int))] := List.mem_of_find?_eq_some hz
  simp only [List.mem_cons, List.not_mem_nil, or_false] at hm
  rcases hm with rfl | rfl | rfl
  · exact xh_163_0
  · exact xh_163_1
  · exact xh_163_2
set_option maxRecDepth 100000 in
theorem xh_164_0 : xk_Oh xp_F (xp_P sc) xp_BW xp_NW xp_exn 164 5 0 1 := ⟨[], [(0, 10, 17, 35), (0, 10, 21, 15), (0, 10, 25, 17)], 0, 10, 13, 13, "java/lang/IllegalStateException", 4, 2, rfl, by decide +kernel, by decide +kernel, by decide, (xw_t 111 rfl rfl), xw_n 124 rfl rfl, (fun _ h => absurd h List.not_mem_nil), Or.inl ⟨xd_164_13, rfl⟩, Nat.le_of_ble_eq_true rfl, xd_164_15, xd_164_16, rfl⟩
set_option maxRecDepth 100000 in
theorem xh_164_1 : xk_Oh xp_F (xp_P sc) xp_BW xp_NW xp_exn 164 5 3 2 := ⟨[(0, 10, 13, 13)], [(0, 10, 21, 15), (0, 10, 25, 17)], 0, 10, 17, 35, "java/util/NoSuchElementException", 4, 2, rfl, by decide +kernel, by decide +kernel, by decide, (xw_t 473 rfl rfl), xw_n 485 rfl rfl, (List.forall_mem_cons.mpr ⟨⟨by decide, "java/lang/IllegalStateException", (xw_t 111 rfl rfl), xw_c 2 rfl⟩, fun _ h => absurd h List.not_mem_nil⟩), Or.inl ⟨xd_164_17, rfl⟩, Nat.le_of_ble_eq_true rfl, xd_164_19, xd_164_20, rfl⟩
set_option maxRecDepth 100000 in
theorem xh_164_2 : xk_Oh xp_F (xp_P sc) xp_BW xp_NW xp_exn 164 5 1 3 := ⟨[(0, 10, 13, 13), (0, 10, 17, 35)], [(0, 10, 25, 17)], 0, 10, 21, 15, "java/lang/IllegalArgumentException", 4, 2, rfl, by decide +kernel, by decide +kernel, by decide, (xw_t 112 rfl rfl), xw_n 200 rfl rfl, (List.forall_mem_cons.mpr ⟨⟨by decide, "java/lang/IllegalStateException", (xw_t 111 rfl rfl), xw_c 0 rfl⟩, List.forall_mem_cons.mpr ⟨⟨by decide, "java/util/NoSuchElementException", (xw_t 473 rfl rfl), xw_c 13 rfl⟩, fun _ h => absurd h List.not_mem_nil⟩⟩), Or.inl ⟨xd_164_21, rfl⟩, Nat.le_of_ble_eq_true rfl, xd_164_23, xd_164_24, rfl⟩
set_option maxRecDepth 100000 in
theorem xh_164_3 : xk_Oh xp_F (xp_P sc) xp_BW xp_NW xp_exn 164 5 2 4 := ⟨[(0, 10, 13, 13), (0, 10, 17, 35), (0, 10, 21, 15)], [], 0, 10, 25, 17, "java/lang/UnsupportedOperationException", 4, 2, rfl, by decide +kernel, by decide +kernel, by decide, (xw_t 113 rfl rfl), xw_n 229 rfl rfl, (List.forall_mem_cons.mpr ⟨⟨by decide, "java/lang/IllegalStateException", (xw_t 111 rfl rfl), xw_c 1 rfl⟩, List.forall_mem_cons.mpr ⟨⟨by decide, "java/util/NoSuchElementException", (xw_t 473 rfl rfl), xw_c 14 rfl⟩, List.forall_mem_cons.mpr ⟨⟨by decide, "java/lang/IllegalArgumentException", (xw_t 112 rfl rfl), xw_c 5 rfl⟩, fun _ h => absurd h List.not_mem_nil⟩⟩⟩), Or.inl ⟨xd_164_25, rfl⟩, Nat.le_of_ble_eq_true rfl, xd_164_27, xd_164_28, rfl⟩
theorem xi_164 : (List.range 23).all (fun i => match xc_164[i]? with
  | some (.invokeinterface _ _) => decide (i = 5)
  | _ => true) = true := by decide +kernel
theorem xj_164 : ∀ (i j na x : Nat) (z : Nat × Int), (xp_P sc 164).1[i]? = some (.invokeinterface j na) → (xp_P sc 164).2.2.2.1.find? (fun q => q.1 == x) = some z → xk_Oh xp_F (xp_P sc) xp_BW xp_NW xp_exn 164 i x z.2 := by
  intro i j na x z h hz
  have h : xc_164[i]? = some (.invokeinterface j na) := h
  have hi : i < 23 := (List.getElem?_eq_some_iff.mp h).1
  have h1 := List.all_eq_true.mp xi_164 i (List.mem_range.mpr hi)
  rw [h] at h1
  have e1 : i = 5 := of_decide_eq_true h1
  subst e1
  have hx : z.1 = x := by simpa using List.find?_some hz
  subst hx
  have hm : z ∈ [((0 : Nat), (1 : Int)), ((3 : Nat), (2 : Int)), ((1 : Nat), (3 : Int)), ((2 : Nat), (4 : Int))] := List.mem_of_find?_eq_some hz
  simp only [List.mem_cons, List.not_mem_nil, or_false] at hm
  rcases hm with rfl | rfl | rfl | rfl
  · exact xh_164_0
  · exact xh_164_1
  · exact xh_164_2
  · exact xh_164_3
set_option maxRecDepth 100000 in
theorem xh_165_0 : xk_Oh xp_F (xp_P sc) xp_BW xp_NW xp_exn 165 5 0 1 := ⟨[], [(0, 10, 17, 35), (0, 10, 21, 15), (0, 10, 25, 17)], 0, 10, 13, 13, "java/lang/IllegalStateException", 4, 2, rfl, by decide +kernel, by decide +kernel, by decide, (xw_t 111 rfl rfl), xw_n 124 rfl rfl, (fun _ h => absurd h List.not_mem_nil), Or.inl ⟨xd_165_13, rfl⟩, Nat.le_of_ble_eq_true rfl, xd_165_15, xd_165_16, rfl⟩
set_option maxRecDepth 100000 in
theorem xh_165_1 : xk_Oh xp_F (xp_P sc) xp_BW xp_NW xp_exn 165 5 3 2 := ⟨[(0, 10, 13, 13)], [(0, 10, 21, 15), (0, 10, 25, 17)], 0, 10, 17, 35, "java/util/NoSuchElementException", 4, 2, rfl, by decide +kernel, by decide +kernel, by decide, (xw_t 473 rfl rfl), xw_n 485 rfl rfl, (List.forall_mem_cons.mpr ⟨⟨by decide, "java/lang/IllegalStateException", (xw_t 111 rfl rfl), xw_c 2 rfl⟩, fun _ h => absurd h List.not_mem_nil⟩), Or.inl ⟨xd_165_17, rfl⟩, Nat.le_of_ble_eq_true rfl, xd_165_19, xd_165_20, rfl⟩
set_option maxRecDepth 100000 in
theorem xh_165_2 : xk_Oh xp_F (xp_P sc) xp_BW xp_NW xp_exn 165 5 1 3 := ⟨[(0, 10, 13, 13), (0, 10, 17, 35)], [(0, 10, 25, 17)], 0, 10, 21, 15, "java/lang/IllegalArgumentException", 4, 2, rfl, by decide +kernel, by decide +kernel, by decide, (xw_t 112 rfl rfl), xw_n 200 rfl rfl, (List.forall_mem_cons.mpr ⟨⟨by decide, "java/lang/IllegalStateException", (xw_t 111 rfl rfl), xw_c 0 rfl⟩, List.forall_mem_cons.mpr ⟨⟨by decide, "java/util/NoSuchElementException", (xw_t 473 rfl rfl), xw_c 13 rfl⟩, fun _ h => absurd h List.not_mem_nil⟩⟩), Or.inl ⟨xd_165_21, rfl⟩, Nat.le_of_ble_eq_true rfl, xd_165_23, xd_165_24, rfl⟩
set_option maxRecDepth 100000 in
theorem xh_165_3 : xk_Oh xp_F (xp_P sc) xp_BW xp_NW xp_exn 165 5 2 4 := ⟨[(0, 10, 13, 13), (0, 10, 17, 35), (0, 10, 21, 15)], [], 0, 10, 25, 17, "java/lang/UnsupportedOperationException", 4, 2, rfl, by decide +kernel, by decide +kernel, by decide, (xw_t 113 rfl rfl), xw_n 229 rfl rfl, (List.forall_mem_cons.mpr ⟨⟨by decide, "java/lang/IllegalStateException", (xw_t 111 rfl rfl), xw_c 1 rfl⟩, List.forall_mem_cons.mpr ⟨⟨by decide, "java/util/NoSuchElementException", (xw_t 473 rfl rfl), xw_c 14 rfl⟩, List.forall_mem_cons.mpr ⟨⟨by decide, "java/lang/IllegalArgumentException", (xw_t 112 rfl rfl), xw_c 5 rfl⟩, fun _ h => absurd h List.not_mem_nil⟩⟩⟩), Or.inl ⟨xd_165_25, rfl⟩, Nat.le_of_ble_eq_true rfl, xd_165_27, xd_165_28, rfl⟩
theorem xi_165 : (List.range 23).all (fun i => match xc_165[i]? with
  | some (.invokeinterface _ _) => decide (i = 5)
  | _ => true) = true := by decide +kernel
theorem xj_165 : ∀ (i j na x : Nat) (z : Nat × Int), (xp_P sc 165).1[i]? = some (.invokeinterface j na) → (xp_P sc 165).2.2.2.1.find? (fun q => q.1 == x) = some z → xk_Oh xp_F (xp_P sc) xp_BW xp_NW xp_exn 165 i x z.2 := by
  intro i j na x z h hz
  have h : xc_165[i]? = some (.invokeinterface j na) := h
  have hi : i < 23 := (List.getElem?_eq_some_iff.mp h).1
  have h1 := List.all_eq_true.mp xi_165 i (List.mem_range.mpr hi)
  rw [h] at h1
  have e1 : i = 5 := of_decide_eq_true h1
  subst e1
  have hx : z.1 = x := by simpa using List.find?_some hz
  subst hx
  have hm : z ∈ [((0 : Nat), (1 : Int)), ((3 : Nat), (2 : Int)), ((1 : Nat), (3 : Int)), ((2 : Nat), (4 : Int))] := List.mem_of_find?_eq_some hz
  simp only [List.mem_cons, List.not_mem_nil, or_false] at hm
  rcases hm with rfl | rfl | rfl | rfl
  · exact xh_165_0
  · exact xh_165_1
  · exact xh_165_2
  · exact xh_165_3
set_option maxRecDepth 100000 in
theorem xh_166_0 : xk_Oh xp_F (xp_P sc) xp_BW xp_NW xp_exn 166 2 0 1 := ⟨[], [(0, 5, 11, 35), (0, 5, 14, 17)], 0, 5, 8, 13, "java/lang/IllegalStateException", 2, 1, rfl, by decide +kernel, by decide +kernel, by decide, (xw_t 111 rfl rfl), xw_n 124 rfl rfl, (fun _ h => absurd h List.not_mem_nil), Or.inr ⟨2, rfl, xd_166_8, rfl⟩, Nat.le_of_ble_eq_true rfl, xd_166_9, xd_166_10, rfl⟩
set_option maxRecDepth 100000 in
theorem xh_166_1 : xk_Oh xp_F (xp_P sc) xp_BW xp_NW xp_exn 166 2 3 2 := ⟨[(0, 5, 8, 13)], [(0, 5, 14, 17)], 0, 5, 11, 35, "java/util/NoSuchElementException", 2, 1, rfl, by decide +kernel, by decide +kernel, by decide, (xw_t 473 rfl rfl), xw_n 485 rfl rfl, (List.forall_mem_cons.mpr ⟨⟨by decide, "java/lang/IllegalStateException", (xw_t 111 rfl rfl), xw_c 2 rfl⟩, fun _ h => absurd h List.not_mem_nil⟩), Or.inr ⟨2, rfl, xd_166_11, rfl⟩, Nat.le_of_ble_eq_true rfl, xd_166_12, xd_166_13, rfl⟩
set_option maxRecDepth 100000 in
theorem xh_166_2 : xk_Oh xp_F (xp_P sc) xp_BW xp_NW xp_exn 166 2 2 3 := ⟨[(0, 5, 8, 13), (0, 5, 11, 35)], [], 0, 5, 14, 17, "java/lang/UnsupportedOperationException", 2, 1, rfl, by decide +kernel, by decide +kernel, by decide, (xw_t 113 rfl rfl), xw_n 229 rfl rfl, (List.forall_mem_cons.mpr ⟨⟨by decide, "java/lang/IllegalStateException", (xw_t 111 rfl rfl), xw_c 1 rfl⟩, List.forall_mem_cons.mpr ⟨⟨by decide, "java/util/NoSuchElementException", (xw_t 473 rfl rfl), xw_c 14 rfl⟩, fun _ h => absurd h List.not_mem_nil⟩⟩), Or.inr ⟨2, rfl, xd_166_14, rfl⟩, Nat.le_of_ble_eq_true rfl, xd_166_15, xd_166_16, rfl⟩
theorem xi_166 : (List.range 15).all (fun i => match xc_166[i]? with
  | some (.invokeinterface _ _) => decide (i = 2)
  | _ => true) = true := by decide +kernel
theorem xj_166 : ∀ (i j na x : Nat) (z : Nat × Int), (xp_P sc 166).1[i]? = some (.invokeinterface j na) → (xp_P sc 166).2.2.2.1.find? (fun q => q.1 == x) = some z → xk_Oh xp_F (xp_P sc) xp_BW xp_NW xp_exn 166 i x z.2 := by
  intro i j na x z h hz
  have h : xc_166[i]? = some (.invokeinterface j na) := h
  have hi : i < 15 := (List.getElem?_eq_some_iff.mp h).1
  have h1 := List.all_eq_true.mp xi_166 i (List.mem_range.mpr hi)
  rw [h] at h1
  have e1 : i = 2 := of_decide_eq_true h1
  subst e1
  have hx : z.1 = x := by simpa using List.find?_some hz
  subst hx
  have hm : z ∈ [((0 : Nat), (1 : Int)), ((3 : Nat), (2 : Int)), ((2 : Nat), (3 : Int))] := List.mem_of_find?_eq_some hz
  simp only [List.mem_cons, List.not_mem_nil, or_false] at hm
  rcases hm with rfl | rfl | rfl
  · exact xh_166_0
  · exact xh_166_1
  · exact xh_166_2
set_option maxRecDepth 100000 in
theorem xh_167_0 : xk_Oh xp_F (xp_P sc) xp_BW xp_NW xp_exn 167 4 0 1 := ⟨[], [(0, 9, 15, 35), (0, 9, 18, 15), (0, 9, 21, 17)], 0, 9, 12, 13, "java/lang/IllegalStateException", 3, 1, rfl, by decide +kernel, by decide +kernel, by decide, (xw_t 111 rfl rfl), xw_n 124 rfl rfl, (fun _ h => absurd h List.not_mem_nil), Or.inr ⟨3, rfl, xd_167_12, rfl⟩, Nat.le_of_ble_eq_true rfl, xd_167_13, xd_167_14, rfl⟩
set_option maxRecDepth 100000 in
theorem xh_167_1 : xk_Oh xp_F (xp_P sc) xp_BW xp_NW xp_exn 167 4 3 2 := ⟨[(0, 9, 12, 13)], [(0, 9, 18, 15), (0, 9, 21, 17)], 0, 9, 15, 35, "java/util/NoSuchElementException", 3, 1, rfl, by decide +kernel, by decide +kernel, by decide, (xw_t 473 rfl rfl), xw_n 485 rfl rfl, (List.forall_mem_cons.mpr ⟨⟨by decide, "java/lang/IllegalStateException", (xw_t 111 rfl rfl), xw_c 2 rfl⟩, fun _ h => absurd h List.not_mem_nil⟩), Or.inr ⟨3, rfl, xd_167_15, rfl⟩, Nat.le_of_ble_eq_true rfl, xd_167_16, xd_167_17, rfl⟩
set_option maxRecDepth 100000 in
theorem xh_167_2 : xk_Oh xp_F (xp_P sc) xp_BW xp_NW xp_exn 167 4 1 3 := ⟨[(0, 9, 12, 13), (0, 9, 15, 35)], [(0, 9, 21, 17)], 0, 9, 18, 15, "java/lang/IllegalArgumentException", 3, 1, rfl, by decide +kernel, by decide +kernel, by decide, (xw_t 112 rfl rfl), xw_n 200 rfl rfl, (List.forall_mem_cons.mpr ⟨⟨by decide, "java/lang/IllegalStateException", (xw_t 111 rfl rfl), xw_c 0 rfl⟩, List.forall_mem_cons.mpr ⟨⟨by decide, "java/util/NoSuchElementException", (xw_t 473 rfl rfl), xw_c 13 rfl⟩, fun _ h => absurd h List.not_mem_nil⟩⟩), Or.inr ⟨3, rfl, xd_167_18, rfl⟩, Nat.le_of_ble_eq_true rfl, xd_167_19, xd_167_20, rfl⟩
set_option maxRecDepth 100000 in
theorem xh_167_3 : xk_Oh xp_F (xp_P sc) xp_BW xp_NW xp_exn 167 4 2 4 := ⟨[(0, 9, 12, 13), (0, 9, 15, 35), (0, 9, 18, 15)], [], 0, 9, 21, 17, "java/lang/UnsupportedOperationException", 3, 1, rfl, by decide +kernel, by decide +kernel, by decide, (xw_t 113 rfl rfl), xw_n 229 rfl rfl, (List.forall_mem_cons.mpr ⟨⟨by decide, "java/lang/IllegalStateException", (xw_t 111 rfl rfl), xw_c 1 rfl⟩, List.forall_mem_cons.mpr ⟨⟨by decide, "java/util/NoSuchElementException", (xw_t 473 rfl rfl), xw_c 14 rfl⟩, List.forall_mem_cons.mpr ⟨⟨by decide, "java/lang/IllegalArgumentException", (xw_t 112 rfl rfl), xw_c 5 rfl⟩, fun _ h => absurd h List.not_mem_nil⟩⟩⟩), Or.inr ⟨3, rfl, xd_167_21, rfl⟩, Nat.le_of_ble_eq_true rfl, xd_167_22, xd_167_23, rfl⟩
theorem xi_167 : (List.range 22).all (fun i => match xc_167[i]? with
  | some (.invokeinterface _ _) => decide (i = 4)
  | _ => true) = true := by decide +kernel
theorem xj_167 : ∀ (i j na x : Nat) (z : Nat × Int), (xp_P sc 167).1[i]? = some (.invokeinterface j na) → (xp_P sc 167).2.2.2.1.find? (fun q => q.1 == x) = some z → xk_Oh xp_F (xp_P sc) xp_BW xp_NW xp_exn 167 i x z.2 := by
  intro i j na x z h hz
  have h : xc_167[i]? = some (.invokeinterface j na) := h
  have hi : i < 22 := (List.getElem?_eq_some_iff.mp h).1
  have h1 := List.all_eq_true.mp xi_167 i (List.mem_range.mpr hi)
  rw [h] at h1
  have e1 : i = 4 := of_decide_eq_true h1
  subst e1
  have hx : z.1 = x := by simpa using List.find?_some hz
  subst hx
  have hm : z ∈ [((0 : Nat), (1 : Int)), ((3 : Nat), (2 : Int)), ((1 : Nat), (3 : Int)), ((2 : Nat), (4 : Int))] := List.mem_of_find?_eq_some hz
  simp only [List.mem_cons, List.not_mem_nil, or_false] at hm
  rcases hm with rfl | rfl | rfl | rfl
  · exact xh_167_0
  · exact xh_167_1
  · exact xh_167_2
  · exact xh_167_3
set_option maxRecDepth 100000 in
theorem xh_168_0 : xk_Oh xp_F (xp_P sc) xp_BW xp_NW xp_exn 168 6 0 1 := ⟨[], [(0, 12, 19, 35), (0, 12, 23, 49), (0, 12, 27, 17)], 0, 12, 15, 13, "java/lang/IllegalStateException", 5, 2, rfl, by decide +kernel, by decide +kernel, by decide, (xw_t 111 rfl rfl), xw_n 124 rfl rfl, (fun _ h => absurd h List.not_mem_nil), Or.inl ⟨xd_168_15, rfl⟩, Nat.le_of_ble_eq_true rfl, xd_168_17, xd_168_18, rfl⟩
set_option maxRecDepth 100000 in
theorem xh_168_1 : xk_Oh xp_F (xp_P sc) xp_BW xp_NW xp_exn 168 6 3 2 := ⟨[(0, 12, 15, 13)], [(0, 12, 23, 49), (0, 12, 27, 17)], 0, 12, 19, 35, "java/util/NoSuchElementException", 5, 2, rfl, by decide +kernel, by decide +kernel, by decide, (xw_t 473 rfl rfl), xw_n 485 rfl rfl, (List.forall_mem_cons.mpr ⟨⟨by decide, "java/lang/IllegalStateException", (xw_t 111 rfl rfl), xw_c 2 rfl⟩, fun _ h => absurd h List.not_mem_nil⟩), Or.inl ⟨xd_168_19, rfl⟩, Nat.le_of_ble_eq_true rfl, xd_168_21, xd_168_22, rfl⟩
set_option maxRecDepth 100000 in
theorem xh_168_2 : xk_Oh xp_F (xp_P sc) xp_BW xp_NW xp_exn 168 6 4 3 := ⟨[(0, 12, 15, 13), (0, 12, 19, 35)], [(0, 12, 27, 17)], 0, 12, 23, 49, "java/lang/IndexOutOfBoundsException", 5, 2, rfl, by decide +kernel, by decide +kernel, by decide, (xw_t 554 rfl rfl), xw_n 569 rfl rfl, (List.forall_mem_cons.mpr ⟨⟨by decide, "java/lang/IllegalStateException", (xw_t 111 rfl rfl), xw_c 3 rfl⟩, List.forall_mem_cons.mpr ⟨⟨by decide, "java/util/NoSuchElementException", (xw_t 473 rfl rfl), xw_c 15 rfl⟩, fun _ h => absurd h List.not_mem_nil⟩⟩), Or.inl ⟨xd_168_23, rfl⟩, Nat.le_of_ble_eq_true rfl, xd_168_25, xd_168_26, rfl⟩
set_option maxRecDepth 100000 in
theorem xh_168_3 : xk_Oh xp_F (xp_P sc) xp_BW xp_NW xp_exn 168 6 2 4 := ⟨[(0, 12, 15, 13), (0, 12, 19, 35), (0, 12, 23, 49)], [], 0, 12, 27, 17, "java/lang/UnsupportedOperationException", 5, 2, rfl, by decide +kernel, by decide +kernel, by decide, (xw_t 113 rfl rfl), xw_n 229 rfl rfl, (List.forall_mem_cons.mpr ⟨⟨by decide, "java/lang/IllegalStateException", (xw_t 111 rfl rfl), xw_c 1 rfl⟩, List.forall_mem_cons.mpr ⟨⟨by decide, "java/util/NoSuchElementException", (xw_t 473 rfl rfl), xw_c 14 rfl⟩, List.forall_mem_cons.mpr ⟨⟨by decide, "java/lang/IndexOutOfBoundsException", (xw_t 554 rfl rfl), xw_c 18 rfl⟩, fun _ h => absurd h List.not_mem_nil⟩⟩⟩), Or.inl ⟨xd_168_27, rfl⟩, Nat.le_of_ble_eq_true rfl, xd_168_29, xd_168_30, rfl⟩
theorem xi_168 : (List.range 24).all (fun i => match xc_168[i]? with
  | some (.invokeinterface _ _) => decide (i = 6)
  | _ => true) = true := by decide +kernel
theorem xj_168 : ∀ (i j na x : Nat) (z : Nat × Int), (xp_P sc 168).1[i]? = some (.invokeinterface j na) → (xp_P sc 168).2.2.2.1.find? (fun q => q.1 == x) = some z → xk_Oh xp_F (xp_P sc) xp_BW xp_NW xp_exn 168 i x z.2 := by
  intro i j na x z h hz
  have h : xc_168[i]? = some (.invokeinterface j na) := h
  have hi : i < 24 := (List.getElem?_eq_some_iff.mp h).1
  have h1 := List.all_eq_true.mp xi_168 i (List.mem_range.mpr hi)
  rw [h] at h1
  have e1 : i = 6 := of_decide_eq_true h1
  subst e1
  have hx : z.1 = x := by simpa using List.find?_some hz
  subst hx
  have hm : z ∈ [((0 : Nat), (1 : Int)), ((3 : Nat), (2 : Int)), ((4 : Nat), (3 : Int)), ((2 : Nat), (4 : Int))] := List.mem_of_find?_eq_some hz
  simp only [List.mem_cons, List.not_mem_nil, or_false] at hm
  rcases hm with rfl | rfl | rfl | rfl
  · exact xh_168_0
  · exact xh_168_1
  · exact xh_168_2
  · exact xh_168_3
set_option maxRecDepth 100000 in
theorem xh_169_0 : xk_Oh xp_F (xp_P sc) xp_BW xp_NW xp_exn 169 5 0 1 := ⟨[], [(0, 10, 17, 35), (0, 10, 21, 49), (0, 10, 25, 17)], 0, 10, 13, 13, "java/lang/IllegalStateException", 4, 2, rfl, by decide +kernel, by decide +kernel, by decide, (xw_t 111 rfl rfl), xw_n 124 rfl rfl, (fun _ h => absurd h List.not_mem_nil), Or.inl ⟨xd_169_13, rfl⟩, Nat.le_of_ble_eq_true rfl, xd_169_15, xd_169_16, rfl⟩
set_option maxRecDepth 100000 in
theorem xh_169_1 : xk_Oh xp_F (xp_P sc) xp_BW xp_NW xp_exn 169 5 3 2 := ⟨[(0, 10, 13, 13)], [(0, 10, 21, 49), (0, 10, 25, 17)], 0, 10, 17, 35, "java/util/NoSuchElementException", 4, 2, rfl, by decide +kernel, by decide +kernel, by decide, (xw_t 473 rfl rfl), xw_n 485 rfl rfl, (List.forall_mem_cons.mpr ⟨⟨by decide, "java/lang/IllegalStateException", (xw_t 111 rfl rfl), xw_c 2 rfl⟩, fun _ h => absurd h List.not_mem_nil⟩), Or.inl ⟨xd_169_17, rfl⟩, Nat.le_of_ble_eq_true rfl, xd_169_19, xd_169_20, rfl⟩
set_option maxRecDepth 100000 in
theorem xh_169_2 : xk_Oh xp_F (xp_P sc) xp_BW xp_NW xp_exn 169 5 4 3 := ⟨[(0, 10, 13, 13), (0, 10, 17, 35)], [(0, 10, 25, 17)], 0, 10, 21, 49, "java/lang/IndexOutOfBoundsException", 4, 2, rfl, by decide +kernel, by decide +kernel, by decide, (xw_t 554 rfl rfl), xw_n 569 rfl rfl, (List.forall_mem_cons.mpr ⟨⟨by decide, "java/lang/IllegalStateException", (xw_t 111 rfl rfl), xw_c 3 rfl⟩, List.forall_mem_cons.mpr ⟨⟨by decide, "java/util/NoSuchElementException", (xw_t 473 rfl rfl), xw_c 15 rfl⟩, fun _ h => absurd h List.not_mem_nil⟩⟩), Or.inl ⟨xd_169_21, rfl⟩, Nat.le_of_ble_eq_true rfl, xd_169_23, xd_169_24, rfl⟩
set_option maxRecDepth 100000 in
theorem xh_169_3 : xk_Oh xp_F (xp_P sc) xp_BW xp_NW xp_exn 169 5 2 4 := ⟨[(0, 10, 13, 13), (0, 10, 17, 35), (0, 10, 21, 49)], [], 0, 10, 25, 17, "java/lang/UnsupportedOperationException", 4, 2, rfl, by decide +kernel, by decide +kernel, by decide, (xw_t 113 rfl rfl), xw_n 229 rfl rfl, (List.forall_mem_cons.mpr ⟨⟨by decide, "java/lang/IllegalStateException", (xw_t 111 rfl rfl), xw_c 1 rfl⟩, List.forall_mem_cons.mpr ⟨⟨by decide, "java/util/NoSuchElementException", (xw_t 473 rfl rfl), xw_c 14 rfl⟩, List.forall_mem_cons.mpr ⟨⟨by decide, "java/lang/IndexOutOfBoundsException", (xw_t 554 rfl rfl), xw_c 18 rfl⟩, fun _ h => absurd h List.not_mem_nil⟩⟩⟩), Or.inl ⟨xd_169_25, rfl⟩, Nat.le_of_ble_eq_true rfl, xd_169_27, xd_169_28, rfl⟩
theorem xi_169 : (List.range 23).all (fun i => match xc_169[i]? with
  | some (.invokeinterface _ _) => decide (i = 5)
  | _ => true) = true := by decide +kernel
theorem xj_169 : ∀ (i j na x : Nat) (z : Nat × Int), (xp_P sc 169).1[i]? = some (.invokeinterface j na) → (xp_P sc 169).2.2.2.1.find? (fun q => q.1 == x) = some z → xk_Oh xp_F (xp_P sc) xp_BW xp_NW xp_exn 169 i x z.2 := by
  intro i j na x z h hz
  have h : xc_169[i]? = some (.invokeinterface j na) := h
  have hi : i < 23 := (List.getElem?_eq_some_iff.mp h).1
  have h1 := List.all_eq_true.mp xi_169 i (List.mem_range.mpr hi)
  rw [h] at h1
  have e1 : i = 5 := of_decide_eq_true h1
  subst e1
  have hx : z.1 = x := by simpa using List.find?_some hz
  subst hx
  have hm : z ∈ [((0 : Nat), (1 : Int)), ((3 : Nat), (2 : Int)), ((4 : Nat), (3 : Int)), ((2 : Nat), (4 : Int))] := List.mem_of_find?_eq_some hz
  simp only [List.mem_cons, List.not_mem_nil, or_false] at hm
  rcases hm with rfl | rfl | rfl | rfl
  · exact xh_169_0
  · exact xh_169_1
  · exact xh_169_2
  · exact xh_169_3
set_option maxRecDepth 100000 in
theorem xh_170_0 : xk_Oh xp_F (xp_P sc) xp_BW xp_NW xp_exn 170 4 0 1 := ⟨[], [(0, 9, 15, 15), (0, 9, 18, 17)], 0, 9, 12, 13, "java/lang/IllegalStateException", 3, 1, rfl, by decide +kernel, by decide +kernel, by decide, (xw_t 111 rfl rfl), xw_n 124 rfl rfl, (fun _ h => absurd h List.not_mem_nil), Or.inr ⟨3, rfl, xd_170_12, rfl⟩, Nat.le_of_ble_eq_true rfl, xd_170_13, xd_170_14, rfl⟩
set_option maxRecDepth 100000 in
theorem xh_170_1 : xk_Oh xp_F (xp_P sc) xp_BW xp_NW xp_exn 170 4 1 2 := ⟨[(0, 9, 12, 13)], [(0, 9, 18, 17)], 0, 9, 15, 15, "java/lang/IllegalArgumentException", 3, 1, rfl, by decide +kernel, by decide +kernel, by decide, (xw_t 112 rfl rfl), xw_n 200 rfl rfl, (List.forall_mem_cons.mpr ⟨⟨by decide, "java/lang/IllegalStateException", (xw_t 111 rfl rfl), xw_c 0 rfl⟩, fun _ h => absurd h List.not_mem_nil⟩), Or.inr ⟨3, rfl, xd_170_15, rfl⟩, Nat.le_of_ble_eq_true rfl, xd_170_16, xd_170_17, rfl⟩
set_option maxRecDepth 100000 in
theorem xh_170_2 : xk_Oh xp_F (xp_P sc) xp_BW xp_NW xp_exn 170 4 2 3 := ⟨[(0, 9, 12, 13), (0, 9, 15, 15)], [], 0, 9, 18, 17, "java/lang/UnsupportedOperationException", 3, 1, rfl, by decide +kernel, by decide +kernel, by decide, (xw_t 113 rfl rfl), xw_n 229 rfl rfl, (List.forall_mem_cons.mpr ⟨⟨by decide, "java/lang/IllegalStateException", (xw_t 111 rfl rfl), xw_c 1 rfl⟩, List.forall_mem_cons.mpr ⟨⟨by decide, "java/lang/IllegalArgumentException", (xw_t 112 rfl rfl), xw_c 5 rfl⟩, fun _ h => absurd h List.not_mem_nil⟩⟩), Or.inr ⟨3, rfl, xd_170_18, rfl⟩, Nat.le_of_ble_eq_true rfl, xd_170_19, xd_170_20, rfl⟩
theorem xi_170 : (List.range 19).all (fun i => match xc_170[i]? with
  | some (.invokeinterface _ _) => decide (i = 4)
  | _ => true) = true := by decide +kernel
theorem xj_170 : ∀ (i j na x : Nat) (z : Nat × Int), (xp_P sc 170).1[i]? = some (.invokeinterface j na) → (xp_P sc 170).2.2.2.1.find? (fun q => q.1 == x) = some z → xk_Oh xp_F (xp_P sc) xp_BW xp_NW xp_exn 170 i x z.2 := by
  intro i j na x z h hz
  have h : xc_170[i]? = some (.invokeinterface j na) := h
  have hi : i < 19 := (List.getElem?_eq_some_iff.mp h).1
  have h1 := List.all_eq_true.mp xi_170 i (List.mem_range.mpr hi)
  rw [h] at h1
  have e1 : i = 4 := of_decide_eq_true h1
  subst e1
  have hx : z.1 = x := by simpa using List.find?_some hz
  subst hx
  have hm : z ∈ [((0 : Nat), (1 : Int)), ((1 : Nat), (2 : Int)), ((2 : Nat), (3 : Int))] := List.mem_of_find?_eq_some hz
  simp only [List.mem_cons, List.not_mem_nil, or_false] at hm
  rcases hm with rfl | rfl | rfl
  · exact xh_170_0
  · exact xh_170_1
  · exact xh_170_2
set_option maxRecDepth 100000 in
theorem xh_171_0 : xk_Oh xp_F (xp_P sc) xp_BW xp_NW xp_exn 171 3 0 1 := ⟨[], [(0, 8, 14, 17)], 0, 8, 11, 13, "java/lang/IllegalStateException", 2, 1, rfl, by decide +kernel, by decide +kernel, by decide, (xw_t 111 rfl rfl), xw_n 124 rfl rfl, (fun _ h => absurd h List.not_mem_nil), Or.inr ⟨2, rfl, xd_171_11, rfl⟩, Nat.le_of_ble_eq_true rfl, xd_171_12, xd_171_13, rfl⟩
set_option maxRecDepth 100000 in
theorem xh_171_1 : xk_Oh xp_F (xp_P sc) xp_BW xp_NW xp_exn 171 3 2 2 := ⟨[(0, 8, 11, 13)], [], 0, 8, 14, 17, "java/lang/UnsupportedOperationException", 2, 1, rfl, by decide +kernel, by decide +kernel, by decide, (xw_t 113 rfl rfl), xw_n 229 rfl rfl, (List.forall_mem_cons.mpr ⟨⟨by decide, "java/lang/IllegalStateException", (xw_t 111 rfl rfl), xw_c 1 rfl⟩, fun _ h => absurd h List.not_mem_nil⟩), Or.inr ⟨2, rfl, xd_171_14, rfl⟩, Nat.le_of_ble_eq_true rfl, xd_171_15, xd_171_16, rfl⟩
theorem xi_171 : (List.range 15).all (fun i => match xc_171[i]? with
  | some (.invokeinterface _ _) => decide (i = 3)
  | _ => true) = true := by decide +kernel
theorem xj_171 : ∀ (i j na x : Nat) (z : Nat × Int), (xp_P sc 171).1[i]? = some (.invokeinterface j na) → (xp_P sc 171).2.2.2.1.find? (fun q => q.1 == x) = some z → xk_Oh xp_F (xp_P sc) xp_BW xp_NW xp_exn 171 i x z.2 := by
  intro i j na x z h hz
  have h : xc_171[i]? = some (.invokeinterface j na) := h
  have hi : i < 15 := (List.getElem?_eq_some_iff.mp h).1
  have h1 := List.all_eq_true.mp xi_171 i (List.mem_range.mpr hi)
  rw [h] at h1
  have e1 : i = 3 := of_decide_eq_true h1
  subst e1
  have hx : z.1 = x := by simpa using List.find?_some hz
  subst hx
  have hm : z ∈ [((0 : Nat), (1 : Int)), ((2 : Nat), (2 : Int))] := List.mem_of_find?_eq_some hz
  simp only [List.mem_cons, List.not_mem_nil, or_false] at hm
  rcases hm with rfl | rfl
  · exact xh_171_0
  · exact xh_171_1
set_option maxRecDepth 100000 in
theorem xh_172_0 : xk_Oh xp_F (xp_P sc) xp_BW xp_NW xp_exn 172 5 0 1 := ⟨[], [(0, 10, 17, 35), (0, 10, 21, 15)], 0, 10, 13, 13, "java/lang/IllegalStateException", 4, 2, rfl, by decide +kernel, by decide +kernel, by decide, (xw_t 111 rfl rfl), xw_n 124 rfl rfl, (fun _ h => absurd h List.not_mem_nil), Or.inl ⟨xd_172_13, rfl⟩, Nat.le_of_ble_eq_true rfl, xd_172_15, xd_172_16, rfl⟩
set_option maxRecDepth 100000 in
theorem xh_172_1 : xk_Oh xp_F (xp_P sc) xp_BW xp_NW xp_exn 172 5 3 2 := ⟨[(0, 10, 13, 13)], [(0, 10, 21, 15)], 0, 10, 17, 35, "java/util/NoSuchElementException", 4, 2, rfl, by decide +kernel, by decide +kernel, by decide, (xw_t 473 rfl rfl), xw_n 485 rfl rfl, (List.forall_mem_cons.mpr ⟨⟨by decide, "java/lang/IllegalStateException", (xw_t 111 rfl rfl), xw_c 2 rfl⟩, fun _ h => absurd h List.not_mem_nil⟩), Or.inl ⟨xd_172_17, rfl⟩, Nat.le_of_ble_eq_true rfl, xd_172_19, xd_172_20, rfl⟩
set_option maxRecDepth 100000 in
theorem xh_172_2 : xk_Oh xp_F (xp_P sc) xp_BW xp_NW xp_exn 172 5 1 3 := ⟨[(0, 10, 13, 13), (0, 10, 17, 35)], [], 0, 10, 21, 15, "java/lang/IllegalArgumentException", 4, 2, rfl, by decide +kernel, by decide +kernel, by decide, (xw_t 112 rfl rfl), xw_n 200 rfl rfl, (List.forall_mem_cons.mpr ⟨⟨by decide, "java/lang/IllegalStateException", (xw_t 111 rfl rfl), xw_c 0 rfl⟩, List.forall_mem_cons.mpr ⟨⟨by decide, "java/util/NoSuchElementException", (xw_t 473 rfl rfl), xw_c 13 rfl⟩, fun _ h => absurd h List.not_mem_nil⟩⟩), Or.inl ⟨xd_172_21, rfl⟩, Nat.le_of_ble_eq_true rfl, xd_172_23, xd_172_24, rfl⟩
theorem xi_172 : (List.range 20).all (fun i => match xc_172[i]? with
  | some (.invokeinterface _ _) => decide (i = 5)
  | _ => true) = true := by decide +kernel
theorem xj_172 : ∀ (i j na x : Nat) (z : Nat × Int), (xp_P sc 172).1[i]? = some (.invokeinterface j na) → (xp_P sc 172).2.2.2.1.find? (fun q => q.1 == x) = some z → xk_Oh xp_F (xp_P sc) xp_BW xp_NW xp_exn 172 i x z.2 := by
  intro i j na x z h hz
  have h : xc_172[i]? = some (.invokeinterface j na) := h
  have hi : i < 20 := (List.getElem?_eq_some_iff.mp h).1
  have h1 := List.all_eq_true.mp xi_172 i (List.mem_range.mpr hi)
  rw [h] at h1
  have e1 : i = 5 := of_decide_eq_true h1
  subst e1
  have hx : z.1 = x := by simpa using List.find?_some hz
  subst hx
  have hm : z ∈ [((0 : Nat), (1 : Int)), ((3 : Nat), (2 : Int)), ((1 : Nat), (3 : Int))] := List.mem_of_find?_eq_some hz
  simp only [List.mem_cons, List.not_mem_nil, or_false] at hm
  rcases hm with rfl | rfl | rfl
  · exact xh_172_0
  · exact xh_172_1
  · exact xh_172_2
set_option maxRecDepth 100000 in
theorem xh_173_0 : xk_Oh xp_F (xp_P sc) xp_BW xp_NW xp_exn 173 6 0 1 := ⟨[], [(0, 12, 19, 35)], 0, 12, 15, 13, "java/lang/IllegalStateException", 5, 2, rfl, by decide +kernel, by decide +kernel, by decide, (xw_t 111 rfl rfl), xw_n 124 rfl rfl, (fun _ h => absurd h List.not_mem_nil), Or.inl ⟨xd_173_15, rfl⟩, Nat.le_of_ble_eq_true rfl, xd_173_17, xd_173_18, rfl⟩
set_option maxRecDepth 100000 in
theorem xh_173_1 : xk_Oh xp_F (xp_P sc) xp_BW xp_NW xp_exn 173 6 3 2 := ⟨[(0, 12, 15, 13)], [], 0, 12, 19, 35, "java/util/NoSuchElementException", 5, 2, rfl, by decide +kernel, by decide +kernel, by decide, (xw_t 473 rfl rfl), xw_n 485 rfl rfl, (List.forall_mem_cons.mpr ⟨⟨by decide, "java/lang/IllegalStateException", (xw_t 111 rfl rfl), xw_c 2 rfl⟩, fun _ h => absurd h List.not_mem_nil⟩), Or.inl ⟨xd_173_19, rfl⟩, Nat.le_of_ble_eq_true rfl, xd_173_21, xd_173_22, rfl⟩
theorem xi_173 : (List.range 18).all (fun i => match xc_173[i]? with
  | some (.invokeinterface _ _) => decide (i = 6)
  | _ => true) = true := by decide +kernel
theorem xj_173 : ∀ (i j na x : Nat) (z : Nat × Int), (xp_P sc 173).1[i]? = some (.invokeinterface j na) → (xp_P sc 173).2.2.2.1.find? (fun q => q.1 == x) = some z → xk_Oh xp_F (xp_P sc) xp_BW xp_NW xp_exn 173 i x z.2 := by
  intro i j na x z h hz
  have h : xc_173[i]? = some (.invokeinterface j na) := h
  have hi : i < 18 := (List.getElem?_eq_some_iff.mp h).1
  have h1 := List.all_eq_true.mp xi_173 i (List.mem_range.mpr hi)
  rw [h] at h1
  have e1 : i = 6 := of_decide_eq_true h1
  subst e1
  have hx : z.1 = x := by simpa using List.find?_some hz
  subst hx
  have hm : z ∈ [((0 : Nat), (1 : Int)), ((3 : Nat), (2 : Int))] := List.mem_of_find?_eq_some hz
  simp only [List.mem_cons, List.not_mem_nil, or_false] at hm
  rcases hm with rfl | rfl
  · exact xh_173_0
  · exact xh_173_1
set_option maxRecDepth 100000 in
theorem xh_174_0 : xk_Oh xp_F (xp_P sc) xp_BW xp_NW xp_exn 174 4 0 1 := ⟨[], [(0, 9, 15, 15)], 0, 9, 12, 13, "java/lang/IllegalStateException", 3, 1, rfl, by decide +kernel, by decide +kernel, by decide, (xw_t 111 rfl rfl), xw_n 124 rfl rfl, (fun _ h => absurd h List.not_mem_nil), Or.inr ⟨3, rfl, xd_174_12, rfl⟩, Nat.le_of_ble_eq_true rfl, xd_174_13, xd_174_14, rfl⟩
set_option maxRecDepth 100000 in
theorem xh_174_1 : xk_Oh xp_F (xp_P sc) xp_BW xp_NW xp_exn 174 4 1 2 := ⟨[(0, 9, 12, 13)], [], 0, 9, 15, 15, "java/lang/IllegalArgumentException", 3, 1, rfl, by decide +kernel, by decide +kernel, by decide, (xw_t 112 rfl rfl), xw_n 200 rfl rfl, (List.forall_mem_cons.mpr ⟨⟨by decide, "java/lang/IllegalStateException", (xw_t 111 rfl rfl), xw_c 0 rfl⟩, fun _ h => absurd h List.not_mem_nil⟩), Or.inr ⟨3, rfl, xd_174_15, rfl⟩, Nat.le_of_ble_eq_true rfl, xd_174_16, xd_174_17, rfl⟩
theorem xi_174 : (List.range 16).all (fun i => match xc_174[i]? with
  | some (.invokeinterface _ _) => decide (i = 4)
  | _ => true) = true := by decide +kernel
theorem xj_174 : ∀ (i j na x : Nat) (z : Nat × Int), (xp_P sc 174).1[i]? = some (.invokeinterface j na) → (xp_P sc 174).2.2.2.1.find? (fun q => q.1 == x) = some z → xk_Oh xp_F (xp_P sc) xp_BW xp_NW xp_exn 174 i x z.2 := by
  intro i j na x z h hz
  have h : xc_174[i]? = some (.invokeinterface j na) := h
  have hi : i < 16 := (List.getElem?_eq_some_iff.mp h).1
  have h1 := List.all_eq_true.mp xi_174 i (List.mem_range.mpr hi)
  rw [h] at h1
  have e1 : i = 4 := of_decide_eq_true h1
  subst e1
  have hx : z.1 = x := by simpa using List.find?_some hz
  subst hx
  have hm : z ∈ [((0 : Nat), (1 : Int)), ((1 : Nat), (2 : Int))] := List.mem_of_find?_eq_some hz
  simp only [List.mem_cons, List.not_mem_nil, or_false] at hm
  rcases hm with rfl | rfl
  · exact xh_174_0
  · exact xh_174_1
set_option maxRecDepth 100000 in
theorem xh_175_0 : xk_Oh xp_F (xp_P sc) xp_BW xp_NW xp_exn 175 2 0 1 := ⟨[], [(0, 5, 11, 15)], 0, 5, 8, 13, "java/lang/IllegalStateException", 2, 1, rfl, by decide +kernel, by decide +kernel, by decide, (xw_t 111 rfl rfl), xw_n 124 rfl rfl, (fun _ h => absurd h List.not_mem_nil), Or.inr ⟨2, rfl, xd_175_8, rfl⟩, Nat.le_of_ble_eq_true rfl, xd_175_9, xd_175_10, rfl⟩
set_option maxRecDepth 100000 in
theorem xh_175_1 : xk_Oh xp_F (xp_P sc) xp_BW xp_NW xp_exn 175 2 1 2 := ⟨[(0, 5, 8, 13)], [], 0, 5, 11, 15, "java/lang/IllegalArgumentException", 2, 1, rfl, by decide +kernel, by decide +kernel, by decide, (xw_t 112 rfl rfl), xw_n 200 rfl rfl, (List.forall_mem_cons.mpr ⟨⟨by decide, "java/lang/IllegalStateException", (xw_t 111 rfl rfl), xw_c 0 rfl⟩, fun _ h => absurd h List.not_mem_nil⟩), Or.inr ⟨2, rfl, xd_175_11, rfl⟩, Nat.le_of_ble_eq_true rfl, xd_175_12, xd_175_13, rfl⟩
theorem xi_175 : (List.range 12).all (fun i => match xc_175[i]? with
  | some (.invokeinterface _ _) => decide (i = 2)
  | _ => true) = true := by decide +kernel
theorem xj_175 : ∀ (i j na x : Nat) (z : Nat × Int), (xp_P sc 175).1[i]? = some (.invokeinterface j na) → (xp_P sc 175).2.2.2.1.find? (fun q => q.1 == x) = some z → xk_Oh xp_F (xp_P sc) xp_BW xp_NW xp_exn 175 i x z.2 := by
  intro i j na x z h hz
  have h : xc_175[i]? = some (.invokeinterface j na) := h
  have hi : i < 12 := (List.getElem?_eq_some_iff.mp h).1
  have h1 := List.all_eq_true.mp xi_175 i (List.mem_range.mpr hi)
  rw [h] at h1
  have e1 : i = 2 := of_decide_eq_true h1
  subst e1
  have hx : z.1 = x := by simpa using List.find?_some hz
  subst hx
  have hm : z ∈ [((0 : Nat), (1 : Int)), ((1 : Nat), (2 : Int))] := List.mem_of_find?_eq_some hz
  simp only [List.mem_cons, List.not_mem_nil, or_false] at hm
  rcases hm with rfl | rfl
  · exact xh_175_0
  · exact xh_175_1
set_option maxRecDepth 100000 in
theorem xh_176_0 : xk_Oh xp_F (xp_P sc) xp_BW xp_NW xp_exn 176 1 0 1 := ⟨[], [], 0, 4, 7, 13, "java/lang/IllegalStateException", 1, 1, rfl, by decide +kernel, by decide +kernel, by decide, (xw_t 111 rfl rfl), xw_n 124 rfl rfl, (fun _ h => absurd h List.not_mem_nil), Or.inr ⟨1, rfl, xd_176_7, rfl⟩, Nat.le_of_ble_eq_true rfl, xd_176_8, xd_176_9, rfl⟩
theorem xi_176 : (List.range 8).all (fun i => match xc_176[i]? with
  | some (.invokeinterface _ _) => decide (i = 1)
  | _ => true) = true := by decide +kernel
theorem xj_176 : ∀ (i j na x : Nat) (z : Nat × Int), (xp_P sc 176).1[i]? = some (.invokeinterface j na) → (xp_P sc 176).2.2.2.1.find? (fun q => q.1 == x) = some z → xk_Oh xp_F (xp_P sc) xp_BW xp_NW xp_exn 176 i x z.2 := by
  intro i j na x z h hz
  have h : xc_176[i]? = some (.invokeinterface j na) := h
  have hi : i < 8 := (List.getElem?_eq_some_iff.mp h).1
  have h1 := List.all_eq_true.mp xi_176 i (List.mem_range.mpr hi)
  rw [h] at h1
  have e1 : i = 1 := of_decide_eq_true h1
  subst e1
  have hx : z.1 = x := by simpa using List.find?_some hz
  subst hx
  have hm : z ∈ [((0 : Nat), (1 : Int))] := List.mem_of_find?_eq_some hz
  simp only [List.mem_cons, List.not_mem_nil, or_false] at hm
  rcases hm with rfl
  · exact xh_176_0
set_option maxRecDepth 100000 in
theorem xh_177_0 : xk_Oh xp_F (xp_P sc) xp_BW xp_NW xp_exn 177 5 0 1 := ⟨[], [(0, 17, 24, 15)], 0, 17, 20, 13, "java/lang/IllegalStateException", 4, 2, rfl, by decide +kernel, by decide +kernel, by decide, (xw_t 111 rfl rfl), xw_n 124 rfl rfl, (fun _ h => absurd h List.not_mem_nil), Or.inl ⟨xd_177_20, rfl⟩, Nat.le_of_ble_eq_true rfl, xd_177_22, xd_177_23, rfl⟩
set_option maxRecDepth 100000 in
theorem xh_177_1 : xk_Oh xp_F (xp_P sc) xp_BW xp_NW xp_exn 177 5 1 2 := ⟨[(0, 17, 20, 13)], [], 0, 17, 24, 15, "java/lang/IllegalArgumentException", 4, 2, rfl, by decide +kernel, by decide +kernel, by decide, (xw_t 112 rfl rfl), xw_n 200 rfl rfl, (List.forall_mem_cons.mpr ⟨⟨by decide, "java/lang/IllegalStateException", (xw_t 111 rfl rfl), xw_c 0 rfl⟩, fun _ h => absurd h List.not_mem_nil⟩), Or.inl ⟨xd_177_24, rfl⟩, Nat.le_of_ble_eq_true rfl, xd_177_26, xd_177_27, rfl⟩
theorem xi_177 : (List.range 20).all (fun i => match xc_177[i]? with
  | some (.invokeinterface _ _) => decide (i = 5)
  | _ => true) = true := by decide +kernel
theorem xj_177 : ∀ (i j na x : Nat) (z : Nat × Int), (xp_P sc 177).1[i]? = some (.invokeinterface j na) → (xp_P sc 177).2.2.2.1.find? (fun q => q.1 == x) = some z → xk_Oh xp_F (xp_P sc) xp_BW xp_NW xp_exn 177 i x z.2 := by
  intro i j na x z h hz
  have h : xc_177[i]? = some (.invokeinterface j na) := h
  have hi : i < 20 := (List.getElem?_eq_some_iff.mp h).1
  have h1 := List.all_eq_true.mp xi_177 i (List.mem_range.mpr hi)
  rw [h] at h1
  have e1 : i = 5 := of_decide_eq_true h1
  subst e1
  have hx : z.1 = x := by simpa using List.find?_some hz
  subst hx
  have hm : z ∈ [((0 : Nat), (1 : Int)), ((1 : Nat), (2 : Int))] := List.mem_of_find?_eq_some hz
  simp only [List.mem_cons, List.not_mem_nil, or_false] at hm
  rcases hm with rfl | rfl
  · exact xh_177_0
  · exact xh_177_1
set_option maxRecDepth 100000 in
theorem xh_178_0 : xk_Oh xp_F (xp_P sc) xp_BW xp_NW xp_exn 178 3 0 1 := ⟨[], [], 0, 8, 11, 13, "java/lang/IllegalStateException", 2, 1, rfl, by decide +kernel, by decide +kernel, by decide, (xw_t 111 rfl rfl), xw_n 124 rfl rfl, (fun _ h => absurd h List.not_mem_nil), Or.inr ⟨2, rfl, xd_178_11, rfl⟩, Nat.le_of_ble_eq_true rfl, xd_178_12, xd_178_13, rfl⟩
theorem xi_178 : (List.range 12).all (fun i => match xc_178[i]? with
  | some (.invokeinterface _ _) => decide (i = 3)
  | _ => true) = true := by decide +kernel
theorem xj_178 : ∀ (i j na x : Nat) (z : Nat × Int), (xp_P sc 178).1[i]? = some (.invokeinterface j na) → (xp_P sc 178).2.2.2.1.find? (fun q => q.1 == x) = some z → xk_Oh xp_F (xp_P sc) xp_BW xp_NW xp_exn 178 i x z.2 := by
  intro i j na x z h hz
  have h : xc_178[i]? = some (.invokeinterface j na) := h
  have hi : i < 12 := (List.getElem?_eq_some_iff.mp h).1
  have h1 := List.all_eq_true.mp xi_178 i (List.mem_range.mpr hi)
  rw [h] at h1
  have e1 : i = 3 := of_decide_eq_true h1
  subst e1
  have hx : z.1 = x := by simpa using List.find?_some hz
  subst hx
  have hm : z ∈ [((0 : Nat), (1 : Int))] := List.mem_of_find?_eq_some hz
  simp only [List.mem_cons, List.not_mem_nil, or_false] at hm
  rcases hm with rfl
  · exact xh_178_0
set_option maxRecDepth 100000 in
theorem xh_179_0 : xk_Oh xp_F (xp_P sc) xp_BW xp_NW xp_exn 179 6 4 1 := ⟨[], [], 0, 12, 15, 49, "java/lang/IndexOutOfBoundsException", 5, 2, rfl, by decide +kernel, by decide +kernel, by decide, (xw_t 554 rfl rfl), xw_n 569 rfl rfl, (fun _ h => absurd h List.not_mem_nil), Or.inl ⟨xd_179_15, rfl⟩, Nat.le_of_ble_eq_true rfl, xd_179_17, xd_179_18, rfl⟩
theorem xi_179 : (List.range 15).all (fun i => match xc_179[i]? with
  | some (.invokeinterface _ _) => decide (i = 6)
  | _ => true) = true := by decide +kernel
theorem xj_179 : ∀ (i j na x : Nat) (z : Nat × Int), (xp_P sc 179).1[i]? = some (.invokeinterface j na) → (xp_P sc 179).2.2.2.1.find? (fun q => q.1 == x) = some z → xk_Oh xp_F (xp_P sc) xp_BW xp_NW xp_exn 179 i x z.2 := by
  intro i j na x z h hz
  have h : xc_179[i]? = some (.invokeinterface j na) := h
  have hi : i < 15 := (List.getElem?_eq_some_iff.mp h).1
  have h1 := List.all_eq_true.mp xi_179 i (List.mem_range.mpr hi)
  rw [h] at h1
  have e1 : i = 6 := of_decide_eq_true h1
  subst e1
  have hx : z.1 = x := by simpa using List.find?_some hz
  subst hx
  have hm : z ∈ [((4 : Nat), (1 : Int))] := List.mem_of_find?_eq_some hz
  simp only [List.mem_cons, List.not_mem_nil, or_false] at hm
  rcases hm with rfl
  · exact xh_179_0
theorem xp_hno : (List.range 181).all (fun k => (xp_P (0, fun _ => 0) k).2.2.2.1.isEmpty || decide (k = 160) || decide (k = 161) || decide (k = 162) || decide (k = 163) || decide (k = 164) || decide (k = 165) || decide (k = 166) || decide (k = 167) || decide (k = 168) || decide (k = 169) || decide (k = 170) || decide (k = 171) || decide (k = 172) || decide (k = 173) || decide (k = 174) || decide (k = 175) || decide (k = 176) || decide (k = 177) || decide (k = 178) || decide (k = 179)) = true := by decide +kernel
theorem xp_cat {l : Launch} : xk_Cat l xp_F (xp_P sc) xp_cl xp_BW xp_NW xp_SW xp_exn := by
  refine xk_cat_of (fun k i j na x z h hz => ?_)
  by_cases hk : k < 181
  · have h1 := List.all_eq_true.mp xp_hno k (List.mem_range.mpr hk)
    simp only [Bool.or_eq_true, decide_eq_true_eq, or_assoc] at h1
    rcases h1 with h1 | rfl | rfl | rfl | rfl | rfl | rfl | rfl | rfl | rfl | rfl | rfl | rfl | rfl | rfl | rfl | rfl | rfl | rfl | rfl | rfl
    · rw [xp_hsame, List.isEmpty_iff.mp h1] at hz
      cases hz
    · exact xj_160 i j na x z h hz
    · exact xj_161 i j na x z h hz
    · exact xj_162 i j na x z h hz
    · exact xj_163 i j na x z h hz
    · exact xj_164 i j na x z h hz
    · exact xj_165 i j na x z h hz
    · exact xj_166 i j na x z h hz
    · exact xj_167 i j na x z h hz
    · exact xj_168 i j na x z h hz
    · exact xj_169 i j na x z h hz
    · exact xj_170 i j na x z h hz
    · exact xj_171 i j na x z h hz
    · exact xj_172 i j na x z h hz
    · exact xj_173 i j na x z h hz
    · exact xj_174 i j na x z h hz
    · exact xj_175 i j na x z h hz
    · exact xj_176 i j na x z h hz
    · exact xj_177 i j na x z h hz
    · exact xj_178 i j na x z h hz
    · exact xj_179 i j na x z h hz
  · rw [xp_Pbig (by omega)] at h
    simp at h
theorem xp_snd {l : Launch} (hl : l.stackTraces = false) (n : Nat) : xk_Snd l xp_F (xp_P sc) xp_cl xp_BW xp_NW xp_SW xp_exn n := xk_sound (xp_good hl) xp_cat n
end XkGood
