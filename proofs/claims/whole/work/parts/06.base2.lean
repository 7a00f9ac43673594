def FU : Nat := 70000
def gl {α β : Type} (v : α) (f : α → β) : β := f v
theorem gl_s {α β : Type} {v x : α} {f : α → β} {r : β} (e : x = v) (h : gl v f = r) : f x = r := by subst e; exact h
theorem gk0_0 : gK 0 0 = 10 := by decide +kernel
theorem gk0_1 : gK 0 1 = 6 := by decide +kernel
theorem gk0_2 : gK 0 2 = 22 := by decide +kernel
theorem gn0_2 : gN 0 2 = 1600 := by decide +kernel
theorem gk0_3 : gK 0 3 = 4 := by decide +kernel
theorem gk0_4 : gK 0 4 = 8 := by decide +kernel
theorem gk0_5 : gK 0 5 = 23 := by decide +kernel
theorem gn0_5 : gN 0 5 = 8 := by decide +kernel
theorem gk0_6 : gK 0 6 = 23 := by decide +kernel
theorem gn0_6 : gN 0 6 = 5 := by decide +kernel
theorem gk0_7 : gK 0 7 = 20 := by decide +kernel
theorem gn0_7 : gN 0 7 = 5 := by decide +kernel
theorem gk0_8 : gK 0 8 = 20 := by decide +kernel
theorem gn0_8 : gN 0 8 = 5 := by decide +kernel
theorem gk0_9 : gK 0 9 = 20 := by decide +kernel
theorem gn0_9 : gN 0 9 = 5 := by decide +kernel
theorem gk0_10 : gK 0 10 = 20 := by decide +kernel
theorem gn0_10 : gN 0 10 = 40 := by decide +kernel
theorem gk0_11 : gK 0 11 = 20 := by decide +kernel
theorem gn0_11 : gN 0 11 = 16 := by decide +kernel
theorem gk0_12 : gK 0 12 = 20 := by decide +kernel
theorem gn0_12 : gN 0 12 = 16 := by decide +kernel
theorem gk0_13 : gK 0 13 = 20 := by decide +kernel
theorem gn0_13 : gN 0 13 = 16 := by decide +kernel
theorem gk0_14 : gK 0 14 = 20 := by decide +kernel
theorem gn0_14 : gN 0 14 = 16 := by decide +kernel
theorem gk0_15 : gK 0 15 = 20 := by decide +kernel
theorem gn0_15 : gN 0 15 = 16 := by decide +kernel
theorem gk0_16 : gK 0 16 = 0 := by decide +kernel
theorem gk0_17 : gK 0 17 = 20 := by decide +kernel
theorem gn0_17 : gN 0 17 = 272 := by decide +kernel
theorem gk0_18 : gK 0 18 = 20 := by decide +kernel
theorem gn0_18 : gN 0 18 = 32 := by decide +kernel
theorem gk0_19 : gK 0 19 = 7 := by decide +kernel
theorem gk0_20 : gK 0 20 = 5 := by decide +kernel
theorem gk0_21 : gK 0 21 = 20 := by decide +kernel
theorem gn0_21 : gN 0 21 = 5 := by decide +kernel
theorem gk0_22 : gK 0 22 = 20 := by decide +kernel
theorem gn0_22 : gN 0 22 = 5 := by decide +kernel
theorem gk0_23 : gK 0 23 = 1 := by decide +kernel
theorem gk0_24 : gK 0 24 = 24 := by decide +kernel
theorem gn0_24 : gN 0 24 = 41 := by decide +kernel
theorem gk0_25 : gK 0 25 = 5 := by decide +kernel
theorem gk0_26 : gK 0 26 = 20 := by decide +kernel
theorem gn0_26 : gN 0 26 = 5 := by decide +kernel
theorem gk0_27 : gK 0 27 = 20 := by decide +kernel
theorem gn0_27 : gN 0 27 = 5 := by decide +kernel
theorem gk0_28 : gK 0 28 = 5 := by decide +kernel
theorem gk0_29 : gK 0 29 = 20 := by decide +kernel
theorem gn0_29 : gN 0 29 = 5 := by decide +kernel
theorem gk0_30 : gK 0 30 = 20 := by decide +kernel
theorem gn0_30 : gN 0 30 = 5 := by decide +kernel
theorem gk0_31 : gK 0 31 = 5 := by decide +kernel
theorem gk0_32 : gK 0 32 = 20 := by decide +kernel
theorem gn0_32 : gN 0 32 = 5 := by decide +kernel
theorem gk0_33 : gK 0 33 = 20 := by decide +kernel
theorem gn0_33 : gN 0 33 = 5 := by decide +kernel
theorem gk0_34 : gK 0 34 = 5 := by decide +kernel
theorem gk0_35 : gK 0 35 = 20 := by decide +kernel
theorem gn0_35 : gN 0 35 = 5 := by decide +kernel
theorem gk0_36 : gK 0 36 = 20 := by decide +kernel
theorem gn0_36 : gN 0 36 = 5 := by decide +kernel
theorem gk0_37 : gK 0 37 = 5 := by decide +kernel
theorem gk0_38 : gK 0 38 = 20 := by decide +kernel
theorem gn0_38 : gN 0 38 = 5 := by decide +kernel
theorem gk0_39 : gK 0 39 = 20 := by decide +kernel
theorem gn0_39 : gN 0 39 = 5 := by decide +kernel
theorem gk0_40 : gK 0 40 = 5 := by decide +kernel
theorem gk0_41 : gK 0 41 = 20 := by decide +kernel
theorem gn0_41 : gN 0 41 = 5 := by decide +kernel
theorem gk0_42 : gK 0 42 = 20 := by decide +kernel
theorem gn0_42 : gN 0 42 = 5 := by decide +kernel
theorem gk0_43 : gK 0 43 = 5 := by decide +kernel
theorem gk0_44 : gK 0 44 = 20 := by decide +kernel
theorem gn0_44 : gN 0 44 = 5 := by decide +kernel
theorem gk0_45 : gK 0 45 = 20 := by decide +kernel
theorem gn0_45 : gN 0 45 = 5 := by decide +kernel
theorem gk0_46 : gK 0 46 = 5 := by decide +kernel
theorem gk0_47 : gK 0 47 = 20 := by decide +kernel
theorem gn0_47 : gN 0 47 = 5 := by decide +kernel
theorem gk0_48 : gK 0 48 = 20 := by decide +kernel
theorem gn0_48 : gN 0 48 = 5 := by decide +kernel
theorem gk0_49 : gK 0 49 = 5 := by decide +kernel
theorem gk0_50 : gK 0 50 = 20 := by decide +kernel
theorem gn0_50 : gN 0 50 = 5 := by decide +kernel
theorem gk0_51 : gK 0 51 = 20 := by decide +kernel
theorem gn0_51 : gN 0 51 = 5 := by decide +kernel
theorem gk0_52 : gK 0 52 = 5 := by decide +kernel
theorem gk0_53 : gK 0 53 = 20 := by decide +kernel
theorem gn0_53 : gN 0 53 = 5 := by decide +kernel
theorem gk0_54 : gK 0 54 = 20 := by decide +kernel
theorem gn0_54 : gN 0 54 = 5 := by decide +kernel
theorem gk0_55 : gK 0 55 = 5 := by decide +kernel
theorem gk0_56 : gK 0 56 = 20 := by decide +kernel
theorem gn0_56 : gN 0 56 = 5 := by decide +kernel
theorem gk0_57 : gK 0 57 = 20 := by decide +kernel
theorem gn0_57 : gN 0 57 = 5 := by decide +kernel
theorem gk0_58 : gK 0 58 = 5 := by decide +kernel
theorem gk0_59 : gK 0 59 = 20 := by decide +kernel
theorem gn0_59 : gN 0 59 = 5 := by decide +kernel
theorem gk0_60 : gK 0 60 = 20 := by decide +kernel
theorem gn0_60 : gN 0 60 = 5 := by decide +kernel
theorem gk0_61 : gK 0 61 = 5 := by decide +kernel
theorem gk0_62 : gK 0 62 = 20 := by decide +kernel
theorem gn0_62 : gN 0 62 = 5 := by decide +kernel
theorem gk0_63 : gK 0 63 = 20 := by decide +kernel
theorem gn0_63 : gN 0 63 = 5 := by decide +kernel
theorem gk0_64 : gK 0 64 = 5 := by decide +kernel
theorem gk0_65 : gK 0 65 = 20 := by decide +kernel
theorem gn0_65 : gN 0 65 = 5 := by decide +kernel
theorem gk0_66 : gK 0 66 = 20 := by decide +kernel
theorem gn0_66 : gN 0 66 = 5 := by decide +kernel
theorem gk0_67 : gK 0 67 = 5 := by decide +kernel
theorem gk0_68 : gK 0 68 = 20 := by decide +kernel
theorem gn0_68 : gN 0 68 = 5 := by decide +kernel
theorem gk0_69 : gK 0 69 = 20 := by decide +kernel
theorem gn0_69 : gN 0 69 = 5 := by decide +kernel
theorem gk0_70 : gK 0 70 = 5 := by decide +kernel
theorem gk0_71 : gK 0 71 = 20 := by decide +kernel
theorem gn0_71 : gN 0 71 = 5 := by decide +kernel
theorem gk0_72 : gK 0 72 = 20 := by decide +kernel
theorem gn0_72 : gN 0 72 = 5 := by decide +kernel
theorem gk0_73 : gK 0 73 = 5 := by decide +kernel
theorem gk0_74 : gK 0 74 = 20 := by decide +kernel
theorem gn0_74 : gN 0 74 = 5 := by decide +kernel
theorem gk0_75 : gK 0 75 = 20 := by decide +kernel
theorem gn0_75 : gN 0 75 = 5 := by decide +kernel
theorem gk0_76 : gK 0 76 = 5 := by decide +kernel
theorem gk0_77 : gK 0 77 = 20 := by decide +kernel
theorem gn0_77 : gN 0 77 = 5 := by decide +kernel
theorem gk0_78 : gK 0 78 = 20 := by decide +kernel
theorem gn0_78 : gN 0 78 = 5 := by decide +kernel
theorem gk0_79 : gK 0 79 = 5 := by decide +kernel
theorem gk0_80 : gK 0 80 = 20 := by decide +kernel
theorem gn0_80 : gN 0 80 = 5 := by decide +kernel
theorem gk0_81 : gK 0 81 = 20 := by decide +kernel
theorem gn0_81 : gN 0 81 = 5 := by decide +kernel
theorem gk0_82 : gK 0 82 = 5 := by decide +kernel
theorem gk0_83 : gK 0 83 = 20 := by decide +kernel
theorem gn0_83 : gN 0 83 = 5 := by decide +kernel
theorem gk0_84 : gK 0 84 = 20 := by decide +kernel
theorem gn0_84 : gN 0 84 = 5 := by decide +kernel
theorem gk0_85 : gK 0 85 = 5 := by decide +kernel
theorem gk0_86 : gK 0 86 = 20 := by decide +kernel
theorem gn0_86 : gN 0 86 = 5 := by decide +kernel
theorem gk0_87 : gK 0 87 = 20 := by decide +kernel
theorem gn0_87 : gN 0 87 = 5 := by decide +kernel
theorem gk0_88 : gK 0 88 = 5 := by decide +kernel
theorem gk0_89 : gK 0 89 = 20 := by decide +kernel
theorem gn0_89 : gN 0 89 = 5 := by decide +kernel
theorem gk0_90 : gK 0 90 = 20 := by decide +kernel
theorem gn0_90 : gN 0 90 = 5 := by decide +kernel
theorem gk0_91 : gK 0 91 = 5 := by decide +kernel
theorem gk0_92 : gK 0 92 = 20 := by decide +kernel
theorem gn0_92 : gN 0 92 = 5 := by decide +kernel
theorem gk0_93 : gK 0 93 = 20 := by decide +kernel
theorem gn0_93 : gN 0 93 = 5 := by decide +kernel
theorem gk0_94 : gK 0 94 = 5 := by decide +kernel
theorem gk0_95 : gK 0 95 = 20 := by decide +kernel
theorem gn0_95 : gN 0 95 = 5 := by decide +kernel
theorem gk0_96 : gK 0 96 = 20 := by decide +kernel
theorem gn0_96 : gN 0 96 = 5 := by decide +kernel
theorem gk0_97 : gK 0 97 = 5 := by decide +kernel
theorem gk0_98 : gK 0 98 = 20 := by decide +kernel
theorem gn0_98 : gN 0 98 = 5 := by decide +kernel
theorem gk0_99 : gK 0 99 = 20 := by decide +kernel
theorem gn0_99 : gN 0 99 = 5 := by decide +kernel
theorem gk0_100 : gK 0 100 = 5 := by decide +kernel
theorem gk0_101 : gK 0 101 = 20 := by decide +kernel
theorem gn0_101 : gN 0 101 = 5 := by decide +kernel
theorem gk0_102 : gK 0 102 = 20 := by decide +kernel
theorem gn0_102 : gN 0 102 = 5 := by decide +kernel
theorem gk0_103 : gK 0 103 = 5 := by decide +kernel
theorem gk0_104 : gK 0 104 = 20 := by decide +kernel
theorem gn0_104 : gN 0 104 = 5 := by decide +kernel
theorem gk0_105 : gK 0 105 = 20 := by decide +kernel
theorem gn0_105 : gN 0 105 = 5 := by decide +kernel
theorem gk0_106 : gK 0 106 = 5 := by decide +kernel
theorem gk0_107 : gK 0 107 = 20 := by decide +kernel
theorem gn0_107 : gN 0 107 = 5 := by decide +kernel
theorem gk0_108 : gK 0 108 = 20 := by decide +kernel
theorem gn0_108 : gN 0 108 = 5 := by decide +kernel
theorem gk0_109 : gK 0 109 = 5 := by decide +kernel
theorem gk0_110 : gK 0 110 = 20 := by decide +kernel
theorem gn0_110 : gN 0 110 = 5 := by decide +kernel
theorem gk0_111 : gK 0 111 = 20 := by decide +kernel
theorem gn0_111 : gN 0 111 = 5 := by decide +kernel
theorem gk0_112 : gK 0 112 = 5 := by decide +kernel
theorem gk0_113 : gK 0 113 = 20 := by decide +kernel
theorem gn0_113 : gN 0 113 = 5 := by decide +kernel
theorem gk0_114 : gK 0 114 = 20 := by decide +kernel
theorem gn0_114 : gN 0 114 = 5 := by decide +kernel
theorem gk0_115 : gK 0 115 = 5 := by decide +kernel
theorem gk0_116 : gK 0 116 = 20 := by decide +kernel
theorem gn0_116 : gN 0 116 = 5 := by decide +kernel
theorem gk0_117 : gK 0 117 = 20 := by decide +kernel
theorem gn0_117 : gN 0 117 = 5 := by decide +kernel
theorem gk0_118 : gK 0 118 = 5 := by decide +kernel
theorem gk0_119 : gK 0 119 = 20 := by decide +kernel
theorem gn0_119 : gN 0 119 = 5 := by decide +kernel
theorem gk0_120 : gK 0 120 = 20 := by decide +kernel
theorem gn0_120 : gN 0 120 = 5 := by decide +kernel
theorem gk0_121 : gK 0 121 = 5 := by decide +kernel
theorem gk0_122 : gK 0 122 = 20 := by decide +kernel
theorem gn0_122 : gN 0 122 = 5 := by decide +kernel
theorem gk0_123 : gK 0 123 = 20 := by decide +kernel
theorem gn0_123 : gN 0 123 = 5 := by decide +kernel
theorem gk0_124 : gK 0 124 = 5 := by decide +kernel
theorem gk0_125 : gK 0 125 = 20 := by decide +kernel
theorem gn0_125 : gN 0 125 = 5 := by decide +kernel
theorem gk0_126 : gK 0 126 = 20 := by decide +kernel
theorem gn0_126 : gN 0 126 = 5 := by decide +kernel
theorem gk0_127 : gK 0 127 = 5 := by decide +kernel
theorem gk0_128 : gK 0 128 = 20 := by decide +kernel
theorem gn0_128 : gN 0 128 = 5 := by decide +kernel
theorem gk0_129 : gK 0 129 = 20 := by decide +kernel
theorem gn0_129 : gN 0 129 = 5 := by decide +kernel
theorem gk0_130 : gK 0 130 = 5 := by decide +kernel
theorem gk0_131 : gK 0 131 = 20 := by decide +kernel
theorem gn0_131 : gN 0 131 = 5 := by decide +kernel
theorem gk0_132 : gK 0 132 = 20 := by decide +kernel
theorem gn0_132 : gN 0 132 = 5 := by decide +kernel
theorem gk0_133 : gK 0 133 = 5 := by decide +kernel
theorem gk0_134 : gK 0 134 = 20 := by decide +kernel
theorem gn0_134 : gN 0 134 = 5 := by decide +kernel
theorem gk0_135 : gK 0 135 = 20 := by decide +kernel
theorem gn0_135 : gN 0 135 = 5 := by decide +kernel
theorem gk0_136 : gK 0 136 = 5 := by decide +kernel
theorem gk0_137 : gK 0 137 = 20 := by decide +kernel
theorem gn0_137 : gN 0 137 = 5 := by decide +kernel
theorem gk0_138 : gK 0 138 = 20 := by decide +kernel
theorem gn0_138 : gN 0 138 = 5 := by decide +kernel
theorem gk0_139 : gK 0 139 = 5 := by decide +kernel
theorem gk0_140 : gK 0 140 = 20 := by decide +kernel
theorem gn0_140 : gN 0 140 = 5 := by decide +kernel
theorem gk0_141 : gK 0 141 = 20 := by decide +kernel
theorem gn0_141 : gN 0 141 = 5 := by decide +kernel
theorem gk0_142 : gK 0 142 = 5 := by decide +kernel
theorem gk0_143 : gK 0 143 = 20 := by decide +kernel
theorem gn0_143 : gN 0 143 = 5 := by decide +kernel
theorem gk0_144 : gK 0 144 = 20 := by decide +kernel
theorem gn0_144 : gN 0 144 = 5 := by decide +kernel
theorem gk0_145 : gK 0 145 = 5 := by decide +kernel
theorem gk0_146 : gK 0 146 = 20 := by decide +kernel
theorem gn0_146 : gN 0 146 = 5 := by decide +kernel
theorem gk0_147 : gK 0 147 = 20 := by decide +kernel
theorem gn0_147 : gN 0 147 = 5 := by decide +kernel
theorem gk0_148 : gK 0 148 = 24 := by decide +kernel
theorem gn0_148 : gN 0 148 = 3 := by decide +kernel
theorem gk0_149 : gK 0 149 = 21 := by decide +kernel
theorem gn0_149 : gN 0 149 = 3 := by decide +kernel
theorem gk0_150 : gK 0 150 = 9 := by decide +kernel
theorem gk0_151 : gK 0 151 = 20 := by decide +kernel
theorem gn0_151 : gN 0 151 = 2 := by decide +kernel
theorem gk0_152 : gK 0 152 = 20 := by decide +kernel
theorem gn0_152 : gN 0 152 = 16 := by decide +kernel
theorem gk0_153 : gK 0 153 = 25 := by decide +kernel
theorem gn0_153 : gN 0 153 = 2 := by decide +kernel
theorem gk0_154 : gK 0 154 = 20 := by decide +kernel
theorem gn0_154 : gN 0 154 = 8 := by decide +kernel
theorem gk0_155 : gK 0 155 = 20 := by decide +kernel
theorem gn0_155 : gN 0 155 = 8 := by decide +kernel
theorem gk0_156 : gK 0 156 = 25 := by decide +kernel
theorem gn0_156 : gN 0 156 = 2 := by decide +kernel
theorem gk0_157 : gK 0 157 = 20 := by decide +kernel
theorem gn0_157 : gN 0 157 = 16 := by decide +kernel
theorem gk0_158 : gK 0 158 = 20 := by decide +kernel
theorem gn0_158 : gN 0 158 = 16 := by decide +kernel
theorem gk0_159 : gK 0 159 = 25 := by decide +kernel
theorem gn0_159 : gN 0 159 = 5 := by decide +kernel
theorem gk0_160 : gK 0 160 = 20 := by decide +kernel
theorem gn0_160 : gN 0 160 = 16 := by decide +kernel
theorem gk0_161 : gK 0 161 = 20 := by decide +kernel
theorem gn0_161 : gN 0 161 = 16 := by decide +kernel
theorem gk0_162 : gK 0 162 = 20 := by decide +kernel
theorem gn0_162 : gN 0 162 = 16 := by decide +kernel
theorem gk0_163 : gK 0 163 = 20 := by decide +kernel
theorem gn0_163 : gN 0 163 = 16 := by decide +kernel
theorem gk0_164 : gK 0 164 = 20 := by decide +kernel
theorem gn0_164 : gN 0 164 = 16 := by decide +kernel
theorem gk0_165 : gK 0 165 = 20 := by decide +kernel
theorem gn0_165 : gN 0 165 = 8 := by decide +kernel
theorem gk0_166 : gK 0 166 = 20 := by decide +kernel
theorem gn0_166 : gN 0 166 = 8 := by decide +kernel
theorem gk0_167 : gK 0 167 = 3 := by decide +kernel
theorem gk0_168 : gK 0 168 = 20 := by decide +kernel
theorem gn0_168 : gN 0 168 = 5 := by decide +kernel
theorem gk0_169 : gK 0 169 = 2 := by decide +kernel
theorem gk0_170 : gK 0 170 = 21 := by decide +kernel
theorem gn0_170 : gN 0 170 = 30 := by decide +kernel
theorem gk0_171 : gK 0 171 = 21 := by decide +kernel
theorem gn0_171 : gN 0 171 = 30 := by decide +kernel
theorem gk0_172 : gK 0 172 = 20 := by decide +kernel
theorem gn0_172 : gN 0 172 = 30 := by decide +kernel
theorem gk0_173 : gK 0 173 = 20 := by decide +kernel
theorem gn0_173 : gN 0 173 = 30 := by decide +kernel
theorem gk0_174 : gK 0 174 = 20 := by decide +kernel
theorem gn0_174 : gN 0 174 = 30 := by decide +kernel
theorem gk0_175 : gK 0 175 = 20 := by decide +kernel
theorem gn0_175 : gN 0 175 = 30 := by decide +kernel
theorem gk0_176 : gK 0 176 = 20 := by decide +kernel
theorem gn0_176 : gN 0 176 = 7 := by decide +kernel
theorem gk0_177 : gK 0 177 = 20 := by decide +kernel
theorem gn0_177 : gN 0 177 = 7 := by decide +kernel
theorem gk0_178 : gK 0 178 = 25 := by decide +kernel
theorem gn0_178 : gN 0 178 = 7 := by decide +kernel
theorem gk0_179 : gK 0 179 = 20 := by decide +kernel
theorem gn0_179 : gN 0 179 = 8 := by decide +kernel
theorem gk0_180 : gK 0 180 = 20 := by decide +kernel
theorem gn0_180 : gN 0 180 = 8 := by decide +kernel
theorem gk0_181 : gK 0 181 = 20 := by decide +kernel
theorem gn0_181 : gN 0 181 = 8 := by decide +kernel
theorem gk0_182 : gK 0 182 = 20 := by decide +kernel
theorem gn0_182 : gN 0 182 = 8 := by decide +kernel
theorem gk0_183 : gK 0 183 = 20 := by decide +kernel
theorem gn0_183 : gN 0 183 = 8 := by decide +kernel
theorem gk0_184 : gK 0 184 = 20 := by decide +kernel
theorem gn0_184 : gN 0 184 = 8 := by decide +kernel
theorem gk0_185 : gK 0 185 = 20 := by decide +kernel
theorem gn0_185 : gN 0 185 = 8 := by decide +kernel
theorem gk0_186 : gK 0 186 = 25 := by decide +kernel
theorem gn0_186 : gN 0 186 = 7 := by decide +kernel
theorem gk0_187 : gK 0 187 = 20 := by decide +kernel
theorem gn0_187 : gN 0 187 = 8 := by decide +kernel
theorem gk0_188 : gK 0 188 = 20 := by decide +kernel
theorem gn0_188 : gN 0 188 = 8 := by decide +kernel
theorem gk0_189 : gK 0 189 = 20 := by decide +kernel
theorem gn0_189 : gN 0 189 = 8 := by decide +kernel
theorem gk0_190 : gK 0 190 = 20 := by decide +kernel
theorem gn0_190 : gN 0 190 = 8 := by decide +kernel
theorem gk0_191 : gK 0 191 = 20 := by decide +kernel
theorem gn0_191 : gN 0 191 = 8 := by decide +kernel
theorem gk0_192 : gK 0 192 = 20 := by decide +kernel
theorem gn0_192 : gN 0 192 = 8 := by decide +kernel
theorem gk0_193 : gK 0 193 = 20 := by decide +kernel
theorem gn0_193 : gN 0 193 = 8 := by decide +kernel
theorem gk0_194 : gK 0 194 = 8 := by decide +kernel
theorem gk0_195 : gK 0 195 = 23 := by decide +kernel
theorem gn0_195 : gN 0 195 = 8 := by decide +kernel
theorem gk0_196 : gK 0 196 = 23 := by decide +kernel
theorem gn0_196 : gN 0 196 = 5 := by decide +kernel
theorem gk0_197 : gK 0 197 = 20 := by decide +kernel
theorem gn0_197 : gN 0 197 = 5 := by decide +kernel
theorem gk0_198 : gK 0 198 = 20 := by decide +kernel
theorem gn0_198 : gN 0 198 = 5 := by decide +kernel
theorem gk0_199 : gK 0 199 = 20 := by decide +kernel
theorem gn0_199 : gN 0 199 = 5 := by decide +kernel
theorem gk0_200 : gK 0 200 = 20 := by decide +kernel
theorem gn0_200 : gN 0 200 = 40 := by decide +kernel
theorem gk0_201 : gK 0 201 = 20 := by decide +kernel
theorem gn0_201 : gN 0 201 = 16 := by decide +kernel
theorem gk0_202 : gK 0 202 = 20 := by decide +kernel
theorem gn0_202 : gN 0 202 = 16 := by decide +kernel
theorem gk0_203 : gK 0 203 = 20 := by decide +kernel
theorem gn0_203 : gN 0 203 = 16 := by decide +kernel
theorem gk0_204 : gK 0 204 = 20 := by decide +kernel
theorem gn0_204 : gN 0 204 = 16 := by decide +kernel
theorem gk0_205 : gK 0 205 = 20 := by decide +kernel
theorem gn0_205 : gN 0 205 = 16 := by decide +kernel
theorem gk0_206 : gK 0 206 = 0 := by decide +kernel
theorem gk0_207 : gK 0 207 = 20 := by decide +kernel
theorem gn0_207 : gN 0 207 = 272 := by decide +kernel
theorem gk0_208 : gK 0 208 = 20 := by decide +kernel
theorem gn0_208 : gN 0 208 = 32 := by decide +kernel
theorem gk0_209 : gK 0 209 = 5 := by decide +kernel
theorem gk0_210 : gK 0 210 = 20 := by decide +kernel
theorem gn0_210 : gN 0 210 = 5 := by decide +kernel
theorem gk0_211 : gK 0 211 = 20 := by decide +kernel
theorem gn0_211 : gN 0 211 = 5 := by decide +kernel
theorem gk0_212 : gK 0 212 = 5 := by decide +kernel
theorem gk0_213 : gK 0 213 = 20 := by decide +kernel
theorem gn0_213 : gN 0 213 = 5 := by decide +kernel
theorem gk0_214 : gK 0 214 = 20 := by decide +kernel
theorem gn0_214 : gN 0 214 = 5 := by decide +kernel
theorem gk0_215 : gK 0 215 = 5 := by decide +kernel
theorem gk0_216 : gK 0 216 = 20 := by decide +kernel
theorem gn0_216 : gN 0 216 = 5 := by decide +kernel
theorem gk0_217 : gK 0 217 = 20 := by decide +kernel
theorem gn0_217 : gN 0 217 = 5 := by decide +kernel
theorem gk1_0 : gK 1 0 = 11 := by decide +kernel
theorem gk1_1 : gK 1 1 = 20 := by decide +kernel
theorem gn1_1 : gN 1 1 = 1600 := by decide +kernel
theorem gk1_2 : gK 1 2 = 23 := by decide +kernel
theorem gn1_2 : gN 1 2 = 13 := by decide +kernel
theorem gk1_3 : gK 1 3 = 20 := by decide +kernel
theorem gn1_3 : gN 1 3 = 320 := by decide +kernel
theorem gk1_4 : gK 1 4 = 20 := by decide +kernel
theorem gn1_4 : gN 1 4 = 320 := by decide +kernel
theorem gk1_5 : gK 1 5 = 20 := by decide +kernel
theorem gn1_5 : gN 1 5 = 320 := by decide +kernel
theorem gk1_6 : gK 1 6 = 20 := by decide +kernel
theorem gn1_6 : gN 1 6 = 320 := by decide +kernel
theorem gk1_7 : gK 1 7 = 20 := by decide +kernel
theorem gn1_7 : gN 1 7 = 160 := by decide +kernel
theorem gk1_8 : gK 1 8 = 20 := by decide +kernel
theorem gn1_8 : gN 1 8 = 64 := by decide +kernel
theorem gk1_9 : gK 1 9 = 20 := by decide +kernel
theorem gn1_9 : gN 1 9 = 5 := by decide +kernel
theorem gk1_10 : gK 1 10 = 20 := by decide +kernel
theorem gn1_10 : gN 1 10 = 5 := by decide +kernel
theorem gk1_11 : gK 1 11 = 20 := by decide +kernel
theorem gn1_11 : gN 1 11 = 5 := by decide +kernel
theorem gk1_12 : gK 1 12 = 20 := by decide +kernel
theorem gn1_12 : gN 1 12 = 5 := by decide +kernel
theorem gk1_13 : gK 1 13 = 20 := by decide +kernel
theorem gn1_13 : gN 1 13 = 5 := by decide +kernel
theorem gk1_14 : gK 1 14 = 20 := by decide +kernel
theorem gn1_14 : gN 1 14 = 40 := by decide +kernel
theorem gk1_15 : gK 1 15 = 20 := by decide +kernel
theorem gn1_15 : gN 1 15 = 40 := by decide +kernel
theorem gk1_16 : gK 1 16 = 20 := by decide +kernel
theorem gn1_16 : gN 1 16 = 16 := by decide +kernel
theorem gk1_17 : gK 1 17 = 20 := by decide +kernel
theorem gn1_17 : gN 1 17 = 16 := by decide +kernel
theorem gk1_18 : gK 1 18 = 20 := by decide +kernel
theorem gn1_18 : gN 1 18 = 16 := by decide +kernel
theorem gk1_19 : gK 1 19 = 20 := by decide +kernel
theorem gn1_19 : gN 1 19 = 16 := by decide +kernel
theorem gk1_20 : gK 1 20 = 20 := by decide +kernel
theorem gn1_20 : gN 1 20 = 16 := by decide +kernel
theorem gk1_21 : gK 1 21 = 20 := by decide +kernel
theorem gn1_21 : gN 1 21 = 16 := by decide +kernel
theorem gk1_22 : gK 1 22 = 20 := by decide +kernel
theorem gn1_22 : gN 1 22 = 16 := by decide +kernel
theorem gk1_23 : gK 1 23 = 20 := by decide +kernel
theorem gn1_23 : gN 1 23 = 16 := by decide +kernel
theorem gk1_24 : gK 1 24 = 20 := by decide +kernel
theorem gn1_24 : gN 1 24 = 16 := by decide +kernel
theorem gk1_25 : gK 1 25 = 20 := by decide +kernel
theorem gn1_25 : gN 1 25 = 16 := by decide +kernel
theorem gk1_26 : gK 1 26 = 21 := by decide +kernel
theorem gn1_26 : gN 1 26 = 5 := by decide +kernel
theorem gk1_27 : gK 1 27 = 21 := by decide +kernel
theorem gn1_27 : gN 1 27 = 5 := by decide +kernel
theorem gk1_28 : gK 1 28 = 20 := by decide +kernel
theorem gn1_28 : gN 1 28 = 18 := by decide +kernel
theorem gk1_29 : gK 1 29 = 20 := by decide +kernel
theorem gn1_29 : gN 1 29 = 18 := by decide +kernel
theorem gk1_30 : gK 1 30 = 20 := by decide +kernel
theorem gn1_30 : gN 1 30 = 720 := by decide +kernel
theorem gk1_31 : gK 1 31 = 20 := by decide +kernel
theorem gn1_31 : gN 1 31 = 16 := by decide +kernel
theorem gk1_32 : gK 1 32 = 20 := by decide +kernel
theorem gn1_32 : gN 1 32 = 16 := by decide +kernel
theorem gk1_33 : gK 1 33 = 20 := by decide +kernel
theorem gn1_33 : gN 1 33 = 4 := by decide +kernel
theorem gk1_34 : gK 1 34 = 21 := by decide +kernel
theorem gn1_34 : gN 1 34 = 40 := by decide +kernel
theorem gk1_35 : gK 1 35 = 20 := by decide +kernel
theorem gn1_35 : gN 1 35 = 16 := by decide +kernel
theorem gk1_36 : gK 1 36 = 20 := by decide +kernel
theorem gn1_36 : gN 1 36 = 16 := by decide +kernel
theorem gk1_37 : gK 1 37 = 20 := by decide +kernel
theorem gn1_37 : gN 1 37 = 30 := by decide +kernel
theorem gk1_38 : gK 1 38 = 20 := by decide +kernel
theorem gn1_38 : gN 1 38 = 30 := by decide +kernel
theorem gk1_39 : gK 1 39 = 20 := by decide +kernel
theorem gn1_39 : gN 1 39 = 30 := by decide +kernel
theorem gk1_40 : gK 1 40 = 20 := by decide +kernel
theorem gn1_40 : gN 1 40 = 30 := by decide +kernel
theorem gk1_41 : gK 1 41 = 20 := by decide +kernel
theorem gn1_41 : gN 1 41 = 30 := by decide +kernel
theorem gk1_42 : gK 1 42 = 21 := by decide +kernel
theorem gn1_42 : gN 1 42 = 30 := by decide +kernel
theorem gk1_43 : gK 1 43 = 20 := by decide +kernel
theorem gn1_43 : gN 1 43 = 56 := by decide +kernel
theorem gk1_44 : gK 1 44 = 20 := by decide +kernel
theorem gn1_44 : gN 1 44 = 56 := by decide +kernel
theorem gk1_45 : gK 1 45 = 21 := by decide +kernel
theorem gn1_45 : gN 1 45 = 3 := by decide +kernel
theorem gk1_46 : gK 1 46 = 20 := by decide +kernel
theorem gn1_46 : gN 1 46 = 54 := by decide +kernel
theorem gK0_lt {t c : Nat} (h : gK 0 t = c) (hc : c < 99) : t < 218 := gK_lt h hc
theorem gk_8_0 {t : Nat} (h : gK 0 t = 8) : gK 0 (t + 1 + 0) = 23 := (by decide +kernel : ∀ t, t < 218 → gK 0 t = 8 → gK 0 (t + 1 + 0) = 23) t (gK0_lt h (by decide)) h
theorem gn_8_0 {t : Nat} (h : gK 0 t = 8) : gN 0 (t + 1 + 0) = 8 := (by decide +kernel : ∀ t, t < 218 → gK 0 t = 8 → gN 0 (t + 1 + 0) = 8) t (gK0_lt h (by decide)) h
theorem gk_8_1 {t : Nat} (h : gK 0 t = 8) : gK 0 (t + 1 + 1) = 23 := (by decide +kernel : ∀ t, t < 218 → gK 0 t = 8 → gK 0 (t + 1 + 1) = 23) t (gK0_lt h (by decide)) h
theorem gn_8_1 {t : Nat} (h : gK 0 t = 8) : gN 0 (t + 1 + 1) = 5 := (by decide +kernel : ∀ t, t < 218 → gK 0 t = 8 → gN 0 (t + 1 + 1) = 5) t (gK0_lt h (by decide)) h
theorem gk_8_2 {t : Nat} (h : gK 0 t = 8) : gK 0 (t + 1 + 2) = 20 := (by decide +kernel : ∀ t, t < 218 → gK 0 t = 8 → gK 0 (t + 1 + 2) = 20) t (gK0_lt h (by decide)) h
theorem gn_8_2 {t : Nat} (h : gK 0 t = 8) : gN 0 (t + 1 + 2) = 5 := (by decide +kernel : ∀ t, t < 218 → gK 0 t = 8 → gN 0 (t + 1 + 2) = 5) t (gK0_lt h (by decide)) h
theorem gk_8_3 {t : Nat} (h : gK 0 t = 8) : gK 0 (t + 1 + 3) = 20 := (by decide +kernel : ∀ t, t < 218 → gK 0 t = 8 → gK 0 (t + 1 + 3) = 20) t (gK0_lt h (by decide)) h
theorem gn_8_3 {t : Nat} (h : gK 0 t = 8) : gN 0 (t + 1 + 3) = 5 := (by decide +kernel : ∀ t, t < 218 → gK 0 t = 8 → gN 0 (t + 1 + 3) = 5) t (gK0_lt h (by decide)) h
theorem gk_8_4 {t : Nat} (h : gK 0 t = 8) : gK 0 (t + 1 + 4) = 20 := (by decide +kernel : ∀ t, t < 218 → gK 0 t = 8 → gK 0 (t + 1 + 4) = 20) t (gK0_lt h (by decide)) h
theorem gn_8_4 {t : Nat} (h : gK 0 t = 8) : gN 0 (t + 1 + 4) = 5 := (by decide +kernel : ∀ t, t < 218 → gK 0 t = 8 → gN 0 (t + 1 + 4) = 5) t (gK0_lt h (by decide)) h
theorem gk_8_5 {t : Nat} (h : gK 0 t = 8) : gK 0 (t + 1 + 5) = 20 := (by decide +kernel : ∀ t, t < 218 → gK 0 t = 8 → gK 0 (t + 1 + 5) = 20) t (gK0_lt h (by decide)) h
theorem gn_8_5 {t : Nat} (h : gK 0 t = 8) : gN 0 (t + 1 + 5) = 40 := (by decide +kernel : ∀ t, t < 218 → gK 0 t = 8 → gN 0 (t + 1 + 5) = 40) t (gK0_lt h (by decide)) h
theorem gk_8_6 {t : Nat} (h : gK 0 t = 8) : gK 0 (t + 1 + 6) = 20 := (by decide +kernel : ∀ t, t < 218 → gK 0 t = 8 → gK 0 (t + 1 + 6) = 20) t (gK0_lt h (by decide)) h
theorem gn_8_6 {t : Nat} (h : gK 0 t = 8) : gN 0 (t + 1 + 6) = 16 := (by decide +kernel : ∀ t, t < 218 → gK 0 t = 8 → gN 0 (t + 1 + 6) = 16) t (gK0_lt h (by decide)) h
theorem gk_8_7 {t : Nat} (h : gK 0 t = 8) : gK 0 (t + 1 + 7) = 20 := (by decide +kernel : ∀ t, t < 218 → gK 0 t = 8 → gK 0 (t + 1 + 7) = 20) t (gK0_lt h (by decide)) h
theorem gn_8_7 {t : Nat} (h : gK 0 t = 8) : gN 0 (t + 1 + 7) = 16 := (by decide +kernel : ∀ t, t < 218 → gK 0 t = 8 → gN 0 (t + 1 + 7) = 16) t (gK0_lt h (by decide)) h
theorem gk_8_8 {t : Nat} (h : gK 0 t = 8) : gK 0 (t + 1 + 8) = 20 := (by decide +kernel : ∀ t, t < 218 → gK 0 t = 8 → gK 0 (t + 1 + 8) = 20) t (gK0_lt h (by decide)) h
theorem gn_8_8 {t : Nat} (h : gK 0 t = 8) : gN 0 (t + 1 + 8) = 16 := (by decide +kernel : ∀ t, t < 218 → gK 0 t = 8 → gN 0 (t + 1 + 8) = 16) t (gK0_lt h (by decide)) h
theorem gk_8_9 {t : Nat} (h : gK 0 t = 8) : gK 0 (t + 1 + 9) = 20 := (by decide +kernel : ∀ t, t < 218 → gK 0 t = 8 → gK 0 (t + 1 + 9) = 20) t (gK0_lt h (by decide)) h
theorem gn_8_9 {t : Nat} (h : gK 0 t = 8) : gN 0 (t + 1 + 9) = 16 := (by decide +kernel : ∀ t, t < 218 → gK 0 t = 8 → gN 0 (t + 1 + 9) = 16) t (gK0_lt h (by decide)) h
theorem gk_8_10 {t : Nat} (h : gK 0 t = 8) : gK 0 (t + 1 + 10) = 20 := (by decide +kernel : ∀ t, t < 218 → gK 0 t = 8 → gK 0 (t + 1 + 10) = 20) t (gK0_lt h (by decide)) h
theorem gn_8_10 {t : Nat} (h : gK 0 t = 8) : gN 0 (t + 1 + 10) = 16 := (by decide +kernel : ∀ t, t < 218 → gK 0 t = 8 → gN 0 (t + 1 + 10) = 16) t (gK0_lt h (by decide)) h
theorem gk_8_11 {t : Nat} (h : gK 0 t = 8) : gK 0 (t + 1 + 11) = 0 := (by decide +kernel : ∀ t, t < 218 → gK 0 t = 8 → gK 0 (t + 1 + 11) = 0) t (gK0_lt h (by decide)) h
theorem gk_5_0 {t : Nat} (h : gK 0 t = 5) : gK 0 (t + 1 + 0) = 20 := (by decide +kernel : ∀ t, t < 218 → gK 0 t = 5 → gK 0 (t + 1 + 0) = 20) t (gK0_lt h (by decide)) h
theorem gn_5_0 {t : Nat} (h : gK 0 t = 5) : gN 0 (t + 1 + 0) = 5 := (by decide +kernel : ∀ t, t < 218 → gK 0 t = 5 → gN 0 (t + 1 + 0) = 5) t (gK0_lt h (by decide)) h
theorem gk_5_1 {t : Nat} (h : gK 0 t = 5) : gK 0 (t + 1 + 1) = 20 := (by decide +kernel : ∀ t, t < 218 → gK 0 t = 5 → gK 0 (t + 1 + 1) = 20) t (gK0_lt h (by decide)) h
theorem gn_5_1 {t : Nat} (h : gK 0 t = 5) : gN 0 (t + 1 + 1) = 5 := (by decide +kernel : ∀ t, t < 218 → gK 0 t = 5 → gN 0 (t + 1 + 1) = 5) t (gK0_lt h (by decide)) h
theorem gk_0_0 {t : Nat} (h : gK 0 t = 0) : gK 0 (t + 1 + 0) = 20 := (by decide +kernel : ∀ t, t < 218 → gK 0 t = 0 → gK 0 (t + 1 + 0) = 20) t (gK0_lt h (by decide)) h
theorem gn_0_0 {t : Nat} (h : gK 0 t = 0) : gN 0 (t + 1 + 0) = 272 := (by decide +kernel : ∀ t, t < 218 → gK 0 t = 0 → gN 0 (t + 1 + 0) = 272) t (gK0_lt h (by decide)) h
theorem gk_0_1 {t : Nat} (h : gK 0 t = 0) : gK 0 (t + 1 + 1) = 20 := (by decide +kernel : ∀ t, t < 218 → gK 0 t = 0 → gK 0 (t + 1 + 1) = 20) t (gK0_lt h (by decide)) h
theorem gn_0_1 {t : Nat} (h : gK 0 t = 0) : gN 0 (t + 1 + 1) = 32 := (by decide +kernel : ∀ t, t < 218 → gK 0 t = 0 → gN 0 (t + 1 + 1) = 32) t (gK0_lt h (by decide)) h
theorem gI_nat {i : Int32} {n : Nat} (h : gI i n) : i.toNatClampNeg < n := by
  have : i.toNatClampNeg = i.toInt.toNat := rfl
  omega
theorem gg_153 {i : Int32} (h : gI i 2) : gK 0 (153 + 1 + i.toNatClampNeg) = 20 ∧ gN 0 (153 + 1 + i.toNatClampNeg) = 8 := (by decide +kernel : ∀ i, i < 2 → gK 0 (153 + 1 + i) = 20 ∧ gN 0 (153 + 1 + i) = 8) _ (gI_nat h)
theorem gg_156 {i : Int32} (h : gI i 2) : gK 0 (156 + 1 + i.toNatClampNeg) = 20 ∧ gN 0 (156 + 1 + i.toNatClampNeg) = 16 := (by decide +kernel : ∀ i, i < 2 → gK 0 (156 + 1 + i) = 20 ∧ gN 0 (156 + 1 + i) = 16) _ (gI_nat h)
theorem gg_159 {i : Int32} (h : gI i 5) : gK 0 (159 + 1 + i.toNatClampNeg) = 20 ∧ gN 0 (159 + 1 + i.toNatClampNeg) = 16 := (by decide +kernel : ∀ i, i < 5 → gK 0 (159 + 1 + i) = 20 ∧ gN 0 (159 + 1 + i) = 16) _ (gI_nat h)
theorem gg_178 {i : Int32} (h : gI i 7) : gK 0 (178 + 1 + i.toNatClampNeg) = 20 ∧ gN 0 (178 + 1 + i.toNatClampNeg) = 8 := (by decide +kernel : ∀ i, i < 7 → gK 0 (178 + 1 + i) = 20 ∧ gN 0 (178 + 1 + i) = 8) _ (gI_nat h)
theorem gg_186 {i : Int32} (h : gI i 7) : gK 0 (186 + 1 + i.toNatClampNeg) = 20 ∧ gN 0 (186 + 1 + i.toNatClampNeg) = 8 := (by decide +kernel : ∀ i, i < 7 → gK 0 (186 + 1 + i) = 20 ∧ gN 0 (186 + 1 + i) = 8) _ (gI_nat h)
theorem kms_max : Cond.static Lib.Math.max.name ∈ lw_good := g_tab 569 (by decide +kernel) rfl
theorem kmc_max : Cond.code Lib.Math.max.name Lib.Math.max.code 2 (some .int) ∈ lw_good := g_tab 570 (by decide +kernel) rfl
theorem kms_min : Cond.static Lib.Math.min.name ∈ lw_good := g_tab 572 (by decide +kernel) rfl
theorem kmc_min : Cond.code Lib.Math.min.name Lib.Math.min.code 2 (some .int) ∈ lw_good := g_tab 573 (by decide +kernel) rfl
theorem kmi : Cond.initialized "java/lang/Math" ∈ lw_good := g_tab 17 (by decide +kernel) rfl
theorem kan : Cond.native arraycopyName ∈ lw_good := g_tab 422 (by decide +kernel) rfl
theorem kas : Cond.static arraycopyName ∈ lw_good := g_tab 421 (by decide +kernel) rfl
theorem kai : Cond.initialized "java/lang/System" ∈ lw_good := g_tab 13 (by decide +kernel) rfl
theorem ks_X7_72 : Cond.fieldLink RX7 72 RX7 "WORDS" "[J" ∈ lw_good := g_tab 530 (by decide +kernel) rfl
theorem ks_J0_9 : Cond.fieldLink RJ0 9 "java/lang/String" "value" "[B" ∈ lw_good := g_tab 1964 (by decide +kernel) rfl
theorem ks_J0_15 : Cond.fieldLink RJ0 15 "java/lang/String" "coder" "B" ∈ lw_good := g_tab 1963 (by decide +kernel) rfl
theorem ks_J0_38 : Cond.fieldLink RJ0 38 "java/lang/String" "COMPACT_STRINGS" "Z" ∈ lw_good := g_tab 552 (by decide +kernel) rfl
theorem g_rm {a b n : Nat} (h : a + 1 ≤ b) (hn : n ≤ 21) : a + 1 ≤ (gRm b).frames ∧ 8 + (n + 11) + 40 * a ≤ (gRm b).locals := ⟨h, by show 8 + (n + 11) + 40 * a ≤ 40 * b; omega⟩
section G2
variable {p : Program} {l : Launch} {e : Env} {R : Room} {s : State} {m : MethodId} {args : Array Value} {below : List Frame} {meth : Method} {c : Code} {H : Heap} {locs : List Loc} {cells slots : Nat} {Q : State → Prop}
variable {cc : ByteArray} {pc nL : Nat} {ls : Array Slot} {rest : List Value} {D : va_G} {cA : Nat → ClassId} {ad : Nat → Nat} {w k : Nat} {st st' : gS} {own : String}
variable {cn N : Nat} {T : u_T} {idx : Nat} {y : MethodName} {bytes : ByteArray} {maxL n L : Nat} {ret : Option FieldType} {As : List Value}
theorem g_callVi {r : Int32} (C : CallFix p m c cc nL s args lw_good own) (U : gU w D cA ad s) (hH : gP0 w D cA ad st H) (hS : va_S (gA w ad) s.heap H locs) (hsz : ls.size = nL) (hk : gK w k = cn) (hc : vwCl[cn]? = some (y.cls, T, N)) (h20 : cn < 20)
    (hM : gM l y bytes maxL ret L w D cA ad st (.ref (ad k) :: As) (some (.int r)) st') (Y : gYv y bytes maxL ret n) (hl : Cond.methodLink own idx y ∈ lw_good) (hroom : L + 1 ≤ R.frames ∧ 8 + (maxL + 11) + 40 * L ≤ R.locals) (hf : cells ≤ R.cells ∧ slots ≤ R.slots) (hn : As.length = n) (hW : (rest.map fun v => v.category).sum ≤ 8) (hdg : decode cc pc = .ok (.invokevirtual idx, 3))
    {stk : List Value} (hstk : stk = As.reverse ++ .ref (ad k) :: rest)
    (kk : ∀ (H1 : Heap) (locs1 : List Loc), gP0 w D cA ad st' H1 → va_S (gA w ad) s.heap H1 locs1 → W p l e R s m args below meth c H1 locs1 cells slots Q (F0 m (pc + 3) ls (.int r :: rest))) : W p l e R s m args below meth c H locs cells slots Q (F0 m pc ls stk) :=
  g_callV C U hH hS hsz rfl hk hc h20 hM Y hl hroom hf hn hW hdg hstk kk
theorem g_callVr {r : Nat} (C : CallFix p m c cc nL s args lw_good own) (U : gU w D cA ad s) (hH : gP0 w D cA ad st H) (hS : va_S (gA w ad) s.heap H locs) (hsz : ls.size = nL) (hk : gK w k = cn) (hc : vwCl[cn]? = some (y.cls, T, N)) (h20 : cn < 20)
    (hM : gM l y bytes maxL ret L w D cA ad st (.ref (ad k) :: As) (some (.ref (ad r))) st') (Y : gYv y bytes maxL ret n) (hl : Cond.methodLink own idx y ∈ lw_good) (hroom : L + 1 ≤ R.frames ∧ 8 + (maxL + 11) + 40 * L ≤ R.locals) (hf : cells ≤ R.cells ∧ slots ≤ R.slots) (hn : As.length = n) (hW : (rest.map fun v => v.category).sum ≤ 8) (hdg : decode cc pc = .ok (.invokevirtual idx, 3))
    {stk : List Value} (hstk : stk = As.reverse ++ .ref (ad k) :: rest)
    (kk : ∀ (H1 : Heap) (locs1 : List Loc), gP0 w D cA ad st' H1 → va_S (gA w ad) s.heap H1 locs1 → W p l e R s m args below meth c H1 locs1 cells slots Q (F0 m (pc + 3) ls (.ref (ad r) :: rest))) : W p l e R s m args below meth c H locs cells slots Q (F0 m pc ls stk) :=
  g_callV C U hH hS hsz rfl hk hc h20 hM Y hl hroom hf hn hW hdg hstk kk
theorem g_callVv (C : CallFix p m c cc nL s args lw_good own) (U : gU w D cA ad s) (hH : gP0 w D cA ad st H) (hS : va_S (gA w ad) s.heap H locs) (hsz : ls.size = nL) (hk : gK w k = cn) (hc : vwCl[cn]? = some (y.cls, T, N)) (h20 : cn < 20)
    (hM : gM l y bytes maxL ret L w D cA ad st (.ref (ad k) :: As) none st') (Y : gYv y bytes maxL ret n) (hl : Cond.methodLink own idx y ∈ lw_good) (hroom : L + 1 ≤ R.frames ∧ 8 + (maxL + 11) + 40 * L ≤ R.locals) (hf : cells ≤ R.cells ∧ slots ≤ R.slots) (hn : As.length = n) (hW : (rest.map fun v => v.category).sum ≤ 8) (hdg : decode cc pc = .ok (.invokevirtual idx, 3))
    {stk : List Value} (hstk : stk = As.reverse ++ .ref (ad k) :: rest)
    (kk : ∀ (H1 : Heap) (locs1 : List Loc), gP0 w D cA ad st' H1 → va_S (gA w ad) s.heap H1 locs1 → W p l e R s m args below meth c H1 locs1 cells slots Q (F0 m (pc + 3) ls rest)) : W p l e R s m args below meth c H locs cells slots Q (F0 m pc ls stk) :=
  g_callV C U hH hS hsz rfl hk hc h20 hM Y hl hroom hf hn hW hdg hstk kk
theorem g_callSi {r : Int32} (C : CallFix p m c cc nL s args lw_good own) (U : gU w D cA ad s) (hH : gP0 w D cA ad st H) (hS : va_S (gA w ad) s.heap H locs) (hsz : ls.size = nL)
    (hM : gM l y bytes maxL ret L w D cA ad st As (some (.int r)) st') (Y : gYs y bytes maxL ret n) (hl : Cond.methodLink own idx y ∈ lw_good) (hroom : L + 1 ≤ R.frames ∧ 8 + (maxL + 11) + 40 * L ≤ R.locals) (hf : cells ≤ R.cells ∧ slots ≤ R.slots) (hn : As.length = n) (hW : (rest.map fun v => v.category).sum ≤ 8) (hdg : decode cc pc = .ok (.invokestatic idx, 3))
    {stk : List Value} (hstk : stk = As.reverse ++ rest)
    (kk : ∀ (H1 : Heap) (locs1 : List Loc), gP0 w D cA ad st' H1 → va_S (gA w ad) s.heap H1 locs1 → W p l e R s m args below meth c H1 locs1 cells slots Q (F0 m (pc + 3) ls (.int r :: rest))) : W p l e R s m args below meth c H locs cells slots Q (F0 m pc ls stk) :=
  g_callS C U hH hS hsz hM Y hl hroom hf hn hW hdg hstk kk
theorem g_callSv (C : CallFix p m c cc nL s args lw_good own) (U : gU w D cA ad s) (hH : gP0 w D cA ad st H) (hS : va_S (gA w ad) s.heap H locs) (hsz : ls.size = nL)
    (hM : gM l y bytes maxL ret L w D cA ad st As none st') (Y : gYs y bytes maxL ret n) (hl : Cond.methodLink own idx y ∈ lw_good) (hroom : L + 1 ≤ R.frames ∧ 8 + (maxL + 11) + 40 * L ≤ R.locals) (hf : cells ≤ R.cells ∧ slots ≤ R.slots) (hn : As.length = n) (hW : (rest.map fun v => v.category).sum ≤ 8) (hdg : decode cc pc = .ok (.invokestatic idx, 3))
    {stk : List Value} (hstk : stk = As.reverse ++ rest)
    (kk : ∀ (H1 : Heap) (locs1 : List Loc), gP0 w D cA ad st' H1 → va_S (gA w ad) s.heap H1 locs1 → W p l e R s m args below meth c H1 locs1 cells slots Q (F0 m (pc + 3) ls rest)) : W p l e R s m args below meth c H locs cells slots Q (F0 m pc ls stk) :=
  g_callS C U hH hS hsz hM Y hl hroom hf hn hW hdg hstk kk
theorem g_tswI (hexec : p.tables.exec = Jvm.exec) (hb : c.code = cc) {dflt lo hi : Int} {offs : Array Int} {len : Nat} {x v : Int32} {off : Int} {tgt : Nat} (h : x = v) (hdg : decode cc pc = .ok (.tableswitch dflt lo hi offs, len)) (h1 : ¬ v.toInt < lo) (h2 : ¬ hi < v.toInt) (ho : offs[(v.toInt - lo).toNat]? = some off) (ht : (pc : Int) + off = (tgt : Int))
    (k : W p l e R s m args below meth c H locs cells slots Q (F0 m tgt ls rest)) : W p l e R s m args below meth c H locs cells slots Q (F0 m pc ls (.int x :: rest)) := by
  subst h
  exact lv_tableIn hexec hb hdg h1 h2 ho ht k
theorem g_tswO (hexec : p.tables.exec = Jvm.exec) (hb : c.code = cc) {dflt lo hi : Int} {offs : Array Int} {len n : Nat} {x : Int32} {tgt : Nat} (hdg : decode cc pc = .ok (.tableswitch dflt lo hi offs, len)) (h : ∀ j : Nat, j < n → ¬ x = Int32.ofInt (lo + (j : Int))) (hn : lo + (n : Int) = hi + 1) (ht : (pc : Int) + dflt = (tgt : Int))
    (k : W p l e R s m args below meth c H locs cells slots Q (F0 m tgt ls rest)) : W p l e R s m args below meth c H locs cells slots Q (F0 m pc ls (.int x :: rest)) := by
  refine lv_tableOut hexec hb hdg ?_ ht k
  rcases Int.lt_or_le x.toInt lo with h1 | h1
  · exact Or.inl h1
  · refine Or.inr (Int.not_le.mp fun h2 => ?_)
    refine h (x.toInt - lo).toNat (by omega) ?_
    have e : lo + (((x.toInt - lo).toNat : Nat) : Int) = x.toInt := by omega
    rw [e, Int32.ofInt_toInt]
theorem g_tswD (hexec : p.tables.exec = Jvm.exec) (hb : c.code = cc) {dflt lo hi : Int} {offs : Array Int} {len n : Nat} {x : Int32} {tgt : Nat} (hdg : decode cc pc = .ok (.tableswitch dflt lo hi offs, len)) (h : ∀ j : Nat, j < n → x = Int32.ofInt (lo + (j : Int)) → offs[j]? = some dflt) (hn : lo + (n : Int) = hi + 1) (ht : (pc : Int) + dflt = (tgt : Int))
    (k : W p l e R s m args below meth c H locs cells slots Q (F0 m tgt ls rest)) : W p l e R s m args below meth c H locs cells slots Q (F0 m pc ls (.int x :: rest)) := by
  by_cases h1 : x.toInt < lo
  · exact lv_tableOut hexec hb hdg (Or.inl h1) ht k
  · by_cases h2 : hi < x.toInt
    · exact lv_tableOut hexec hb hdg (Or.inr h2) ht k
    · refine lv_tableIn hexec hb hdg h1 h2 (h _ (by omega) ?_) ht k
      have e : lo + (((x.toInt - lo).toNat : Nat) : Int) = x.toInt := by omega
      rw [e, Int32.ofInt_toInt]
theorem g_lswI (hexec : p.tables.exec = Jvm.exec) (hb : c.code = cc) {dflt : Int} {ps : Array (Int × Int)} {len : Nat} {x v : Int32} {off : Int} {tgt : Nat} (h : x = v) (hdg : decode cc pc = .ok (.lookupswitch dflt ps, len)) (hp : (ps.toList.zip (ps.toList.drop 1)).all (fun (a, next) => a.1 < next.1) = true) (ho : Op.lookupswitch.offset ps.toList dflt v.toInt = off) (ht : (pc : Int) + off = (tgt : Int))
    (k : W p l e R s m args below meth c H locs cells slots Q (F0 m tgt ls rest)) : W p l e R s m args below meth c H locs cells slots Q (F0 m pc ls (.int x :: rest)) := by
  subst h
  exact lv_lookup hexec hb hdg hp ho ht k
theorem g_lswO (hexec : p.tables.exec = Jvm.exec) (hb : c.code = cc) {dflt : Int} {ps : Array (Int × Int)} {len : Nat} {x : Int32} {tgt : Nat} (hdg : decode cc pc = .ok (.lookupswitch dflt ps, len)) (hp : (ps.toList.zip (ps.toList.drop 1)).all (fun (a, next) => a.1 < next.1) = true) (ho : Op.lookupswitch.offset ps.toList dflt x.toInt = dflt) (ht : (pc : Int) + dflt = (tgt : Int))
    (k : W p l e R s m args below meth c H locs cells slots Q (F0 m tgt ls rest)) : W p l e R s m args below meth c H locs cells slots Q (F0 m pc ls (.int x :: rest)) :=
  lv_lookup hexec hb hdg hp ho ht k
theorem g_copy {k0 k1 n0 n1 : Nat} (C : CallFix p m c cc nL s args lw_good own) (U : gU w D cA ad s) (hH : gP0 w D cA ad st H) (hS : va_S (gA w ad) s.heap H locs) (hsz : ls.size = nL) (hlink : (Cond.methodLink own idx arraycopyName).before args s = true) (hnat : (Cond.native arraycopyName).before args s = true) (hstat : (Cond.static arraycopyName).before args s = true) (hini : (Cond.initialized "java/lang/System").before args s = true)
    (hk0 : gK w k0 = 20) (hn0 : gN w k0 = n0) (hk1 : gK w k1 = 20) (hn1 : gN w k1 = n1) {sp dp n : Int32} (a b d : Nat) (ea : sp.toNatClampNeg = a) (eb : dp.toNatClampNeg = b) (ed : n.toNatClampNeg = d) (h1 : ¬ sp < 0) (h2 : ¬ dp < 0) (h3 : ¬ n < 0) (h4 : a + d ≤ n0) (h5 : b + d ≤ n1) (hframes : 1 ≤ R.frames) (hlocals : (rest.map fun v => v.category).sum + (nativeFrameWords "java/lang/System" "arraycopy" 5 + 11) ≤ R.locals) (hdg : decode cc pc = .ok (.invokestatic idx, 3))
    (kk : ∀ (H1 : Heap) (locs1 : List Loc), gP0 w D cA ad (wa st k1 (va_cpy (st.1 k0) (st.1 k1) a b d)) H1 → va_S (gA w ad) s.heap H1 locs1 → W p l e R s m args below meth c H1 locs1 cells slots Q (F0 m (pc + 3) ls rest)) : W p l e R s m args below meth c H locs cells slots Q (F0 m pc ls (.int n :: .int dp :: .ref (ad k1) :: .int sp :: .ref (ad k0) :: rest)) := by
  subst ea; subst eb; subst ed
  exact va_copyi C.1 C.2.1 (C.2.2.1.trans hsz.symm) C.2.2.2.1 hlink hnat hstat hini U.1 hH (U.D st) hS k0 k1 0 0 (ty := .int) (gW_arr hk0 hn0 (by decide) (by decide)) (gW_arr hk1 hn1 (by decide) (by decide)) rfl rfl rfl h1 h2 h3 h4 h5 (fun _ _ => rfl) hframes hlocals hdg
    (fun H1 locs1 hP _ hS => kk H1 locs1 (by rw [gW_asa hk1 hn1 (by decide) (by decide)] at hP; exact hP) hS)
end G2
section G3
variable {p : Program} {l : Launch} {e : Env} {R : Room} {s : State} {m : MethodId} {args : Array Value} {below : List Frame} {meth : Method} {c : Code} {H : Heap} {locs : List Loc} {cells slots : Nat} {Q : State → Prop}
variable {cc : ByteArray} {pc nL : Nat} {ls : Array Slot} {rest : List Value} {D : va_G} {cA : Nat → ClassId} {ad : Nat → Nat} {w b : Nat} {st st' : gS} {own : String}
variable {idx : Nat} {y : MethodName} {bytes : ByteArray} {maxL n L : Nat} {ret : Option FieldType} {As : List Value}
theorem g_callVs {r : Int32} (C : CallFix p m c cc nL s args lw_good own) (U : gU w D cA ad s) (hH : gP0 w D cA ad st H) (hS : va_S (gA w ad) s.heap H locs) (hsz : ls.size = nL) (hrecv : ∃ cell : Cell, H[b]? = some cell ∧ cell.vm.isStatics = false ∧ s.vm.findClass y.cls = some cell.cls)
    (hM : gM l y bytes maxL ret L w D cA ad st (.ref b :: As) (some (.int r)) st') (Y : gYv y bytes maxL ret n) (hl : Cond.methodLink own idx y ∈ lw_good) (hroom : L + 1 ≤ R.frames ∧ 8 + (maxL + 11) + 40 * L ≤ R.locals) (hf : cells ≤ R.cells ∧ slots ≤ R.slots) (hn : As.length = n) (hW : (rest.map fun v => v.category).sum ≤ 8) (hdg : decode cc pc = .ok (.invokevirtual idx, 3))
    {stk : List Value} (hstk : stk = As.reverse ++ .ref b :: rest)
    (kk : ∀ (H1 : Heap) (locs1 : List Loc), gP0 w D cA ad st' H1 → va_S (gA w ad) s.heap H1 locs1 → W p l e R s m args below meth c H1 locs1 cells slots Q (F0 m (pc + 3) ls (.int r :: rest))) : W p l e R s m args below meth c H locs cells slots Q (F0 m pc ls stk) := by
  obtain ⟨y1, y2, y3, y4, y5, y6, y7⟩ := Y
  have hts := C.2.2.2.2
  have cw : CallW R s args own y.cls idx y bytes maxL ret (gws y bytes maxL ret) (gRm L) 0 0 n :=
    cwV n hts (lw_good_in (fun w h => by
      rcases List.mem_append.mp h with h | h
      · simp only [List.mem_cons, List.not_mem_nil, or_false] at h
        rcases h with rfl | rfl | rfl | rfl
        · exact hl
        · exact y1
        · exact y2
        · exact y3
      · rcases List.mem_cons.mp h with rfl | h
        · exact y4
        · exact h)) rfl rfl rfl ⟨rfl, y5, y6, y7⟩ hroom
  have hp : PreV s H y.cls b (gPc w D cA ad st (.ref b :: As)) As :=
    ⟨gPc.blind, hrecv, fun u hu hW => ⟨rfl, U.call hS hW hu, by rw [hu]; exact hH⟩⟩
  exact g_after (A1 := gA w ad) (va_runV (As := As) (rest := rest) C hM cw hp rfl hn hsz hstk (lv_room hW) hdg (by simpa using hf)) hS kk
theorem g_bret {r : Int32} {v : Int32} {st' : gS} (C : CallFix p m c cc nL s args lw_good own) (hr : meth.sig.returnType = some .byte) (hlk : meth.locks = false) (hH : gP0 w D cA ad st H) (hS : va_S (gA w ad) s.heap H locs) (hb : narrow .byte (.int v) = .int v) (hf : (some (v, st) : Option (Int32 × gS)) = some (r, st')) (hdg : decode cc pc = .ok (.ireturn, 1)) :
    W p l e R s m args below meth c H locs 0 0 (MQ below (gQc w D cA ad st' (some (.int r))) args s 0 0 (gA w ad)) (F0 m pc ls [.int v]) := by
  cases hf
  exact W.zret C.1 C.2.1 hr hb (fun t ht _ => ⟨rfl, by rw [ht]; exact hH, hS.F ht⟩) hS.2.2 hdg hlk
end G3
