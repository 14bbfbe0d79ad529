/-! each method: its instructions -/
set_option maxRecDepth 100000 in
theorem aOk_0 : aOk 0 = true := by decide +kernel
set_option maxRecDepth 100000 in
theorem aOk_1 : aOk 1 = true := by decide +kernel
set_option maxRecDepth 100000 in
theorem aOk_2 : aOk 2 = true := by decide +kernel
set_option maxRecDepth 100000 in
theorem aOk_3 : aOk 3 = true := by decide +kernel
set_option maxRecDepth 100000 in
theorem aOk_4 : aOk 4 = true := by decide +kernel
set_option maxRecDepth 100000 in
theorem aOk_5 : aOk 5 = true := by decide +kernel
set_option maxRecDepth 100000 in
theorem aOk_6 : aOk 6 = true := by decide +kernel
set_option maxRecDepth 100000 in
theorem aOk_7 : aOk 7 = true := by decide +kernel
set_option maxRecDepth 100000 in
theorem aOk_8 : aOk 8 = true := by decide +kernel
set_option maxRecDepth 100000 in
theorem aOk_9 : aOk 9 = true := by decide +kernel
set_option maxRecDepth 100000 in
theorem aOk_10 : aOk 10 = true := by decide +kernel
set_option maxRecDepth 100000 in
theorem aOk_11 : aOk 11 = true := by decide +kernel
set_option maxRecDepth 100000 in
theorem aOk_12 : aOk 12 = true := by decide +kernel
set_option maxRecDepth 100000 in
theorem aOk_13 : aOk 13 = true := by decide +kernel
set_option maxRecDepth 100000 in
theorem aOk_14 : aOk 14 = true := by decide +kernel
set_option maxRecDepth 100000 in
theorem aOk_15 : aOk 15 = true := by decide +kernel
set_option maxRecDepth 100000 in
theorem aOk_16 : aOk 16 = true := by decide +kernel
set_option maxRecDepth 100000 in
theorem aOk_17 : aOk 17 = true := by decide +kernel
set_option maxRecDepth 100000 in
theorem aOk_18 : aOk 18 = true := by decide +kernel
set_option maxRecDepth 100000 in
theorem aOk_19 : aOk 19 = true := by decide +kernel
set_option maxRecDepth 100000 in
theorem aOk_20 : aOk 20 = true := by decide +kernel
set_option maxRecDepth 100000 in
theorem aOk_21 : aOk 21 = true := by decide +kernel
set_option maxRecDepth 100000 in
theorem aOk_22 : aOk 22 = true := by decide +kernel
set_option maxRecDepth 100000 in
theorem aOk_23 : aOk 23 = true := by decide +kernel
set_option maxRecDepth 100000 in
theorem aOk_24 : aOk 24 = true := by decide +kernel
set_option maxRecDepth 100000 in
theorem aOk_25 : aOk 25 = true := by decide +kernel
set_option maxRecDepth 100000 in
theorem aOk_26 : aOk 26 = true := by decide +kernel
set_option maxRecDepth 100000 in
theorem aOk_27 : aOk 27 = true := by decide +kernel
set_option maxRecDepth 100000 in
theorem aOk_28 : aOk 28 = true := by decide +kernel
set_option maxRecDepth 100000 in
theorem aOk_29 : aOk 29 = true := by decide +kernel
set_option maxRecDepth 100000 in
theorem aOk_30 : aOk 30 = true := by decide +kernel
set_option maxRecDepth 100000 in
theorem aOk_31 : aOk 31 = true := by decide +kernel
set_option maxRecDepth 100000 in
theorem aOk_32 : aOk 32 = true := by decide +kernel
set_option maxRecDepth 100000 in
theorem aOk_33 : aOk 33 = true := by decide +kernel
set_option maxRecDepth 100000 in
theorem aOk_34 : aOk 34 = true := by decide +kernel
set_option maxRecDepth 100000 in
theorem aOk_35 : aOk 35 = true := by decide +kernel
set_option maxRecDepth 100000 in
theorem aOk_36 : aOk 36 = true := by decide +kernel
set_option maxRecDepth 100000 in
theorem aOk_37 : aOk 37 = true := by decide +kernel
set_option maxRecDepth 100000 in
theorem aOk_38 : aOk 38 = true := by decide +kernel
set_option maxRecDepth 100000 in
theorem aOk_39 : aOk 39 = true := by decide +kernel
set_option maxRecDepth 100000 in
theorem aOk_40 : aOk 40 = true := by decide +kernel
set_option maxRecDepth 100000 in
theorem aOk_41 : aOk 41 = true := by decide +kernel
set_option maxRecDepth 100000 in
theorem aOk_42 : aOk 42 = true := by decide +kernel
set_option maxRecDepth 100000 in
theorem aOk_43 : aOk 43 = true := by decide +kernel
set_option maxRecDepth 100000 in
theorem aOk_44 : aOk 44 = true := by decide +kernel
set_option maxRecDepth 100000 in
theorem aOk_45 : aOk 45 = true := by decide +kernel
set_option maxRecDepth 100000 in
theorem aOk_46 : aOk 46 = true := by decide +kernel
set_option maxRecDepth 100000 in
theorem aOk_47 : aOk 47 = true := by decide +kernel
set_option maxRecDepth 100000 in
theorem aOk_48 : aOk 48 = true := by decide +kernel
set_option maxRecDepth 100000 in
theorem aOk_49 : aOk 49 = true := by decide +kernel
set_option maxRecDepth 100000 in
theorem aOk_50 : aOk 50 = true := by decide +kernel
set_option maxRecDepth 100000 in
theorem aOk_51 : aOk 51 = true := by decide +kernel
set_option maxRecDepth 100000 in
theorem aOk_52 : aOk 52 = true := by decide +kernel
set_option maxRecDepth 100000 in
theorem aOk_53 : aOk 53 = true := by decide +kernel
set_option maxRecDepth 100000 in
theorem aOk_54 : aOk 54 = true := by decide +kernel
set_option maxRecDepth 100000 in
theorem aOk_55 : aOk 55 = true := by decide +kernel
set_option maxRecDepth 100000 in
theorem aOk_56 : aOk 56 = true := by decide +kernel
set_option maxRecDepth 100000 in
theorem aOk_57 : aOk 57 = true := by decide +kernel
set_option maxRecDepth 100000 in
theorem aOk_58 : aOk 58 = true := by decide +kernel
set_option maxRecDepth 100000 in
theorem aOk_59 : aOk 59 = true := by decide +kernel
set_option maxRecDepth 100000 in
theorem aOk_60 : aOk 60 = true := by decide +kernel
set_option maxRecDepth 100000 in
theorem aOk_61 : aOk 61 = true := by decide +kernel
set_option maxRecDepth 100000 in
theorem aOk_62 : aOk 62 = true := by decide +kernel
set_option maxRecDepth 100000 in
theorem aOk_63 : aOk 63 = true := by decide +kernel
set_option maxRecDepth 100000 in
theorem aOk_64 : aOk 64 = true := by decide +kernel
set_option maxRecDepth 100000 in
theorem aOk_65 : aOk 65 = true := by decide +kernel
set_option maxRecDepth 100000 in
theorem aOk_66 : aOk 66 = true := by decide +kernel
set_option maxRecDepth 100000 in
theorem aOk_67 : aOk 67 = true := by decide +kernel
set_option maxRecDepth 100000 in
theorem aOk_68 : aOk 68 = true := by decide +kernel
set_option maxRecDepth 100000 in
theorem aOk_69 : aOk 69 = true := by decide +kernel
set_option maxRecDepth 100000 in
theorem aOk_70 : aOk 70 = true := by decide +kernel
set_option maxRecDepth 100000 in
theorem aOk_71 : aOk 71 = true := by decide +kernel
set_option maxRecDepth 100000 in
theorem aOk_72 : aOk 72 = true := by decide +kernel
set_option maxRecDepth 100000 in
theorem aOk_73 : aOk 73 = true := by decide +kernel
set_option maxRecDepth 100000 in
theorem aOk_74 : aOk 74 = true := by decide +kernel
set_option maxRecDepth 100000 in
theorem aOk_75 : aOk 75 = true := by decide +kernel
set_option maxRecDepth 100000 in
theorem aOk_76 : aOk 76 = true := by decide +kernel
set_option maxRecDepth 100000 in
theorem aOk_77 : aOk 77 = true := by decide +kernel
set_option maxRecDepth 100000 in
theorem aOk_78 : aOk 78 = true := by decide +kernel
set_option maxRecDepth 100000 in
theorem aOk_79 : aOk 79 = true := by decide +kernel
set_option maxRecDepth 100000 in
theorem aOk_80 : aOk 80 = true := by decide +kernel
set_option maxRecDepth 100000 in
theorem aOk_81 : aOk 81 = true := by decide +kernel
set_option maxRecDepth 100000 in
theorem aOk_82 : aOk 82 = true := by decide +kernel
set_option maxRecDepth 100000 in
theorem aOk_83 : aOk 83 = true := by decide +kernel
set_option maxRecDepth 100000 in
theorem aOk_84 : aOk 84 = true := by decide +kernel
set_option maxRecDepth 100000 in
theorem aOk_85 : aOk 85 = true := by decide +kernel
set_option maxRecDepth 100000 in
theorem aOk_86 : aOk 86 = true := by decide +kernel
set_option maxRecDepth 100000 in
theorem aOk_87 : aOk 87 = true := by decide +kernel
set_option maxRecDepth 100000 in
theorem aOk_88 : aOk 88 = true := by decide +kernel
set_option maxRecDepth 100000 in
theorem aOk_89 : aOk 89 = true := by decide +kernel
set_option maxRecDepth 100000 in
theorem aOk_90 : aOk 90 = true := by decide +kernel
set_option maxRecDepth 100000 in
theorem aOk_91 : aOk 91 = true := by decide +kernel
set_option maxRecDepth 100000 in
theorem aOk_92 : aOk 92 = true := by decide +kernel
set_option maxRecDepth 100000 in
theorem aOk_93 : aOk 93 = true := by decide +kernel
set_option maxRecDepth 100000 in
theorem aOk_94 : aOk 94 = true := by decide +kernel
set_option maxRecDepth 100000 in
theorem aOk_95 : aOk 95 = true := by decide +kernel
set_option maxRecDepth 100000 in
theorem aOk_96 : aOk 96 = true := by decide +kernel
set_option maxRecDepth 100000 in
theorem aOk_97 : aOk 97 = true := by decide +kernel
set_option maxRecDepth 100000 in
theorem aOk_98 : aOk 98 = true := by decide +kernel
set_option maxRecDepth 100000 in
theorem aOk_99 : aOk 99 = true := by decide +kernel
set_option maxRecDepth 100000 in
theorem aOk_100 : aOk 100 = true := by decide +kernel
set_option maxRecDepth 100000 in
theorem aOk_101 : aOk 101 = true := by decide +kernel
set_option maxRecDepth 100000 in
theorem aOk_102 : aOk 102 = true := by decide +kernel
set_option maxRecDepth 100000 in
theorem aOk_103 : aOk 103 = true := by decide +kernel
set_option maxRecDepth 100000 in
theorem aOk_104 : aOk 104 = true := by decide +kernel
set_option maxRecDepth 100000 in
theorem aOk_105 : aOk 105 = true := by decide +kernel
set_option maxRecDepth 100000 in
theorem aOk_106 : aOk 106 = true := by decide +kernel
set_option maxRecDepth 100000 in
theorem aOk_107 : aOk 107 = true := by decide +kernel
set_option maxRecDepth 100000 in
theorem aOk_108 : aOk 108 = true := by decide +kernel
set_option maxRecDepth 100000 in
theorem aOk_109 : aOk 109 = true := by decide +kernel
set_option maxRecDepth 100000 in
theorem aOk_110 : aOk 110 = true := by decide +kernel
set_option maxRecDepth 100000 in
theorem aOk_111 : aOk 111 = true := by decide +kernel
set_option maxRecDepth 100000 in
theorem aOk_112 : aOk 112 = true := by decide +kernel
set_option maxRecDepth 100000 in
theorem aOk_113 : aOk 113 = true := by decide +kernel
set_option maxRecDepth 100000 in
theorem aOk_114 : aOk 114 = true := by decide +kernel
set_option maxRecDepth 100000 in
theorem aOk_115 : aOk 115 = true := by decide +kernel
set_option maxRecDepth 100000 in
theorem aOk_116 : aOk 116 = true := by decide +kernel
set_option maxRecDepth 100000 in
theorem aOk_117 : aOk 117 = true := by decide +kernel
set_option maxRecDepth 100000 in
theorem aOk_118 : aOk 118 = true := by decide +kernel
set_option maxRecDepth 100000 in
theorem aOk_119 : aOk 119 = true := by decide +kernel
set_option maxRecDepth 100000 in
theorem aOk_120 : aOk 120 = true := by decide +kernel
set_option maxRecDepth 100000 in
theorem aOk_121 : aOk 121 = true := by decide +kernel
set_option maxRecDepth 100000 in
theorem aOk_122 : aOk 122 = true := by decide +kernel
set_option maxRecDepth 100000 in
theorem aOk_123 : aOk 123 = true := by decide +kernel
set_option maxRecDepth 100000 in
theorem aOk_124 : aOk 124 = true := by decide +kernel
set_option maxRecDepth 100000 in
theorem aOk_125 : aOk 125 = true := by decide +kernel
set_option maxRecDepth 100000 in
theorem aOk_126 : aOk 126 = true := by decide +kernel
set_option maxRecDepth 100000 in
theorem aOk_127 : aOk 127 = true := by decide +kernel
set_option maxRecDepth 100000 in
theorem aOk_128 : aOk 128 = true := by decide +kernel
set_option maxRecDepth 100000 in
theorem aOk_129 : aOk 129 = true := by decide +kernel
set_option maxRecDepth 100000 in
theorem aOk_130 : aOk 130 = true := by decide +kernel
set_option maxRecDepth 100000 in
theorem aOk_131 : aOk 131 = true := by decide +kernel
set_option maxRecDepth 100000 in
theorem aOk_132 : aOk 132 = true := by decide +kernel
set_option maxRecDepth 100000 in
theorem aOk_133 : aOk 133 = true := by decide +kernel
set_option maxRecDepth 100000 in
theorem aOk_134 : aOk 134 = true := by decide +kernel
set_option maxRecDepth 100000 in
theorem aOk_135 : aOk 135 = true := by decide +kernel
set_option maxRecDepth 100000 in
theorem aOk_136 : aOk 136 = true := by decide +kernel
set_option maxRecDepth 100000 in
theorem aOk_137 : aOk 137 = true := by decide +kernel
set_option maxRecDepth 100000 in
theorem aOk_138 : aOk 138 = true := by decide +kernel
set_option maxRecDepth 100000 in
theorem aOk_139 : aOk 139 = true := by decide +kernel
set_option maxRecDepth 100000 in
theorem aOk_140 : aOk 140 = true := by decide +kernel
set_option maxRecDepth 100000 in
theorem aOk_141 : aOk 141 = true := by decide +kernel
set_option maxRecDepth 100000 in
theorem aOk_142 : aOk 142 = true := by decide +kernel
set_option maxRecDepth 100000 in
theorem aOk_143 : aOk 143 = true := by decide +kernel
set_option maxRecDepth 100000 in
theorem aOk_144 : aOk 144 = true := by decide +kernel
set_option maxRecDepth 100000 in
theorem aOk_145 : aOk 145 = true := by decide +kernel
set_option maxRecDepth 100000 in
theorem aOk_146 : aOk 146 = true := by decide +kernel
set_option maxRecDepth 100000 in
theorem aOk_147 : aOk 147 = true := by decide +kernel
set_option maxRecDepth 100000 in
theorem aOk_148 : aOk 148 = true := by decide +kernel
set_option maxRecDepth 100000 in
theorem aOk_149 : aOk 149 = true := by decide +kernel
set_option maxRecDepth 100000 in
theorem aOk_150 : aOk 150 = true := by decide +kernel
set_option maxRecDepth 100000 in
theorem aOk_151 : aOk 151 = true := by decide +kernel
set_option maxRecDepth 100000 in
theorem aOk_152 : aOk 152 = true := by decide +kernel
set_option maxRecDepth 100000 in
theorem aOk_153 : aOk 153 = true := by decide +kernel
set_option maxRecDepth 100000 in
theorem aOk_154 : aOk 154 = true := by decide +kernel
set_option maxRecDepth 100000 in
theorem aOk_155 : aOk 155 = true := by decide +kernel
set_option maxRecDepth 100000 in
theorem aOk_156 : aOk 156 = true := by decide +kernel
set_option maxRecDepth 100000 in
theorem aOk_157 : aOk 157 = true := by decide +kernel
set_option maxRecDepth 100000 in
theorem aOk_158 : aOk 158 = true := by decide +kernel
set_option maxRecDepth 100000 in
theorem aOk_159 : aOk 159 = true := by decide +kernel
set_option maxRecDepth 100000 in
theorem aOk_160 : aOk 160 = true := by decide +kernel
set_option maxRecDepth 100000 in
theorem aOk_161 : aOk 161 = true := by decide +kernel
set_option maxRecDepth 100000 in
theorem aOk_162 : aOk 162 = true := by decide +kernel
set_option maxRecDepth 100000 in
theorem aOk_163 : aOk 163 = true := by decide +kernel
set_option maxRecDepth 100000 in
theorem aOk_164 : aOk 164 = true := by decide +kernel
set_option maxRecDepth 100000 in
theorem aOk_165 : aOk 165 = true := by decide +kernel
set_option maxRecDepth 100000 in
theorem aOk_166 : aOk 166 = true := by decide +kernel
set_option maxRecDepth 100000 in
theorem aOk_167 : aOk 167 = true := by decide +kernel
set_option maxRecDepth 100000 in
theorem aOk_168 : aOk 168 = true := by decide +kernel
set_option maxRecDepth 100000 in
theorem aOk_169 : aOk 169 = true := by decide +kernel
set_option maxRecDepth 100000 in
theorem aOk_170 : aOk 170 = true := by decide +kernel
set_option maxRecDepth 100000 in
theorem aOk_171 : aOk 171 = true := by decide +kernel
set_option maxRecDepth 100000 in
theorem aOk_172 : aOk 172 = true := by decide +kernel
set_option maxRecDepth 100000 in
theorem aOk_173 : aOk 173 = true := by decide +kernel
set_option maxRecDepth 100000 in
theorem aOk_174 : aOk 174 = true := by decide +kernel
set_option maxRecDepth 100000 in
theorem aOk_175 : aOk 175 = true := by decide +kernel
set_option maxRecDepth 100000 in
theorem aOk_176 : aOk 176 = true := by decide +kernel
set_option maxRecDepth 100000 in
theorem aOk_177 : aOk 177 = true := by decide +kernel
set_option maxRecDepth 100000 in
theorem aOk_178 : aOk 178 = true := by decide +kernel
set_option maxRecDepth 100000 in
theorem aOk_179 : aOk 179 = true := by decide +kernel
set_option maxRecDepth 100000 in
theorem aOk_180 : aOk 180 = true := by decide +kernel
set_option maxRecDepth 100000 in
theorem aOk_181 : aOk 181 = true := by decide +kernel
set_option maxRecDepth 100000 in
theorem aOk_182 : aOk 182 = true := by decide +kernel
set_option maxRecDepth 100000 in
theorem aOk_183 : aOk 183 = true := by decide +kernel
set_option maxRecDepth 100000 in
theorem aOk_184 : aOk 184 = true := by decide +kernel
set_option maxRecDepth 100000 in
theorem aOk_185 : aOk 185 = true := by decide +kernel
set_option maxRecDepth 100000 in
theorem aOk_186 : aOk 186 = true := by decide +kernel
set_option maxRecDepth 100000 in
theorem aOk_187 : aOk 187 = true := by decide +kernel
set_option maxRecDepth 100000 in
theorem aOk_188 : aOk 188 = true := by decide +kernel
set_option maxRecDepth 100000 in
theorem aOk_189 : aOk 189 = true := by decide +kernel
set_option maxRecDepth 100000 in
theorem aOk_190 : aOk 190 = true := by decide +kernel
set_option maxRecDepth 100000 in
theorem aOk_191 : aOk 191 = true := by decide +kernel
set_option maxRecDepth 100000 in
theorem aOk_192 : aOk 192 = true := by decide +kernel
set_option maxRecDepth 100000 in
theorem aOk_193 : aOk 193 = true := by decide +kernel
set_option maxRecDepth 100000 in
theorem aOk_194 : aOk 194 = true := by decide +kernel
set_option maxRecDepth 100000 in
theorem aOk_195 : aOk 195 = true := by decide +kernel
set_option maxRecDepth 100000 in
theorem aOk_196 : aOk 196 = true := by decide +kernel
set_option maxRecDepth 100000 in
theorem aOk_197 : aOk 197 = true := by decide +kernel
set_option maxRecDepth 100000 in
theorem aOk_198 : aOk 198 = true := by decide +kernel
set_option maxRecDepth 100000 in
theorem aOk_199 : aOk 199 = true := by decide +kernel
set_option maxRecDepth 100000 in
theorem aOk_200 : aOk 200 = true := by decide +kernel
set_option maxRecDepth 100000 in
theorem aOk_201 : aOk 201 = true := by decide +kernel
set_option maxRecDepth 100000 in
theorem aOk_202 : aOk 202 = true := by decide +kernel
set_option maxRecDepth 100000 in
theorem aOk_203 : aOk 203 = true := by decide +kernel
set_option maxRecDepth 100000 in
theorem aOk_204 : aOk 204 = true := by decide +kernel
set_option maxRecDepth 100000 in
theorem aOk_205 : aOk 205 = true := by decide +kernel
set_option maxRecDepth 100000 in
theorem aOk_206 : aOk 206 = true := by decide +kernel
set_option maxRecDepth 100000 in
theorem aOk_207 : aOk 207 = true := by decide +kernel
set_option maxRecDepth 100000 in
theorem aOk_208 : aOk 208 = true := by decide +kernel
set_option maxRecDepth 100000 in
theorem aOk_209 : aOk 209 = true := by decide +kernel
set_option maxRecDepth 100000 in
theorem aOk_210 : aOk 210 = true := by decide +kernel
set_option maxRecDepth 100000 in
theorem aOk_211 : aOk 211 = true := by decide +kernel
set_option maxRecDepth 100000 in
theorem aOk_212 : aOk 212 = true := by decide +kernel
set_option maxRecDepth 100000 in
theorem aOk_213 : aOk 213 = true := by decide +kernel
set_option maxRecDepth 100000 in
theorem aOk_214 : aOk 214 = true := by decide +kernel
set_option maxRecDepth 100000 in
theorem aOk_215 : aOk 215 = true := by decide +kernel
set_option maxRecDepth 100000 in
theorem aOk_216 : aOk 216 = true := by decide +kernel
set_option maxRecDepth 100000 in
theorem aOk_217 : aOk 217 = true := by decide +kernel
set_option maxRecDepth 100000 in
theorem aOk_218 : aOk 218 = true := by decide +kernel
set_option maxRecDepth 100000 in
theorem aOk_219 : aOk 219 = true := by decide +kernel
set_option maxRecDepth 100000 in
theorem aOk_220 : aOk 220 = true := by decide +kernel
set_option maxRecDepth 100000 in
theorem aOk_221 : aOk 221 = true := by decide +kernel
set_option maxRecDepth 100000 in
theorem aOk_222 : aOk 222 = true := by decide +kernel
set_option maxRecDepth 100000 in
theorem aOk_223 : aOk 223 = true := by decide +kernel
set_option maxRecDepth 100000 in
theorem aOk_224 : aOk 224 = true := by decide +kernel
set_option maxRecDepth 100000 in
theorem aOk_225 : aOk 225 = true := by decide +kernel
set_option maxRecDepth 100000 in
theorem aOk_226 : aOk 226 = true := by decide +kernel
set_option maxRecDepth 100000 in
theorem aOk_227 : aOk 227 = true := by decide +kernel
set_option maxRecDepth 100000 in
theorem aOk_228 : aOk 228 = true := by decide +kernel
theorem aMok_c0 : ∀ i, i < 33 → aMok (0 + i) = true
  | 0, _ => aMok_0
  | 1, _ => aMok_1
  | 2, _ => aMok_2
  | 3, _ => aMok_3
  | 4, _ => aMok_4
  | 5, _ => aMok_5
  | 6, _ => aMok_6
  | 7, _ => aMok_7
  | 8, _ => aMok_8
  | 9, _ => aMok_9
  | 10, _ => aMok_10
  | 11, _ => aMok_11
  | 12, _ => aMok_12
  | 13, _ => aMok_13
  | 14, _ => aMok_14
  | 15, _ => aMok_15
  | 16, _ => aMok_16
  | 17, _ => aMok_17
  | 18, _ => aMok_18
  | 19, _ => aMok_19
  | 20, _ => aMok_20
  | 21, _ => aMok_21
  | 22, _ => aMok_22
  | 23, _ => aMok_23
  | 24, _ => aMok_24
  | 25, _ => aMok_25
  | 26, _ => aMok_26
  | 27, _ => aMok_27
  | 28, _ => aMok_28
  | 29, _ => aMok_29
  | 30, _ => aMok_30
  | 31, _ => aMok_31
  | 32, _ => aMok_32
  | n + 33, h => absurd h (by omega)
theorem aMok_c33 : ∀ i, i < 33 → aMok (33 + i) = true
  | 0, _ => aMok_33
  | 1, _ => aMok_34
  | 2, _ => aMok_35
  | 3, _ => aMok_36
  | 4, _ => aMok_37
  | 5, _ => aMok_38
  | 6, _ => aMok_39
  | 7, _ => aMok_40
  | 8, _ => aMok_41
  | 9, _ => aMok_42
  | 10, _ => aMok_43
  | 11, _ => aMok_44
  | 12, _ => aMok_45
  | 13, _ => aMok_46
  | 14, _ => aMok_47
  | 15, _ => aMok_48
  | 16, _ => aMok_49
  | 17, _ => aMok_50
  | 18, _ => aMok_51
  | 19, _ => aMok_52
  | 20, _ => aMok_53
  | 21, _ => aMok_54
  | 22, _ => aMok_55
  | 23, _ => aMok_56
  | 24, _ => aMok_57
  | 25, _ => aMok_58
  | 26, _ => aMok_59
  | 27, _ => aMok_60
  | 28, _ => aMok_61
  | 29, _ => aMok_62
  | 30, _ => aMok_63
  | 31, _ => aMok_64
  | 32, _ => aMok_65
  | n + 33, h => absurd h (by omega)
theorem aMok_c66 : ∀ i, i < 33 → aMok (66 + i) = true
  | 0, _ => aMok_66
  | 1, _ => aMok_67
  | 2, _ => aMok_68
  | 3, _ => aMok_69
  | 4, _ => aMok_70
  | 5, _ => aMok_71
  | 6, _ => aMok_72
  | 7, _ => aMok_73
  | 8, _ => aMok_74
  | 9, _ => aMok_75
  | 10, _ => aMok_76
  | 11, _ => aMok_77
  | 12, _ => aMok_78
  | 13, _ => aMok_79
  | 14, _ => aMok_80
  | 15, _ => aMok_81
  | 16, _ => aMok_82
  | 17, _ => aMok_83
  | 18, _ => aMok_84
  | 19, _ => aMok_85
  | 20, _ => aMok_86
  | 21, _ => aMok_87
  | 22, _ => aMok_88
  | 23, _ => aMok_89
  | 24, _ => aMok_90
  | 25, _ => aMok_91
  | 26, _ => aMok_92
  | 27, _ => aMok_93
  | 28, _ => aMok_94
  | 29, _ => aMok_95
  | 30, _ => aMok_96
  | 31, _ => aMok_97
  | 32, _ => aMok_98
  | n + 33, h => absurd h (by omega)
theorem aMok_c99 : ∀ i, i < 33 → aMok (99 + i) = true
  | 0, _ => aMok_99
  | 1, _ => aMok_100
  | 2, _ => aMok_101
  | 3, _ => aMok_102
  | 4, _ => aMok_103
  | 5, _ => aMok_104
  | 6, _ => aMok_105
  | 7, _ => aMok_106
  | 8, _ => aMok_107
  | 9, _ => aMok_108
  | 10, _ => aMok_109
  | 11, _ => aMok_110
  | 12, _ => aMok_111
  | 13, _ => aMok_112
  | 14, _ => aMok_113
  | 15, _ => aMok_114
  | 16, _ => aMok_115
  | 17, _ => aMok_116
  | 18, _ => aMok_117
  | 19, _ => aMok_118
  | 20, _ => aMok_119
  | 21, _ => aMok_120
  | 22, _ => aMok_121
  | 23, _ => aMok_122
  | 24, _ => aMok_123
  | 25, _ => aMok_124
  | 26, _ => aMok_125
  | 27, _ => aMok_126
  | 28, _ => aMok_127
  | 29, _ => aMok_128
  | 30, _ => aMok_129
  | 31, _ => aMok_130
  | 32, _ => aMok_131
  | n + 33, h => absurd h (by omega)
theorem aMok_c132 : ∀ i, i < 33 → aMok (132 + i) = true
  | 0, _ => aMok_132
  | 1, _ => aMok_133
  | 2, _ => aMok_134
  | 3, _ => aMok_135
  | 4, _ => aMok_136
  | 5, _ => aMok_137
  | 6, _ => aMok_138
  | 7, _ => aMok_139
  | 8, _ => aMok_140
  | 9, _ => aMok_141
  | 10, _ => aMok_142
  | 11, _ => aMok_143
  | 12, _ => aMok_144
  | 13, _ => aMok_145
  | 14, _ => aMok_146
  | 15, _ => aMok_147
  | 16, _ => aMok_148
  | 17, _ => aMok_149
  | 18, _ => aMok_150
  | 19, _ => aMok_151
  | 20, _ => aMok_152
  | 21, _ => aMok_153
  | 22, _ => aMok_154
  | 23, _ => aMok_155
  | 24, _ => aMok_156
  | 25, _ => aMok_157
  | 26, _ => aMok_158
  | 27, _ => aMok_159
  | 28, _ => aMok_160
  | 29, _ => aMok_161
  | 30, _ => aMok_162
  | 31, _ => aMok_163
  | 32, _ => aMok_164
  | n + 33, h => absurd h (by omega)
theorem aMok_c165 : ∀ i, i < 33 → aMok (165 + i) = true
  | 0, _ => aMok_165
  | 1, _ => aMok_166
  | 2, _ => aMok_167
  | 3, _ => aMok_168
  | 4, _ => aMok_169
  | 5, _ => aMok_170
  | 6, _ => aMok_171
  | 7, _ => aMok_172
  | 8, _ => aMok_173
  | 9, _ => aMok_174
  | 10, _ => aMok_175
  | 11, _ => aMok_176
  | 12, _ => aMok_177
  | 13, _ => aMok_178
  | 14, _ => aMok_179
  | 15, _ => aMok_180
  | 16, _ => aMok_181
  | 17, _ => aMok_182
  | 18, _ => aMok_183
  | 19, _ => aMok_184
  | 20, _ => aMok_185
  | 21, _ => aMok_186
  | 22, _ => aMok_187
  | 23, _ => aMok_188
  | 24, _ => aMok_189
  | 25, _ => aMok_190
  | 26, _ => aMok_191
  | 27, _ => aMok_192
  | 28, _ => aMok_193
  | 29, _ => aMok_194
  | 30, _ => aMok_195
  | 31, _ => aMok_196
  | 32, _ => aMok_197
  | n + 33, h => absurd h (by omega)
theorem aMok_c198 : ∀ i, i < 31 → aMok (198 + i) = true
  | 0, _ => aMok_198
  | 1, _ => aMok_199
  | 2, _ => aMok_200
  | 3, _ => aMok_201
  | 4, _ => aMok_202
  | 5, _ => aMok_203
  | 6, _ => aMok_204
  | 7, _ => aMok_205
  | 8, _ => aMok_206
  | 9, _ => aMok_207
  | 10, _ => aMok_208
  | 11, _ => aMok_209
  | 12, _ => aMok_210
  | 13, _ => aMok_211
  | 14, _ => aMok_212
  | 15, _ => aMok_213
  | 16, _ => aMok_214
  | 17, _ => aMok_215
  | 18, _ => aMok_216
  | 19, _ => aMok_217
  | 20, _ => aMok_218
  | 21, _ => aMok_219
  | 22, _ => aMok_220
  | 23, _ => aMok_221
  | 24, _ => aMok_222
  | 25, _ => aMok_223
  | 26, _ => aMok_224
  | 27, _ => aMok_225
  | 28, _ => aMok_226
  | 29, _ => aMok_227
  | 30, _ => aMok_228
  | n + 31, h => absurd h (by omega)
theorem aMok_all {mid : Nat} (h : mid < mNm) : aMok mid = true := by
  unfold mNm at h
  by_cases h0 : mid < 33
  · have q := aMok_c0 (mid - 0) (by omega)
    rwa [show 0 + (mid - 0) = mid by omega] at q
  by_cases h33 : mid < 66
  · have q := aMok_c33 (mid - 33) (by omega)
    rwa [show 33 + (mid - 33) = mid by omega] at q
  by_cases h66 : mid < 99
  · have q := aMok_c66 (mid - 66) (by omega)
    rwa [show 66 + (mid - 66) = mid by omega] at q
  by_cases h99 : mid < 132
  · have q := aMok_c99 (mid - 99) (by omega)
    rwa [show 99 + (mid - 99) = mid by omega] at q
  by_cases h132 : mid < 165
  · have q := aMok_c132 (mid - 132) (by omega)
    rwa [show 132 + (mid - 132) = mid by omega] at q
  by_cases h165 : mid < 198
  · have q := aMok_c165 (mid - 165) (by omega)
    rwa [show 165 + (mid - 165) = mid by omega] at q
  by_cases h198 : mid < 229
  · have q := aMok_c198 (mid - 198) (by omega)
    rwa [show 198 + (mid - 198) = mid by omega] at q
  omega
theorem aOk_c0 : ∀ i, i < 33 → aOk (0 + i) = true
  | 0, _ => aOk_0
  | 1, _ => aOk_1
  | 2, _ => aOk_2
  | 3, _ => aOk_3
  | 4, _ => aOk_4
  | 5, _ => aOk_5
  | 6, _ => aOk_6
  | 7, _ => aOk_7
  | 8, _ => aOk_8
  | 9, _ => aOk_9
  | 10, _ => aOk_10
  | 11, _ => aOk_11
  | 12, _ => aOk_12
  | 13, _ => aOk_13
  | 14, _ => aOk_14
  | 15, _ => aOk_15
  | 16, _ => aOk_16
  | 17, _ => aOk_17
  | 18, _ => aOk_18
  | 19, _ => aOk_19
  | 20, _ => aOk_20
  | 21, _ => aOk_21
  | 22, _ => aOk_22
  | 23, _ => aOk_23
  | 24, _ => aOk_24
  | 25, _ => aOk_25
  | 26, _ => aOk_26
  | 27, _ => aOk_27
  | 28, _ => aOk_28
  | 29, _ => aOk_29
  | 30, _ => aOk_30
  | 31, _ => aOk_31
  | 32, _ => aOk_32
  | n + 33, h => absurd h (by omega)
theorem aOk_c33 : ∀ i, i < 33 → aOk (33 + i) = true
  | 0, _ => aOk_33
  | 1, _ => aOk_34
  | 2, _ => aOk_35
  | 3, _ => aOk_36
  | 4, _ => aOk_37
  | 5, _ => aOk_38
  | 6, _ => aOk_39
  | 7, _ => aOk_40
  | 8, _ => aOk_41
  | 9, _ => aOk_42
  | 10, _ => aOk_43
  | 11, _ => aOk_44
  | 12, _ => aOk_45
  | 13, _ => aOk_46
  | 14, _ => aOk_47
  | 15, _ => aOk_48
  | 16, _ => aOk_49
  | 17, _ => aOk_50
  | 18, _ => aOk_51
  | 19, _ => aOk_52
  | 20, _ => aOk_53
  | 21, _ => aOk_54
  | 22, _ => aOk_55
  | 23, _ => aOk_56
  | 24, _ => aOk_57
  | 25, _ => aOk_58
  | 26, _ => aOk_59
  | 27, _ => aOk_60
  | 28, _ => aOk_61
  | 29, _ => aOk_62
  | 30, _ => aOk_63
  | 31, _ => aOk_64
  | 32, _ => aOk_65
  | n + 33, h => absurd h (by omega)
theorem aOk_c66 : ∀ i, i < 33 → aOk (66 + i) = true
  | 0, _ => aOk_66
  | 1, _ => aOk_67
  | 2, _ => aOk_68
  | 3, _ => aOk_69
  | 4, _ => aOk_70
  | 5, _ => aOk_71
  | 6, _ => aOk_72
  | 7, _ => aOk_73
  | 8, _ => aOk_74
  | 9, _ => aOk_75
  | 10, _ => aOk_76
  | 11, _ => aOk_77
  | 12, _ => aOk_78
  | 13, _ => aOk_79
  | 14, _ => aOk_80
  | 15, _ => aOk_81
  | 16, _ => aOk_82
  | 17, _ => aOk_83
  | 18, _ => aOk_84
  | 19, _ => aOk_85
  | 20, _ => aOk_86
  | 21, _ => aOk_87
  | 22, _ => aOk_88
  | 23, _ => aOk_89
  | 24, _ => aOk_90
  | 25, _ => aOk_91
  | 26, _ => aOk_92
  | 27, _ => aOk_93
  | 28, _ => aOk_94
  | 29, _ => aOk_95
  | 30, _ => aOk_96
  | 31, _ => aOk_97
  | 32, _ => aOk_98
  | n + 33, h => absurd h (by omega)
theorem aOk_c99 : ∀ i, i < 33 → aOk (99 + i) = true
  | 0, _ => aOk_99
  | 1, _ => aOk_100
  | 2, _ => aOk_101
  | 3, _ => aOk_102
  | 4, _ => aOk_103
  | 5, _ => aOk_104
  | 6, _ => aOk_105
  | 7, _ => aOk_106
  | 8, _ => aOk_107
  | 9, _ => aOk_108
  | 10, _ => aOk_109
  | 11, _ => aOk_110
  | 12, _ => aOk_111
  | 13, _ => aOk_112
  | 14, _ => aOk_113
  | 15, _ => aOk_114
  | 16, _ => aOk_115
  | 17, _ => aOk_116
  | 18, _ => aOk_117
  | 19, _ => aOk_118
  | 20, _ => aOk_119
  | 21, _ => aOk_120
  | 22, _ => aOk_121
  | 23, _ => aOk_122
  | 24, _ => aOk_123
  | 25, _ => aOk_124
  | 26, _ => aOk_125
  | 27, _ => aOk_126
  | 28, _ => aOk_127
  | 29, _ => aOk_128
  | 30, _ => aOk_129
  | 31, _ => aOk_130
  | 32, _ => aOk_131
  | n + 33, h => absurd h (by omega)
theorem aOk_c132 : ∀ i, i < 33 → aOk (132 + i) = true
  | 0, _ => aOk_132
  | 1, _ => aOk_133
  | 2, _ => aOk_134
  | 3, _ => aOk_135
  | 4, _ => aOk_136
  | 5, _ => aOk_137
  | 6, _ => aOk_138
  | 7, _ => aOk_139
  | 8, _ => aOk_140
  | 9, _ => aOk_141
  | 10, _ => aOk_142
  | 11, _ => aOk_143
  | 12, _ => aOk_144
  | 13, _ => aOk_145
  | 14, _ => aOk_146
  | 15, _ => aOk_147
  | 16, _ => aOk_148
  | 17, _ => aOk_149
  | 18, _ => aOk_150
  | 19, _ => aOk_151
  | 20, _ => aOk_152
  | 21, _ => aOk_153
  | 22, _ => aOk_154
  | 23, _ => aOk_155
  | 24, _ => aOk_156
  | 25, _ => aOk_157
  | 26, _ => aOk_158
  | 27, _ => aOk_159
  | 28, _ => aOk_160
  | 29, _ => aOk_161
  | 30, _ => aOk_162
  | 31, _ => aOk_163
  | 32, _ => aOk_164
  | n + 33, h => absurd h (by omega)
theorem aOk_c165 : ∀ i, i < 33 → aOk (165 + i) = true
  | 0, _ => aOk_165
  | 1, _ => aOk_166
  | 2, _ => aOk_167
  | 3, _ => aOk_168
  | 4, _ => aOk_169
  | 5, _ => aOk_170
  | 6, _ => aOk_171
  | 7, _ => aOk_172
  | 8, _ => aOk_173
  | 9, _ => aOk_174
  | 10, _ => aOk_175
  | 11, _ => aOk_176
  | 12, _ => aOk_177
  | 13, _ => aOk_178
  | 14, _ => aOk_179
  | 15, _ => aOk_180
  | 16, _ => aOk_181
  | 17, _ => aOk_182
  | 18, _ => aOk_183
  | 19, _ => aOk_184
  | 20, _ => aOk_185
  | 21, _ => aOk_186
  | 22, _ => aOk_187
  | 23, _ => aOk_188
  | 24, _ => aOk_189
  | 25, _ => aOk_190
  | 26, _ => aOk_191
  | 27, _ => aOk_192
  | 28, _ => aOk_193
  | 29, _ => aOk_194
  | 30, _ => aOk_195
  | 31, _ => aOk_196
  | 32, _ => aOk_197
  | n + 33, h => absurd h (by omega)
theorem aOk_c198 : ∀ i, i < 31 → aOk (198 + i) = true
  | 0, _ => aOk_198
  | 1, _ => aOk_199
  | 2, _ => aOk_200
  | 3, _ => aOk_201
  | 4, _ => aOk_202
  | 5, _ => aOk_203
  | 6, _ => aOk_204
  | 7, _ => aOk_205
  | 8, _ => aOk_206
  | 9, _ => aOk_207
  | 10, _ => aOk_208
  | 11, _ => aOk_209
  | 12, _ => aOk_210
  | 13, _ => aOk_211
  | 14, _ => aOk_212
  | 15, _ => aOk_213
  | 16, _ => aOk_214
  | 17, _ => aOk_215
  | 18, _ => aOk_216
  | 19, _ => aOk_217
  | 20, _ => aOk_218
  | 21, _ => aOk_219
  | 22, _ => aOk_220
  | 23, _ => aOk_221
  | 24, _ => aOk_222
  | 25, _ => aOk_223
  | 26, _ => aOk_224
  | 27, _ => aOk_225
  | 28, _ => aOk_226
  | 29, _ => aOk_227
  | 30, _ => aOk_228
  | n + 31, h => absurd h (by omega)
theorem aOk_all {mid : Nat} (h : mid < mNm) : aOk mid = true := by
  unfold mNm at h
  by_cases h0 : mid < 33
  · have q := aOk_c0 (mid - 0) (by omega)
    rwa [show 0 + (mid - 0) = mid by omega] at q
  by_cases h33 : mid < 66
  · have q := aOk_c33 (mid - 33) (by omega)
    rwa [show 33 + (mid - 33) = mid by omega] at q
  by_cases h66 : mid < 99
  · have q := aOk_c66 (mid - 66) (by omega)
    rwa [show 66 + (mid - 66) = mid by omega] at q
  by_cases h99 : mid < 132
  · have q := aOk_c99 (mid - 99) (by omega)
    rwa [show 99 + (mid - 99) = mid by omega] at q
  by_cases h132 : mid < 165
  · have q := aOk_c132 (mid - 132) (by omega)
    rwa [show 132 + (mid - 132) = mid by omega] at q
  by_cases h165 : mid < 198
  · have q := aOk_c165 (mid - 165) (by omega)
    rwa [show 165 + (mid - 165) = mid by omega] at q
  by_cases h198 : mid < 229
  · have q := aOk_c198 (mid - 198) (by omega)
    rwa [show 198 + (mid - 198) = mid by omega] at q
  omega
