/-! each method: its words, its instructions -/
set_option maxRecDepth 100000 in
theorem aMok_0 : aMok 0 = true := by decide +kernel
set_option maxRecDepth 100000 in
theorem aMok_1 : aMok 1 = true := by decide +kernel
set_option maxRecDepth 100000 in
theorem aMok_2 : aMok 2 = true := by decide +kernel
set_option maxRecDepth 100000 in
theorem aMok_3 : aMok 3 = true := by decide +kernel
set_option maxRecDepth 100000 in
theorem aMok_4 : aMok 4 = true := by decide +kernel
set_option maxRecDepth 100000 in
theorem aMok_5 : aMok 5 = true := by decide +kernel
set_option maxRecDepth 100000 in
theorem aMok_6 : aMok 6 = true := by decide +kernel
set_option maxRecDepth 100000 in
theorem aMok_7 : aMok 7 = true := by decide +kernel
set_option maxRecDepth 100000 in
theorem aMok_8 : aMok 8 = true := by decide +kernel
set_option maxRecDepth 100000 in
theorem aMok_9 : aMok 9 = true := by decide +kernel
set_option maxRecDepth 100000 in
theorem aMok_10 : aMok 10 = true := by decide +kernel
set_option maxRecDepth 100000 in
theorem aMok_11 : aMok 11 = true := by decide +kernel
set_option maxRecDepth 100000 in
theorem aMok_12 : aMok 12 = true := by decide +kernel
set_option maxRecDepth 100000 in
theorem aMok_13 : aMok 13 = true := by decide +kernel
set_option maxRecDepth 100000 in
theorem aMok_14 : aMok 14 = true := by decide +kernel
set_option maxRecDepth 100000 in
theorem aMok_15 : aMok 15 = true := by decide +kernel
set_option maxRecDepth 100000 in
theorem aMok_16 : aMok 16 = true := by decide +kernel
set_option maxRecDepth 100000 in
theorem aMok_17 : aMok 17 = true := by decide +kernel
set_option maxRecDepth 100000 in
theorem aMok_18 : aMok 18 = true := by decide +kernel
set_option maxRecDepth 100000 in
theorem aMok_19 : aMok 19 = true := by decide +kernel
set_option maxRecDepth 100000 in
theorem aMok_20 : aMok 20 = true := by decide +kernel
set_option maxRecDepth 100000 in
theorem aMok_21 : aMok 21 = true := by decide +kernel
set_option maxRecDepth 100000 in
theorem aMok_22 : aMok 22 = true := by decide +kernel
set_option maxRecDepth 100000 in
theorem aMok_23 : aMok 23 = true := by decide +kernel
set_option maxRecDepth 100000 in
theorem aMok_24 : aMok 24 = true := by decide +kernel
set_option maxRecDepth 100000 in
theorem aMok_25 : aMok 25 = true := by decide +kernel
set_option maxRecDepth 100000 in
theorem aMok_26 : aMok 26 = true := by decide +kernel
set_option maxRecDepth 100000 in
theorem aMok_27 : aMok 27 = true := by decide +kernel
set_option maxRecDepth 100000 in
theorem aMok_28 : aMok 28 = true := by decide +kernel
set_option maxRecDepth 100000 in
theorem aMok_29 : aMok 29 = true := by decide +kernel
set_option maxRecDepth 100000 in
theorem aMok_30 : aMok 30 = true := by decide +kernel
set_option maxRecDepth 100000 in
theorem aMok_31 : aMok 31 = true := by decide +kernel
set_option maxRecDepth 100000 in
theorem aMok_32 : aMok 32 = true := by decide +kernel
set_option maxRecDepth 100000 in
theorem aMok_33 : aMok 33 = true := by decide +kernel
set_option maxRecDepth 100000 in
theorem aMok_34 : aMok 34 = true := by decide +kernel
set_option maxRecDepth 100000 in
theorem aMok_35 : aMok 35 = true := by decide +kernel
set_option maxRecDepth 100000 in
theorem aMok_36 : aMok 36 = true := by decide +kernel
set_option maxRecDepth 100000 in
theorem aMok_37 : aMok 37 = true := by decide +kernel
set_option maxRecDepth 100000 in
theorem aMok_38 : aMok 38 = true := by decide +kernel
set_option maxRecDepth 100000 in
theorem aMok_39 : aMok 39 = true := by decide +kernel
set_option maxRecDepth 100000 in
theorem aMok_40 : aMok 40 = true := by decide +kernel
set_option maxRecDepth 100000 in
theorem aMok_41 : aMok 41 = true := by decide +kernel
set_option maxRecDepth 100000 in
theorem aMok_42 : aMok 42 = true := by decide +kernel
set_option maxRecDepth 100000 in
theorem aMok_43 : aMok 43 = true := by decide +kernel
set_option maxRecDepth 100000 in
theorem aMok_44 : aMok 44 = true := by decide +kernel
set_option maxRecDepth 100000 in
theorem aMok_45 : aMok 45 = true := by decide +kernel
set_option maxRecDepth 100000 in
theorem aMok_46 : aMok 46 = true := by decide +kernel
set_option maxRecDepth 100000 in
theorem aMok_47 : aMok 47 = true := by decide +kernel
set_option maxRecDepth 100000 in
theorem aMok_48 : aMok 48 = true := by decide +kernel
set_option maxRecDepth 100000 in
theorem aMok_49 : aMok 49 = true := by decide +kernel
set_option maxRecDepth 100000 in
theorem aMok_50 : aMok 50 = true := by decide +kernel
set_option maxRecDepth 100000 in
theorem aMok_51 : aMok 51 = true := by decide +kernel
set_option maxRecDepth 100000 in
theorem aMok_52 : aMok 52 = true := by decide +kernel
set_option maxRecDepth 100000 in
theorem aMok_53 : aMok 53 = true := by decide +kernel
set_option maxRecDepth 100000 in
theorem aMok_54 : aMok 54 = true := by decide +kernel
set_option maxRecDepth 100000 in
theorem aMok_55 : aMok 55 = true := by decide +kernel
set_option maxRecDepth 100000 in
theorem aMok_56 : aMok 56 = true := by decide +kernel
set_option maxRecDepth 100000 in
theorem aMok_57 : aMok 57 = true := by decide +kernel
set_option maxRecDepth 100000 in
theorem aMok_58 : aMok 58 = true := by decide +kernel
set_option maxRecDepth 100000 in
theorem aMok_59 : aMok 59 = true := by decide +kernel
set_option maxRecDepth 100000 in
theorem aMok_60 : aMok 60 = true := by decide +kernel
set_option maxRecDepth 100000 in
theorem aMok_61 : aMok 61 = true := by decide +kernel
set_option maxRecDepth 100000 in
theorem aMok_62 : aMok 62 = true := by decide +kernel
set_option maxRecDepth 100000 in
theorem aMok_63 : aMok 63 = true := by decide +kernel
set_option maxRecDepth 100000 in
theorem aMok_64 : aMok 64 = true := by decide +kernel
set_option maxRecDepth 100000 in
theorem aMok_65 : aMok 65 = true := by decide +kernel
set_option maxRecDepth 100000 in
theorem aMok_66 : aMok 66 = true := by decide +kernel
set_option maxRecDepth 100000 in
theorem aMok_67 : aMok 67 = true := by decide +kernel
set_option maxRecDepth 100000 in
theorem aMok_68 : aMok 68 = true := by decide +kernel
set_option maxRecDepth 100000 in
theorem aMok_69 : aMok 69 = true := by decide +kernel
set_option maxRecDepth 100000 in
theorem aMok_70 : aMok 70 = true := by decide +kernel
set_option maxRecDepth 100000 in
theorem aMok_71 : aMok 71 = true := by decide +kernel
set_option maxRecDepth 100000 in
theorem aMok_72 : aMok 72 = true := by decide +kernel
set_option maxRecDepth 100000 in
theorem aMok_73 : aMok 73 = true := by decide +kernel
set_option maxRecDepth 100000 in
theorem aMok_74 : aMok 74 = true := by decide +kernel
set_option maxRecDepth 100000 in
theorem aMok_75 : aMok 75 = true := by decide +kernel
set_option maxRecDepth 100000 in
theorem aMok_76 : aMok 76 = true := by decide +kernel
set_option maxRecDepth 100000 in
theorem aMok_77 : aMok 77 = true := by decide +kernel
set_option maxRecDepth 100000 in
theorem aMok_78 : aMok 78 = true := by decide +kernel
set_option maxRecDepth 100000 in
theorem aMok_79 : aMok 79 = true := by decide +kernel
set_option maxRecDepth 100000 in
theorem aMok_80 : aMok 80 = true := by decide +kernel
set_option maxRecDepth 100000 in
theorem aMok_81 : aMok 81 = true := by decide +kernel
set_option maxRecDepth 100000 in
theorem aMok_82 : aMok 82 = true := by decide +kernel
set_option maxRecDepth 100000 in
theorem aMok_83 : aMok 83 = true := by decide +kernel
set_option maxRecDepth 100000 in
theorem aMok_84 : aMok 84 = true := by decide +kernel
set_option maxRecDepth 100000 in
theorem aMok_85 : aMok 85 = true := by decide +kernel
set_option maxRecDepth 100000 in
theorem aMok_86 : aMok 86 = true := by decide +kernel
set_option maxRecDepth 100000 in
theorem aMok_87 : aMok 87 = true := by decide +kernel
set_option maxRecDepth 100000 in
theorem aMok_88 : aMok 88 = true := by decide +kernel
set_option maxRecDepth 100000 in
theorem aMok_89 : aMok 89 = true := by decide +kernel
set_option maxRecDepth 100000 in
theorem aMok_90 : aMok 90 = true := by decide +kernel
set_option maxRecDepth 100000 in
theorem aMok_91 : aMok 91 = true := by decide +kernel
set_option maxRecDepth 100000 in
theorem aMok_92 : aMok 92 = true := by decide +kernel
set_option maxRecDepth 100000 in
theorem aMok_93 : aMok 93 = true := by decide +kernel
set_option maxRecDepth 100000 in
theorem aMok_94 : aMok 94 = true := by decide +kernel
set_option maxRecDepth 100000 in
theorem aMok_95 : aMok 95 = true := by decide +kernel
set_option maxRecDepth 100000 in
theorem aMok_96 : aMok 96 = true := by decide +kernel
set_option maxRecDepth 100000 in
theorem aMok_97 : aMok 97 = true := by decide +kernel
set_option maxRecDepth 100000 in
theorem aMok_98 : aMok 98 = true := by decide +kernel
set_option maxRecDepth 100000 in
theorem aMok_99 : aMok 99 = true := by decide +kernel
set_option maxRecDepth 100000 in
theorem aMok_100 : aMok 100 = true := by decide +kernel
set_option maxRecDepth 100000 in
theorem aMok_101 : aMok 101 = true := by decide +kernel
set_option maxRecDepth 100000 in
theorem aMok_102 : aMok 102 = true := by decide +kernel
set_option maxRecDepth 100000 in
theorem aMok_103 : aMok 103 = true := by decide +kernel
set_option maxRecDepth 100000 in
theorem aMok_104 : aMok 104 = true := by decide +kernel
set_option maxRecDepth 100000 in
theorem aMok_105 : aMok 105 = true := by decide +kernel
set_option maxRecDepth 100000 in
theorem aMok_106 : aMok 106 = true := by decide +kernel
set_option maxRecDepth 100000 in
theorem aMok_107 : aMok 107 = true := by decide +kernel
set_option maxRecDepth 100000 in
theorem aMok_108 : aMok 108 = true := by decide +kernel
set_option maxRecDepth 100000 in
theorem aMok_109 : aMok 109 = true := by decide +kernel
set_option maxRecDepth 100000 in
theorem aMok_110 : aMok 110 = true := by decide +kernel
set_option maxRecDepth 100000 in
theorem aMok_111 : aMok 111 = true := by decide +kernel
set_option maxRecDepth 100000 in
theorem aMok_112 : aMok 112 = true := by decide +kernel
set_option maxRecDepth 100000 in
theorem aMok_113 : aMok 113 = true := by decide +kernel
set_option maxRecDepth 100000 in
theorem aMok_114 : aMok 114 = true := by decide +kernel
set_option maxRecDepth 100000 in
theorem aMok_115 : aMok 115 = true := by decide +kernel
set_option maxRecDepth 100000 in
theorem aMok_116 : aMok 116 = true := by decide +kernel
set_option maxRecDepth 100000 in
theorem aMok_117 : aMok 117 = true := by decide +kernel
set_option maxRecDepth 100000 in
theorem aMok_118 : aMok 118 = true := by decide +kernel
set_option maxRecDepth 100000 in
theorem aMok_119 : aMok 119 = true := by decide +kernel
set_option maxRecDepth 100000 in
theorem aMok_120 : aMok 120 = true := by decide +kernel
set_option maxRecDepth 100000 in
theorem aMok_121 : aMok 121 = true := by decide +kernel
set_option maxRecDepth 100000 in
theorem aMok_122 : aMok 122 = true := by decide +kernel
set_option maxRecDepth 100000 in
theorem aMok_123 : aMok 123 = true := by decide +kernel
set_option maxRecDepth 100000 in
theorem aMok_124 : aMok 124 = true := by decide +kernel
set_option maxRecDepth 100000 in
theorem aMok_125 : aMok 125 = true := by decide +kernel
set_option maxRecDepth 100000 in
theorem aMok_126 : aMok 126 = true := by decide +kernel
set_option maxRecDepth 100000 in
theorem aMok_127 : aMok 127 = true := by decide +kernel
set_option maxRecDepth 100000 in
theorem aMok_128 : aMok 128 = true := by decide +kernel
set_option maxRecDepth 100000 in
theorem aMok_129 : aMok 129 = true := by decide +kernel
set_option maxRecDepth 100000 in
theorem aMok_130 : aMok 130 = true := by decide +kernel
set_option maxRecDepth 100000 in
theorem aMok_131 : aMok 131 = true := by decide +kernel
set_option maxRecDepth 100000 in
theorem aMok_132 : aMok 132 = true := by decide +kernel
set_option maxRecDepth 100000 in
theorem aMok_133 : aMok 133 = true := by decide +kernel
set_option maxRecDepth 100000 in
theorem aMok_134 : aMok 134 = true := by decide +kernel
set_option maxRecDepth 100000 in
theorem aMok_135 : aMok 135 = true := by decide +kernel
set_option maxRecDepth 100000 in
theorem aMok_136 : aMok 136 = true := by decide +kernel
set_option maxRecDepth 100000 in
theorem aMok_137 : aMok 137 = true := by decide +kernel
set_option maxRecDepth 100000 in
theorem aMok_138 : aMok 138 = true := by decide +kernel
set_option maxRecDepth 100000 in
theorem aMok_139 : aMok 139 = true := by decide +kernel
set_option maxRecDepth 100000 in
theorem aMok_140 : aMok 140 = true := by decide +kernel
set_option maxRecDepth 100000 in
theorem aMok_141 : aMok 141 = true := by decide +kernel
set_option maxRecDepth 100000 in
theorem aMok_142 : aMok 142 = true := by decide +kernel
set_option maxRecDepth 100000 in
theorem aMok_143 : aMok 143 = true := by decide +kernel
set_option maxRecDepth 100000 in
theorem aMok_144 : aMok 144 = true := by decide +kernel
set_option maxRecDepth 100000 in
theorem aMok_145 : aMok 145 = true := by decide +kernel
set_option maxRecDepth 100000 in
theorem aMok_146 : aMok 146 = true := by decide +kernel
set_option maxRecDepth 100000 in
theorem aMok_147 : aMok 147 = true := by decide +kernel
set_option maxRecDepth 100000 in
theorem aMok_148 : aMok 148 = true := by decide +kernel
set_option maxRecDepth 100000 in
theorem aMok_149 : aMok 149 = true := by decide +kernel
set_option maxRecDepth 100000 in
theorem aMok_150 : aMok 150 = true := by decide +kernel
set_option maxRecDepth 100000 in
theorem aMok_151 : aMok 151 = true := by decide +kernel
set_option maxRecDepth 100000 in
theorem aMok_152 : aMok 152 = true := by decide +kernel
set_option maxRecDepth 100000 in
theorem aMok_153 : aMok 153 = true := by decide +kernel
set_option maxRecDepth 100000 in
theorem aMok_154 : aMok 154 = true := by decide +kernel
set_option maxRecDepth 100000 in
theorem aMok_155 : aMok 155 = true := by decide +kernel
set_option maxRecDepth 100000 in
theorem aMok_156 : aMok 156 = true := by decide +kernel
set_option maxRecDepth 100000 in
theorem aMok_157 : aMok 157 = true := by decide +kernel
set_option maxRecDepth 100000 in
theorem aMok_158 : aMok 158 = true := by decide +kernel
set_option maxRecDepth 100000 in
theorem aMok_159 : aMok 159 = true := by decide +kernel
set_option maxRecDepth 100000 in
theorem aMok_160 : aMok 160 = true := by decide +kernel
set_option maxRecDepth 100000 in
theorem aMok_161 : aMok 161 = true := by decide +kernel
set_option maxRecDepth 100000 in
theorem aMok_162 : aMok 162 = true := by decide +kernel
set_option maxRecDepth 100000 in
theorem aMok_163 : aMok 163 = true := by decide +kernel
set_option maxRecDepth 100000 in
theorem aMok_164 : aMok 164 = true := by decide +kernel
set_option maxRecDepth 100000 in
theorem aMok_165 : aMok 165 = true := by decide +kernel
set_option maxRecDepth 100000 in
theorem aMok_166 : aMok 166 = true := by decide +kernel
set_option maxRecDepth 100000 in
theorem aMok_167 : aMok 167 = true := by decide +kernel
set_option maxRecDepth 100000 in
theorem aMok_168 : aMok 168 = true := by decide +kernel
set_option maxRecDepth 100000 in
theorem aMok_169 : aMok 169 = true := by decide +kernel
set_option maxRecDepth 100000 in
theorem aMok_170 : aMok 170 = true := by decide +kernel
set_option maxRecDepth 100000 in
theorem aMok_171 : aMok 171 = true := by decide +kernel
set_option maxRecDepth 100000 in
theorem aMok_172 : aMok 172 = true := by decide +kernel
set_option maxRecDepth 100000 in
theorem aMok_173 : aMok 173 = true := by decide +kernel
set_option maxRecDepth 100000 in
theorem aMok_174 : aMok 174 = true := by decide +kernel
set_option maxRecDepth 100000 in
theorem aMok_175 : aMok 175 = true := by decide +kernel
set_option maxRecDepth 100000 in
theorem aMok_176 : aMok 176 = true := by decide +kernel
set_option maxRecDepth 100000 in
theorem aMok_177 : aMok 177 = true := by decide +kernel
set_option maxRecDepth 100000 in
theorem aMok_178 : aMok 178 = true := by decide +kernel
set_option maxRecDepth 100000 in
theorem aMok_179 : aMok 179 = true := by decide +kernel
set_option maxRecDepth 100000 in
theorem aMok_180 : aMok 180 = true := by decide +kernel
set_option maxRecDepth 100000 in
theorem aMok_181 : aMok 181 = true := by decide +kernel
set_option maxRecDepth 100000 in
theorem aMok_182 : aMok 182 = true := by decide +kernel
set_option maxRecDepth 100000 in
theorem aMok_183 : aMok 183 = true := by decide +kernel
set_option maxRecDepth 100000 in
theorem aMok_184 : aMok 184 = true := by decide +kernel
set_option maxRecDepth 100000 in
theorem aMok_185 : aMok 185 = true := by decide +kernel
set_option maxRecDepth 100000 in
theorem aMok_186 : aMok 186 = true := by decide +kernel
set_option maxRecDepth 100000 in
theorem aMok_187 : aMok 187 = true := by decide +kernel
set_option maxRecDepth 100000 in
theorem aMok_188 : aMok 188 = true := by decide +kernel
set_option maxRecDepth 100000 in
theorem aMok_189 : aMok 189 = true := by decide +kernel
set_option maxRecDepth 100000 in
theorem aMok_190 : aMok 190 = true := by decide +kernel
set_option maxRecDepth 100000 in
theorem aMok_191 : aMok 191 = true := by decide +kernel
set_option maxRecDepth 100000 in
theorem aMok_192 : aMok 192 = true := by decide +kernel
set_option maxRecDepth 100000 in
theorem aMok_193 : aMok 193 = true := by decide +kernel
set_option maxRecDepth 100000 in
theorem aMok_194 : aMok 194 = true := by decide +kernel
set_option maxRecDepth 100000 in
theorem aMok_195 : aMok 195 = true := by decide +kernel
set_option maxRecDepth 100000 in
theorem aMok_196 : aMok 196 = true := by decide +kernel
set_option maxRecDepth 100000 in
theorem aMok_197 : aMok 197 = true := by decide +kernel
set_option maxRecDepth 100000 in
theorem aMok_198 : aMok 198 = true := by decide +kernel
set_option maxRecDepth 100000 in
theorem aMok_199 : aMok 199 = true := by decide +kernel
set_option maxRecDepth 100000 in
theorem aMok_200 : aMok 200 = true := by decide +kernel
set_option maxRecDepth 100000 in
theorem aMok_201 : aMok 201 = true := by decide +kernel
set_option maxRecDepth 100000 in
theorem aMok_202 : aMok 202 = true := by decide +kernel
set_option maxRecDepth 100000 in
theorem aMok_203 : aMok 203 = true := by decide +kernel
set_option maxRecDepth 100000 in
theorem aMok_204 : aMok 204 = true := by decide +kernel
set_option maxRecDepth 100000 in
theorem aMok_205 : aMok 205 = true := by decide +kernel
set_option maxRecDepth 100000 in
theorem aMok_206 : aMok 206 = true := by decide +kernel
set_option maxRecDepth 100000 in
theorem aMok_207 : aMok 207 = true := by decide +kernel
set_option maxRecDepth 100000 in
theorem aMok_208 : aMok 208 = true := by decide +kernel
set_option maxRecDepth 100000 in
theorem aMok_209 : aMok 209 = true := by decide +kernel
set_option maxRecDepth 100000 in
theorem aMok_210 : aMok 210 = true := by decide +kernel
set_option maxRecDepth 100000 in
theorem aMok_211 : aMok 211 = true := by decide +kernel
set_option maxRecDepth 100000 in
theorem aMok_212 : aMok 212 = true := by decide +kernel
set_option maxRecDepth 100000 in
theorem aMok_213 : aMok 213 = true := by decide +kernel
set_option maxRecDepth 100000 in
theorem aMok_214 : aMok 214 = true := by decide +kernel
set_option maxRecDepth 100000 in
theorem aMok_215 : aMok 215 = true := by decide +kernel
set_option maxRecDepth 100000 in
theorem aMok_216 : aMok 216 = true := by decide +kernel
set_option maxRecDepth 100000 in
theorem aMok_217 : aMok 217 = true := by decide +kernel
set_option maxRecDepth 100000 in
theorem aMok_218 : aMok 218 = true := by decide +kernel
set_option maxRecDepth 100000 in
theorem aMok_219 : aMok 219 = true := by decide +kernel
set_option maxRecDepth 100000 in
theorem aMok_220 : aMok 220 = true := by decide +kernel
set_option maxRecDepth 100000 in
theorem aMok_221 : aMok 221 = true := by decide +kernel
set_option maxRecDepth 100000 in
theorem aMok_222 : aMok 222 = true := by decide +kernel
set_option maxRecDepth 100000 in
theorem aMok_223 : aMok 223 = true := by decide +kernel
set_option maxRecDepth 100000 in
theorem aMok_224 : aMok 224 = true := by decide +kernel
set_option maxRecDepth 100000 in
theorem aMok_225 : aMok 225 = true := by decide +kernel
set_option maxRecDepth 100000 in
theorem aMok_226 : aMok 226 = true := by decide +kernel
set_option maxRecDepth 100000 in
theorem aMok_227 : aMok 227 = true := by decide +kernel
set_option maxRecDepth 100000 in
theorem aMok_228 : aMok 228 = true := by decide +kernel
