/-! SMALL CONTRACTS, by computation -/
theorem ck_ct_103 : ackc [] ct_103 cu_ct_103 0 312 = true := by decide +kernel
theorem ck_ct_157 : ackc [] ct_157 cu_ct_157 0 298 = true := by decide +kernel
theorem ck_ct_104 : ackc [] ct_104 cu_ct_104 0 154 = true := by decide +kernel
theorem ck_ct_158 : ackc [] ct_158 cu_ct_158 0 155 = true := by decide +kernel
theorem ck_ct_22 : ackc [] ct_22 cu_ct_22 3 117 = true := by decide +kernel
theorem ck_ct_105 : ackc [ct_22] ct_105 cu_ct_105 0 100 = true := by decide +kernel
theorem ck_ct_160 : ackc [ct_159a, ct_159b] ct_160 cu_ct_160 0 84 = true := by decide +kernel
theorem ck_ct_107 : ackc [] ct_107 cu_ct_107 0 126 = true := by decide +kernel
theorem ck_ct_163 : ackc [] ct_163 cu_ct_163 0 130 = true := by decide +kernel
theorem ck_ct_109 : ackc [] ct_109 cu_ct_109 0 102 = true := by decide +kernel
theorem ck_ct_165 : ackc [] ct_165 cu_ct_165 0 85 = true := by decide +kernel
theorem ck_ct_110 : ackc [ct_22] ct_110 cu_ct_110 0 155 = true := by decide +kernel
theorem ck_ct_166 : ackc [ct_159a, ct_159b] ct_166 cu_ct_166 0 120 = true := by decide +kernel
theorem ck_ct_111 : ackc [] ct_111 cu_ct_111 0 370 = true := by decide +kernel
theorem ck_ct_171 : ackc [] ct_171 cu_ct_171 0 518 = true := by decide +kernel
theorem ck_ct_112 : ackc [] ct_112 cu_ct_112 3 130 = true := by decide +kernel
theorem ck_ct_172 : ackc [] ct_172 cu_ct_172 3 114 = true := by decide +kernel
theorem ck_ct_96 : ackc [] ct_96 cu_ct_96 3 170 = true := by decide +kernel
theorem ck_ct_96_1 : ackc [] ct_96_1 cu_ct_96_1 3 170 = true := by decide +kernel
theorem ck_ct_96_2 : ackc [] ct_96_2 cu_ct_96_2 3 170 = true := by decide +kernel
theorem ck_ct_96_3 : ackc [] ct_96_3 cu_ct_96_3 3 170 = true := by decide +kernel
theorem ck_ct_96_4 : ackc [] ct_96_4 cu_ct_96_4 3 170 = true := by decide +kernel
theorem ck_ct_99 : ackc [] ct_99 cu_ct_99 3 216 = true := by decide +kernel
theorem ck_ct_99_1 : ackc [] ct_99_1 cu_ct_99_1 3 216 = true := by decide +kernel
theorem ck_ct_99_2 : ackc [] ct_99_2 cu_ct_99_2 3 216 = true := by decide +kernel
theorem ck_ct_99_3 : ackc [] ct_99_3 cu_ct_99_3 3 216 = true := by decide +kernel
theorem ck_ct_99_4 : ackc [] ct_99_4 cu_ct_99_4 3 216 = true := by decide +kernel
theorem ck_ct_99_5 : ackc [] ct_99_5 cu_ct_99_5 3 216 = true := by decide +kernel
theorem ck_ct_99_6 : ackc [] ct_99_6 cu_ct_99_6 3 216 = true := by decide +kernel
theorem ck_ct_99_7 : ackc [] ct_99_7 cu_ct_99_7 3 216 = true := by decide +kernel
theorem ck_ct_99_8 : ackc [] ct_99_8 cu_ct_99_8 3 216 = true := by decide +kernel
theorem ck_ct_99_9 : ackc [] ct_99_9 cu_ct_99_9 3 216 = true := by decide +kernel
theorem ck_ct_99_10 : ackc [] ct_99_10 cu_ct_99_10 3 216 = true := by decide +kernel
theorem ck_ct_99_11 : ackc [] ct_99_11 cu_ct_99_11 3 216 = true := by decide +kernel
theorem ck_ct_100 : ackc [] ct_100 cu_ct_100 0 148 = true := by decide +kernel
theorem ck_ct_100_1 : ackc [] ct_100_1 cu_ct_100_1 0 148 = true := by decide +kernel
theorem ck_ct_101 : ackc [ct_100] ct_101 cu_ct_101 3 137 = true := by decide +kernel
theorem ck_ct_113 : ackc [ct_96, ct_96_1, ct_96_2, ct_96_3, ct_96_4, ct_97, ct_97_1, ct_97_2, ct_100, ct_100_1, ct_101] ct_113 cu_ct_113 0 535 = true := by decide +kernel
theorem ck_ct_174 : ackc [] ct_174 cu_ct_174 3 121 = true := by decide +kernel
theorem ck_ct_174_1 : ackc [] ct_174_1 cu_ct_174_1 3 121 = true := by decide +kernel
theorem ck_ct_175 : ackc [] ct_175 cu_ct_175 5 171 = true := by decide +kernel
theorem ck_ct_175_1 : ackc [] ct_175_1 cu_ct_175_1 5 171 = true := by decide +kernel
theorem ck_ct_180 : ackc [ct_179] ct_180 cu_ct_180 0 82 = true := by decide +kernel
theorem ck_ct_41 : ackc [] ct_41 cu_ct_41 3 69 = true := by decide +kernel
theorem ck_ct_50 : ackc [] ct_50 cu_ct_50 3 131 = true := by decide +kernel
theorem ck_ct_49 : ackc [ct_50] ct_49 cu_ct_49 3 76 = true := by decide +kernel
theorem ck_ct_229 : ackc [] ct_229 cu_ct_229 3 65 = true := by decide +kernel
theorem ck_ct_78 : ackc [ct_229] ct_78 cu_ct_78 3 495 = true := by decide +kernel
theorem ck_ct_114 : ackc [ct_41, ct_49, ct_78] ct_114 cu_ct_114 0 124 = true := by decide +kernel
theorem ck_ct_181 : ackc [] ct_181 cu_ct_181 3 77 = true := by decide +kernel
theorem ck_ct_182 : ackc [ct_181] ct_182 cu_ct_182 3 516 = true := by decide +kernel
theorem ck_ct_183 : ackc [ct_182] ct_183 cu_ct_183 3 83 = true := by decide +kernel
theorem ck_ct_184 : ackc [ct_183] ct_184 cu_ct_184 0 82 = true := by decide +kernel
theorem ck_ct_74 : ackc [] ct_74 cu_ct_74 3 183 = true := by decide +kernel
theorem ck_ct_170 : ackc [] ct_170 cu_ct_170 3 342 = true := by decide +kernel
theorem ck_ct_188 : ackc [] ct_188 cu_ct_188 3 147 = true := by decide +kernel
theorem ck_ct_188_1 : ackc [] ct_188_1 cu_ct_188_1 3 147 = true := by decide +kernel
theorem ck_ct_188_2 : ackc [] ct_188_2 cu_ct_188_2 3 147 = true := by decide +kernel
theorem ck_ct_188_3 : ackc [] ct_188_3 cu_ct_188_3 3 147 = true := by decide +kernel
theorem ck_ct_117 : ackc [] ct_117 cu_ct_117 0 120 = true := by decide +kernel
theorem ck_ct_192 : ackc [] ct_192 cu_ct_192 0 91 = true := by decide +kernel
theorem ck_ct_118 : ackc [] ct_118 cu_ct_118 0 145 = true := by decide +kernel
theorem ck_ct_193 : ackc [] ct_193 cu_ct_193 0 141 = true := by decide +kernel
theorem ck_ct_119 : ackc [] ct_119 cu_ct_119 0 121 = true := by decide +kernel
theorem ck_ct_194 : ackc [] ct_194 cu_ct_194 0 139 = true := by decide +kernel
theorem ck_ct_76 : ackc [] ct_76 cu_ct_76 3 105 = true := by decide +kernel
theorem ck_ct_84 : ackc [] ct_84 cu_ct_84 3 80 = true := by decide +kernel
theorem ck_ct_229_1 : ackc [] ct_229_1 cu_ct_229_1 3 65 = true := by decide +kernel
theorem ck_ct_229_2 : ackc [] ct_229_2 cu_ct_229_2 3 65 = true := by decide +kernel
theorem ck_ct_229_3 : ackc [] ct_229_3 cu_ct_229_3 3 65 = true := by decide +kernel
theorem ck_ct_80 : ackc [ct_76, ct_84, ct_229_1, ct_229_2, ct_229_3] ct_80 cu_ct_80 3 227 = true := by decide +kernel
theorem ck_ct_84_1 : ackc [] ct_84_1 cu_ct_84_1 3 80 = true := by decide +kernel
theorem ck_ct_120 : ackc [ct_41, ct_49, ct_78, ct_80, ct_84_1] ct_120 cu_ct_120 0 390 = true := by decide +kernel
theorem ck_ct_196 : ackc [] ct_196 cu_ct_196 3 75 = true := by decide +kernel
theorem ck_ct_195 : ackc [] ct_195 cu_ct_195 3 119 = true := by decide +kernel
theorem ck_ct_196_1 : ackc [] ct_196_1 cu_ct_196_1 3 75 = true := by decide +kernel
theorem ck_ct_198 : ackc [ct_170, ct_183, ct_196, ct_197] ct_198 cu_ct_198 3 222 = true := by decide +kernel
theorem ck_ct_199 : ackc [ct_198] ct_199 cu_ct_199 3 75 = true := by decide +kernel
theorem ck_ct_121 : ackc [] ct_121 cu_ct_121 0 86 = true := by decide +kernel
theorem ck_ct_200 : ackc [] ct_200 cu_ct_200 0 88 = true := by decide +kernel
theorem ck_ct_4 : ackc [] ct_4 cu_ct_4 3 66 = true := by decide +kernel
theorem ck_ct_76_1 : ackc [] ct_76_1 cu_ct_76_1 3 105 = true := by decide +kernel
theorem ck_ct_80_1 : ackc [ct_76_1, ct_84, ct_229_1, ct_229_2, ct_229_3] ct_80_1 cu_ct_80_1 3 227 = true := by decide +kernel
theorem ck_ct_85 : ackc [] ct_85 cu_ct_85 3 87 = true := by decide +kernel
theorem ck_ct_3 : ackc [ct_4, ct_49, ct_80_1, ct_84_1, ct_85] ct_3 cu_ct_3 3 392 = true := by decide +kernel
theorem ck_ct_122 : ackc [ct_3, ct_41, ct_78] ct_122 cu_ct_122 0 98 = true := by decide +kernel
theorem ck_ct_202 : ackc [ct_201] ct_202 cu_ct_202 0 53 = true := by decide +kernel
theorem ck_ct_123 : ackc [ct_3, ct_41, ct_78] ct_123 cu_ct_123 0 102 = true := by decide +kernel
theorem ck_ct_203 : ackc [ct_201] ct_203 cu_ct_203 0 56 = true := by decide +kernel
theorem ck_ct_6 : ackc [ct_3] ct_6 cu_ct_6 3 127 = true := by decide +kernel
theorem ck_ct_124 : ackc [ct_6, ct_41, ct_78] ct_124 cu_ct_124 0 98 = true := by decide +kernel
theorem ck_ct_204 : ackc [ct_201] ct_204 cu_ct_204 5 96 = true := by decide +kernel
theorem ck_ct_125 : ackc [] ct_125 cu_ct_125 0 121 = true := by decide +kernel
theorem ck_ct_207 : ackc [] ct_207 cu_ct_207 0 121 = true := by decide +kernel
theorem ck_ct_126 : ackc [] ct_126 cu_ct_126 0 110 = true := by decide +kernel
theorem ck_ct_208 : ackc [] ct_208 cu_ct_208 0 100 = true := by decide +kernel
theorem ck_ct_127 : ackc [] ct_127 cu_ct_127 0 183 = true := by decide +kernel
theorem ck_ct_209 : ackc [] ct_209 cu_ct_209 0 163 = true := by decide +kernel
theorem ck_ct_12 : ackc [] ct_12 cu_ct_12 3 74 = true := by decide +kernel
theorem ck_ct_15 : ackc [] ct_15 cu_ct_15 3 101 = true := by decide +kernel
theorem ck_ct_14 : ackc [ct_12, ct_15] ct_14 cu_ct_14 3 96 = true := by decide +kernel
theorem ck_ct_128 : ackc [ct_12, ct_14] ct_128 cu_ct_128 0 185 = true := by decide +kernel
theorem ck_ct_210 : ackc [] ct_210 cu_ct_210 3 94 = true := by decide +kernel
theorem ck_ct_211 : ackc [ct_210] ct_211 cu_ct_211 5 133 = true := by decide +kernel
theorem ck_ct_212 : ackc [ct_210, ct_211] ct_212 cu_ct_212 0 121 = true := by decide +kernel
theorem ck_ct_129 : ackc [ct_12, ct_14] ct_129 cu_ct_129 0 115 = true := by decide +kernel
theorem ck_ct_213 : ackc [ct_210, ct_211] ct_213 cu_ct_213 0 84 = true := by decide +kernel
theorem ck_ct_130 : ackc [] ct_130 cu_ct_130 0 79 = true := by decide +kernel
theorem ck_ct_215 : ackc [] ct_215 cu_ct_215 0 67 = true := by decide +kernel
theorem ck_ct_131 : ackc [] ct_131 cu_ct_131 0 189 = true := by decide +kernel
theorem ck_ct_216 : ackc [] ct_216 cu_ct_216 3 189 = true := by decide +kernel
theorem ck_ct_132 : ackc [] ct_132 cu_ct_132 0 186 = true := by decide +kernel
theorem ck_ct_217 : ackc [] ct_217 cu_ct_217 3 161 = true := by decide +kernel
theorem ck_ct_43 : ackc [] ct_43 cu_ct_43 3 113 = true := by decide +kernel
theorem ck_ct_133 : ackc [ct_43] ct_133 cu_ct_133 0 55 = true := by decide +kernel
theorem ck_ct_218 : ackc [] ct_218 cu_ct_218 3 95 = true := by decide +kernel
theorem ck_ct_134 : ackc [] ct_134 cu_ct_134 0 91 = true := by decide +kernel
theorem ck_ct_219 : ackc [] ct_219 cu_ct_219 0 85 = true := by decide +kernel
theorem ck_ct_42 : ackc [] ct_42 cu_ct_42 3 74 = true := by decide +kernel
theorem ck_ct_135 : ackc [ct_42, ct_74] ct_135 cu_ct_135 0 119 = true := by decide +kernel
theorem ck_ct_220 : ackc [ct_170] ct_220 cu_ct_220 3 127 = true := by decide +kernel
