/-! PURE: places, kinds, fixed references -/
theorem gI_sI (st : St) (o k : Nat) (v : Int32) (a b : Nat) : gI (sI st o k v) a b = if a = o ∧ b = k then v else gI st a b := rfl
theorem gI_sL (st : St) (o k : Nat) (v : Int64) : gI (sL st o k v) = gI st := rfl
theorem gI_sR (st : St) (o k : Nat) (v : Nat) : gI (sR st o k v) = gI st := rfl
theorem gL_sI (st : St) (o k : Nat) (v : Int32) : gL (sI st o k v) = gL st := rfl
theorem gL_sL (st : St) (o k : Nat) (v : Int64) (a b : Nat) : gL (sL st o k v) a b = if a = o ∧ b = k then v else gL st a b := rfl
theorem gL_sR (st : St) (o k : Nat) (v : Nat) : gL (sR st o k v) = gL st := rfl
theorem gR_sI (st : St) (o k : Nat) (v : Int32) : gR (sI st o k v) = gR st := rfl
theorem gR_sL (st : St) (o k : Nat) (v : Int64) : gR (sL st o k v) = gR st := rfl
theorem gR_sR (st : St) (o k : Nat) (v : Nat) (a b : Nat) : gR (sR st o k v) a b = if a = o ∧ b = k then v else gR st a b := rfl
theorem ck_t {α : Type} {c : Prop} [Decidable c] {K : Option α} (h : c) : ck c K = K := if_pos h
theorem bd_e {α β : Type} (v : α) (K : α → Option β) : bd v K = K v := rfl
theorem ca_s {α β σ : Type} (r : α) (u : σ) (K : α → σ → Option β) : ca (some (r, u)) K = K r u := rfl
theorem cv_s {β σ : Type} (u : σ) (K : σ → Option β) : cv (some u) K = K u := rfl
theorem gI_zr' (st : St) (o a b : Nat) : gI (zr st o) a b = if a = o then 0 else gI st a b := rfl
theorem gL_zr' (st : St) (o a b : Nat) : gL (zr st o) a b = if a = o then 0 else gL st a b := rfl
theorem gR_zr' (st : St) (o a b : Nat) : gR (zr st o) a b = if a = o then 0 else gR st a b := rfl
/-- a place's function is another one's with one place changed -/
theorem gI_sI_o (st : St) (o k : Nat) (v : Int32) : gI (sI st o k v) o = upd (gI st o) k v := by funext b; simp [gI_sI, upd]
theorem gI_sI_n (st : St) {o a : Nat} (k : Nat) (v : Int32) (h : a ≠ o) : gI (sI st o k v) a = gI st a := by funext b; simp [gI_sI, h]
theorem gL_sL_o (st : St) (o k : Nat) (v : Int64) : gL (sL st o k v) o = vp_updL (gL st o) k v := by funext b; simp [gL_sL, vp_updL]
theorem gL_sL_n (st : St) {o a : Nat} (k : Nat) (v : Int64) (h : a ≠ o) : gL (sL st o k v) a = gL st a := by funext b; simp [gL_sL, h]
theorem kd_1 : kd 1 = (11, 0) := rfl
theorem kd_2 : kd 2 = (9, 0) := rfl
theorem kd_3 : kd 3 = (101, 4000) := rfl
theorem kd_4 : kd 4 = (7, 0) := rfl
theorem kd_5 : kd 5 = (105, 8) := rfl
theorem kd_6 : kd 6 = (102, 16) := rfl
theorem kd_7 : kd 7 = (100, 60) := rfl
theorem kd_8 : kd 8 = (0, 0) := rfl
theorem kd_9 : kd 9 = (100, 60) := rfl
theorem kd_10 : kd 10 = (0, 0) := rfl
theorem kd_11 : kd 11 = (100, 60) := rfl
theorem kd_12 : kd 12 = (0, 0) := rfl
theorem kd_13 : kd 13 = (100, 60) := rfl
theorem kd_14 : kd 14 = (0, 0) := rfl
theorem kd_15 : kd 15 = (100, 60) := rfl
theorem kd_16 : kd 16 = (0, 0) := rfl
theorem kd_17 : kd 17 = (100, 60) := rfl
theorem kd_18 : kd 18 = (0, 0) := rfl
theorem kd_19 : kd 19 = (100, 60) := rfl
theorem kd_20 : kd 20 = (0, 0) := rfl
theorem kd_21 : kd 21 = (100, 60) := rfl
theorem kd_22 : kd 22 = (0, 0) := rfl
theorem kd_23 : kd 23 = (100, 60) := rfl
theorem kd_24 : kd 24 = (1, 0) := rfl
theorem kd_25 : kd 25 = (104, 4) := rfl
theorem kd_26 : kd 26 = (100, 64) := rfl
theorem kd_27 : kd 27 = (100, 64) := rfl
theorem kd_28 : kd 28 = (100, 128) := rfl
theorem kd_29 : kd 29 = (100, 128) := rfl
theorem kd_30 : kd 30 = (8, 0) := rfl
theorem kd_31 : kd 31 = (100, 60) := rfl
theorem kd_32 : kd 32 = (100, 60) := rfl
theorem kd_33 : kd 33 = (100, 60) := rfl
theorem kd_34 : kd 34 = (100, 60) := rfl
theorem kd_35 : kd 35 = (100, 60) := rfl
theorem kd_36 : kd 36 = (100, 60) := rfl
theorem kd_37 : kd 37 = (100, 60) := rfl
theorem kd_38 : kd 38 = (100, 61) := rfl
theorem kd_39 : kd 39 = (100, 300) := rfl
theorem kd_40 : kd 40 = (100, 300) := rfl
theorem kd_41 : kd 41 = (100, 300) := rfl
theorem kd_42 : kd 42 = (103, 300) := rfl
theorem kd_43 : kd 43 = (3, 0) := rfl
theorem kd_44 : kd 44 = (8, 0) := rfl
theorem kd_45 : kd 45 = (100, 60) := rfl
theorem kd_46 : kd 46 = (100, 60) := rfl
theorem kd_47 : kd 47 = (100, 60) := rfl
theorem kd_48 : kd 48 = (100, 60) := rfl
theorem kd_49 : kd 49 = (100, 60) := rfl
theorem kd_50 : kd 50 = (100, 60) := rfl
theorem kd_51 : kd 51 = (100, 60) := rfl
theorem kd_52 : kd 52 = (100, 61) := rfl
theorem kd_53 : kd 53 = (100, 300) := rfl
theorem kd_54 : kd 54 = (100, 300) := rfl
theorem kd_55 : kd 55 = (100, 300) := rfl
theorem kd_56 : kd 56 = (103, 300) := rfl
theorem kd_57 : kd 57 = (100, 64) := rfl
theorem kd_58 : kd 58 = (100, 64) := rfl
theorem kd_59 : kd 59 = (100, 64) := rfl
theorem kd_60 : kd 60 = (100, 64) := rfl
theorem kd_61 : kd 61 = (3, 0) := rfl
theorem kd_62 : kd 62 = (8, 0) := rfl
theorem kd_63 : kd 63 = (100, 60) := rfl
theorem kd_64 : kd 64 = (100, 60) := rfl
theorem kd_65 : kd 65 = (100, 60) := rfl
theorem kd_66 : kd 66 = (100, 60) := rfl
theorem kd_67 : kd 67 = (100, 60) := rfl
theorem kd_68 : kd 68 = (100, 60) := rfl
theorem kd_69 : kd 69 = (100, 60) := rfl
theorem kd_70 : kd 70 = (100, 61) := rfl
theorem kd_71 : kd 71 = (100, 300) := rfl
theorem kd_72 : kd 72 = (100, 300) := rfl
theorem kd_73 : kd 73 = (100, 300) := rfl
theorem kd_74 : kd 74 = (103, 300) := rfl
theorem kd_75 : kd 75 = (100, 64) := rfl
theorem kd_76 : kd 76 = (100, 64) := rfl
theorem kd_77 : kd 77 = (100, 64) := rfl
theorem kd_78 : kd 78 = (100, 64) := rfl
theorem kd_79 : kd 79 = (3, 0) := rfl
theorem kd_80 : kd 80 = (8, 0) := rfl
theorem kd_81 : kd 81 = (100, 60) := rfl
theorem kd_82 : kd 82 = (100, 60) := rfl
theorem kd_83 : kd 83 = (100, 60) := rfl
theorem kd_84 : kd 84 = (100, 60) := rfl
theorem kd_85 : kd 85 = (100, 60) := rfl
theorem kd_86 : kd 86 = (100, 60) := rfl
theorem kd_87 : kd 87 = (100, 60) := rfl
theorem kd_88 : kd 88 = (100, 61) := rfl
theorem kd_89 : kd 89 = (100, 300) := rfl
theorem kd_90 : kd 90 = (100, 300) := rfl
theorem kd_91 : kd 91 = (100, 300) := rfl
theorem kd_92 : kd 92 = (103, 300) := rfl
theorem kd_93 : kd 93 = (100, 64) := rfl
theorem kd_94 : kd 94 = (100, 64) := rfl
theorem kd_95 : kd 95 = (100, 64) := rfl
theorem kd_96 : kd 96 = (100, 64) := rfl
theorem kd_97 : kd 97 = (3, 0) := rfl
theorem kd_98 : kd 98 = (8, 0) := rfl
theorem kd_99 : kd 99 = (100, 60) := rfl
theorem kd_100 : kd 100 = (100, 60) := rfl
theorem kd_101 : kd 101 = (100, 60) := rfl
theorem kd_102 : kd 102 = (100, 60) := rfl
theorem kd_103 : kd 103 = (100, 60) := rfl
theorem kd_104 : kd 104 = (100, 60) := rfl
theorem kd_105 : kd 105 = (100, 60) := rfl
theorem kd_106 : kd 106 = (100, 61) := rfl
theorem kd_107 : kd 107 = (100, 300) := rfl
theorem kd_108 : kd 108 = (100, 300) := rfl
theorem kd_109 : kd 109 = (100, 300) := rfl
theorem kd_110 : kd 110 = (103, 300) := rfl
theorem kd_111 : kd 111 = (100, 64) := rfl
theorem kd_112 : kd 112 = (100, 64) := rfl
theorem kd_113 : kd 113 = (100, 64) := rfl
theorem kd_114 : kd 114 = (100, 64) := rfl
theorem kd_115 : kd 115 = (4, 0) := rfl
theorem kd_116 : kd 116 = (100, 8) := rfl
theorem kd_117 : kd 117 = (100, 40) := rfl
theorem kd_118 : kd 118 = (100, 40) := rfl
theorem kd_119 : kd 119 = (100, 1200) := rfl
theorem kd_120 : kd 120 = (102, 4) := rfl
theorem kd_121 : kd 121 = (6, 0) := rfl
theorem kd_122 : kd 122 = (100, 120) := rfl
theorem kd_123 : kd 123 = (100, 120) := rfl
theorem kd_124 : kd 124 = (2, 0) := rfl
theorem kd_125 : kd 125 = (100, 60) := rfl
theorem kd_126 : kd 126 = (100, 60) := rfl
theorem kd_127 : kd 127 = (100, 60) := rfl
theorem kd_128 : kd 128 = (100, 60) := rfl
theorem kd_129 : kd 129 = (100, 60) := rfl
theorem kd_130 : kd 130 = (100, 300) := rfl
theorem kd_131 : kd 131 = (100, 300) := rfl
theorem kd_132 : kd 132 = (100, 300) := rfl
theorem kd_133 : kd 133 = (100, 300) := rfl
theorem kd_134 : kd 134 = (5, 0) := rfl
theorem kd_135 : kd 135 = (100, 15) := rfl
theorem kd_136 : kd 136 = (100, 15) := rfl
theorem kd_137 : kd 137 = (103, 9) := rfl
theorem kd_138 : kd 138 = (103, 3) := rfl
theorem kd_139 : kd 139 = (10, 0) := rfl
theorem kd_140 : kd 140 = (100, 20) := rfl
theorem kd_141 : kd 141 = (100, 20) := rfl
theorem kd_142 : kd 142 = (100, 20) := rfl
theorem kd_143 : kd 143 = (100, 20) := rfl
theorem kd_144 : kd 144 = (100, 12) := rfl
theorem kd_145 : kd 145 = (100, 12) := rfl
theorem kd_146 : kd 146 = (100, 1020) := rfl
theorem kd_147 : kd 147 = (100, 612) := rfl
theorem kd_148 : kd 148 = (100, 612) := rfl
theorem kd_149 : kd 149 = (100, 612) := rfl
theorem kd_150 : kd 150 = (100, 612) := rfl
theorem kd_151 : kd 151 = (100, 12) := rfl
theorem kd_152 : kd 152 = (100, 480) := rfl
theorem kd_153 : kd 153 = (12, 0) := rfl
theorem kd_154 : kd 154 = (101, 4000) := rfl
theorem kd_155 : kd 155 = (100, 4001) := rfl
theorem kd_156 : kd 156 = (103, 4001) := rfl
theorem kd_157 : kd 157 = (100, 4001) := rfl
theorem kd_158 : kd 158 = (100, 4) := rfl
theorem kd_159 : kd 159 = (100, 240) := rfl
theorem kd_160 : kd 160 = (100, 240) := rfl
theorem kd_161 : kd 161 = (100, 240) := rfl
theorem kd_162 : kd 162 = (100, 240) := rfl
theorem kd_163 : kd 163 = (100, 240) := rfl
theorem kd_164 : kd 164 = (100, 240) := rfl
theorem kd_165 : kd 165 = (100, 240) := rfl
theorem kd_166 : kd 166 = (100, 240) := rfl
theorem kd_167 : kd 167 = (100, 15600) := rfl
theorem kd_168 : kd 168 = (100, 1200) := rfl
theorem kd_169 : kd 169 = (100, 1200) := rfl
theorem kd_170 : kd 170 = (100, 1200) := rfl
theorem kd_171 : kd 171 = (100, 60) := rfl
theorem kd_172 : kd 172 = (100, 60) := rfl
theorem kd_173 : kd 173 = (100, 60) := rfl
theorem kd_174 : kd 174 = (100, 60) := rfl
theorem kd_175 : kd 175 = (100, 60) := rfl
theorem kd_176 : kd 176 = (100, 60) := rfl
theorem kd_177 : kd 177 = (100, 60) := rfl
theorem kd_178 : kd 178 = (100, 60) := rfl
theorem kd_179 : kd 179 = (100, 3900) := rfl
theorem kd_180 : kd 180 = (100, 300) := rfl
theorem kd_181 : kd 181 = (100, 300) := rfl
theorem kd_182 : kd 182 = (100, 300) := rfl
theorem kd_183 : kd 183 = (100, 65) := rfl
theorem kd_184 : kd 184 = (102, 65) := rfl
theorem kd_185 : kd 185 = (102, 65) := rfl
theorem kd_186 : kd 186 = (100, 4) := rfl
theorem kd_187 : kd 187 = (100, 4) := rfl
theorem kd_188 : kd 188 = (100, 4) := rfl
theorem kd_189 : kd 189 = (100, 4) := rfl
theorem kd_190 : kd 190 = (100, 260) := rfl
theorem kd_191 : kd 191 = (100, 260) := rfl
theorem kd_192 : kd 192 = (100, 260) := rfl
theorem kd_193 : kd 193 = (100, 260) := rfl
theorem kd_194 : kd 194 = (100, 260) := rfl
theorem kd_195 : kd 195 = (100, 65) := rfl
theorem kd_196 : kd 196 = (100, 128) := rfl
theorem kd_197 : kd 197 = (100, 128) := rfl
theorem kd_198 : kd 198 = (102, 8) := rfl
theorem kd_199 : kd 199 = (100, 8) := rfl
theorem kd_200 : kd 200 = (100, 8) := rfl
theorem kd_201 : kd 201 = (100, 8) := rfl
theorem kd_202 : kd 202 = (100, 8) := rfl
theorem kd_203 : kd 203 = (100, 8) := rfl
theorem kd_204 : kd 204 = (100, 8) := rfl
theorem kd_205 : kd 205 = (100, 8) := rfl
theorem kd_206 : kd 206 = (100, 8) := rfl
theorem kd_207 : kd 207 = (100, 8) := rfl
theorem kd_208 : kd 208 = (100, 8) := rfl
theorem kd_209 : kd 209 = (100, 8) := rfl
theorem kd_210 : kd 210 = (102, 16) := rfl
theorem kd_211 : kd 211 = (100, 8) := rfl
theorem kd_212 : kd 212 = (100, 488) := rfl
theorem kd_213 : kd 213 = (103, 488) := rfl
theorem kd_214 : kd 214 = (100, 8) := rfl
theorem kd_215 : kd 215 = (100, 40) := rfl
theorem kd_216 : kd 216 = (100, 40) := rfl
theorem kd_217 : kd 217 = (100, 1200) := rfl
theorem kd_218 : kd 218 = (102, 4) := rfl
theorem kd_219 : kd 219 = (102, 60) := rfl
theorem kd_220 : kd 220 = (100, 60) := rfl
theorem kd_221 : kd 221 = (100, 60) := rfl
theorem kd_222 : kd 222 = (100, 60) := rfl
theorem kd_223 : kd 223 = (100, 60) := rfl
theorem kd_224 : kd 224 = (100, 60) := rfl
theorem kd_225 : kd 225 = (100, 60) := rfl
theorem kd_226 : kd 226 = (100, 60) := rfl
theorem kd_227 : kd 227 = (100, 300) := rfl
theorem kd_228 : kd 228 = (100, 300) := rfl
theorem kd_229 : kd 229 = (100, 300) := rfl
theorem kd_230 : kd 230 = (100, 300) := rfl
theorem kd_231 : kd 231 = (102, 300) := rfl
theorem kd_232 : kd 232 = (102, 300) := rfl
theorem kd_233 : kd 233 = (100, 21) := rfl
theorem kd_234 : kd 234 = (100, 20) := rfl
theorem kd_235 : kd 235 = (100, 20) := rfl
theorem kd_236 : kd 236 = (100, 4000) := rfl
theorem kd_237 : kd 237 = (100, 4000) := rfl
theorem kd_238 : kd 238 = (100, 21) := rfl
theorem kd_239 : kd 239 = (100, 20) := rfl
theorem kd_240 : kd 240 = (100, 20) := rfl
theorem kd_241 : kd 241 = (100, 4000) := rfl
theorem kd_242 : kd 242 = (100, 4000) := rfl
theorem kd_243 : kd 243 = (103, 3) := rfl
theorem kd_244 : kd 244 = (103, 9) := rfl
theorem kd_245 : kd 245 = (103, 3) := rfl
theorem kd_246 : kd 246 = (103, 3) := rfl
theorem kd_247 : kd 247 = (103, 9) := rfl
theorem kd_248 : kd 248 = (103, 3) := rfl
theorem kd_249 : kd 249 = (102, 3) := rfl
theorem kd_250 : kd 250 = (100, 20) := rfl
theorem kd_251 : kd 251 = (100, 20) := rfl
theorem kd_252 : kd 252 = (100, 20) := rfl
theorem kd_253 : kd 253 = (100, 20) := rfl
theorem kd_254 : kd 254 = (100, 11) := rfl
theorem kd_255 : kd 255 = (100, 612) := rfl
theorem kd_256 : kd 256 = (100, 3264) := rfl
theorem kd_257 : kd 257 = (100, 3264) := rfl
theorem kd_258 : kd 258 = (100, 3264) := rfl
theorem kd_259 : kd 259 = (100, 612) := rfl
theorem kd_260 : kd 260 = (100, 612) := rfl
theorem kd_261 : kd 261 = (100, 11) := rfl
def topL : List (Nat × Nat × Nat) := [(1, 0, 2), (1, 1, 4), (1, 2, 24), (1, 3, 115), (1, 4, 121), (1, 5, 124), (1, 6, 134), (1, 7, 139), (2, 0, 3), (4, 0, 5), (4, 1, 6), (24, 0, 25), (24, 1, 26), (24, 2, 27), (24, 3, 28), (24, 4, 29), (24, 5, 4), (115, 0, 116), (115, 1, 117), (115, 2, 118), (115, 3, 119), (115, 4, 120), (124, 0, 115), (124, 1, 121), (124, 2, 125), (124, 3, 126), (124, 4, 127), (124, 5, 128), (124, 6, 129), (124, 7, 130), (124, 8, 131), (124, 9, 132), (124, 10, 133), (134, 3, 137), (134, 4, 138), (139, 0, 140), (139, 1, 141), (139, 2, 142), (139, 3, 143), (139, 4, 144), (139, 5, 145), (139, 6, 146), (139, 7, 147), (139, 8, 148), (139, 9, 149), (139, 10, 150), (139, 11, 151), (139, 12, 152), (5, 0, 8), (5, 1, 10), (5, 2, 12), (5, 3, 14), (5, 4, 16), (5, 5, 18), (5, 6, 20), (5, 7, 22), (25, 0, 43), (43, 1, 57), (43, 2, 58), (43, 3, 59), (43, 4, 60), (25, 1, 61), (61, 1, 75), (61, 2, 76), (61, 3, 77), (61, 4, 78), (25, 2, 79), (79, 1, 93), (79, 2, 94), (79, 3, 95), (79, 4, 96), (25, 3, 97), (97, 1, 111), (97, 2, 112), (97, 3, 113), (97, 4, 114), (30, 0, 31), (30, 1, 32), (30, 2, 33), (30, 3, 34), (30, 4, 35), (30, 5, 36), (30, 6, 37), (30, 7, 38), (30, 8, 39), (30, 9, 40), (30, 10, 41), (30, 11, 42), (44, 0, 45), (44, 1, 46), (44, 2, 47), (44, 3, 48), (44, 4, 49), (44, 5, 50), (44, 6, 51), (44, 7, 52), (44, 8, 53), (44, 9, 54), (44, 10, 55), (44, 11, 56), (62, 0, 63), (62, 1, 64), (62, 2, 65), (62, 3, 66), (62, 4, 67), (62, 5, 68), (62, 6, 69), (62, 7, 70), (62, 8, 71), (62, 9, 72), (62, 10, 73), (62, 11, 74), (80, 0, 81), (80, 1, 82), (80, 2, 83), (80, 3, 84), (80, 4, 85), (80, 5, 86), (80, 6, 87), (80, 7, 88), (80, 8, 89), (80, 9, 90), (80, 10, 91), (80, 11, 92), (98, 0, 99), (98, 1, 100), (98, 2, 101), (98, 3, 102), (98, 4, 103), (98, 5, 104), (98, 6, 105), (98, 7, 106), (98, 8, 107), (98, 9, 108), (98, 10, 109), (98, 11, 110), (153, 0, 154), (153, 2, 155), (153, 3, 156), (153, 4, 157), (153, 9, 158), (153, 10, 159), (153, 11, 160), (153, 12, 161), (153, 13, 162), (153, 14, 163), (153, 15, 164), (153, 16, 165), (153, 17, 166), (153, 18, 167), (153, 19, 168), (153, 20, 169), (153, 21, 170), (153, 22, 171), (153, 23, 172), (153, 24, 173), (153, 25, 174), (153, 26, 175), (153, 27, 176), (153, 28, 177), (153, 29, 178), (153, 30, 179), (153, 31, 180), (153, 32, 181), (153, 33, 182), (153, 36, 183), (153, 37, 184), (153, 39, 185), (153, 41, 186), (153, 42, 187), (153, 43, 188), (153, 44, 189), (153, 45, 190), (153, 46, 191), (153, 47, 192), (153, 48, 193), (153, 49, 194), (153, 50, 195), (153, 51, 196), (153, 52, 197), (153, 54, 198), (153, 55, 199), (153, 56, 200), (153, 57, 201), (153, 58, 202), (153, 59, 203), (153, 60, 204), (153, 61, 205), (153, 62, 206), (153, 63, 207), (153, 64, 208), (153, 65, 209), (153, 66, 210), (153, 68, 211), (153, 69, 212), (153, 70, 213), (153, 73, 214), (153, 74, 215), (153, 75, 216), (153, 76, 217), (153, 77, 218), (153, 78, 219), (153, 79, 220), (153, 80, 221), (153, 81, 222), (153, 82, 223), (153, 83, 224), (153, 84, 225), (153, 85, 226), (153, 86, 227), (153, 87, 228), (153, 88, 229), (153, 89, 230), (153, 90, 231), (153, 91, 232), (153, 95, 233), (153, 96, 234), (153, 97, 235), (153, 98, 236), (153, 99, 237), (153, 101, 238), (153, 102, 239), (153, 103, 240), (153, 104, 241), (153, 105, 242), (153, 106, 243), (153, 107, 244), (153, 108, 245), (153, 109, 246), (153, 110, 247), (153, 111, 248), (153, 112, 249), (153, 114, 250), (153, 115, 251), (153, 116, 252), (153, 117, 253), (153, 118, 254), (153, 119, 255), (153, 120, 256), (153, 121, 257), (153, 122, 258), (153, 124, 259), (153, 125, 260), (153, 126, 261)]
/-- the references that never change -/
def Top (st : St) : Prop := ∀ q ∈ topL, gR st q.1 q.2.1 = q.2.2
theorem tp_1_0 {st : St} (h : Top st) : gR st 1 0 = 2 := h (1, 0, 2) (List.mem_of_getElem? (i := 0) rfl)
theorem tp_1_1 {st : St} (h : Top st) : gR st 1 1 = 4 := h (1, 1, 4) (List.mem_of_getElem? (i := 1) rfl)
theorem tp_1_2 {st : St} (h : Top st) : gR st 1 2 = 24 := h (1, 2, 24) (List.mem_of_getElem? (i := 2) rfl)
theorem tp_1_3 {st : St} (h : Top st) : gR st 1 3 = 115 := h (1, 3, 115) (List.mem_of_getElem? (i := 3) rfl)
theorem tp_1_4 {st : St} (h : Top st) : gR st 1 4 = 121 := h (1, 4, 121) (List.mem_of_getElem? (i := 4) rfl)
theorem tp_1_5 {st : St} (h : Top st) : gR st 1 5 = 124 := h (1, 5, 124) (List.mem_of_getElem? (i := 5) rfl)
theorem tp_1_6 {st : St} (h : Top st) : gR st 1 6 = 134 := h (1, 6, 134) (List.mem_of_getElem? (i := 6) rfl)
theorem tp_1_7 {st : St} (h : Top st) : gR st 1 7 = 139 := h (1, 7, 139) (List.mem_of_getElem? (i := 7) rfl)
theorem tp_2_0 {st : St} (h : Top st) : gR st 2 0 = 3 := h (2, 0, 3) (List.mem_of_getElem? (i := 8) rfl)
theorem tp_4_0 {st : St} (h : Top st) : gR st 4 0 = 5 := h (4, 0, 5) (List.mem_of_getElem? (i := 9) rfl)
theorem tp_4_1 {st : St} (h : Top st) : gR st 4 1 = 6 := h (4, 1, 6) (List.mem_of_getElem? (i := 10) rfl)
theorem tp_24_0 {st : St} (h : Top st) : gR st 24 0 = 25 := h (24, 0, 25) (List.mem_of_getElem? (i := 11) rfl)
theorem tp_24_1 {st : St} (h : Top st) : gR st 24 1 = 26 := h (24, 1, 26) (List.mem_of_getElem? (i := 12) rfl)
theorem tp_24_2 {st : St} (h : Top st) : gR st 24 2 = 27 := h (24, 2, 27) (List.mem_of_getElem? (i := 13) rfl)
theorem tp_24_3 {st : St} (h : Top st) : gR st 24 3 = 28 := h (24, 3, 28) (List.mem_of_getElem? (i := 14) rfl)
theorem tp_24_4 {st : St} (h : Top st) : gR st 24 4 = 29 := h (24, 4, 29) (List.mem_of_getElem? (i := 15) rfl)
theorem tp_24_5 {st : St} (h : Top st) : gR st 24 5 = 4 := h (24, 5, 4) (List.mem_of_getElem? (i := 16) rfl)
theorem tp_115_0 {st : St} (h : Top st) : gR st 115 0 = 116 := h (115, 0, 116) (List.mem_of_getElem? (i := 17) rfl)
theorem tp_115_1 {st : St} (h : Top st) : gR st 115 1 = 117 := h (115, 1, 117) (List.mem_of_getElem? (i := 18) rfl)
theorem tp_115_2 {st : St} (h : Top st) : gR st 115 2 = 118 := h (115, 2, 118) (List.mem_of_getElem? (i := 19) rfl)
theorem tp_115_3 {st : St} (h : Top st) : gR st 115 3 = 119 := h (115, 3, 119) (List.mem_of_getElem? (i := 20) rfl)
theorem tp_115_4 {st : St} (h : Top st) : gR st 115 4 = 120 := h (115, 4, 120) (List.mem_of_getElem? (i := 21) rfl)
theorem tp_124_0 {st : St} (h : Top st) : gR st 124 0 = 115 := h (124, 0, 115) (List.mem_of_getElem? (i := 22) rfl)
theorem tp_124_1 {st : St} (h : Top st) : gR st 124 1 = 121 := h (124, 1, 121) (List.mem_of_getElem? (i := 23) rfl)
theorem tp_124_2 {st : St} (h : Top st) : gR st 124 2 = 125 := h (124, 2, 125) (List.mem_of_getElem? (i := 24) rfl)
theorem tp_124_3 {st : St} (h : Top st) : gR st 124 3 = 126 := h (124, 3, 126) (List.mem_of_getElem? (i := 25) rfl)
theorem tp_124_4 {st : St} (h : Top st) : gR st 124 4 = 127 := h (124, 4, 127) (List.mem_of_getElem? (i := 26) rfl)
theorem tp_124_5 {st : St} (h : Top st) : gR st 124 5 = 128 := h (124, 5, 128) (List.mem_of_getElem? (i := 27) rfl)
theorem tp_124_6 {st : St} (h : Top st) : gR st 124 6 = 129 := h (124, 6, 129) (List.mem_of_getElem? (i := 28) rfl)
theorem tp_124_7 {st : St} (h : Top st) : gR st 124 7 = 130 := h (124, 7, 130) (List.mem_of_getElem? (i := 29) rfl)
theorem tp_124_8 {st : St} (h : Top st) : gR st 124 8 = 131 := h (124, 8, 131) (List.mem_of_getElem? (i := 30) rfl)
theorem tp_124_9 {st : St} (h : Top st) : gR st 124 9 = 132 := h (124, 9, 132) (List.mem_of_getElem? (i := 31) rfl)
theorem tp_124_10 {st : St} (h : Top st) : gR st 124 10 = 133 := h (124, 10, 133) (List.mem_of_getElem? (i := 32) rfl)
theorem tp_134_3 {st : St} (h : Top st) : gR st 134 3 = 137 := h (134, 3, 137) (List.mem_of_getElem? (i := 33) rfl)
theorem tp_134_4 {st : St} (h : Top st) : gR st 134 4 = 138 := h (134, 4, 138) (List.mem_of_getElem? (i := 34) rfl)
theorem tp_139_0 {st : St} (h : Top st) : gR st 139 0 = 140 := h (139, 0, 140) (List.mem_of_getElem? (i := 35) rfl)
theorem tp_139_1 {st : St} (h : Top st) : gR st 139 1 = 141 := h (139, 1, 141) (List.mem_of_getElem? (i := 36) rfl)
theorem tp_139_2 {st : St} (h : Top st) : gR st 139 2 = 142 := h (139, 2, 142) (List.mem_of_getElem? (i := 37) rfl)
theorem tp_139_3 {st : St} (h : Top st) : gR st 139 3 = 143 := h (139, 3, 143) (List.mem_of_getElem? (i := 38) rfl)
theorem tp_139_4 {st : St} (h : Top st) : gR st 139 4 = 144 := h (139, 4, 144) (List.mem_of_getElem? (i := 39) rfl)
theorem tp_139_5 {st : St} (h : Top st) : gR st 139 5 = 145 := h (139, 5, 145) (List.mem_of_getElem? (i := 40) rfl)
theorem tp_139_6 {st : St} (h : Top st) : gR st 139 6 = 146 := h (139, 6, 146) (List.mem_of_getElem? (i := 41) rfl)
theorem tp_139_7 {st : St} (h : Top st) : gR st 139 7 = 147 := h (139, 7, 147) (List.mem_of_getElem? (i := 42) rfl)
theorem tp_139_8 {st : St} (h : Top st) : gR st 139 8 = 148 := h (139, 8, 148) (List.mem_of_getElem? (i := 43) rfl)
theorem tp_139_9 {st : St} (h : Top st) : gR st 139 9 = 149 := h (139, 9, 149) (List.mem_of_getElem? (i := 44) rfl)
theorem tp_139_10 {st : St} (h : Top st) : gR st 139 10 = 150 := h (139, 10, 150) (List.mem_of_getElem? (i := 45) rfl)
theorem tp_139_11 {st : St} (h : Top st) : gR st 139 11 = 151 := h (139, 11, 151) (List.mem_of_getElem? (i := 46) rfl)
theorem tp_139_12 {st : St} (h : Top st) : gR st 139 12 = 152 := h (139, 12, 152) (List.mem_of_getElem? (i := 47) rfl)
theorem tp_5_0 {st : St} (h : Top st) : gR st 5 0 = 8 := h (5, 0, 8) (List.mem_of_getElem? (i := 48) rfl)
theorem tp_5_1 {st : St} (h : Top st) : gR st 5 1 = 10 := h (5, 1, 10) (List.mem_of_getElem? (i := 49) rfl)
theorem tp_5_2 {st : St} (h : Top st) : gR st 5 2 = 12 := h (5, 2, 12) (List.mem_of_getElem? (i := 50) rfl)
theorem tp_5_3 {st : St} (h : Top st) : gR st 5 3 = 14 := h (5, 3, 14) (List.mem_of_getElem? (i := 51) rfl)
theorem tp_5_4 {st : St} (h : Top st) : gR st 5 4 = 16 := h (5, 4, 16) (List.mem_of_getElem? (i := 52) rfl)
theorem tp_5_5 {st : St} (h : Top st) : gR st 5 5 = 18 := h (5, 5, 18) (List.mem_of_getElem? (i := 53) rfl)
theorem tp_5_6 {st : St} (h : Top st) : gR st 5 6 = 20 := h (5, 6, 20) (List.mem_of_getElem? (i := 54) rfl)
theorem tp_5_7 {st : St} (h : Top st) : gR st 5 7 = 22 := h (5, 7, 22) (List.mem_of_getElem? (i := 55) rfl)
theorem tp_25_0 {st : St} (h : Top st) : gR st 25 0 = 43 := h (25, 0, 43) (List.mem_of_getElem? (i := 56) rfl)
theorem tp_43_1 {st : St} (h : Top st) : gR st 43 1 = 57 := h (43, 1, 57) (List.mem_of_getElem? (i := 57) rfl)
theorem tp_43_2 {st : St} (h : Top st) : gR st 43 2 = 58 := h (43, 2, 58) (List.mem_of_getElem? (i := 58) rfl)
theorem tp_43_3 {st : St} (h : Top st) : gR st 43 3 = 59 := h (43, 3, 59) (List.mem_of_getElem? (i := 59) rfl)
theorem tp_43_4 {st : St} (h : Top st) : gR st 43 4 = 60 := h (43, 4, 60) (List.mem_of_getElem? (i := 60) rfl)
theorem tp_25_1 {st : St} (h : Top st) : gR st 25 1 = 61 := h (25, 1, 61) (List.mem_of_getElem? (i := 61) rfl)
theorem tp_61_1 {st : St} (h : Top st) : gR st 61 1 = 75 := h (61, 1, 75) (List.mem_of_getElem? (i := 62) rfl)
theorem tp_61_2 {st : St} (h : Top st) : gR st 61 2 = 76 := h (61, 2, 76) (List.mem_of_getElem? (i := 63) rfl)
theorem tp_61_3 {st : St} (h : Top st) : gR st 61 3 = 77 := h (61, 3, 77) (List.mem_of_getElem? (i := 64) rfl)
theorem tp_61_4 {st : St} (h : Top st) : gR st 61 4 = 78 := h (61, 4, 78) (List.mem_of_getElem? (i := 65) rfl)
theorem tp_25_2 {st : St} (h : Top st) : gR st 25 2 = 79 := h (25, 2, 79) (List.mem_of_getElem? (i := 66) rfl)
theorem tp_79_1 {st : St} (h : Top st) : gR st 79 1 = 93 := h (79, 1, 93) (List.mem_of_getElem? (i := 67) rfl)
theorem tp_79_2 {st : St} (h : Top st) : gR st 79 2 = 94 := h (79, 2, 94) (List.mem_of_getElem? (i := 68) rfl)
theorem tp_79_3 {st : St} (h : Top st) : gR st 79 3 = 95 := h (79, 3, 95) (List.mem_of_getElem? (i := 69) rfl)
theorem tp_79_4 {st : St} (h : Top st) : gR st 79 4 = 96 := h (79, 4, 96) (List.mem_of_getElem? (i := 70) rfl)
theorem tp_25_3 {st : St} (h : Top st) : gR st 25 3 = 97 := h (25, 3, 97) (List.mem_of_getElem? (i := 71) rfl)
theorem tp_97_1 {st : St} (h : Top st) : gR st 97 1 = 111 := h (97, 1, 111) (List.mem_of_getElem? (i := 72) rfl)
theorem tp_97_2 {st : St} (h : Top st) : gR st 97 2 = 112 := h (97, 2, 112) (List.mem_of_getElem? (i := 73) rfl)
theorem tp_97_3 {st : St} (h : Top st) : gR st 97 3 = 113 := h (97, 3, 113) (List.mem_of_getElem? (i := 74) rfl)
theorem tp_97_4 {st : St} (h : Top st) : gR st 97 4 = 114 := h (97, 4, 114) (List.mem_of_getElem? (i := 75) rfl)
theorem tp_30_0 {st : St} (h : Top st) : gR st 30 0 = 31 := h (30, 0, 31) (List.mem_of_getElem? (i := 76) rfl)
theorem tp_30_1 {st : St} (h : Top st) : gR st 30 1 = 32 := h (30, 1, 32) (List.mem_of_getElem? (i := 77) rfl)
theorem tp_30_2 {st : St} (h : Top st) : gR st 30 2 = 33 := h (30, 2, 33) (List.mem_of_getElem? (i := 78) rfl)
theorem tp_30_3 {st : St} (h : Top st) : gR st 30 3 = 34 := h (30, 3, 34) (List.mem_of_getElem? (i := 79) rfl)
theorem tp_30_4 {st : St} (h : Top st) : gR st 30 4 = 35 := h (30, 4, 35) (List.mem_of_getElem? (i := 80) rfl)
theorem tp_30_5 {st : St} (h : Top st) : gR st 30 5 = 36 := h (30, 5, 36) (List.mem_of_getElem? (i := 81) rfl)
theorem tp_30_6 {st : St} (h : Top st) : gR st 30 6 = 37 := h (30, 6, 37) (List.mem_of_getElem? (i := 82) rfl)
theorem tp_30_7 {st : St} (h : Top st) : gR st 30 7 = 38 := h (30, 7, 38) (List.mem_of_getElem? (i := 83) rfl)
theorem tp_30_8 {st : St} (h : Top st) : gR st 30 8 = 39 := h (30, 8, 39) (List.mem_of_getElem? (i := 84) rfl)
theorem tp_30_9 {st : St} (h : Top st) : gR st 30 9 = 40 := h (30, 9, 40) (List.mem_of_getElem? (i := 85) rfl)
theorem tp_30_10 {st : St} (h : Top st) : gR st 30 10 = 41 := h (30, 10, 41) (List.mem_of_getElem? (i := 86) rfl)
theorem tp_30_11 {st : St} (h : Top st) : gR st 30 11 = 42 := h (30, 11, 42) (List.mem_of_getElem? (i := 87) rfl)
theorem tp_44_0 {st : St} (h : Top st) : gR st 44 0 = 45 := h (44, 0, 45) (List.mem_of_getElem? (i := 88) rfl)
theorem tp_44_1 {st : St} (h : Top st) : gR st 44 1 = 46 := h (44, 1, 46) (List.mem_of_getElem? (i := 89) rfl)
theorem tp_44_2 {st : St} (h : Top st) : gR st 44 2 = 47 := h (44, 2, 47) (List.mem_of_getElem? (i := 90) rfl)
theorem tp_44_3 {st : St} (h : Top st) : gR st 44 3 = 48 := h (44, 3, 48) (List.mem_of_getElem? (i := 91) rfl)
theorem tp_44_4 {st : St} (h : Top st) : gR st 44 4 = 49 := h (44, 4, 49) (List.mem_of_getElem? (i := 92) rfl)
theorem tp_44_5 {st : St} (h : Top st) : gR st 44 5 = 50 := h (44, 5, 50) (List.mem_of_getElem? (i := 93) rfl)
theorem tp_44_6 {st : St} (h : Top st) : gR st 44 6 = 51 := h (44, 6, 51) (List.mem_of_getElem? (i := 94) rfl)
theorem tp_44_7 {st : St} (h : Top st) : gR st 44 7 = 52 := h (44, 7, 52) (List.mem_of_getElem? (i := 95) rfl)
theorem tp_44_8 {st : St} (h : Top st) : gR st 44 8 = 53 := h (44, 8, 53) (List.mem_of_getElem? (i := 96) rfl)
theorem tp_44_9 {st : St} (h : Top st) : gR st 44 9 = 54 := h (44, 9, 54) (List.mem_of_getElem? (i := 97) rfl)
theorem tp_44_10 {st : St} (h : Top st) : gR st 44 10 = 55 := h (44, 10, 55) (List.mem_of_getElem? (i := 98) rfl)
theorem tp_44_11 {st : St} (h : Top st) : gR st 44 11 = 56 := h (44, 11, 56) (List.mem_of_getElem? (i := 99) rfl)
theorem tp_62_0 {st : St} (h : Top st) : gR st 62 0 = 63 := h (62, 0, 63) (List.mem_of_getElem? (i := 100) rfl)
theorem tp_62_1 {st : St} (h : Top st) : gR st 62 1 = 64 := h (62, 1, 64) (List.mem_of_getElem? (i := 101) rfl)
theorem tp_62_2 {st : St} (h : Top st) : gR st 62 2 = 65 := h (62, 2, 65) (List.mem_of_getElem? (i := 102) rfl)
theorem tp_62_3 {st : St} (h : Top st) : gR st 62 3 = 66 := h (62, 3, 66) (List.mem_of_getElem? (i := 103) rfl)
theorem tp_62_4 {st : St} (h : Top st) : gR st 62 4 = 67 := h (62, 4, 67) (List.mem_of_getElem? (i := 104) rfl)
theorem tp_62_5 {st : St} (h : Top st) : gR st 62 5 = 68 := h (62, 5, 68) (List.mem_of_getElem? (i := 105) rfl)
theorem tp_62_6 {st : St} (h : Top st) : gR st 62 6 = 69 := h (62, 6, 69) (List.mem_of_getElem? (i := 106) rfl)
theorem tp_62_7 {st : St} (h : Top st) : gR st 62 7 = 70 := h (62, 7, 70) (List.mem_of_getElem? (i := 107) rfl)
theorem tp_62_8 {st : St} (h : Top st) : gR st 62 8 = 71 := h (62, 8, 71) (List.mem_of_getElem? (i := 108) rfl)
theorem tp_62_9 {st : St} (h : Top st) : gR st 62 9 = 72 := h (62, 9, 72) (List.mem_of_getElem? (i := 109) rfl)
theorem tp_62_10 {st : St} (h : Top st) : gR st 62 10 = 73 := h (62, 10, 73) (List.mem_of_getElem? (i := 110) rfl)
theorem tp_62_11 {st : St} (h : Top st) : gR st 62 11 = 74 := h (62, 11, 74) (List.mem_of_getElem? (i := 111) rfl)
theorem tp_80_0 {st : St} (h : Top st) : gR st 80 0 = 81 := h (80, 0, 81) (List.mem_of_getElem? (i := 112) rfl)
theorem tp_80_1 {st : St} (h : Top st) : gR st 80 1 = 82 := h (80, 1, 82) (List.mem_of_getElem? (i := 113) rfl)
theorem tp_80_2 {st : St} (h : Top st) : gR st 80 2 = 83 := h (80, 2, 83) (List.mem_of_getElem? (i := 114) rfl)
theorem tp_80_3 {st : St} (h : Top st) : gR st 80 3 = 84 := h (80, 3, 84) (List.mem_of_getElem? (i := 115) rfl)
theorem tp_80_4 {st : St} (h : Top st) : gR st 80 4 = 85 := h (80, 4, 85) (List.mem_of_getElem? (i := 116) rfl)
theorem tp_80_5 {st : St} (h : Top st) : gR st 80 5 = 86 := h (80, 5, 86) (List.mem_of_getElem? (i := 117) rfl)
theorem tp_80_6 {st : St} (h : Top st) : gR st 80 6 = 87 := h (80, 6, 87) (List.mem_of_getElem? (i := 118) rfl)
theorem tp_80_7 {st : St} (h : Top st) : gR st 80 7 = 88 := h (80, 7, 88) (List.mem_of_getElem? (i := 119) rfl)
theorem tp_80_8 {st : St} (h : Top st) : gR st 80 8 = 89 := h (80, 8, 89) (List.mem_of_getElem? (i := 120) rfl)
theorem tp_80_9 {st : St} (h : Top st) : gR st 80 9 = 90 := h (80, 9, 90) (List.mem_of_getElem? (i := 121) rfl)
theorem tp_80_10 {st : St} (h : Top st) : gR st 80 10 = 91 := h (80, 10, 91) (List.mem_of_getElem? (i := 122) rfl)
theorem tp_80_11 {st : St} (h : Top st) : gR st 80 11 = 92 := h (80, 11, 92) (List.mem_of_getElem? (i := 123) rfl)
theorem tp_98_0 {st : St} (h : Top st) : gR st 98 0 = 99 := h (98, 0, 99) (List.mem_of_getElem? (i := 124) rfl)
theorem tp_98_1 {st : St} (h : Top st) : gR st 98 1 = 100 := h (98, 1, 100) (List.mem_of_getElem? (i := 125) rfl)
theorem tp_98_2 {st : St} (h : Top st) : gR st 98 2 = 101 := h (98, 2, 101) (List.mem_of_getElem? (i := 126) rfl)
theorem tp_98_3 {st : St} (h : Top st) : gR st 98 3 = 102 := h (98, 3, 102) (List.mem_of_getElem? (i := 127) rfl)
theorem tp_98_4 {st : St} (h : Top st) : gR st 98 4 = 103 := h (98, 4, 103) (List.mem_of_getElem? (i := 128) rfl)
theorem tp_98_5 {st : St} (h : Top st) : gR st 98 5 = 104 := h (98, 5, 104) (List.mem_of_getElem? (i := 129) rfl)
theorem tp_98_6 {st : St} (h : Top st) : gR st 98 6 = 105 := h (98, 6, 105) (List.mem_of_getElem? (i := 130) rfl)
theorem tp_98_7 {st : St} (h : Top st) : gR st 98 7 = 106 := h (98, 7, 106) (List.mem_of_getElem? (i := 131) rfl)
theorem tp_98_8 {st : St} (h : Top st) : gR st 98 8 = 107 := h (98, 8, 107) (List.mem_of_getElem? (i := 132) rfl)
theorem tp_98_9 {st : St} (h : Top st) : gR st 98 9 = 108 := h (98, 9, 108) (List.mem_of_getElem? (i := 133) rfl)
theorem tp_98_10 {st : St} (h : Top st) : gR st 98 10 = 109 := h (98, 10, 109) (List.mem_of_getElem? (i := 134) rfl)
theorem tp_98_11 {st : St} (h : Top st) : gR st 98 11 = 110 := h (98, 11, 110) (List.mem_of_getElem? (i := 135) rfl)
theorem tp_153_0 {st : St} (h : Top st) : gR st 153 0 = 154 := h (153, 0, 154) (List.mem_of_getElem? (i := 136) rfl)
theorem tp_153_2 {st : St} (h : Top st) : gR st 153 2 = 155 := h (153, 2, 155) (List.mem_of_getElem? (i := 137) rfl)
theorem tp_153_3 {st : St} (h : Top st) : gR st 153 3 = 156 := h (153, 3, 156) (List.mem_of_getElem? (i := 138) rfl)
theorem tp_153_4 {st : St} (h : Top st) : gR st 153 4 = 157 := h (153, 4, 157) (List.mem_of_getElem? (i := 139) rfl)
theorem tp_153_9 {st : St} (h : Top st) : gR st 153 9 = 158 := h (153, 9, 158) (List.mem_of_getElem? (i := 140) rfl)
theorem tp_153_10 {st : St} (h : Top st) : gR st 153 10 = 159 := h (153, 10, 159) (List.mem_of_getElem? (i := 141) rfl)
theorem tp_153_11 {st : St} (h : Top st) : gR st 153 11 = 160 := h (153, 11, 160) (List.mem_of_getElem? (i := 142) rfl)
theorem tp_153_12 {st : St} (h : Top st) : gR st 153 12 = 161 := h (153, 12, 161) (List.mem_of_getElem? (i := 143) rfl)
theorem tp_153_13 {st : St} (h : Top st) : gR st 153 13 = 162 := h (153, 13, 162) (List.mem_of_getElem? (i := 144) rfl)
theorem tp_153_14 {st : St} (h : Top st) : gR st 153 14 = 163 := h (153, 14, 163) (List.mem_of_getElem? (i := 145) rfl)
theorem tp_153_15 {st : St} (h : Top st) : gR st 153 15 = 164 := h (153, 15, 164) (List.mem_of_getElem? (i := 146) rfl)
theorem tp_153_16 {st : St} (h : Top st) : gR st 153 16 = 165 := h (153, 16, 165) (List.mem_of_getElem? (i := 147) rfl)
theorem tp_153_17 {st : St} (h : Top st) : gR st 153 17 = 166 := h (153, 17, 166) (List.mem_of_getElem? (i := 148) rfl)
theorem tp_153_18 {st : St} (h : Top st) : gR st 153 18 = 167 := h (153, 18, 167) (List.mem_of_getElem? (i := 149) rfl)
theorem tp_153_19 {st : St} (h : Top st) : gR st 153 19 = 168 := h (153, 19, 168) (List.mem_of_getElem? (i := 150) rfl)
theorem tp_153_20 {st : St} (h : Top st) : gR st 153 20 = 169 := h (153, 20, 169) (List.mem_of_getElem? (i := 151) rfl)
theorem tp_153_21 {st : St} (h : Top st) : gR st 153 21 = 170 := h (153, 21, 170) (List.mem_of_getElem? (i := 152) rfl)
theorem tp_153_22 {st : St} (h : Top st) : gR st 153 22 = 171 := h (153, 22, 171) (List.mem_of_getElem? (i := 153) rfl)
theorem tp_153_23 {st : St} (h : Top st) : gR st 153 23 = 172 := h (153, 23, 172) (List.mem_of_getElem? (i := 154) rfl)
theorem tp_153_24 {st : St} (h : Top st) : gR st 153 24 = 173 := h (153, 24, 173) (List.mem_of_getElem? (i := 155) rfl)
theorem tp_153_25 {st : St} (h : Top st) : gR st 153 25 = 174 := h (153, 25, 174) (List.mem_of_getElem? (i := 156) rfl)
theorem tp_153_26 {st : St} (h : Top st) : gR st 153 26 = 175 := h (153, 26, 175) (List.mem_of_getElem? (i := 157) rfl)
theorem tp_153_27 {st : St} (h : Top st) : gR st 153 27 = 176 := h (153, 27, 176) (List.mem_of_getElem? (i := 158) rfl)
theorem tp_153_28 {st : St} (h : Top st) : gR st 153 28 = 177 := h (153, 28, 177) (List.mem_of_getElem? (i := 159) rfl)
theorem tp_153_29 {st : St} (h : Top st) : gR st 153 29 = 178 := h (153, 29, 178) (List.mem_of_getElem? (i := 160) rfl)
theorem tp_153_30 {st : St} (h : Top st) : gR st 153 30 = 179 := h (153, 30, 179) (List.mem_of_getElem? (i := 161) rfl)
theorem tp_153_31 {st : St} (h : Top st) : gR st 153 31 = 180 := h (153, 31, 180) (List.mem_of_getElem? (i := 162) rfl)
theorem tp_153_32 {st : St} (h : Top st) : gR st 153 32 = 181 := h (153, 32, 181) (List.mem_of_getElem? (i := 163) rfl)
theorem tp_153_33 {st : St} (h : Top st) : gR st 153 33 = 182 := h (153, 33, 182) (List.mem_of_getElem? (i := 164) rfl)
theorem tp_153_36 {st : St} (h : Top st) : gR st 153 36 = 183 := h (153, 36, 183) (List.mem_of_getElem? (i := 165) rfl)
theorem tp_153_37 {st : St} (h : Top st) : gR st 153 37 = 184 := h (153, 37, 184) (List.mem_of_getElem? (i := 166) rfl)
theorem tp_153_39 {st : St} (h : Top st) : gR st 153 39 = 185 := h (153, 39, 185) (List.mem_of_getElem? (i := 167) rfl)
theorem tp_153_41 {st : St} (h : Top st) : gR st 153 41 = 186 := h (153, 41, 186) (List.mem_of_getElem? (i := 168) rfl)
theorem tp_153_42 {st : St} (h : Top st) : gR st 153 42 = 187 := h (153, 42, 187) (List.mem_of_getElem? (i := 169) rfl)
theorem tp_153_43 {st : St} (h : Top st) : gR st 153 43 = 188 := h (153, 43, 188) (List.mem_of_getElem? (i := 170) rfl)
theorem tp_153_44 {st : St} (h : Top st) : gR st 153 44 = 189 := h (153, 44, 189) (List.mem_of_getElem? (i := 171) rfl)
theorem tp_153_45 {st : St} (h : Top st) : gR st 153 45 = 190 := h (153, 45, 190) (List.mem_of_getElem? (i := 172) rfl)
theorem tp_153_46 {st : St} (h : Top st) : gR st 153 46 = 191 := h (153, 46, 191) (List.mem_of_getElem? (i := 173) rfl)
theorem tp_153_47 {st : St} (h : Top st) : gR st 153 47 = 192 := h (153, 47, 192) (List.mem_of_getElem? (i := 174) rfl)
theorem tp_153_48 {st : St} (h : Top st) : gR st 153 48 = 193 := h (153, 48, 193) (List.mem_of_getElem? (i := 175) rfl)
theorem tp_153_49 {st : St} (h : Top st) : gR st 153 49 = 194 := h (153, 49, 194) (List.mem_of_getElem? (i := 176) rfl)
theorem tp_153_50 {st : St} (h : Top st) : gR st 153 50 = 195 := h (153, 50, 195) (List.mem_of_getElem? (i := 177) rfl)
theorem tp_153_51 {st : St} (h : Top st) : gR st 153 51 = 196 := h (153, 51, 196) (List.mem_of_getElem? (i := 178) rfl)
theorem tp_153_52 {st : St} (h : Top st) : gR st 153 52 = 197 := h (153, 52, 197) (List.mem_of_getElem? (i := 179) rfl)
theorem tp_153_54 {st : St} (h : Top st) : gR st 153 54 = 198 := h (153, 54, 198) (List.mem_of_getElem? (i := 180) rfl)
theorem tp_153_55 {st : St} (h : Top st) : gR st 153 55 = 199 := h (153, 55, 199) (List.mem_of_getElem? (i := 181) rfl)
theorem tp_153_56 {st : St} (h : Top st) : gR st 153 56 = 200 := h (153, 56, 200) (List.mem_of_getElem? (i := 182) rfl)
theorem tp_153_57 {st : St} (h : Top st) : gR st 153 57 = 201 := h (153, 57, 201) (List.mem_of_getElem? (i := 183) rfl)
theorem tp_153_58 {st : St} (h : Top st) : gR st 153 58 = 202 := h (153, 58, 202) (List.mem_of_getElem? (i := 184) rfl)
theorem tp_153_59 {st : St} (h : Top st) : gR st 153 59 = 203 := h (153, 59, 203) (List.mem_of_getElem? (i := 185) rfl)
theorem tp_153_60 {st : St} (h : Top st) : gR st 153 60 = 204 := h (153, 60, 204) (List.mem_of_getElem? (i := 186) rfl)
theorem tp_153_61 {st : St} (h : Top st) : gR st 153 61 = 205 := h (153, 61, 205) (List.mem_of_getElem? (i := 187) rfl)
theorem tp_153_62 {st : St} (h : Top st) : gR st 153 62 = 206 := h (153, 62, 206) (List.mem_of_getElem? (i := 188) rfl)
theorem tp_153_63 {st : St} (h : Top st) : gR st 153 63 = 207 := h (153, 63, 207) (List.mem_of_getElem? (i := 189) rfl)
theorem tp_153_64 {st : St} (h : Top st) : gR st 153 64 = 208 := h (153, 64, 208) (List.mem_of_getElem? (i := 190) rfl)
theorem tp_153_65 {st : St} (h : Top st) : gR st 153 65 = 209 := h (153, 65, 209) (List.mem_of_getElem? (i := 191) rfl)
theorem tp_153_66 {st : St} (h : Top st) : gR st 153 66 = 210 := h (153, 66, 210) (List.mem_of_getElem? (i := 192) rfl)
theorem tp_153_68 {st : St} (h : Top st) : gR st 153 68 = 211 := h (153, 68, 211) (List.mem_of_getElem? (i := 193) rfl)
theorem tp_153_69 {st : St} (h : Top st) : gR st 153 69 = 212 := h (153, 69, 212) (List.mem_of_getElem? (i := 194) rfl)
theorem tp_153_70 {st : St} (h : Top st) : gR st 153 70 = 213 := h (153, 70, 213) (List.mem_of_getElem? (i := 195) rfl)
theorem tp_153_73 {st : St} (h : Top st) : gR st 153 73 = 214 := h (153, 73, 214) (List.mem_of_getElem? (i := 196) rfl)
theorem tp_153_74 {st : St} (h : Top st) : gR st 153 74 = 215 := h (153, 74, 215) (List.mem_of_getElem? (i := 197) rfl)
theorem tp_153_75 {st : St} (h : Top st) : gR st 153 75 = 216 := h (153, 75, 216) (List.mem_of_getElem? (i := 198) rfl)
theorem tp_153_76 {st : St} (h : Top st) : gR st 153 76 = 217 := h (153, 76, 217) (List.mem_of_getElem? (i := 199) rfl)
theorem tp_153_77 {st : St} (h : Top st) : gR st 153 77 = 218 := h (153, 77, 218) (List.mem_of_getElem? (i := 200) rfl)
theorem tp_153_78 {st : St} (h : Top st) : gR st 153 78 = 219 := h (153, 78, 219) (List.mem_of_getElem? (i := 201) rfl)
theorem tp_153_79 {st : St} (h : Top st) : gR st 153 79 = 220 := h (153, 79, 220) (List.mem_of_getElem? (i := 202) rfl)
theorem tp_153_80 {st : St} (h : Top st) : gR st 153 80 = 221 := h (153, 80, 221) (List.mem_of_getElem? (i := 203) rfl)
theorem tp_153_81 {st : St} (h : Top st) : gR st 153 81 = 222 := h (153, 81, 222) (List.mem_of_getElem? (i := 204) rfl)
theorem tp_153_82 {st : St} (h : Top st) : gR st 153 82 = 223 := h (153, 82, 223) (List.mem_of_getElem? (i := 205) rfl)
theorem tp_153_83 {st : St} (h : Top st) : gR st 153 83 = 224 := h (153, 83, 224) (List.mem_of_getElem? (i := 206) rfl)
theorem tp_153_84 {st : St} (h : Top st) : gR st 153 84 = 225 := h (153, 84, 225) (List.mem_of_getElem? (i := 207) rfl)
theorem tp_153_85 {st : St} (h : Top st) : gR st 153 85 = 226 := h (153, 85, 226) (List.mem_of_getElem? (i := 208) rfl)
theorem tp_153_86 {st : St} (h : Top st) : gR st 153 86 = 227 := h (153, 86, 227) (List.mem_of_getElem? (i := 209) rfl)
theorem tp_153_87 {st : St} (h : Top st) : gR st 153 87 = 228 := h (153, 87, 228) (List.mem_of_getElem? (i := 210) rfl)
theorem tp_153_88 {st : St} (h : Top st) : gR st 153 88 = 229 := h (153, 88, 229) (List.mem_of_getElem? (i := 211) rfl)
theorem tp_153_89 {st : St} (h : Top st) : gR st 153 89 = 230 := h (153, 89, 230) (List.mem_of_getElem? (i := 212) rfl)
theorem tp_153_90 {st : St} (h : Top st) : gR st 153 90 = 231 := h (153, 90, 231) (List.mem_of_getElem? (i := 213) rfl)
theorem tp_153_91 {st : St} (h : Top st) : gR st 153 91 = 232 := h (153, 91, 232) (List.mem_of_getElem? (i := 214) rfl)
theorem tp_153_95 {st : St} (h : Top st) : gR st 153 95 = 233 := h (153, 95, 233) (List.mem_of_getElem? (i := 215) rfl)
theorem tp_153_96 {st : St} (h : Top st) : gR st 153 96 = 234 := h (153, 96, 234) (List.mem_of_getElem? (i := 216) rfl)
theorem tp_153_97 {st : St} (h : Top st) : gR st 153 97 = 235 := h (153, 97, 235) (List.mem_of_getElem? (i := 217) rfl)
theorem tp_153_98 {st : St} (h : Top st) : gR st 153 98 = 236 := h (153, 98, 236) (List.mem_of_getElem? (i := 218) rfl)
theorem tp_153_99 {st : St} (h : Top st) : gR st 153 99 = 237 := h (153, 99, 237) (List.mem_of_getElem? (i := 219) rfl)
theorem tp_153_101 {st : St} (h : Top st) : gR st 153 101 = 238 := h (153, 101, 238) (List.mem_of_getElem? (i := 220) rfl)
theorem tp_153_102 {st : St} (h : Top st) : gR st 153 102 = 239 := h (153, 102, 239) (List.mem_of_getElem? (i := 221) rfl)
theorem tp_153_103 {st : St} (h : Top st) : gR st 153 103 = 240 := h (153, 103, 240) (List.mem_of_getElem? (i := 222) rfl)
theorem tp_153_104 {st : St} (h : Top st) : gR st 153 104 = 241 := h (153, 104, 241) (List.mem_of_getElem? (i := 223) rfl)
theorem tp_153_105 {st : St} (h : Top st) : gR st 153 105 = 242 := h (153, 105, 242) (List.mem_of_getElem? (i := 224) rfl)
theorem tp_153_106 {st : St} (h : Top st) : gR st 153 106 = 243 := h (153, 106, 243) (List.mem_of_getElem? (i := 225) rfl)
theorem tp_153_107 {st : St} (h : Top st) : gR st 153 107 = 244 := h (153, 107, 244) (List.mem_of_getElem? (i := 226) rfl)
theorem tp_153_108 {st : St} (h : Top st) : gR st 153 108 = 245 := h (153, 108, 245) (List.mem_of_getElem? (i := 227) rfl)
theorem tp_153_109 {st : St} (h : Top st) : gR st 153 109 = 246 := h (153, 109, 246) (List.mem_of_getElem? (i := 228) rfl)
theorem tp_153_110 {st : St} (h : Top st) : gR st 153 110 = 247 := h (153, 110, 247) (List.mem_of_getElem? (i := 229) rfl)
theorem tp_153_111 {st : St} (h : Top st) : gR st 153 111 = 248 := h (153, 111, 248) (List.mem_of_getElem? (i := 230) rfl)
theorem tp_153_112 {st : St} (h : Top st) : gR st 153 112 = 249 := h (153, 112, 249) (List.mem_of_getElem? (i := 231) rfl)
theorem tp_153_114 {st : St} (h : Top st) : gR st 153 114 = 250 := h (153, 114, 250) (List.mem_of_getElem? (i := 232) rfl)
theorem tp_153_115 {st : St} (h : Top st) : gR st 153 115 = 251 := h (153, 115, 251) (List.mem_of_getElem? (i := 233) rfl)
theorem tp_153_116 {st : St} (h : Top st) : gR st 153 116 = 252 := h (153, 116, 252) (List.mem_of_getElem? (i := 234) rfl)
theorem tp_153_117 {st : St} (h : Top st) : gR st 153 117 = 253 := h (153, 117, 253) (List.mem_of_getElem? (i := 235) rfl)
theorem tp_153_118 {st : St} (h : Top st) : gR st 153 118 = 254 := h (153, 118, 254) (List.mem_of_getElem? (i := 236) rfl)
theorem tp_153_119 {st : St} (h : Top st) : gR st 153 119 = 255 := h (153, 119, 255) (List.mem_of_getElem? (i := 237) rfl)
theorem tp_153_120 {st : St} (h : Top st) : gR st 153 120 = 256 := h (153, 120, 256) (List.mem_of_getElem? (i := 238) rfl)
theorem tp_153_121 {st : St} (h : Top st) : gR st 153 121 = 257 := h (153, 121, 257) (List.mem_of_getElem? (i := 239) rfl)
theorem tp_153_122 {st : St} (h : Top st) : gR st 153 122 = 258 := h (153, 122, 258) (List.mem_of_getElem? (i := 240) rfl)
theorem tp_153_124 {st : St} (h : Top st) : gR st 153 124 = 259 := h (153, 124, 259) (List.mem_of_getElem? (i := 241) rfl)
theorem tp_153_125 {st : St} (h : Top st) : gR st 153 125 = 260 := h (153, 125, 260) (List.mem_of_getElem? (i := 242) rfl)
theorem tp_153_126 {st : St} (h : Top st) : gR st 153 126 = 261 := h (153, 126, 261) (List.mem_of_getElem? (i := 243) rfl)
theorem Top.sI {st : St} (h : Top st) (o k : Nat) (v : Int32) : Top (sI st o k v) := h
theorem Top.sL {st : St} (h : Top st) (o k : Nat) (v : Int64) : Top (sL st o k v) := h
