/-! THE LAW'S CALLS, both sides at once -/
def LI (K : Nat → ClassId) (L1 L2 : Nat → Nat → Nat) (h : fh_H) (S : CS) (M : MS) : Prop := cs_I L1 ∧ ms_I L2 ∧ (∀ t i t2 i2, i < cs_bd t → i2 < ms_bd t2 → L1 t i ≠ L2 t2 i2) ∧ cs_W K L1 h h S ∧ ms_W K L2 h h M ∧ STT S M
section LIS
variable {K : Nat → ClassId} {L1 L2 : Nat → Nat → Nat} {h : fh_H} {S : CS} {M : MS}
theorem LI.call {tF : Option (Int32 × CS)} {tM : Option (Int32 × MS)} (fF fM : fh_H → Option (Int32 × fh_H)) (hl : LI K L1 L2 h S M) (hc : CALL tF tM) (uF : ∀ res, tF = some res → RO (fun z => z.1 = res.1 ∧ cs_W K L1 h z.2 res.2) (fF h)) (uM : ∀ h1 res, ms_W K L2 h1 h1 M → tM = some res → RO (fun z => z.1 = res.1 ∧ ms_W K L2 h1 z.2 res.2) (fM h1)) : ∃ v h1 h2 S' M', fF h = some (v, h1) ∧ fM h1 = some (v, h2) ∧ (∃ fs, h1 (L2 0 0) = some (.inr (6, fs))) ∧ LI K L1 L2 h2 S' M' := by
  obtain ⟨i1, i2, ap, w1, w2, st⟩ := hl
  obtain ⟨v, S', M', e1, e2, st'⟩ := hc
  obtain ⟨⟨v1, h1⟩, g1, g2, g3⟩ := uF _ e1
  dsimp only at g2 g3
  have w2' : ms_W K L2 h1 h1 M := ⟨fun t i hi => (g3.2 (L2 t i) (fun t1 j1 hj => (ap t1 j1 t i hj hi).symm)).trans (w2.1 t i hi), fun _ _ => rfl⟩
  obtain ⟨⟨v2, h2⟩, k1, k2, k3⟩ := uM h1 _ w2' e2
  dsimp only at k2 k3
  rw [g2] at g1
  rw [k2] at k1
  exact ⟨v, h1, h2, S', M', g1, k1, ⟨_, w2'.1 0 0 (by decide)⟩, i1, i2, ap, ⟨fun t i hi => (k3.2 (L1 t i) (fun t1 j1 hj => ap t i t1 j1 hi hj)).trans (g3.1 t i hi), fun _ _ => rfl⟩, ⟨k3.1, fun _ _ => rfl⟩, st'⟩
theorem LI.ask {tF tM : Option Int32} (fF fM : fh_H → Option (Int32 × fh_H)) (hl : LI K L1 L2 h S M) (hc : CALLr tF tM) (uF : ∀ res, tF = some res → RO (fun z => (res, h) = z) (fF h)) (uM : ∀ res, tM = some res → RO (fun z => (res, h) = z) (fM h)) : ∃ v h1 h2 S' M', fF h = some (v, h1) ∧ fM h1 = some (v, h2) ∧ (∃ fs, h1 (L2 0 0) = some (.inr (6, fs))) ∧ LI K L1 L2 h2 S' M' := by
  obtain ⟨v, e1, e2⟩ := hc
  obtain ⟨z1, g1, g2⟩ := uF _ e1
  obtain ⟨z2, k1, k2⟩ := uM _ e2
  rw [← g2] at g1
  rw [← k2] at k1
  exact ⟨v, h, h, S, M, g1, k1, ⟨_, hl.2.2.2.2.1.1 0 0 (by decide)⟩, hl⟩
end LIS
theorem d_law_0 : decode code 0 = .ok (.new 7, 3) := by decide +kernel
theorem d_law_3 : decode code 3 = .ok (.dup, 1) := by decide +kernel
theorem d_law_4 : decode code 4 = .ok (.invokespecial 9, 3) := by decide +kernel
theorem d_law_7 : decode code 7 = .ok (.astore_n 1, 1) := by decide +kernel
theorem d_law_8 : decode code 8 = .ok (.new 10, 3) := by decide +kernel
theorem d_law_11 : decode code 11 = .ok (.dup, 1) := by decide +kernel
theorem d_law_12 : decode code 12 = .ok (.invokespecial 12, 3) := by decide +kernel
theorem d_law_15 : decode code 15 = .ok (.astore_n 2, 1) := by decide +kernel
theorem d_law_16 : decode code 16 = .ok (.iconst 0, 1) := by decide +kernel
theorem d_law_17 : decode code 17 = .ok (.istore_n 3, 1) := by decide +kernel
theorem d_law_18 : decode code 18 = .ok (.iload_n 3, 1) := by decide +kernel
theorem d_law_19 : decode code 19 = .ok (.aload_n 0, 1) := by decide +kernel
theorem d_law_20 : decode code 20 = .ok (.arraylength, 1) := by decide +kernel
theorem d_law_21 : decode code 21 = .ok (.bipush 8, 2) := by decide +kernel
theorem d_law_23 : decode code 23 = .ok (.isub, 1) := by decide +kernel
theorem d_law_24 : decode code 24 = .ok (.if_icmp .gt 634, 3) := by decide +kernel
theorem d_law_27 : decode code 27 = .ok (.aload_n 0, 1) := by decide +kernel
theorem d_law_28 : decode code 28 = .ok (.iload_n 3, 1) := by decide +kernel
theorem d_law_29 : decode code 29 = .ok (.iaload, 1) := by decide +kernel
theorem d_law_30 : decode code 30 = .ok (.bipush 15, 2) := by decide +kernel
theorem d_law_32 : decode code 32 = .ok (.iand, 1) := by decide +kernel
theorem d_law_33 : decode code 33 = .ok (.tableswitch 619 0 13 #[71, 84, 147, 222, 255, 278, 311, 334, 377, 464, 487, 530, 573, 596], 71) := by decide +kernel
theorem d_law_104 : decode code 104 = .ok (.aload_n 1, 1) := by decide +kernel
theorem d_law_105 : decode code 105 = .ok (.invokevirtual 13, 3) := by decide +kernel
theorem d_law_108 : decode code 108 = .ok (.aload_n 2, 1) := by decide +kernel
theorem d_law_109 : decode code 109 = .ok (.invokevirtual 17, 3) := by decide +kernel
theorem d_law_112 : decode code 112 = .ok (.if_icmp .eq 540, 3) := by decide +kernel
theorem d_law_115 : decode code 115 = .ok (.iconst 0, 1) := by decide +kernel
theorem d_law_116 : decode code 116 = .ok (.ireturn, 1) := by decide +kernel
theorem d_law_117 : decode code 117 = .ok (.aload_n 1, 1) := by decide +kernel
theorem d_law_118 : decode code 118 = .ok (.aload_n 0, 1) := by decide +kernel
theorem d_law_119 : decode code 119 = .ok (.iload_n 3, 1) := by decide +kernel
theorem d_law_120 : decode code 120 = .ok (.iconst 1, 1) := by decide +kernel
theorem d_law_121 : decode code 121 = .ok (.iadd, 1) := by decide +kernel
theorem d_law_122 : decode code 122 = .ok (.iaload, 1) := by decide +kernel
theorem d_law_123 : decode code 123 = .ok (.aload_n 0, 1) := by decide +kernel
theorem d_law_124 : decode code 124 = .ok (.iload_n 3, 1) := by decide +kernel
theorem d_law_125 : decode code 125 = .ok (.iconst 2, 1) := by decide +kernel
theorem d_law_126 : decode code 126 = .ok (.iadd, 1) := by decide +kernel
theorem d_law_127 : decode code 127 = .ok (.iaload, 1) := by decide +kernel
theorem d_law_128 : decode code 128 = .ok (.aload_n 0, 1) := by decide +kernel
theorem d_law_129 : decode code 129 = .ok (.iload_n 3, 1) := by decide +kernel
theorem d_law_130 : decode code 130 = .ok (.iconst 3, 1) := by decide +kernel
theorem d_law_131 : decode code 131 = .ok (.iadd, 1) := by decide +kernel
theorem d_law_132 : decode code 132 = .ok (.iaload, 1) := by decide +kernel
theorem d_law_133 : decode code 133 = .ok (.aload_n 0, 1) := by decide +kernel
theorem d_law_134 : decode code 134 = .ok (.iload_n 3, 1) := by decide +kernel
theorem d_law_135 : decode code 135 = .ok (.iconst 4, 1) := by decide +kernel
theorem d_law_136 : decode code 136 = .ok (.iadd, 1) := by decide +kernel
theorem d_law_137 : decode code 137 = .ok (.iaload, 1) := by decide +kernel
theorem d_law_138 : decode code 138 = .ok (.aload_n 0, 1) := by decide +kernel
theorem d_law_139 : decode code 139 = .ok (.iload_n 3, 1) := by decide +kernel
theorem d_law_140 : decode code 140 = .ok (.iconst 5, 1) := by decide +kernel
theorem d_law_141 : decode code 141 = .ok (.iadd, 1) := by decide +kernel
theorem d_law_142 : decode code 142 = .ok (.iaload, 1) := by decide +kernel
theorem d_law_143 : decode code 143 = .ok (.invokevirtual 18, 3) := by decide +kernel
theorem d_law_146 : decode code 146 = .ok (.aload_n 2, 1) := by decide +kernel
theorem d_law_147 : decode code 147 = .ok (.aload_n 0, 1) := by decide +kernel
theorem d_law_148 : decode code 148 = .ok (.iload_n 3, 1) := by decide +kernel
theorem d_law_149 : decode code 149 = .ok (.iconst 1, 1) := by decide +kernel
theorem d_law_150 : decode code 150 = .ok (.iadd, 1) := by decide +kernel
theorem d_law_151 : decode code 151 = .ok (.iaload, 1) := by decide +kernel
theorem d_law_152 : decode code 152 = .ok (.aload_n 0, 1) := by decide +kernel
theorem d_law_153 : decode code 153 = .ok (.iload_n 3, 1) := by decide +kernel
theorem d_law_154 : decode code 154 = .ok (.iconst 2, 1) := by decide +kernel
theorem d_law_155 : decode code 155 = .ok (.iadd, 1) := by decide +kernel
theorem d_law_156 : decode code 156 = .ok (.iaload, 1) := by decide +kernel
theorem d_law_157 : decode code 157 = .ok (.aload_n 0, 1) := by decide +kernel
theorem d_law_158 : decode code 158 = .ok (.iload_n 3, 1) := by decide +kernel
theorem d_law_159 : decode code 159 = .ok (.iconst 3, 1) := by decide +kernel
theorem d_law_160 : decode code 160 = .ok (.iadd, 1) := by decide +kernel
theorem d_law_161 : decode code 161 = .ok (.iaload, 1) := by decide +kernel
theorem d_law_162 : decode code 162 = .ok (.aload_n 0, 1) := by decide +kernel
theorem d_law_163 : decode code 163 = .ok (.iload_n 3, 1) := by decide +kernel
theorem d_law_164 : decode code 164 = .ok (.iconst 4, 1) := by decide +kernel
theorem d_law_165 : decode code 165 = .ok (.iadd, 1) := by decide +kernel
theorem d_law_166 : decode code 166 = .ok (.iaload, 1) := by decide +kernel
theorem d_law_167 : decode code 167 = .ok (.aload_n 0, 1) := by decide +kernel
theorem d_law_168 : decode code 168 = .ok (.iload_n 3, 1) := by decide +kernel
theorem d_law_169 : decode code 169 = .ok (.iconst 5, 1) := by decide +kernel
theorem d_law_170 : decode code 170 = .ok (.iadd, 1) := by decide +kernel
theorem d_law_171 : decode code 171 = .ok (.iaload, 1) := by decide +kernel
theorem d_law_172 : decode code 172 = .ok (.invokevirtual 22, 3) := by decide +kernel
theorem d_law_175 : decode code 175 = .ok (.if_icmp .eq 477, 3) := by decide +kernel
theorem d_law_178 : decode code 178 = .ok (.iconst 0, 1) := by decide +kernel
theorem d_law_179 : decode code 179 = .ok (.ireturn, 1) := by decide +kernel
theorem d_law_180 : decode code 180 = .ok (.aload_n 1, 1) := by decide +kernel
theorem d_law_181 : decode code 181 = .ok (.aload_n 0, 1) := by decide +kernel
theorem d_law_182 : decode code 182 = .ok (.iload_n 3, 1) := by decide +kernel
theorem d_law_183 : decode code 183 = .ok (.iconst 1, 1) := by decide +kernel
theorem d_law_184 : decode code 184 = .ok (.iadd, 1) := by decide +kernel
theorem d_law_185 : decode code 185 = .ok (.iaload, 1) := by decide +kernel
theorem d_law_186 : decode code 186 = .ok (.aload_n 0, 1) := by decide +kernel
theorem d_law_187 : decode code 187 = .ok (.iload_n 3, 1) := by decide +kernel
theorem d_law_188 : decode code 188 = .ok (.iconst 2, 1) := by decide +kernel
theorem d_law_189 : decode code 189 = .ok (.iadd, 1) := by decide +kernel
theorem d_law_190 : decode code 190 = .ok (.iaload, 1) := by decide +kernel
theorem d_law_191 : decode code 191 = .ok (.aload_n 0, 1) := by decide +kernel
theorem d_law_192 : decode code 192 = .ok (.iload_n 3, 1) := by decide +kernel
theorem d_law_193 : decode code 193 = .ok (.iconst 3, 1) := by decide +kernel
theorem d_law_194 : decode code 194 = .ok (.iadd, 1) := by decide +kernel
theorem d_law_195 : decode code 195 = .ok (.iaload, 1) := by decide +kernel
theorem d_law_196 : decode code 196 = .ok (.aload_n 0, 1) := by decide +kernel
theorem d_law_197 : decode code 197 = .ok (.iload_n 3, 1) := by decide +kernel
theorem d_law_198 : decode code 198 = .ok (.iconst 4, 1) := by decide +kernel
theorem d_law_199 : decode code 199 = .ok (.iadd, 1) := by decide +kernel
theorem d_law_200 : decode code 200 = .ok (.iaload, 1) := by decide +kernel
theorem d_law_201 : decode code 201 = .ok (.aload_n 0, 1) := by decide +kernel
theorem d_law_202 : decode code 202 = .ok (.iload_n 3, 1) := by decide +kernel
theorem d_law_203 : decode code 203 = .ok (.iconst 5, 1) := by decide +kernel
theorem d_law_204 : decode code 204 = .ok (.iadd, 1) := by decide +kernel
theorem d_law_205 : decode code 205 = .ok (.iaload, 1) := by decide +kernel
theorem d_law_206 : decode code 206 = .ok (.aload_n 0, 1) := by decide +kernel
theorem d_law_207 : decode code 207 = .ok (.iload_n 3, 1) := by decide +kernel
theorem d_law_208 : decode code 208 = .ok (.bipush 6, 2) := by decide +kernel
theorem d_law_210 : decode code 210 = .ok (.iadd, 1) := by decide +kernel
theorem d_law_211 : decode code 211 = .ok (.iaload, 1) := by decide +kernel
theorem d_law_212 : decode code 212 = .ok (.invokevirtual 23, 3) := by decide +kernel
theorem d_law_215 : decode code 215 = .ok (.aload_n 2, 1) := by decide +kernel
theorem d_law_216 : decode code 216 = .ok (.aload_n 0, 1) := by decide +kernel
theorem d_law_217 : decode code 217 = .ok (.iload_n 3, 1) := by decide +kernel
theorem d_law_218 : decode code 218 = .ok (.iconst 1, 1) := by decide +kernel
theorem d_law_219 : decode code 219 = .ok (.iadd, 1) := by decide +kernel
theorem d_law_220 : decode code 220 = .ok (.iaload, 1) := by decide +kernel
theorem d_law_221 : decode code 221 = .ok (.aload_n 0, 1) := by decide +kernel
theorem d_law_222 : decode code 222 = .ok (.iload_n 3, 1) := by decide +kernel
theorem d_law_223 : decode code 223 = .ok (.iconst 2, 1) := by decide +kernel
theorem d_law_224 : decode code 224 = .ok (.iadd, 1) := by decide +kernel
theorem d_law_225 : decode code 225 = .ok (.iaload, 1) := by decide +kernel
theorem d_law_226 : decode code 226 = .ok (.aload_n 0, 1) := by decide +kernel
theorem d_law_227 : decode code 227 = .ok (.iload_n 3, 1) := by decide +kernel
theorem d_law_228 : decode code 228 = .ok (.iconst 3, 1) := by decide +kernel
theorem d_law_229 : decode code 229 = .ok (.iadd, 1) := by decide +kernel
theorem d_law_230 : decode code 230 = .ok (.iaload, 1) := by decide +kernel
theorem d_law_231 : decode code 231 = .ok (.aload_n 0, 1) := by decide +kernel
theorem d_law_232 : decode code 232 = .ok (.iload_n 3, 1) := by decide +kernel
theorem d_law_233 : decode code 233 = .ok (.iconst 4, 1) := by decide +kernel
theorem d_law_234 : decode code 234 = .ok (.iadd, 1) := by decide +kernel
theorem d_law_235 : decode code 235 = .ok (.iaload, 1) := by decide +kernel
theorem d_law_236 : decode code 236 = .ok (.aload_n 0, 1) := by decide +kernel
theorem d_law_237 : decode code 237 = .ok (.iload_n 3, 1) := by decide +kernel
theorem d_law_238 : decode code 238 = .ok (.iconst 5, 1) := by decide +kernel
theorem d_law_239 : decode code 239 = .ok (.iadd, 1) := by decide +kernel
theorem d_law_240 : decode code 240 = .ok (.iaload, 1) := by decide +kernel
theorem d_law_241 : decode code 241 = .ok (.aload_n 0, 1) := by decide +kernel
theorem d_law_242 : decode code 242 = .ok (.iload_n 3, 1) := by decide +kernel
theorem d_law_243 : decode code 243 = .ok (.bipush 6, 2) := by decide +kernel
theorem d_law_245 : decode code 245 = .ok (.iadd, 1) := by decide +kernel
theorem d_law_246 : decode code 246 = .ok (.iaload, 1) := by decide +kernel
theorem d_law_247 : decode code 247 = .ok (.invokevirtual 27, 3) := by decide +kernel
theorem d_law_250 : decode code 250 = .ok (.if_icmp .eq 402, 3) := by decide +kernel
theorem d_law_253 : decode code 253 = .ok (.iconst 0, 1) := by decide +kernel
theorem d_law_254 : decode code 254 = .ok (.ireturn, 1) := by decide +kernel
theorem d_law_255 : decode code 255 = .ok (.aload_n 1, 1) := by decide +kernel
theorem d_law_256 : decode code 256 = .ok (.aload_n 0, 1) := by decide +kernel
theorem d_law_257 : decode code 257 = .ok (.iload_n 3, 1) := by decide +kernel
theorem d_law_258 : decode code 258 = .ok (.iconst 1, 1) := by decide +kernel
theorem d_law_259 : decode code 259 = .ok (.iadd, 1) := by decide +kernel
theorem d_law_260 : decode code 260 = .ok (.iaload, 1) := by decide +kernel
theorem d_law_261 : decode code 261 = .ok (.aload_n 0, 1) := by decide +kernel
theorem d_law_262 : decode code 262 = .ok (.iload_n 3, 1) := by decide +kernel
theorem d_law_263 : decode code 263 = .ok (.iconst 2, 1) := by decide +kernel
theorem d_law_264 : decode code 264 = .ok (.iadd, 1) := by decide +kernel
theorem d_law_265 : decode code 265 = .ok (.iaload, 1) := by decide +kernel
theorem d_law_266 : decode code 266 = .ok (.invokevirtual 28, 3) := by decide +kernel
theorem d_law_269 : decode code 269 = .ok (.aload_n 2, 1) := by decide +kernel
theorem d_law_270 : decode code 270 = .ok (.aload_n 0, 1) := by decide +kernel
theorem d_law_271 : decode code 271 = .ok (.iload_n 3, 1) := by decide +kernel
theorem d_law_272 : decode code 272 = .ok (.iconst 1, 1) := by decide +kernel
theorem d_law_273 : decode code 273 = .ok (.iadd, 1) := by decide +kernel
theorem d_law_274 : decode code 274 = .ok (.iaload, 1) := by decide +kernel
theorem d_law_275 : decode code 275 = .ok (.aload_n 0, 1) := by decide +kernel
theorem d_law_276 : decode code 276 = .ok (.iload_n 3, 1) := by decide +kernel
theorem d_law_277 : decode code 277 = .ok (.iconst 2, 1) := by decide +kernel
theorem d_law_278 : decode code 278 = .ok (.iadd, 1) := by decide +kernel
theorem d_law_279 : decode code 279 = .ok (.iaload, 1) := by decide +kernel
theorem d_law_280 : decode code 280 = .ok (.invokevirtual 32, 3) := by decide +kernel
theorem d_law_283 : decode code 283 = .ok (.if_icmp .eq 369, 3) := by decide +kernel
theorem d_law_286 : decode code 286 = .ok (.iconst 0, 1) := by decide +kernel
theorem d_law_287 : decode code 287 = .ok (.ireturn, 1) := by decide +kernel
theorem d_law_288 : decode code 288 = .ok (.aload_n 1, 1) := by decide +kernel
theorem d_law_289 : decode code 289 = .ok (.aload_n 0, 1) := by decide +kernel
theorem d_law_290 : decode code 290 = .ok (.iload_n 3, 1) := by decide +kernel
theorem d_law_291 : decode code 291 = .ok (.iconst 1, 1) := by decide +kernel
theorem d_law_292 : decode code 292 = .ok (.iadd, 1) := by decide +kernel
theorem d_law_293 : decode code 293 = .ok (.iaload, 1) := by decide +kernel
theorem d_law_294 : decode code 294 = .ok (.invokevirtual 33, 3) := by decide +kernel
theorem d_law_297 : decode code 297 = .ok (.aload_n 2, 1) := by decide +kernel
theorem d_law_298 : decode code 298 = .ok (.aload_n 0, 1) := by decide +kernel
theorem d_law_299 : decode code 299 = .ok (.iload_n 3, 1) := by decide +kernel
theorem d_law_300 : decode code 300 = .ok (.iconst 1, 1) := by decide +kernel
theorem d_law_301 : decode code 301 = .ok (.iadd, 1) := by decide +kernel
theorem d_law_302 : decode code 302 = .ok (.iaload, 1) := by decide +kernel
theorem d_law_303 : decode code 303 = .ok (.invokevirtual 37, 3) := by decide +kernel
theorem d_law_306 : decode code 306 = .ok (.if_icmp .eq 346, 3) := by decide +kernel
theorem d_law_309 : decode code 309 = .ok (.iconst 0, 1) := by decide +kernel
theorem d_law_310 : decode code 310 = .ok (.ireturn, 1) := by decide +kernel
theorem d_law_311 : decode code 311 = .ok (.aload_n 1, 1) := by decide +kernel
theorem d_law_312 : decode code 312 = .ok (.aload_n 0, 1) := by decide +kernel
theorem d_law_313 : decode code 313 = .ok (.iload_n 3, 1) := by decide +kernel
theorem d_law_314 : decode code 314 = .ok (.iconst 1, 1) := by decide +kernel
theorem d_law_315 : decode code 315 = .ok (.iadd, 1) := by decide +kernel
theorem d_law_316 : decode code 316 = .ok (.iaload, 1) := by decide +kernel
theorem d_law_317 : decode code 317 = .ok (.aload_n 0, 1) := by decide +kernel
theorem d_law_318 : decode code 318 = .ok (.iload_n 3, 1) := by decide +kernel
theorem d_law_319 : decode code 319 = .ok (.iconst 2, 1) := by decide +kernel
theorem d_law_320 : decode code 320 = .ok (.iadd, 1) := by decide +kernel
theorem d_law_321 : decode code 321 = .ok (.iaload, 1) := by decide +kernel
theorem d_law_322 : decode code 322 = .ok (.invokevirtual 38, 3) := by decide +kernel
theorem d_law_325 : decode code 325 = .ok (.aload_n 2, 1) := by decide +kernel
theorem d_law_326 : decode code 326 = .ok (.aload_n 0, 1) := by decide +kernel
theorem d_law_327 : decode code 327 = .ok (.iload_n 3, 1) := by decide +kernel
theorem d_law_328 : decode code 328 = .ok (.iconst 1, 1) := by decide +kernel
theorem d_law_329 : decode code 329 = .ok (.iadd, 1) := by decide +kernel
theorem d_law_330 : decode code 330 = .ok (.iaload, 1) := by decide +kernel
theorem d_law_331 : decode code 331 = .ok (.aload_n 0, 1) := by decide +kernel
theorem d_law_332 : decode code 332 = .ok (.iload_n 3, 1) := by decide +kernel
theorem d_law_333 : decode code 333 = .ok (.iconst 2, 1) := by decide +kernel
theorem d_law_334 : decode code 334 = .ok (.iadd, 1) := by decide +kernel
theorem d_law_335 : decode code 335 = .ok (.iaload, 1) := by decide +kernel
theorem d_law_336 : decode code 336 = .ok (.invokevirtual 41, 3) := by decide +kernel
theorem d_law_339 : decode code 339 = .ok (.if_icmp .eq 313, 3) := by decide +kernel
theorem d_law_342 : decode code 342 = .ok (.iconst 0, 1) := by decide +kernel
theorem d_law_343 : decode code 343 = .ok (.ireturn, 1) := by decide +kernel
theorem d_law_344 : decode code 344 = .ok (.aload_n 1, 1) := by decide +kernel
theorem d_law_345 : decode code 345 = .ok (.aload_n 0, 1) := by decide +kernel
theorem d_law_346 : decode code 346 = .ok (.iload_n 3, 1) := by decide +kernel
theorem d_law_347 : decode code 347 = .ok (.iconst 1, 1) := by decide +kernel
theorem d_law_348 : decode code 348 = .ok (.iadd, 1) := by decide +kernel
theorem d_law_349 : decode code 349 = .ok (.iaload, 1) := by decide +kernel
theorem d_law_350 : decode code 350 = .ok (.invokevirtual 42, 3) := by decide +kernel
theorem d_law_353 : decode code 353 = .ok (.aload_n 2, 1) := by decide +kernel
theorem d_law_354 : decode code 354 = .ok (.aload_n 0, 1) := by decide +kernel
theorem d_law_355 : decode code 355 = .ok (.iload_n 3, 1) := by decide +kernel
theorem d_law_356 : decode code 356 = .ok (.iconst 1, 1) := by decide +kernel
theorem d_law_357 : decode code 357 = .ok (.iadd, 1) := by decide +kernel
theorem d_law_358 : decode code 358 = .ok (.iaload, 1) := by decide +kernel
theorem d_law_359 : decode code 359 = .ok (.invokevirtual 45, 3) := by decide +kernel
theorem d_law_362 : decode code 362 = .ok (.if_icmp .eq 290, 3) := by decide +kernel
theorem d_law_365 : decode code 365 = .ok (.iconst 0, 1) := by decide +kernel
theorem d_law_366 : decode code 366 = .ok (.ireturn, 1) := by decide +kernel
theorem d_law_367 : decode code 367 = .ok (.aload_n 1, 1) := by decide +kernel
theorem d_law_368 : decode code 368 = .ok (.aload_n 0, 1) := by decide +kernel
theorem d_law_369 : decode code 369 = .ok (.iload_n 3, 1) := by decide +kernel
theorem d_law_370 : decode code 370 = .ok (.iconst 1, 1) := by decide +kernel
theorem d_law_371 : decode code 371 = .ok (.iadd, 1) := by decide +kernel
theorem d_law_372 : decode code 372 = .ok (.iaload, 1) := by decide +kernel
theorem d_law_373 : decode code 373 = .ok (.aload_n 0, 1) := by decide +kernel
theorem d_law_374 : decode code 374 = .ok (.iload_n 3, 1) := by decide +kernel
theorem d_law_375 : decode code 375 = .ok (.iconst 2, 1) := by decide +kernel
theorem d_law_376 : decode code 376 = .ok (.iadd, 1) := by decide +kernel
theorem d_law_377 : decode code 377 = .ok (.iaload, 1) := by decide +kernel
theorem d_law_378 : decode code 378 = .ok (.aload_n 0, 1) := by decide +kernel
theorem d_law_379 : decode code 379 = .ok (.iload_n 3, 1) := by decide +kernel
theorem d_law_380 : decode code 380 = .ok (.iconst 3, 1) := by decide +kernel
theorem d_law_381 : decode code 381 = .ok (.iadd, 1) := by decide +kernel
theorem d_law_382 : decode code 382 = .ok (.iaload, 1) := by decide +kernel
theorem d_law_383 : decode code 383 = .ok (.invokevirtual 46, 3) := by decide +kernel
theorem d_law_386 : decode code 386 = .ok (.aload_n 2, 1) := by decide +kernel
theorem d_law_387 : decode code 387 = .ok (.aload_n 0, 1) := by decide +kernel
theorem d_law_388 : decode code 388 = .ok (.iload_n 3, 1) := by decide +kernel
theorem d_law_389 : decode code 389 = .ok (.iconst 1, 1) := by decide +kernel
theorem d_law_390 : decode code 390 = .ok (.iadd, 1) := by decide +kernel
theorem d_law_391 : decode code 391 = .ok (.iaload, 1) := by decide +kernel
theorem d_law_392 : decode code 392 = .ok (.aload_n 0, 1) := by decide +kernel
theorem d_law_393 : decode code 393 = .ok (.iload_n 3, 1) := by decide +kernel
theorem d_law_394 : decode code 394 = .ok (.iconst 2, 1) := by decide +kernel
theorem d_law_395 : decode code 395 = .ok (.iadd, 1) := by decide +kernel
theorem d_law_396 : decode code 396 = .ok (.iaload, 1) := by decide +kernel
theorem d_law_397 : decode code 397 = .ok (.aload_n 0, 1) := by decide +kernel
theorem d_law_398 : decode code 398 = .ok (.iload_n 3, 1) := by decide +kernel
theorem d_law_399 : decode code 399 = .ok (.iconst 3, 1) := by decide +kernel
theorem d_law_400 : decode code 400 = .ok (.iadd, 1) := by decide +kernel
theorem d_law_401 : decode code 401 = .ok (.iaload, 1) := by decide +kernel
theorem d_law_402 : decode code 402 = .ok (.invokevirtual 50, 3) := by decide +kernel
theorem d_law_405 : decode code 405 = .ok (.if_icmp .eq 247, 3) := by decide +kernel
theorem d_law_408 : decode code 408 = .ok (.iconst 0, 1) := by decide +kernel
theorem d_law_409 : decode code 409 = .ok (.ireturn, 1) := by decide +kernel
theorem d_law_410 : decode code 410 = .ok (.aload_n 1, 1) := by decide +kernel
theorem d_law_411 : decode code 411 = .ok (.aload_n 0, 1) := by decide +kernel
theorem d_law_412 : decode code 412 = .ok (.iload_n 3, 1) := by decide +kernel
theorem d_law_413 : decode code 413 = .ok (.iconst 1, 1) := by decide +kernel
theorem d_law_414 : decode code 414 = .ok (.iadd, 1) := by decide +kernel
theorem d_law_415 : decode code 415 = .ok (.iaload, 1) := by decide +kernel
theorem d_law_416 : decode code 416 = .ok (.aload_n 0, 1) := by decide +kernel
theorem d_law_417 : decode code 417 = .ok (.iload_n 3, 1) := by decide +kernel
theorem d_law_418 : decode code 418 = .ok (.iconst 2, 1) := by decide +kernel
theorem d_law_419 : decode code 419 = .ok (.iadd, 1) := by decide +kernel
theorem d_law_420 : decode code 420 = .ok (.iaload, 1) := by decide +kernel
theorem d_law_421 : decode code 421 = .ok (.aload_n 0, 1) := by decide +kernel
theorem d_law_422 : decode code 422 = .ok (.iload_n 3, 1) := by decide +kernel
theorem d_law_423 : decode code 423 = .ok (.iconst 3, 1) := by decide +kernel
theorem d_law_424 : decode code 424 = .ok (.iadd, 1) := by decide +kernel
theorem d_law_425 : decode code 425 = .ok (.iaload, 1) := by decide +kernel
theorem d_law_426 : decode code 426 = .ok (.aload_n 0, 1) := by decide +kernel
theorem d_law_427 : decode code 427 = .ok (.iload_n 3, 1) := by decide +kernel
theorem d_law_428 : decode code 428 = .ok (.iconst 4, 1) := by decide +kernel
theorem d_law_429 : decode code 429 = .ok (.iadd, 1) := by decide +kernel
theorem d_law_430 : decode code 430 = .ok (.iaload, 1) := by decide +kernel
theorem d_law_431 : decode code 431 = .ok (.aload_n 0, 1) := by decide +kernel
theorem d_law_432 : decode code 432 = .ok (.iload_n 3, 1) := by decide +kernel
theorem d_law_433 : decode code 433 = .ok (.iconst 5, 1) := by decide +kernel
theorem d_law_434 : decode code 434 = .ok (.iadd, 1) := by decide +kernel
theorem d_law_435 : decode code 435 = .ok (.iaload, 1) := by decide +kernel
theorem d_law_436 : decode code 436 = .ok (.aload_n 0, 1) := by decide +kernel
theorem d_law_437 : decode code 437 = .ok (.iload_n 3, 1) := by decide +kernel
theorem d_law_438 : decode code 438 = .ok (.bipush 6, 2) := by decide +kernel
theorem d_law_440 : decode code 440 = .ok (.iadd, 1) := by decide +kernel
theorem d_law_441 : decode code 441 = .ok (.iaload, 1) := by decide +kernel
theorem d_law_442 : decode code 442 = .ok (.aload_n 0, 1) := by decide +kernel
theorem d_law_443 : decode code 443 = .ok (.iload_n 3, 1) := by decide +kernel
theorem d_law_444 : decode code 444 = .ok (.bipush 7, 2) := by decide +kernel
theorem d_law_446 : decode code 446 = .ok (.iadd, 1) := by decide +kernel
theorem d_law_447 : decode code 447 = .ok (.iaload, 1) := by decide +kernel
theorem d_law_448 : decode code 448 = .ok (.invokevirtual 51, 3) := by decide +kernel
theorem d_law_451 : decode code 451 = .ok (.aload_n 2, 1) := by decide +kernel
theorem d_law_452 : decode code 452 = .ok (.aload_n 0, 1) := by decide +kernel
theorem d_law_453 : decode code 453 = .ok (.iload_n 3, 1) := by decide +kernel
theorem d_law_454 : decode code 454 = .ok (.iconst 1, 1) := by decide +kernel
theorem d_law_455 : decode code 455 = .ok (.iadd, 1) := by decide +kernel
theorem d_law_456 : decode code 456 = .ok (.iaload, 1) := by decide +kernel
theorem d_law_457 : decode code 457 = .ok (.aload_n 0, 1) := by decide +kernel
theorem d_law_458 : decode code 458 = .ok (.iload_n 3, 1) := by decide +kernel
theorem d_law_459 : decode code 459 = .ok (.iconst 2, 1) := by decide +kernel
theorem d_law_460 : decode code 460 = .ok (.iadd, 1) := by decide +kernel
theorem d_law_461 : decode code 461 = .ok (.iaload, 1) := by decide +kernel
theorem d_law_462 : decode code 462 = .ok (.aload_n 0, 1) := by decide +kernel
theorem d_law_463 : decode code 463 = .ok (.iload_n 3, 1) := by decide +kernel
theorem d_law_464 : decode code 464 = .ok (.iconst 3, 1) := by decide +kernel
theorem d_law_465 : decode code 465 = .ok (.iadd, 1) := by decide +kernel
theorem d_law_466 : decode code 466 = .ok (.iaload, 1) := by decide +kernel
theorem d_law_467 : decode code 467 = .ok (.aload_n 0, 1) := by decide +kernel
theorem d_law_468 : decode code 468 = .ok (.iload_n 3, 1) := by decide +kernel
theorem d_law_469 : decode code 469 = .ok (.iconst 4, 1) := by decide +kernel
theorem d_law_470 : decode code 470 = .ok (.iadd, 1) := by decide +kernel
theorem d_law_471 : decode code 471 = .ok (.iaload, 1) := by decide +kernel
theorem d_law_472 : decode code 472 = .ok (.aload_n 0, 1) := by decide +kernel
theorem d_law_473 : decode code 473 = .ok (.iload_n 3, 1) := by decide +kernel
theorem d_law_474 : decode code 474 = .ok (.iconst 5, 1) := by decide +kernel
theorem d_law_475 : decode code 475 = .ok (.iadd, 1) := by decide +kernel
theorem d_law_476 : decode code 476 = .ok (.iaload, 1) := by decide +kernel
theorem d_law_477 : decode code 477 = .ok (.aload_n 0, 1) := by decide +kernel
theorem d_law_478 : decode code 478 = .ok (.iload_n 3, 1) := by decide +kernel
theorem d_law_479 : decode code 479 = .ok (.bipush 6, 2) := by decide +kernel
theorem d_law_481 : decode code 481 = .ok (.iadd, 1) := by decide +kernel
theorem d_law_482 : decode code 482 = .ok (.iaload, 1) := by decide +kernel
theorem d_law_483 : decode code 483 = .ok (.aload_n 0, 1) := by decide +kernel
theorem d_law_484 : decode code 484 = .ok (.iload_n 3, 1) := by decide +kernel
theorem d_law_485 : decode code 485 = .ok (.bipush 7, 2) := by decide +kernel
theorem d_law_487 : decode code 487 = .ok (.iadd, 1) := by decide +kernel
theorem d_law_488 : decode code 488 = .ok (.iaload, 1) := by decide +kernel
theorem d_law_489 : decode code 489 = .ok (.invokevirtual 55, 3) := by decide +kernel
theorem d_law_492 : decode code 492 = .ok (.if_icmp .eq 160, 3) := by decide +kernel
theorem d_law_495 : decode code 495 = .ok (.iconst 0, 1) := by decide +kernel
theorem d_law_496 : decode code 496 = .ok (.ireturn, 1) := by decide +kernel
theorem d_law_497 : decode code 497 = .ok (.aload_n 1, 1) := by decide +kernel
theorem d_law_498 : decode code 498 = .ok (.aload_n 0, 1) := by decide +kernel
theorem d_law_499 : decode code 499 = .ok (.iload_n 3, 1) := by decide +kernel
theorem d_law_500 : decode code 500 = .ok (.iconst 1, 1) := by decide +kernel
theorem d_law_501 : decode code 501 = .ok (.iadd, 1) := by decide +kernel
theorem d_law_502 : decode code 502 = .ok (.iaload, 1) := by decide +kernel
theorem d_law_503 : decode code 503 = .ok (.invokevirtual 56, 3) := by decide +kernel
theorem d_law_506 : decode code 506 = .ok (.aload_n 2, 1) := by decide +kernel
theorem d_law_507 : decode code 507 = .ok (.aload_n 0, 1) := by decide +kernel
theorem d_law_508 : decode code 508 = .ok (.iload_n 3, 1) := by decide +kernel
theorem d_law_509 : decode code 509 = .ok (.iconst 1, 1) := by decide +kernel
theorem d_law_510 : decode code 510 = .ok (.iadd, 1) := by decide +kernel
theorem d_law_511 : decode code 511 = .ok (.iaload, 1) := by decide +kernel
theorem d_law_512 : decode code 512 = .ok (.invokevirtual 59, 3) := by decide +kernel
theorem d_law_515 : decode code 515 = .ok (.if_icmp .eq 137, 3) := by decide +kernel
theorem d_law_518 : decode code 518 = .ok (.iconst 0, 1) := by decide +kernel
theorem d_law_519 : decode code 519 = .ok (.ireturn, 1) := by decide +kernel
theorem d_law_520 : decode code 520 = .ok (.aload_n 1, 1) := by decide +kernel
theorem d_law_521 : decode code 521 = .ok (.aload_n 0, 1) := by decide +kernel
theorem d_law_522 : decode code 522 = .ok (.iload_n 3, 1) := by decide +kernel
theorem d_law_523 : decode code 523 = .ok (.iconst 1, 1) := by decide +kernel
theorem d_law_524 : decode code 524 = .ok (.iadd, 1) := by decide +kernel
theorem d_law_525 : decode code 525 = .ok (.iaload, 1) := by decide +kernel
theorem d_law_526 : decode code 526 = .ok (.aload_n 0, 1) := by decide +kernel
theorem d_law_527 : decode code 527 = .ok (.iload_n 3, 1) := by decide +kernel
theorem d_law_528 : decode code 528 = .ok (.iconst 2, 1) := by decide +kernel
theorem d_law_529 : decode code 529 = .ok (.iadd, 1) := by decide +kernel
theorem d_law_530 : decode code 530 = .ok (.iaload, 1) := by decide +kernel
theorem d_law_531 : decode code 531 = .ok (.aload_n 0, 1) := by decide +kernel
theorem d_law_532 : decode code 532 = .ok (.iload_n 3, 1) := by decide +kernel
theorem d_law_533 : decode code 533 = .ok (.iconst 3, 1) := by decide +kernel
theorem d_law_534 : decode code 534 = .ok (.iadd, 1) := by decide +kernel
theorem d_law_535 : decode code 535 = .ok (.iaload, 1) := by decide +kernel
theorem d_law_536 : decode code 536 = .ok (.invokevirtual 60, 3) := by decide +kernel
theorem d_law_539 : decode code 539 = .ok (.aload_n 2, 1) := by decide +kernel
theorem d_law_540 : decode code 540 = .ok (.aload_n 0, 1) := by decide +kernel
theorem d_law_541 : decode code 541 = .ok (.iload_n 3, 1) := by decide +kernel
theorem d_law_542 : decode code 542 = .ok (.iconst 1, 1) := by decide +kernel
theorem d_law_543 : decode code 543 = .ok (.iadd, 1) := by decide +kernel
theorem d_law_544 : decode code 544 = .ok (.iaload, 1) := by decide +kernel
theorem d_law_545 : decode code 545 = .ok (.aload_n 0, 1) := by decide +kernel
theorem d_law_546 : decode code 546 = .ok (.iload_n 3, 1) := by decide +kernel
theorem d_law_547 : decode code 547 = .ok (.iconst 2, 1) := by decide +kernel
theorem d_law_548 : decode code 548 = .ok (.iadd, 1) := by decide +kernel
theorem d_law_549 : decode code 549 = .ok (.iaload, 1) := by decide +kernel
theorem d_law_550 : decode code 550 = .ok (.aload_n 0, 1) := by decide +kernel
theorem d_law_551 : decode code 551 = .ok (.iload_n 3, 1) := by decide +kernel
theorem d_law_552 : decode code 552 = .ok (.iconst 3, 1) := by decide +kernel
theorem d_law_553 : decode code 553 = .ok (.iadd, 1) := by decide +kernel
theorem d_law_554 : decode code 554 = .ok (.iaload, 1) := by decide +kernel
theorem d_law_555 : decode code 555 = .ok (.invokevirtual 63, 3) := by decide +kernel
theorem d_law_558 : decode code 558 = .ok (.if_icmp .eq 94, 3) := by decide +kernel
theorem d_law_561 : decode code 561 = .ok (.iconst 0, 1) := by decide +kernel
theorem d_law_562 : decode code 562 = .ok (.ireturn, 1) := by decide +kernel
theorem d_law_563 : decode code 563 = .ok (.aload_n 1, 1) := by decide +kernel
theorem d_law_564 : decode code 564 = .ok (.aload_n 0, 1) := by decide +kernel
theorem d_law_565 : decode code 565 = .ok (.iload_n 3, 1) := by decide +kernel
theorem d_law_566 : decode code 566 = .ok (.iconst 1, 1) := by decide +kernel
theorem d_law_567 : decode code 567 = .ok (.iadd, 1) := by decide +kernel
theorem d_law_568 : decode code 568 = .ok (.iaload, 1) := by decide +kernel
theorem d_law_569 : decode code 569 = .ok (.aload_n 0, 1) := by decide +kernel
theorem d_law_570 : decode code 570 = .ok (.iload_n 3, 1) := by decide +kernel
theorem d_law_571 : decode code 571 = .ok (.iconst 2, 1) := by decide +kernel
theorem d_law_572 : decode code 572 = .ok (.iadd, 1) := by decide +kernel
theorem d_law_573 : decode code 573 = .ok (.iaload, 1) := by decide +kernel
theorem d_law_574 : decode code 574 = .ok (.aload_n 0, 1) := by decide +kernel
theorem d_law_575 : decode code 575 = .ok (.iload_n 3, 1) := by decide +kernel
theorem d_law_576 : decode code 576 = .ok (.iconst 3, 1) := by decide +kernel
theorem d_law_577 : decode code 577 = .ok (.iadd, 1) := by decide +kernel
theorem d_law_578 : decode code 578 = .ok (.iaload, 1) := by decide +kernel
theorem d_law_579 : decode code 579 = .ok (.invokevirtual 64, 3) := by decide +kernel
theorem d_law_582 : decode code 582 = .ok (.aload_n 2, 1) := by decide +kernel
theorem d_law_583 : decode code 583 = .ok (.aload_n 0, 1) := by decide +kernel
theorem d_law_584 : decode code 584 = .ok (.iload_n 3, 1) := by decide +kernel
theorem d_law_585 : decode code 585 = .ok (.iconst 1, 1) := by decide +kernel
theorem d_law_586 : decode code 586 = .ok (.iadd, 1) := by decide +kernel
theorem d_law_587 : decode code 587 = .ok (.iaload, 1) := by decide +kernel
theorem d_law_588 : decode code 588 = .ok (.aload_n 0, 1) := by decide +kernel
theorem d_law_589 : decode code 589 = .ok (.iload_n 3, 1) := by decide +kernel
theorem d_law_590 : decode code 590 = .ok (.iconst 2, 1) := by decide +kernel
theorem d_law_591 : decode code 591 = .ok (.iadd, 1) := by decide +kernel
theorem d_law_592 : decode code 592 = .ok (.iaload, 1) := by decide +kernel
theorem d_law_593 : decode code 593 = .ok (.aload_n 0, 1) := by decide +kernel
theorem d_law_594 : decode code 594 = .ok (.iload_n 3, 1) := by decide +kernel
theorem d_law_595 : decode code 595 = .ok (.iconst 3, 1) := by decide +kernel
theorem d_law_596 : decode code 596 = .ok (.iadd, 1) := by decide +kernel
theorem d_law_597 : decode code 597 = .ok (.iaload, 1) := by decide +kernel
theorem d_law_598 : decode code 598 = .ok (.invokevirtual 67, 3) := by decide +kernel
theorem d_law_601 : decode code 601 = .ok (.if_icmp .eq 51, 3) := by decide +kernel
theorem d_law_604 : decode code 604 = .ok (.iconst 0, 1) := by decide +kernel
theorem d_law_605 : decode code 605 = .ok (.ireturn, 1) := by decide +kernel
theorem d_law_606 : decode code 606 = .ok (.aload_n 1, 1) := by decide +kernel
theorem d_law_607 : decode code 607 = .ok (.aload_n 0, 1) := by decide +kernel
theorem d_law_608 : decode code 608 = .ok (.iload_n 3, 1) := by decide +kernel
theorem d_law_609 : decode code 609 = .ok (.iconst 1, 1) := by decide +kernel
theorem d_law_610 : decode code 610 = .ok (.iadd, 1) := by decide +kernel
theorem d_law_611 : decode code 611 = .ok (.iaload, 1) := by decide +kernel
theorem d_law_612 : decode code 612 = .ok (.invokevirtual 68, 3) := by decide +kernel
theorem d_law_615 : decode code 615 = .ok (.aload_n 2, 1) := by decide +kernel
theorem d_law_616 : decode code 616 = .ok (.aload_n 0, 1) := by decide +kernel
theorem d_law_617 : decode code 617 = .ok (.iload_n 3, 1) := by decide +kernel
theorem d_law_618 : decode code 618 = .ok (.iconst 1, 1) := by decide +kernel
theorem d_law_619 : decode code 619 = .ok (.iadd, 1) := by decide +kernel
theorem d_law_620 : decode code 620 = .ok (.iaload, 1) := by decide +kernel
theorem d_law_621 : decode code 621 = .ok (.invokevirtual 71, 3) := by decide +kernel
theorem d_law_624 : decode code 624 = .ok (.if_icmp .eq 28, 3) := by decide +kernel
theorem d_law_627 : decode code 627 = .ok (.iconst 0, 1) := by decide +kernel
theorem d_law_628 : decode code 628 = .ok (.ireturn, 1) := by decide +kernel
theorem d_law_629 : decode code 629 = .ok (.aload_n 1, 1) := by decide +kernel
theorem d_law_630 : decode code 630 = .ok (.aload_n 0, 1) := by decide +kernel
theorem d_law_631 : decode code 631 = .ok (.iload_n 3, 1) := by decide +kernel
theorem d_law_632 : decode code 632 = .ok (.iconst 1, 1) := by decide +kernel
theorem d_law_633 : decode code 633 = .ok (.iadd, 1) := by decide +kernel
theorem d_law_634 : decode code 634 = .ok (.iaload, 1) := by decide +kernel
theorem d_law_635 : decode code 635 = .ok (.invokevirtual 72, 3) := by decide +kernel
theorem d_law_638 : decode code 638 = .ok (.aload_n 2, 1) := by decide +kernel
theorem d_law_639 : decode code 639 = .ok (.aload_n 0, 1) := by decide +kernel
theorem d_law_640 : decode code 640 = .ok (.iload_n 3, 1) := by decide +kernel
theorem d_law_641 : decode code 641 = .ok (.iconst 1, 1) := by decide +kernel
theorem d_law_642 : decode code 642 = .ok (.iadd, 1) := by decide +kernel
theorem d_law_643 : decode code 643 = .ok (.iaload, 1) := by decide +kernel
theorem d_law_644 : decode code 644 = .ok (.invokevirtual 75, 3) := by decide +kernel
theorem d_law_647 : decode code 647 = .ok (.if_icmp .eq 5, 3) := by decide +kernel
theorem d_law_650 : decode code 650 = .ok (.iconst 0, 1) := by decide +kernel
theorem d_law_651 : decode code 651 = .ok (.ireturn, 1) := by decide +kernel
theorem d_law_652 : decode code 652 = .ok (.iinc 3 8, 3) := by decide +kernel
theorem d_law_655 : decode code 655 = .ok (.goto (-637), 3) := by decide +kernel
theorem d_law_658 : decode code 658 = .ok (.iconst 1, 1) := by decide +kernel
theorem d_law_659 : decode code 659 = .ok (.ireturn, 1) := by decide +kernel
set_option maxHeartbeats 4000000 in
set_option maxRecDepth 100000 in
theorem law_clear {p : Program} {l : Launch} {e : Env} {s : State} {m : MethodId} {below : List Frame} {meth : Method} {c : Code} {D : va_G} {K t : Nat → Nat} {b L : Nat} {xs : Nat → Int32} {L1 L2 : Nat → Nat → Nat} {h : fh_H} {S0 : CS} {M0 : MS} {H : Heap} {locs : List Loc} {ls : Array Slot} {i : Nat} {Q : State → Prop} (S : CallFix p m c code 4 s #[Value.ref b] fT "FactFinderLaw") (hE : fh_E D classes (tysK K) (tbT t) NWL2 (fun q => s.heap.size ≤ q) s) (hX : va_X b L xs s s.heap) (hbl : b < s.heap.size) (hL : L ≤ 4096) (hi : i + 8 ≤ L) (hLI : LI K L1 L2 h S0 M0) (hI : fh_I D classes (fun q => s.heap.size ≤ q) s.heap h H locs) (hl : lv_has ls 4 [(0, .ref b), (1, va_rf (some (L1 0 0))), (2, va_rf (some (L2 0 0))), (3, .int (nI i))]) (kk : ∀ (h2 : fh_H) (S' : CS) (M' : MS) (H : Heap) (locs : List Loc), LI K L1 L2 h2 S' M' → fh_I D classes (fun q => s.heap.size ≤ q) s.heap h2 H locs → W p l e room_1 s m #[Value.ref b] below meth c H locs 76 87639 Q (F0 m 652 ls [])) : W p l e room_1 s m #[Value.ref b] below meth c H locs 76 87639 Q (F0 m 104 ls []) := by
  obtain ⟨hx, hb, hml, hown, hts⟩ := id S
  have hbA : ¬ (fun q : Nat => s.heap.size ≤ q) b := Nat.not_le.mpr hbl
  have hin : ∀ k : Nat, k < 8 → vp_in (nI i + nI k) L := fun k hk => by rw [nI_add]; exact vp_in_nI (by omega) (by omega)
  obtain ⟨v, h1, h2, S', M', e1, e2, ⟨fs, e3⟩, hLI2⟩ := hLI.call (tF := t_FF_clear 2000  S0) (tM := t_Mo_clear 2000  M0) (fun h => f_FF_clear K 2000 (L1 0 0)  h) (fun h => f_Mo_clear K 2000 (L2 0 0)  h) (call_clear (Nat.le_refl _) hLI.2.2.2.2.2) (fun res ht => u_FF_clear hLI.1 ht hLI.2.2.2.1) (fun h1 res hW ht => u_Mo_clear hLI.2.1 ht hW)
  replace e1 : f_FF_clear K 2000 (L1 0 0)  h = some (v, h1) := e1
  replace e2 : f_Mo_clear K 2000 (L2 0 0)  h1 = some (v, h2) := e2
  refine fh_aload_n S d_law_104 rfl (lv_at hl 1 rfl) ?_
  refine fh_callV (As := []) (rest := []) S fT_good (hE.nw nw_sub) hI (oi_o (hLI.2.2.2.1.1 0 0 (by decide))) rfl (c_FF_clear e1) fy_FF_clear fst_FF_clear k_729 ⟨rfl, rfl⟩ ⟨Nat.le_of_ble_eq_true rfl, Nat.le_of_ble_eq_true rfl⟩ ⟨Nat.le_of_ble_eq_true rfl, Nat.le_of_ble_eq_true rfl⟩ rfl hl.1 rfl (Nat.le_of_ble_eq_true rfl) d_law_105 (fun H locs hI => ?_)
  refine fh_aload_n S d_law_108 rfl (lv_at hl 2 rfl) ?_
  refine fh_callV (As := []) (rest := [.int v]) S fT_good (hE.nw nw_sub) hI (oi_o e3) rfl (c_Mo_clear e2) fy_Mo_clear fst_Mo_clear k_748 ⟨rfl, rfl⟩ ⟨Nat.le_of_ble_eq_true rfl, Nat.le_of_ble_eq_true rfl⟩ ⟨Nat.le_of_ble_eq_true rfl, Nat.le_of_ble_eq_true rfl⟩ rfl hl.1 rfl (Nat.le_of_ble_eq_true rfl) d_law_109 (fun H locs hI => ?_)
  refine lv_icmp_eq (tgt := 652) hx hb d_law_112 (by decide) (fun _ => ?_) (fun z => absurd rfl z)
  exact kk h2 S' M' _ _ hLI2 hI
set_option maxHeartbeats 4000000 in
set_option maxRecDepth 100000 in
theorem law_step {p : Program} {l : Launch} {e : Env} {s : State} {m : MethodId} {below : List Frame} {meth : Method} {c : Code} {D : va_G} {K t : Nat → Nat} {b L : Nat} {xs : Nat → Int32} {L1 L2 : Nat → Nat → Nat} {h : fh_H} {S0 : CS} {M0 : MS} {H : Heap} {locs : List Loc} {ls : Array Slot} {i : Nat} {Q : State → Prop} (S : CallFix p m c code 4 s #[Value.ref b] fT "FactFinderLaw") (hE : fh_E D classes (tysK K) (tbT t) NWL2 (fun q => s.heap.size ≤ q) s) (hX : va_X b L xs s s.heap) (hbl : b < s.heap.size) (hL : L ≤ 4096) (hi : i + 8 ≤ L) (hLI : LI K L1 L2 h S0 M0) (hI : fh_I D classes (fun q => s.heap.size ≤ q) s.heap h H locs) (hl : lv_has ls 4 [(0, .ref b), (1, va_rf (some (L1 0 0))), (2, va_rf (some (L2 0 0))), (3, .int (nI i))]) (kk : ∀ (h2 : fh_H) (S' : CS) (M' : MS) (H : Heap) (locs : List Loc), LI K L1 L2 h2 S' M' → fh_I D classes (fun q => s.heap.size ≤ q) s.heap h2 H locs → W p l e room_1 s m #[Value.ref b] below meth c H locs 76 87639 Q (F0 m 652 ls [])) : W p l e room_1 s m #[Value.ref b] below meth c H locs 76 87639 Q (F0 m 117 ls []) := by
  obtain ⟨hx, hb, hml, hown, hts⟩ := id S
  have hbA : ¬ (fun q : Nat => s.heap.size ≤ q) b := Nat.not_le.mpr hbl
  have hin : ∀ k : Nat, k < 8 → vp_in (nI i + nI k) L := fun k hk => by rw [nI_add]; exact vp_in_nI (by omega) (by omega)
  obtain ⟨v, h1, h2, S', M', e1, e2, ⟨fs, e3⟩, hLI2⟩ := hLI.call (tF := t_FF_step 2000 (xs (nI i + 1).toNatClampNeg) (xs (nI i + 2).toNatClampNeg) (xs (nI i + 3).toNatClampNeg) (xs (nI i + 4).toNatClampNeg) (xs (nI i + 5).toNatClampNeg) S0) (tM := t_Mo_step 2000 (xs (nI i + 1).toNatClampNeg) (xs (nI i + 2).toNatClampNeg) (xs (nI i + 3).toNatClampNeg) (xs (nI i + 4).toNatClampNeg) (xs (nI i + 5).toNatClampNeg) M0) (fun h => f_FF_step K 2000 (L1 0 0) (xs (nI i + 1).toNatClampNeg) (xs (nI i + 2).toNatClampNeg) (xs (nI i + 3).toNatClampNeg) (xs (nI i + 4).toNatClampNeg) (xs (nI i + 5).toNatClampNeg) h) (fun h => f_Mo_step K 2000 (L2 0 0) (xs (nI i + 1).toNatClampNeg) (xs (nI i + 2).toNatClampNeg) (xs (nI i + 3).toNatClampNeg) (xs (nI i + 4).toNatClampNeg) (xs (nI i + 5).toNatClampNeg) h) (call_step (Nat.le_refl _) hLI.2.2.2.2.2) (fun res ht => u_FF_step hLI.1 ht hLI.2.2.2.1) (fun h1 res hW ht => u_Mo_step hLI.2.1 ht hW)
  replace e1 : f_FF_step K 2000 (L1 0 0) (xs (nI i + 1).toNatClampNeg) (xs (nI i + 2).toNatClampNeg) (xs (nI i + 3).toNatClampNeg) (xs (nI i + 4).toNatClampNeg) (xs (nI i + 5).toNatClampNeg) h = some (v, h1) := e1
  replace e2 : f_Mo_step K 2000 (L2 0 0) (xs (nI i + 1).toNatClampNeg) (xs (nI i + 2).toNatClampNeg) (xs (nI i + 3).toNatClampNeg) (xs (nI i + 4).toNatClampNeg) (xs (nI i + 5).toNatClampNeg) h1 = some (v, h2) := e2
  refine fh_aload_n S d_law_117 rfl (lv_at hl 1 rfl) ?_
  refine lv_aload_n hx hb d_law_118 rfl (lv_at hl 0 rfl) ?_
  refine lv_iload_n hx hb d_law_119 rfl (lv_at hl 3 rfl) ?_
  refine lv_iconst (v := 1) hx hb d_law_120 (by decide) ?_
  refine lv_iadd hx hb d_law_121 ?_
  refine va_sld hx hb hX hbl hbA hI.2.2 (hin 1 (by decide)) d_law_122 ?_
  refine lv_aload_n hx hb d_law_123 rfl (lv_at hl 0 rfl) ?_
  refine lv_iload_n hx hb d_law_124 rfl (lv_at hl 3 rfl) ?_
  refine lv_iconst (v := 2) hx hb d_law_125 (by decide) ?_
  refine lv_iadd hx hb d_law_126 ?_
  refine va_sld hx hb hX hbl hbA hI.2.2 (hin 2 (by decide)) d_law_127 ?_
  refine lv_aload_n hx hb d_law_128 rfl (lv_at hl 0 rfl) ?_
  refine lv_iload_n hx hb d_law_129 rfl (lv_at hl 3 rfl) ?_
  refine lv_iconst (v := 3) hx hb d_law_130 (by decide) ?_
  refine lv_iadd hx hb d_law_131 ?_
  refine va_sld hx hb hX hbl hbA hI.2.2 (hin 3 (by decide)) d_law_132 ?_
  refine lv_aload_n hx hb d_law_133 rfl (lv_at hl 0 rfl) ?_
  refine lv_iload_n hx hb d_law_134 rfl (lv_at hl 3 rfl) ?_
  refine lv_iconst (v := 4) hx hb d_law_135 (by decide) ?_
  refine lv_iadd hx hb d_law_136 ?_
  refine va_sld hx hb hX hbl hbA hI.2.2 (hin 4 (by decide)) d_law_137 ?_
  refine lv_aload_n hx hb d_law_138 rfl (lv_at hl 0 rfl) ?_
  refine lv_iload_n hx hb d_law_139 rfl (lv_at hl 3 rfl) ?_
  refine lv_iconst (v := 5) hx hb d_law_140 (by decide) ?_
  refine lv_iadd hx hb d_law_141 ?_
  refine va_sld hx hb hX hbl hbA hI.2.2 (hin 5 (by decide)) d_law_142 ?_
  refine fh_callV (As := [.int (xs (nI i + 1).toNatClampNeg), .int (xs (nI i + 2).toNatClampNeg), .int (xs (nI i + 3).toNatClampNeg), .int (xs (nI i + 4).toNatClampNeg), .int (xs (nI i + 5).toNatClampNeg)]) (rest := []) S fT_good (hE.nw nw_sub) hI (oi_o (hLI.2.2.2.1.1 0 0 (by decide))) rfl (c_FF_step e1) fy_FF_step fst_FF_step k_730 ⟨rfl, rfl⟩ ⟨Nat.le_of_ble_eq_true rfl, Nat.le_of_ble_eq_true rfl⟩ ⟨Nat.le_of_ble_eq_true rfl, Nat.le_of_ble_eq_true rfl⟩ rfl hl.1 rfl (Nat.le_of_ble_eq_true rfl) d_law_143 (fun H locs hI => ?_)
  refine fh_aload_n S d_law_146 rfl (lv_at hl 2 rfl) ?_
  refine lv_aload_n hx hb d_law_147 rfl (lv_at hl 0 rfl) ?_
  refine lv_iload_n hx hb d_law_148 rfl (lv_at hl 3 rfl) ?_
  refine lv_iconst (v := 1) hx hb d_law_149 (by decide) ?_
  refine lv_iadd hx hb d_law_150 ?_
  refine va_sld hx hb hX hbl hbA hI.2.2 (hin 1 (by decide)) d_law_151 ?_
  refine lv_aload_n hx hb d_law_152 rfl (lv_at hl 0 rfl) ?_
  refine lv_iload_n hx hb d_law_153 rfl (lv_at hl 3 rfl) ?_
  refine lv_iconst (v := 2) hx hb d_law_154 (by decide) ?_
  refine lv_iadd hx hb d_law_155 ?_
  refine va_sld hx hb hX hbl hbA hI.2.2 (hin 2 (by decide)) d_law_156 ?_
  refine lv_aload_n hx hb d_law_157 rfl (lv_at hl 0 rfl) ?_
  refine lv_iload_n hx hb d_law_158 rfl (lv_at hl 3 rfl) ?_
  refine lv_iconst (v := 3) hx hb d_law_159 (by decide) ?_
  refine lv_iadd hx hb d_law_160 ?_
  refine va_sld hx hb hX hbl hbA hI.2.2 (hin 3 (by decide)) d_law_161 ?_
  refine lv_aload_n hx hb d_law_162 rfl (lv_at hl 0 rfl) ?_
  refine lv_iload_n hx hb d_law_163 rfl (lv_at hl 3 rfl) ?_
  refine lv_iconst (v := 4) hx hb d_law_164 (by decide) ?_
  refine lv_iadd hx hb d_law_165 ?_
  refine va_sld hx hb hX hbl hbA hI.2.2 (hin 4 (by decide)) d_law_166 ?_
  refine lv_aload_n hx hb d_law_167 rfl (lv_at hl 0 rfl) ?_
  refine lv_iload_n hx hb d_law_168 rfl (lv_at hl 3 rfl) ?_
  refine lv_iconst (v := 5) hx hb d_law_169 (by decide) ?_
  refine lv_iadd hx hb d_law_170 ?_
  refine va_sld hx hb hX hbl hbA hI.2.2 (hin 5 (by decide)) d_law_171 ?_
  refine fh_callV (As := [.int (xs (nI i + 1).toNatClampNeg), .int (xs (nI i + 2).toNatClampNeg), .int (xs (nI i + 3).toNatClampNeg), .int (xs (nI i + 4).toNatClampNeg), .int (xs (nI i + 5).toNatClampNeg)]) (rest := [.int v]) S fT_good (hE.nw nw_sub) hI (oi_o e3) rfl (c_Mo_step e2) fy_Mo_step fst_Mo_step k_749 ⟨rfl, rfl⟩ ⟨Nat.le_of_ble_eq_true rfl, Nat.le_of_ble_eq_true rfl⟩ ⟨Nat.le_of_ble_eq_true rfl, Nat.le_of_ble_eq_true rfl⟩ rfl hl.1 rfl (Nat.le_of_ble_eq_true rfl) d_law_172 (fun H locs hI => ?_)
  refine lv_icmp_eq (tgt := 652) hx hb d_law_175 (by decide) (fun _ => ?_) (fun z => absurd rfl z)
  exact kk h2 S' M' _ _ hLI2 hI
set_option maxHeartbeats 4000000 in
set_option maxRecDepth 100000 in
theorem law_change {p : Program} {l : Launch} {e : Env} {s : State} {m : MethodId} {below : List Frame} {meth : Method} {c : Code} {D : va_G} {K t : Nat → Nat} {b L : Nat} {xs : Nat → Int32} {L1 L2 : Nat → Nat → Nat} {h : fh_H} {S0 : CS} {M0 : MS} {H : Heap} {locs : List Loc} {ls : Array Slot} {i : Nat} {Q : State → Prop} (S : CallFix p m c code 4 s #[Value.ref b] fT "FactFinderLaw") (hE : fh_E D classes (tysK K) (tbT t) NWL2 (fun q => s.heap.size ≤ q) s) (hX : va_X b L xs s s.heap) (hbl : b < s.heap.size) (hL : L ≤ 4096) (hi : i + 8 ≤ L) (hLI : LI K L1 L2 h S0 M0) (hI : fh_I D classes (fun q => s.heap.size ≤ q) s.heap h H locs) (hl : lv_has ls 4 [(0, .ref b), (1, va_rf (some (L1 0 0))), (2, va_rf (some (L2 0 0))), (3, .int (nI i))]) (kk : ∀ (h2 : fh_H) (S' : CS) (M' : MS) (H : Heap) (locs : List Loc), LI K L1 L2 h2 S' M' → fh_I D classes (fun q => s.heap.size ≤ q) s.heap h2 H locs → W p l e room_1 s m #[Value.ref b] below meth c H locs 76 87639 Q (F0 m 652 ls [])) : W p l e room_1 s m #[Value.ref b] below meth c H locs 76 87639 Q (F0 m 180 ls []) := by
  obtain ⟨hx, hb, hml, hown, hts⟩ := id S
  have hbA : ¬ (fun q : Nat => s.heap.size ≤ q) b := Nat.not_le.mpr hbl
  have hin : ∀ k : Nat, k < 8 → vp_in (nI i + nI k) L := fun k hk => by rw [nI_add]; exact vp_in_nI (by omega) (by omega)
  obtain ⟨v, h1, h2, S', M', e1, e2, ⟨fs, e3⟩, hLI2⟩ := hLI.call (tF := t_FF_change 2000 (xs (nI i + 1).toNatClampNeg) (xs (nI i + 2).toNatClampNeg) (xs (nI i + 3).toNatClampNeg) (xs (nI i + 4).toNatClampNeg) (xs (nI i + 5).toNatClampNeg) (xs (nI i + 6).toNatClampNeg) S0) (tM := t_Mo_change 2000 (xs (nI i + 1).toNatClampNeg) (xs (nI i + 2).toNatClampNeg) (xs (nI i + 3).toNatClampNeg) (xs (nI i + 4).toNatClampNeg) (xs (nI i + 5).toNatClampNeg) (xs (nI i + 6).toNatClampNeg) M0) (fun h => f_FF_change K 2000 (L1 0 0) (xs (nI i + 1).toNatClampNeg) (xs (nI i + 2).toNatClampNeg) (xs (nI i + 3).toNatClampNeg) (xs (nI i + 4).toNatClampNeg) (xs (nI i + 5).toNatClampNeg) (xs (nI i + 6).toNatClampNeg) h) (fun h => f_Mo_change K 2000 (L2 0 0) (xs (nI i + 1).toNatClampNeg) (xs (nI i + 2).toNatClampNeg) (xs (nI i + 3).toNatClampNeg) (xs (nI i + 4).toNatClampNeg) (xs (nI i + 5).toNatClampNeg) (xs (nI i + 6).toNatClampNeg) h) (call_change (Nat.le_refl _) hLI.2.2.2.2.2) (fun res ht => u_FF_change hLI.1 ht hLI.2.2.2.1) (fun h1 res hW ht => u_Mo_change hLI.2.1 ht hW)
  replace e1 : f_FF_change K 2000 (L1 0 0) (xs (nI i + 1).toNatClampNeg) (xs (nI i + 2).toNatClampNeg) (xs (nI i + 3).toNatClampNeg) (xs (nI i + 4).toNatClampNeg) (xs (nI i + 5).toNatClampNeg) (xs (nI i + 6).toNatClampNeg) h = some (v, h1) := e1
  replace e2 : f_Mo_change K 2000 (L2 0 0) (xs (nI i + 1).toNatClampNeg) (xs (nI i + 2).toNatClampNeg) (xs (nI i + 3).toNatClampNeg) (xs (nI i + 4).toNatClampNeg) (xs (nI i + 5).toNatClampNeg) (xs (nI i + 6).toNatClampNeg) h1 = some (v, h2) := e2
  refine fh_aload_n S d_law_180 rfl (lv_at hl 1 rfl) ?_
  refine lv_aload_n hx hb d_law_181 rfl (lv_at hl 0 rfl) ?_
  refine lv_iload_n hx hb d_law_182 rfl (lv_at hl 3 rfl) ?_
  refine lv_iconst (v := 1) hx hb d_law_183 (by decide) ?_
  refine lv_iadd hx hb d_law_184 ?_
  refine va_sld hx hb hX hbl hbA hI.2.2 (hin 1 (by decide)) d_law_185 ?_
  refine lv_aload_n hx hb d_law_186 rfl (lv_at hl 0 rfl) ?_
  refine lv_iload_n hx hb d_law_187 rfl (lv_at hl 3 rfl) ?_
  refine lv_iconst (v := 2) hx hb d_law_188 (by decide) ?_
  refine lv_iadd hx hb d_law_189 ?_
  refine va_sld hx hb hX hbl hbA hI.2.2 (hin 2 (by decide)) d_law_190 ?_
  refine lv_aload_n hx hb d_law_191 rfl (lv_at hl 0 rfl) ?_
  refine lv_iload_n hx hb d_law_192 rfl (lv_at hl 3 rfl) ?_
  refine lv_iconst (v := 3) hx hb d_law_193 (by decide) ?_
  refine lv_iadd hx hb d_law_194 ?_
  refine va_sld hx hb hX hbl hbA hI.2.2 (hin 3 (by decide)) d_law_195 ?_
  refine lv_aload_n hx hb d_law_196 rfl (lv_at hl 0 rfl) ?_
  refine lv_iload_n hx hb d_law_197 rfl (lv_at hl 3 rfl) ?_
  refine lv_iconst (v := 4) hx hb d_law_198 (by decide) ?_
  refine lv_iadd hx hb d_law_199 ?_
  refine va_sld hx hb hX hbl hbA hI.2.2 (hin 4 (by decide)) d_law_200 ?_
  refine lv_aload_n hx hb d_law_201 rfl (lv_at hl 0 rfl) ?_
  refine lv_iload_n hx hb d_law_202 rfl (lv_at hl 3 rfl) ?_
  refine lv_iconst (v := 5) hx hb d_law_203 (by decide) ?_
  refine lv_iadd hx hb d_law_204 ?_
  refine va_sld hx hb hX hbl hbA hI.2.2 (hin 5 (by decide)) d_law_205 ?_
  refine lv_aload_n hx hb d_law_206 rfl (lv_at hl 0 rfl) ?_
  refine lv_iload_n hx hb d_law_207 rfl (lv_at hl 3 rfl) ?_
  refine lv_bipush (v := 6) hx hb d_law_208 (by decide) ?_
  refine lv_iadd hx hb d_law_210 ?_
  refine va_sld hx hb hX hbl hbA hI.2.2 (hin 6 (by decide)) d_law_211 ?_
  refine fh_callV (As := [.int (xs (nI i + 1).toNatClampNeg), .int (xs (nI i + 2).toNatClampNeg), .int (xs (nI i + 3).toNatClampNeg), .int (xs (nI i + 4).toNatClampNeg), .int (xs (nI i + 5).toNatClampNeg), .int (xs (nI i + 6).toNatClampNeg)]) (rest := []) S fT_good (hE.nw nw_sub) hI (oi_o (hLI.2.2.2.1.1 0 0 (by decide))) rfl (c_FF_change e1) fy_FF_change fst_FF_change k_731 ⟨rfl, rfl⟩ ⟨Nat.le_of_ble_eq_true rfl, Nat.le_of_ble_eq_true rfl⟩ ⟨Nat.le_of_ble_eq_true rfl, Nat.le_of_ble_eq_true rfl⟩ rfl hl.1 rfl (Nat.le_of_ble_eq_true rfl) d_law_212 (fun H locs hI => ?_)
  refine fh_aload_n S d_law_215 rfl (lv_at hl 2 rfl) ?_
  refine lv_aload_n hx hb d_law_216 rfl (lv_at hl 0 rfl) ?_
  refine lv_iload_n hx hb d_law_217 rfl (lv_at hl 3 rfl) ?_
  refine lv_iconst (v := 1) hx hb d_law_218 (by decide) ?_
  refine lv_iadd hx hb d_law_219 ?_
  refine va_sld hx hb hX hbl hbA hI.2.2 (hin 1 (by decide)) d_law_220 ?_
  refine lv_aload_n hx hb d_law_221 rfl (lv_at hl 0 rfl) ?_
  refine lv_iload_n hx hb d_law_222 rfl (lv_at hl 3 rfl) ?_
  refine lv_iconst (v := 2) hx hb d_law_223 (by decide) ?_
  refine lv_iadd hx hb d_law_224 ?_
  refine va_sld hx hb hX hbl hbA hI.2.2 (hin 2 (by decide)) d_law_225 ?_
  refine lv_aload_n hx hb d_law_226 rfl (lv_at hl 0 rfl) ?_
  refine lv_iload_n hx hb d_law_227 rfl (lv_at hl 3 rfl) ?_
  refine lv_iconst (v := 3) hx hb d_law_228 (by decide) ?_
  refine lv_iadd hx hb d_law_229 ?_
  refine va_sld hx hb hX hbl hbA hI.2.2 (hin 3 (by decide)) d_law_230 ?_
  refine lv_aload_n hx hb d_law_231 rfl (lv_at hl 0 rfl) ?_
  refine lv_iload_n hx hb d_law_232 rfl (lv_at hl 3 rfl) ?_
  refine lv_iconst (v := 4) hx hb d_law_233 (by decide) ?_
  refine lv_iadd hx hb d_law_234 ?_
  refine va_sld hx hb hX hbl hbA hI.2.2 (hin 4 (by decide)) d_law_235 ?_
  refine lv_aload_n hx hb d_law_236 rfl (lv_at hl 0 rfl) ?_
  refine lv_iload_n hx hb d_law_237 rfl (lv_at hl 3 rfl) ?_
  refine lv_iconst (v := 5) hx hb d_law_238 (by decide) ?_
  refine lv_iadd hx hb d_law_239 ?_
  refine va_sld hx hb hX hbl hbA hI.2.2 (hin 5 (by decide)) d_law_240 ?_
  refine lv_aload_n hx hb d_law_241 rfl (lv_at hl 0 rfl) ?_
  refine lv_iload_n hx hb d_law_242 rfl (lv_at hl 3 rfl) ?_
  refine lv_bipush (v := 6) hx hb d_law_243 (by decide) ?_
  refine lv_iadd hx hb d_law_245 ?_
  refine va_sld hx hb hX hbl hbA hI.2.2 (hin 6 (by decide)) d_law_246 ?_
  refine fh_callV (As := [.int (xs (nI i + 1).toNatClampNeg), .int (xs (nI i + 2).toNatClampNeg), .int (xs (nI i + 3).toNatClampNeg), .int (xs (nI i + 4).toNatClampNeg), .int (xs (nI i + 5).toNatClampNeg), .int (xs (nI i + 6).toNatClampNeg)]) (rest := [.int v]) S fT_good (hE.nw nw_sub) hI (oi_o e3) rfl (c_Mo_change e2) fy_Mo_change fst_Mo_change k_750 ⟨rfl, rfl⟩ ⟨Nat.le_of_ble_eq_true rfl, Nat.le_of_ble_eq_true rfl⟩ ⟨Nat.le_of_ble_eq_true rfl, Nat.le_of_ble_eq_true rfl⟩ rfl hl.1 rfl (Nat.le_of_ble_eq_true rfl) d_law_247 (fun H locs hI => ?_)
  refine lv_icmp_eq (tgt := 652) hx hb d_law_250 (by decide) (fun _ => ?_) (fun z => absurd rfl z)
  exact kk h2 S' M' _ _ hLI2 hI
set_option maxHeartbeats 4000000 in
set_option maxRecDepth 100000 in
theorem law_draw {p : Program} {l : Launch} {e : Env} {s : State} {m : MethodId} {below : List Frame} {meth : Method} {c : Code} {D : va_G} {K t : Nat → Nat} {b L : Nat} {xs : Nat → Int32} {L1 L2 : Nat → Nat → Nat} {h : fh_H} {S0 : CS} {M0 : MS} {H : Heap} {locs : List Loc} {ls : Array Slot} {i : Nat} {Q : State → Prop} (S : CallFix p m c code 4 s #[Value.ref b] fT "FactFinderLaw") (hE : fh_E D classes (tysK K) (tbT t) NWL2 (fun q => s.heap.size ≤ q) s) (hX : va_X b L xs s s.heap) (hbl : b < s.heap.size) (hL : L ≤ 4096) (hi : i + 8 ≤ L) (hLI : LI K L1 L2 h S0 M0) (hI : fh_I D classes (fun q => s.heap.size ≤ q) s.heap h H locs) (hl : lv_has ls 4 [(0, .ref b), (1, va_rf (some (L1 0 0))), (2, va_rf (some (L2 0 0))), (3, .int (nI i))]) (kk : ∀ (h2 : fh_H) (S' : CS) (M' : MS) (H : Heap) (locs : List Loc), LI K L1 L2 h2 S' M' → fh_I D classes (fun q => s.heap.size ≤ q) s.heap h2 H locs → W p l e room_1 s m #[Value.ref b] below meth c H locs 76 87639 Q (F0 m 652 ls [])) : W p l e room_1 s m #[Value.ref b] below meth c H locs 76 87639 Q (F0 m 255 ls []) := by
  obtain ⟨hx, hb, hml, hown, hts⟩ := id S
  have hbA : ¬ (fun q : Nat => s.heap.size ≤ q) b := Nat.not_le.mpr hbl
  have hin : ∀ k : Nat, k < 8 → vp_in (nI i + nI k) L := fun k hk => by rw [nI_add]; exact vp_in_nI (by omega) (by omega)
  obtain ⟨v, h1, h2, S', M', e1, e2, ⟨fs, e3⟩, hLI2⟩ := hLI.call (tF := t_FF_draw 2000 (xs (nI i + 1).toNatClampNeg) (xs (nI i + 2).toNatClampNeg) S0) (tM := t_Mo_draw 2000 (xs (nI i + 1).toNatClampNeg) (xs (nI i + 2).toNatClampNeg) M0) (fun h => f_FF_draw K 2000 (L1 0 0) (xs (nI i + 1).toNatClampNeg) (xs (nI i + 2).toNatClampNeg) h) (fun h => f_Mo_draw K 2000 (L2 0 0) (xs (nI i + 1).toNatClampNeg) (xs (nI i + 2).toNatClampNeg) h) (call_draw (Nat.le_refl _) hLI.2.2.2.2.2) (fun res ht => u_FF_draw hLI.1 ht hLI.2.2.2.1) (fun h1 res hW ht => u_Mo_draw hLI.2.1 ht hW)
  replace e1 : f_FF_draw K 2000 (L1 0 0) (xs (nI i + 1).toNatClampNeg) (xs (nI i + 2).toNatClampNeg) h = some (v, h1) := e1
  replace e2 : f_Mo_draw K 2000 (L2 0 0) (xs (nI i + 1).toNatClampNeg) (xs (nI i + 2).toNatClampNeg) h1 = some (v, h2) := e2
  refine fh_aload_n S d_law_255 rfl (lv_at hl 1 rfl) ?_
  refine lv_aload_n hx hb d_law_256 rfl (lv_at hl 0 rfl) ?_
  refine lv_iload_n hx hb d_law_257 rfl (lv_at hl 3 rfl) ?_
  refine lv_iconst (v := 1) hx hb d_law_258 (by decide) ?_
  refine lv_iadd hx hb d_law_259 ?_
  refine va_sld hx hb hX hbl hbA hI.2.2 (hin 1 (by decide)) d_law_260 ?_
  refine lv_aload_n hx hb d_law_261 rfl (lv_at hl 0 rfl) ?_
  refine lv_iload_n hx hb d_law_262 rfl (lv_at hl 3 rfl) ?_
  refine lv_iconst (v := 2) hx hb d_law_263 (by decide) ?_
  refine lv_iadd hx hb d_law_264 ?_
  refine va_sld hx hb hX hbl hbA hI.2.2 (hin 2 (by decide)) d_law_265 ?_
  refine fh_callV (As := [.int (xs (nI i + 1).toNatClampNeg), .int (xs (nI i + 2).toNatClampNeg)]) (rest := []) S fT_good (hE.nw nw_sub) hI (oi_o (hLI.2.2.2.1.1 0 0 (by decide))) rfl (c_FF_draw e1) fy_FF_draw fst_FF_draw k_732 ⟨rfl, rfl⟩ ⟨Nat.le_of_ble_eq_true rfl, Nat.le_of_ble_eq_true rfl⟩ ⟨Nat.le_of_ble_eq_true rfl, Nat.le_of_ble_eq_true rfl⟩ rfl hl.1 rfl (Nat.le_of_ble_eq_true rfl) d_law_266 (fun H locs hI => ?_)
  refine fh_aload_n S d_law_269 rfl (lv_at hl 2 rfl) ?_
  refine lv_aload_n hx hb d_law_270 rfl (lv_at hl 0 rfl) ?_
  refine lv_iload_n hx hb d_law_271 rfl (lv_at hl 3 rfl) ?_
  refine lv_iconst (v := 1) hx hb d_law_272 (by decide) ?_
  refine lv_iadd hx hb d_law_273 ?_
  refine va_sld hx hb hX hbl hbA hI.2.2 (hin 1 (by decide)) d_law_274 ?_
  refine lv_aload_n hx hb d_law_275 rfl (lv_at hl 0 rfl) ?_
  refine lv_iload_n hx hb d_law_276 rfl (lv_at hl 3 rfl) ?_
  refine lv_iconst (v := 2) hx hb d_law_277 (by decide) ?_
  refine lv_iadd hx hb d_law_278 ?_
  refine va_sld hx hb hX hbl hbA hI.2.2 (hin 2 (by decide)) d_law_279 ?_
  refine fh_callV (As := [.int (xs (nI i + 1).toNatClampNeg), .int (xs (nI i + 2).toNatClampNeg)]) (rest := [.int v]) S fT_good (hE.nw nw_sub) hI (oi_o e3) rfl (c_Mo_draw e2) fy_Mo_draw fst_Mo_draw k_751 ⟨rfl, rfl⟩ ⟨Nat.le_of_ble_eq_true rfl, Nat.le_of_ble_eq_true rfl⟩ ⟨Nat.le_of_ble_eq_true rfl, Nat.le_of_ble_eq_true rfl⟩ rfl hl.1 rfl (Nat.le_of_ble_eq_true rfl) d_law_280 (fun H locs hI => ?_)
  refine lv_icmp_eq (tgt := 652) hx hb d_law_283 (by decide) (fun _ => ?_) (fun z => absurd rfl z)
  exact kk h2 S' M' _ _ hLI2 hI
set_option maxHeartbeats 4000000 in
set_option maxRecDepth 100000 in
theorem law_count {p : Program} {l : Launch} {e : Env} {s : State} {m : MethodId} {below : List Frame} {meth : Method} {c : Code} {D : va_G} {K t : Nat → Nat} {b L : Nat} {xs : Nat → Int32} {L1 L2 : Nat → Nat → Nat} {h : fh_H} {S0 : CS} {M0 : MS} {H : Heap} {locs : List Loc} {ls : Array Slot} {i : Nat} {Q : State → Prop} (S : CallFix p m c code 4 s #[Value.ref b] fT "FactFinderLaw") (hE : fh_E D classes (tysK K) (tbT t) NWL2 (fun q => s.heap.size ≤ q) s) (hX : va_X b L xs s s.heap) (hbl : b < s.heap.size) (hL : L ≤ 4096) (hi : i + 8 ≤ L) (hLI : LI K L1 L2 h S0 M0) (hI : fh_I D classes (fun q => s.heap.size ≤ q) s.heap h H locs) (hl : lv_has ls 4 [(0, .ref b), (1, va_rf (some (L1 0 0))), (2, va_rf (some (L2 0 0))), (3, .int (nI i))]) (kk : ∀ (h2 : fh_H) (S' : CS) (M' : MS) (H : Heap) (locs : List Loc), LI K L1 L2 h2 S' M' → fh_I D classes (fun q => s.heap.size ≤ q) s.heap h2 H locs → W p l e room_1 s m #[Value.ref b] below meth c H locs 76 87639 Q (F0 m 652 ls [])) : W p l e room_1 s m #[Value.ref b] below meth c H locs 76 87639 Q (F0 m 288 ls []) := by
  obtain ⟨hx, hb, hml, hown, hts⟩ := id S
  have hbA : ¬ (fun q : Nat => s.heap.size ≤ q) b := Nat.not_le.mpr hbl
  have hin : ∀ k : Nat, k < 8 → vp_in (nI i + nI k) L := fun k hk => by rw [nI_add]; exact vp_in_nI (by omega) (by omega)
  obtain ⟨v, h1, h2, S', M', e1, e2, ⟨fs, e3⟩, hLI2⟩ := hLI.call (tF := t_FF_count 2000 (xs (nI i + 1).toNatClampNeg) S0) (tM := t_Mo_count 2000 (xs (nI i + 1).toNatClampNeg) M0) (fun h => f_FF_count K 2000 (L1 0 0) (xs (nI i + 1).toNatClampNeg) h) (fun h => f_Mo_count K 2000 (L2 0 0) (xs (nI i + 1).toNatClampNeg) h) (call_count (Nat.le_refl _) hLI.2.2.2.2.2) (fun res ht => u_FF_count hLI.1 ht hLI.2.2.2.1) (fun h1 res hW ht => u_Mo_count hLI.2.1 ht hW)
  replace e1 : f_FF_count K 2000 (L1 0 0) (xs (nI i + 1).toNatClampNeg) h = some (v, h1) := e1
  replace e2 : f_Mo_count K 2000 (L2 0 0) (xs (nI i + 1).toNatClampNeg) h1 = some (v, h2) := e2
  refine fh_aload_n S d_law_288 rfl (lv_at hl 1 rfl) ?_
  refine lv_aload_n hx hb d_law_289 rfl (lv_at hl 0 rfl) ?_
  refine lv_iload_n hx hb d_law_290 rfl (lv_at hl 3 rfl) ?_
  refine lv_iconst (v := 1) hx hb d_law_291 (by decide) ?_
  refine lv_iadd hx hb d_law_292 ?_
  refine va_sld hx hb hX hbl hbA hI.2.2 (hin 1 (by decide)) d_law_293 ?_
  refine fh_callV (As := [.int (xs (nI i + 1).toNatClampNeg)]) (rest := []) S fT_good (hE.nw nw_sub) hI (oi_o (hLI.2.2.2.1.1 0 0 (by decide))) rfl (c_FF_count e1) fy_FF_count fst_FF_count k_733 ⟨rfl, rfl⟩ ⟨Nat.le_of_ble_eq_true rfl, Nat.le_of_ble_eq_true rfl⟩ ⟨Nat.le_of_ble_eq_true rfl, Nat.le_of_ble_eq_true rfl⟩ rfl hl.1 rfl (Nat.le_of_ble_eq_true rfl) d_law_294 (fun H locs hI => ?_)
  refine fh_aload_n S d_law_297 rfl (lv_at hl 2 rfl) ?_
  refine lv_aload_n hx hb d_law_298 rfl (lv_at hl 0 rfl) ?_
  refine lv_iload_n hx hb d_law_299 rfl (lv_at hl 3 rfl) ?_
  refine lv_iconst (v := 1) hx hb d_law_300 (by decide) ?_
  refine lv_iadd hx hb d_law_301 ?_
  refine va_sld hx hb hX hbl hbA hI.2.2 (hin 1 (by decide)) d_law_302 ?_
  refine fh_callV (As := [.int (xs (nI i + 1).toNatClampNeg)]) (rest := [.int v]) S fT_good (hE.nw nw_sub) hI (oi_o e3) rfl (c_Mo_count e2) fy_Mo_count fst_Mo_count k_752 ⟨rfl, rfl⟩ ⟨Nat.le_of_ble_eq_true rfl, Nat.le_of_ble_eq_true rfl⟩ ⟨Nat.le_of_ble_eq_true rfl, Nat.le_of_ble_eq_true rfl⟩ rfl hl.1 rfl (Nat.le_of_ble_eq_true rfl) d_law_303 (fun H locs hI => ?_)
  refine lv_icmp_eq (tgt := 652) hx hb d_law_306 (by decide) (fun _ => ?_) (fun z => absurd rfl z)
  exact kk h2 S' M' _ _ hLI2 hI
set_option maxHeartbeats 4000000 in
set_option maxRecDepth 100000 in
theorem law_told {p : Program} {l : Launch} {e : Env} {s : State} {m : MethodId} {below : List Frame} {meth : Method} {c : Code} {D : va_G} {K t : Nat → Nat} {b L : Nat} {xs : Nat → Int32} {L1 L2 : Nat → Nat → Nat} {h : fh_H} {S0 : CS} {M0 : MS} {H : Heap} {locs : List Loc} {ls : Array Slot} {i : Nat} {Q : State → Prop} (S : CallFix p m c code 4 s #[Value.ref b] fT "FactFinderLaw") (hE : fh_E D classes (tysK K) (tbT t) NWL2 (fun q => s.heap.size ≤ q) s) (hX : va_X b L xs s s.heap) (hbl : b < s.heap.size) (hL : L ≤ 4096) (hi : i + 8 ≤ L) (hLI : LI K L1 L2 h S0 M0) (hI : fh_I D classes (fun q => s.heap.size ≤ q) s.heap h H locs) (hl : lv_has ls 4 [(0, .ref b), (1, va_rf (some (L1 0 0))), (2, va_rf (some (L2 0 0))), (3, .int (nI i))]) (kk : ∀ (h2 : fh_H) (S' : CS) (M' : MS) (H : Heap) (locs : List Loc), LI K L1 L2 h2 S' M' → fh_I D classes (fun q => s.heap.size ≤ q) s.heap h2 H locs → W p l e room_1 s m #[Value.ref b] below meth c H locs 76 87639 Q (F0 m 652 ls [])) : W p l e room_1 s m #[Value.ref b] below meth c H locs 76 87639 Q (F0 m 311 ls []) := by
  obtain ⟨hx, hb, hml, hown, hts⟩ := id S
  have hbA : ¬ (fun q : Nat => s.heap.size ≤ q) b := Nat.not_le.mpr hbl
  have hin : ∀ k : Nat, k < 8 → vp_in (nI i + nI k) L := fun k hk => by rw [nI_add]; exact vp_in_nI (by omega) (by omega)
  obtain ⟨v, h1, h2, S', M', e1, e2, ⟨fs, e3⟩, hLI2⟩ := hLI.ask (tF := t_FF_told 2000 (xs (nI i + 1).toNatClampNeg) (xs (nI i + 2).toNatClampNeg) S0) (tM := t_Mo_told 2000 (xs (nI i + 1).toNatClampNeg) (xs (nI i + 2).toNatClampNeg) M0) (fun h => f_FF_told K 2000 (L1 0 0) (xs (nI i + 1).toNatClampNeg) (xs (nI i + 2).toNatClampNeg) h) (fun h => f_Mo_told K 2000 (L2 0 0) (xs (nI i + 1).toNatClampNeg) (xs (nI i + 2).toNatClampNeg) h) (call_told (Nat.le_refl _) hLI.2.2.2.2.2) (fun res ht => u_FF_told hLI.1 ht hLI.2.2.2.1) (fun res ht => u_Mo_told hLI.2.1 ht hLI.2.2.2.2.1)
  replace e1 : f_FF_told K 2000 (L1 0 0) (xs (nI i + 1).toNatClampNeg) (xs (nI i + 2).toNatClampNeg) h = some (v, h1) := e1
  replace e2 : f_Mo_told K 2000 (L2 0 0) (xs (nI i + 1).toNatClampNeg) (xs (nI i + 2).toNatClampNeg) h1 = some (v, h2) := e2
  refine fh_aload_n S d_law_311 rfl (lv_at hl 1 rfl) ?_
  refine lv_aload_n hx hb d_law_312 rfl (lv_at hl 0 rfl) ?_
  refine lv_iload_n hx hb d_law_313 rfl (lv_at hl 3 rfl) ?_
  refine lv_iconst (v := 1) hx hb d_law_314 (by decide) ?_
  refine lv_iadd hx hb d_law_315 ?_
  refine va_sld hx hb hX hbl hbA hI.2.2 (hin 1 (by decide)) d_law_316 ?_
  refine lv_aload_n hx hb d_law_317 rfl (lv_at hl 0 rfl) ?_
  refine lv_iload_n hx hb d_law_318 rfl (lv_at hl 3 rfl) ?_
  refine lv_iconst (v := 2) hx hb d_law_319 (by decide) ?_
  refine lv_iadd hx hb d_law_320 ?_
  refine va_sld hx hb hX hbl hbA hI.2.2 (hin 2 (by decide)) d_law_321 ?_
  refine fh_callV (As := [.int (xs (nI i + 1).toNatClampNeg), .int (xs (nI i + 2).toNatClampNeg)]) (rest := []) S fT_good (hE.nw nw_sub) hI (oi_o (hLI.2.2.2.1.1 0 0 (by decide))) rfl (c_FF_told e1) fy_FF_told fst_FF_told k_734 ⟨rfl, rfl⟩ ⟨Nat.le_of_ble_eq_true rfl, Nat.le_of_ble_eq_true rfl⟩ ⟨Nat.le_of_ble_eq_true rfl, Nat.le_of_ble_eq_true rfl⟩ rfl hl.1 rfl (Nat.le_of_ble_eq_true rfl) d_law_322 (fun H locs hI => ?_)
  refine fh_aload_n S d_law_325 rfl (lv_at hl 2 rfl) ?_
  refine lv_aload_n hx hb d_law_326 rfl (lv_at hl 0 rfl) ?_
  refine lv_iload_n hx hb d_law_327 rfl (lv_at hl 3 rfl) ?_
  refine lv_iconst (v := 1) hx hb d_law_328 (by decide) ?_
  refine lv_iadd hx hb d_law_329 ?_
  refine va_sld hx hb hX hbl hbA hI.2.2 (hin 1 (by decide)) d_law_330 ?_
  refine lv_aload_n hx hb d_law_331 rfl (lv_at hl 0 rfl) ?_
  refine lv_iload_n hx hb d_law_332 rfl (lv_at hl 3 rfl) ?_
  refine lv_iconst (v := 2) hx hb d_law_333 (by decide) ?_
  refine lv_iadd hx hb d_law_334 ?_
  refine va_sld hx hb hX hbl hbA hI.2.2 (hin 2 (by decide)) d_law_335 ?_
  refine fh_callV (As := [.int (xs (nI i + 1).toNatClampNeg), .int (xs (nI i + 2).toNatClampNeg)]) (rest := [.int v]) S fT_good (hE.nw nw_sub) hI (oi_o e3) rfl (c_Mo_told e2) fy_Mo_told fst_Mo_told k_753 ⟨rfl, rfl⟩ ⟨Nat.le_of_ble_eq_true rfl, Nat.le_of_ble_eq_true rfl⟩ ⟨Nat.le_of_ble_eq_true rfl, Nat.le_of_ble_eq_true rfl⟩ rfl hl.1 rfl (Nat.le_of_ble_eq_true rfl) d_law_336 (fun H locs hI => ?_)
  refine lv_icmp_eq (tgt := 652) hx hb d_law_339 (by decide) (fun _ => ?_) (fun z => absurd rfl z)
  exact kk h2 S' M' _ _ hLI2 hI
set_option maxHeartbeats 4000000 in
set_option maxRecDepth 100000 in
theorem law_falls {p : Program} {l : Launch} {e : Env} {s : State} {m : MethodId} {below : List Frame} {meth : Method} {c : Code} {D : va_G} {K t : Nat → Nat} {b L : Nat} {xs : Nat → Int32} {L1 L2 : Nat → Nat → Nat} {h : fh_H} {S0 : CS} {M0 : MS} {H : Heap} {locs : List Loc} {ls : Array Slot} {i : Nat} {Q : State → Prop} (S : CallFix p m c code 4 s #[Value.ref b] fT "FactFinderLaw") (hE : fh_E D classes (tysK K) (tbT t) NWL2 (fun q => s.heap.size ≤ q) s) (hX : va_X b L xs s s.heap) (hbl : b < s.heap.size) (hL : L ≤ 4096) (hi : i + 8 ≤ L) (hLI : LI K L1 L2 h S0 M0) (hI : fh_I D classes (fun q => s.heap.size ≤ q) s.heap h H locs) (hl : lv_has ls 4 [(0, .ref b), (1, va_rf (some (L1 0 0))), (2, va_rf (some (L2 0 0))), (3, .int (nI i))]) (kk : ∀ (h2 : fh_H) (S' : CS) (M' : MS) (H : Heap) (locs : List Loc), LI K L1 L2 h2 S' M' → fh_I D classes (fun q => s.heap.size ≤ q) s.heap h2 H locs → W p l e room_1 s m #[Value.ref b] below meth c H locs 76 87639 Q (F0 m 652 ls [])) : W p l e room_1 s m #[Value.ref b] below meth c H locs 76 87639 Q (F0 m 344 ls []) := by
  obtain ⟨hx, hb, hml, hown, hts⟩ := id S
  have hbA : ¬ (fun q : Nat => s.heap.size ≤ q) b := Nat.not_le.mpr hbl
  have hin : ∀ k : Nat, k < 8 → vp_in (nI i + nI k) L := fun k hk => by rw [nI_add]; exact vp_in_nI (by omega) (by omega)
  obtain ⟨v, h1, h2, S', M', e1, e2, ⟨fs, e3⟩, hLI2⟩ := hLI.ask (tF := t_FF_falls 2000 (xs (nI i + 1).toNatClampNeg) S0) (tM := t_Mo_falls 2000 (xs (nI i + 1).toNatClampNeg) M0) (fun h => f_FF_falls K 2000 (L1 0 0) (xs (nI i + 1).toNatClampNeg) h) (fun h => f_Mo_falls K 2000 (L2 0 0) (xs (nI i + 1).toNatClampNeg) h) (call_falls (Nat.le_refl _) hLI.2.2.2.2.2) (fun res ht => u_FF_falls hLI.1 ht hLI.2.2.2.1) (fun res ht => u_Mo_falls hLI.2.1 ht hLI.2.2.2.2.1)
  replace e1 : f_FF_falls K 2000 (L1 0 0) (xs (nI i + 1).toNatClampNeg) h = some (v, h1) := e1
  replace e2 : f_Mo_falls K 2000 (L2 0 0) (xs (nI i + 1).toNatClampNeg) h1 = some (v, h2) := e2
  refine fh_aload_n S d_law_344 rfl (lv_at hl 1 rfl) ?_
  refine lv_aload_n hx hb d_law_345 rfl (lv_at hl 0 rfl) ?_
  refine lv_iload_n hx hb d_law_346 rfl (lv_at hl 3 rfl) ?_
  refine lv_iconst (v := 1) hx hb d_law_347 (by decide) ?_
  refine lv_iadd hx hb d_law_348 ?_
  refine va_sld hx hb hX hbl hbA hI.2.2 (hin 1 (by decide)) d_law_349 ?_
  refine fh_callV (As := [.int (xs (nI i + 1).toNatClampNeg)]) (rest := []) S fT_good (hE.nw nw_sub) hI (oi_o (hLI.2.2.2.1.1 0 0 (by decide))) rfl (c_FF_falls e1) fy_FF_falls fst_FF_falls k_735 ⟨rfl, rfl⟩ ⟨Nat.le_of_ble_eq_true rfl, Nat.le_of_ble_eq_true rfl⟩ ⟨Nat.le_of_ble_eq_true rfl, Nat.le_of_ble_eq_true rfl⟩ rfl hl.1 rfl (Nat.le_of_ble_eq_true rfl) d_law_350 (fun H locs hI => ?_)
  refine fh_aload_n S d_law_353 rfl (lv_at hl 2 rfl) ?_
  refine lv_aload_n hx hb d_law_354 rfl (lv_at hl 0 rfl) ?_
  refine lv_iload_n hx hb d_law_355 rfl (lv_at hl 3 rfl) ?_
  refine lv_iconst (v := 1) hx hb d_law_356 (by decide) ?_
  refine lv_iadd hx hb d_law_357 ?_
  refine va_sld hx hb hX hbl hbA hI.2.2 (hin 1 (by decide)) d_law_358 ?_
  refine fh_callV (As := [.int (xs (nI i + 1).toNatClampNeg)]) (rest := [.int v]) S fT_good (hE.nw nw_sub) hI (oi_o e3) rfl (c_Mo_falls e2) fy_Mo_falls fst_Mo_falls k_754 ⟨rfl, rfl⟩ ⟨Nat.le_of_ble_eq_true rfl, Nat.le_of_ble_eq_true rfl⟩ ⟨Nat.le_of_ble_eq_true rfl, Nat.le_of_ble_eq_true rfl⟩ rfl hl.1 rfl (Nat.le_of_ble_eq_true rfl) d_law_359 (fun H locs hI => ?_)
  refine lv_icmp_eq (tgt := 652) hx hb d_law_362 (by decide) (fun _ => ?_) (fun z => absurd rfl z)
  exact kk h2 S' M' _ _ hLI2 hI
set_option maxHeartbeats 4000000 in
set_option maxRecDepth 100000 in
theorem law_place {p : Program} {l : Launch} {e : Env} {s : State} {m : MethodId} {below : List Frame} {meth : Method} {c : Code} {D : va_G} {K t : Nat → Nat} {b L : Nat} {xs : Nat → Int32} {L1 L2 : Nat → Nat → Nat} {h : fh_H} {S0 : CS} {M0 : MS} {H : Heap} {locs : List Loc} {ls : Array Slot} {i : Nat} {Q : State → Prop} (S : CallFix p m c code 4 s #[Value.ref b] fT "FactFinderLaw") (hE : fh_E D classes (tysK K) (tbT t) NWL2 (fun q => s.heap.size ≤ q) s) (hX : va_X b L xs s s.heap) (hbl : b < s.heap.size) (hL : L ≤ 4096) (hi : i + 8 ≤ L) (hLI : LI K L1 L2 h S0 M0) (hI : fh_I D classes (fun q => s.heap.size ≤ q) s.heap h H locs) (hl : lv_has ls 4 [(0, .ref b), (1, va_rf (some (L1 0 0))), (2, va_rf (some (L2 0 0))), (3, .int (nI i))]) (kk : ∀ (h2 : fh_H) (S' : CS) (M' : MS) (H : Heap) (locs : List Loc), LI K L1 L2 h2 S' M' → fh_I D classes (fun q => s.heap.size ≤ q) s.heap h2 H locs → W p l e room_1 s m #[Value.ref b] below meth c H locs 76 87639 Q (F0 m 652 ls [])) : W p l e room_1 s m #[Value.ref b] below meth c H locs 76 87639 Q (F0 m 367 ls []) := by
  obtain ⟨hx, hb, hml, hown, hts⟩ := id S
  have hbA : ¬ (fun q : Nat => s.heap.size ≤ q) b := Nat.not_le.mpr hbl
  have hin : ∀ k : Nat, k < 8 → vp_in (nI i + nI k) L := fun k hk => by rw [nI_add]; exact vp_in_nI (by omega) (by omega)
  obtain ⟨v, h1, h2, S', M', e1, e2, ⟨fs, e3⟩, hLI2⟩ := hLI.ask (tF := t_FF_place 2000 (xs (nI i + 1).toNatClampNeg) (xs (nI i + 2).toNatClampNeg) (xs (nI i + 3).toNatClampNeg) S0) (tM := t_Mo_place 2000 (xs (nI i + 1).toNatClampNeg) (xs (nI i + 2).toNatClampNeg) (xs (nI i + 3).toNatClampNeg) M0) (fun h => f_FF_place K 2000 (L1 0 0) (xs (nI i + 1).toNatClampNeg) (xs (nI i + 2).toNatClampNeg) (xs (nI i + 3).toNatClampNeg) h) (fun h => f_Mo_place K 2000 (L2 0 0) (xs (nI i + 1).toNatClampNeg) (xs (nI i + 2).toNatClampNeg) (xs (nI i + 3).toNatClampNeg) h) (call_place (Nat.le_refl _) hLI.2.2.2.2.2) (fun res ht => u_FF_place hLI.1 ht hLI.2.2.2.1) (fun res ht => u_Mo_place hLI.2.1 ht hLI.2.2.2.2.1)
  replace e1 : f_FF_place K 2000 (L1 0 0) (xs (nI i + 1).toNatClampNeg) (xs (nI i + 2).toNatClampNeg) (xs (nI i + 3).toNatClampNeg) h = some (v, h1) := e1
  replace e2 : f_Mo_place K 2000 (L2 0 0) (xs (nI i + 1).toNatClampNeg) (xs (nI i + 2).toNatClampNeg) (xs (nI i + 3).toNatClampNeg) h1 = some (v, h2) := e2
  refine fh_aload_n S d_law_367 rfl (lv_at hl 1 rfl) ?_
  refine lv_aload_n hx hb d_law_368 rfl (lv_at hl 0 rfl) ?_
  refine lv_iload_n hx hb d_law_369 rfl (lv_at hl 3 rfl) ?_
  refine lv_iconst (v := 1) hx hb d_law_370 (by decide) ?_
  refine lv_iadd hx hb d_law_371 ?_
  refine va_sld hx hb hX hbl hbA hI.2.2 (hin 1 (by decide)) d_law_372 ?_
  refine lv_aload_n hx hb d_law_373 rfl (lv_at hl 0 rfl) ?_
  refine lv_iload_n hx hb d_law_374 rfl (lv_at hl 3 rfl) ?_
  refine lv_iconst (v := 2) hx hb d_law_375 (by decide) ?_
  refine lv_iadd hx hb d_law_376 ?_
  refine va_sld hx hb hX hbl hbA hI.2.2 (hin 2 (by decide)) d_law_377 ?_
  refine lv_aload_n hx hb d_law_378 rfl (lv_at hl 0 rfl) ?_
  refine lv_iload_n hx hb d_law_379 rfl (lv_at hl 3 rfl) ?_
  refine lv_iconst (v := 3) hx hb d_law_380 (by decide) ?_
  refine lv_iadd hx hb d_law_381 ?_
  refine va_sld hx hb hX hbl hbA hI.2.2 (hin 3 (by decide)) d_law_382 ?_
  refine fh_callV (As := [.int (xs (nI i + 1).toNatClampNeg), .int (xs (nI i + 2).toNatClampNeg), .int (xs (nI i + 3).toNatClampNeg)]) (rest := []) S fT_good (hE.nw nw_sub) hI (oi_o (hLI.2.2.2.1.1 0 0 (by decide))) rfl (c_FF_place e1) fy_FF_place fst_FF_place k_736 ⟨rfl, rfl⟩ ⟨Nat.le_of_ble_eq_true rfl, Nat.le_of_ble_eq_true rfl⟩ ⟨Nat.le_of_ble_eq_true rfl, Nat.le_of_ble_eq_true rfl⟩ rfl hl.1 rfl (Nat.le_of_ble_eq_true rfl) d_law_383 (fun H locs hI => ?_)
  refine fh_aload_n S d_law_386 rfl (lv_at hl 2 rfl) ?_
  refine lv_aload_n hx hb d_law_387 rfl (lv_at hl 0 rfl) ?_
  refine lv_iload_n hx hb d_law_388 rfl (lv_at hl 3 rfl) ?_
  refine lv_iconst (v := 1) hx hb d_law_389 (by decide) ?_
  refine lv_iadd hx hb d_law_390 ?_
  refine va_sld hx hb hX hbl hbA hI.2.2 (hin 1 (by decide)) d_law_391 ?_
  refine lv_aload_n hx hb d_law_392 rfl (lv_at hl 0 rfl) ?_
  refine lv_iload_n hx hb d_law_393 rfl (lv_at hl 3 rfl) ?_
  refine lv_iconst (v := 2) hx hb d_law_394 (by decide) ?_
  refine lv_iadd hx hb d_law_395 ?_
  refine va_sld hx hb hX hbl hbA hI.2.2 (hin 2 (by decide)) d_law_396 ?_
  refine lv_aload_n hx hb d_law_397 rfl (lv_at hl 0 rfl) ?_
  refine lv_iload_n hx hb d_law_398 rfl (lv_at hl 3 rfl) ?_
  refine lv_iconst (v := 3) hx hb d_law_399 (by decide) ?_
  refine lv_iadd hx hb d_law_400 ?_
  refine va_sld hx hb hX hbl hbA hI.2.2 (hin 3 (by decide)) d_law_401 ?_
  refine fh_callV (As := [.int (xs (nI i + 1).toNatClampNeg), .int (xs (nI i + 2).toNatClampNeg), .int (xs (nI i + 3).toNatClampNeg)]) (rest := [.int v]) S fT_good (hE.nw nw_sub) hI (oi_o e3) rfl (c_Mo_place e2) fy_Mo_place fst_Mo_place k_755 ⟨rfl, rfl⟩ ⟨Nat.le_of_ble_eq_true rfl, Nat.le_of_ble_eq_true rfl⟩ ⟨Nat.le_of_ble_eq_true rfl, Nat.le_of_ble_eq_true rfl⟩ rfl hl.1 rfl (Nat.le_of_ble_eq_true rfl) d_law_402 (fun H locs hI => ?_)
  refine lv_icmp_eq (tgt := 652) hx hb d_law_405 (by decide) (fun _ => ?_) (fun z => absurd rfl z)
  exact kk h2 S' M' _ _ hLI2 hI
set_option maxHeartbeats 4000000 in
set_option maxRecDepth 100000 in
theorem law_holds {p : Program} {l : Launch} {e : Env} {s : State} {m : MethodId} {below : List Frame} {meth : Method} {c : Code} {D : va_G} {K t : Nat → Nat} {b L : Nat} {xs : Nat → Int32} {L1 L2 : Nat → Nat → Nat} {h : fh_H} {S0 : CS} {M0 : MS} {H : Heap} {locs : List Loc} {ls : Array Slot} {i : Nat} {Q : State → Prop} (S : CallFix p m c code 4 s #[Value.ref b] fT "FactFinderLaw") (hE : fh_E D classes (tysK K) (tbT t) NWL2 (fun q => s.heap.size ≤ q) s) (hX : va_X b L xs s s.heap) (hbl : b < s.heap.size) (hL : L ≤ 4096) (hi : i + 8 ≤ L) (hLI : LI K L1 L2 h S0 M0) (hI : fh_I D classes (fun q => s.heap.size ≤ q) s.heap h H locs) (hl : lv_has ls 4 [(0, .ref b), (1, va_rf (some (L1 0 0))), (2, va_rf (some (L2 0 0))), (3, .int (nI i))]) (kk : ∀ (h2 : fh_H) (S' : CS) (M' : MS) (H : Heap) (locs : List Loc), LI K L1 L2 h2 S' M' → fh_I D classes (fun q => s.heap.size ≤ q) s.heap h2 H locs → W p l e room_1 s m #[Value.ref b] below meth c H locs 76 87639 Q (F0 m 652 ls [])) : W p l e room_1 s m #[Value.ref b] below meth c H locs 76 87639 Q (F0 m 410 ls []) := by
  obtain ⟨hx, hb, hml, hown, hts⟩ := id S
  have hbA : ¬ (fun q : Nat => s.heap.size ≤ q) b := Nat.not_le.mpr hbl
  have hin : ∀ k : Nat, k < 8 → vp_in (nI i + nI k) L := fun k hk => by rw [nI_add]; exact vp_in_nI (by omega) (by omega)
  obtain ⟨v, h1, h2, S', M', e1, e2, ⟨fs, e3⟩, hLI2⟩ := hLI.call (tF := t_FF_holds 2000 (xs (nI i + 1).toNatClampNeg) (xs (nI i + 2).toNatClampNeg) (xs (nI i + 3).toNatClampNeg) (xs (nI i + 4).toNatClampNeg) (xs (nI i + 5).toNatClampNeg) (xs (nI i + 6).toNatClampNeg) (xs (nI i + 7).toNatClampNeg) S0) (tM := t_Mo_holds 2000 (xs (nI i + 1).toNatClampNeg) (xs (nI i + 2).toNatClampNeg) (xs (nI i + 3).toNatClampNeg) (xs (nI i + 4).toNatClampNeg) (xs (nI i + 5).toNatClampNeg) (xs (nI i + 6).toNatClampNeg) (xs (nI i + 7).toNatClampNeg) M0) (fun h => f_FF_holds K 2000 (L1 0 0) (xs (nI i + 1).toNatClampNeg) (xs (nI i + 2).toNatClampNeg) (xs (nI i + 3).toNatClampNeg) (xs (nI i + 4).toNatClampNeg) (xs (nI i + 5).toNatClampNeg) (xs (nI i + 6).toNatClampNeg) (xs (nI i + 7).toNatClampNeg) h) (fun h => f_Mo_holds K 2000 (L2 0 0) (xs (nI i + 1).toNatClampNeg) (xs (nI i + 2).toNatClampNeg) (xs (nI i + 3).toNatClampNeg) (xs (nI i + 4).toNatClampNeg) (xs (nI i + 5).toNatClampNeg) (xs (nI i + 6).toNatClampNeg) (xs (nI i + 7).toNatClampNeg) h) (call_holds (Nat.le_refl _) hLI.2.2.2.2.2) (fun res ht => u_FF_holds hLI.1 ht hLI.2.2.2.1) (fun h1 res hW ht => u_Mo_holds hLI.2.1 ht hW)
  replace e1 : f_FF_holds K 2000 (L1 0 0) (xs (nI i + 1).toNatClampNeg) (xs (nI i + 2).toNatClampNeg) (xs (nI i + 3).toNatClampNeg) (xs (nI i + 4).toNatClampNeg) (xs (nI i + 5).toNatClampNeg) (xs (nI i + 6).toNatClampNeg) (xs (nI i + 7).toNatClampNeg) h = some (v, h1) := e1
  replace e2 : f_Mo_holds K 2000 (L2 0 0) (xs (nI i + 1).toNatClampNeg) (xs (nI i + 2).toNatClampNeg) (xs (nI i + 3).toNatClampNeg) (xs (nI i + 4).toNatClampNeg) (xs (nI i + 5).toNatClampNeg) (xs (nI i + 6).toNatClampNeg) (xs (nI i + 7).toNatClampNeg) h1 = some (v, h2) := e2
  refine fh_aload_n S d_law_410 rfl (lv_at hl 1 rfl) ?_
  refine lv_aload_n hx hb d_law_411 rfl (lv_at hl 0 rfl) ?_
  refine lv_iload_n hx hb d_law_412 rfl (lv_at hl 3 rfl) ?_
  refine lv_iconst (v := 1) hx hb d_law_413 (by decide) ?_
  refine lv_iadd hx hb d_law_414 ?_
  refine va_sld hx hb hX hbl hbA hI.2.2 (hin 1 (by decide)) d_law_415 ?_
  refine lv_aload_n hx hb d_law_416 rfl (lv_at hl 0 rfl) ?_
  refine lv_iload_n hx hb d_law_417 rfl (lv_at hl 3 rfl) ?_
  refine lv_iconst (v := 2) hx hb d_law_418 (by decide) ?_
  refine lv_iadd hx hb d_law_419 ?_
  refine va_sld hx hb hX hbl hbA hI.2.2 (hin 2 (by decide)) d_law_420 ?_
  refine lv_aload_n hx hb d_law_421 rfl (lv_at hl 0 rfl) ?_
  refine lv_iload_n hx hb d_law_422 rfl (lv_at hl 3 rfl) ?_
  refine lv_iconst (v := 3) hx hb d_law_423 (by decide) ?_
  refine lv_iadd hx hb d_law_424 ?_
  refine va_sld hx hb hX hbl hbA hI.2.2 (hin 3 (by decide)) d_law_425 ?_
  refine lv_aload_n hx hb d_law_426 rfl (lv_at hl 0 rfl) ?_
  refine lv_iload_n hx hb d_law_427 rfl (lv_at hl 3 rfl) ?_
  refine lv_iconst (v := 4) hx hb d_law_428 (by decide) ?_
  refine lv_iadd hx hb d_law_429 ?_
  refine va_sld hx hb hX hbl hbA hI.2.2 (hin 4 (by decide)) d_law_430 ?_
  refine lv_aload_n hx hb d_law_431 rfl (lv_at hl 0 rfl) ?_
  refine lv_iload_n hx hb d_law_432 rfl (lv_at hl 3 rfl) ?_
  refine lv_iconst (v := 5) hx hb d_law_433 (by decide) ?_
  refine lv_iadd hx hb d_law_434 ?_
  refine va_sld hx hb hX hbl hbA hI.2.2 (hin 5 (by decide)) d_law_435 ?_
  refine lv_aload_n hx hb d_law_436 rfl (lv_at hl 0 rfl) ?_
  refine lv_iload_n hx hb d_law_437 rfl (lv_at hl 3 rfl) ?_
  refine lv_bipush (v := 6) hx hb d_law_438 (by decide) ?_
  refine lv_iadd hx hb d_law_440 ?_
  refine va_sld hx hb hX hbl hbA hI.2.2 (hin 6 (by decide)) d_law_441 ?_
  refine lv_aload_n hx hb d_law_442 rfl (lv_at hl 0 rfl) ?_
  refine lv_iload_n hx hb d_law_443 rfl (lv_at hl 3 rfl) ?_
  refine lv_bipush (v := 7) hx hb d_law_444 (by decide) ?_
  refine lv_iadd hx hb d_law_446 ?_
  refine va_sld hx hb hX hbl hbA hI.2.2 (hin 7 (by decide)) d_law_447 ?_
  refine fh_callV (As := [.int (xs (nI i + 1).toNatClampNeg), .int (xs (nI i + 2).toNatClampNeg), .int (xs (nI i + 3).toNatClampNeg), .int (xs (nI i + 4).toNatClampNeg), .int (xs (nI i + 5).toNatClampNeg), .int (xs (nI i + 6).toNatClampNeg), .int (xs (nI i + 7).toNatClampNeg)]) (rest := []) S fT_good (hE.nw nw_sub) hI (oi_o (hLI.2.2.2.1.1 0 0 (by decide))) rfl (c_FF_holds e1) fy_FF_holds fst_FF_holds k_737 ⟨rfl, rfl⟩ ⟨Nat.le_of_ble_eq_true rfl, Nat.le_of_ble_eq_true rfl⟩ ⟨Nat.le_of_ble_eq_true rfl, Nat.le_of_ble_eq_true rfl⟩ rfl hl.1 rfl (Nat.le_of_ble_eq_true rfl) d_law_448 (fun H locs hI => ?_)
  refine fh_aload_n S d_law_451 rfl (lv_at hl 2 rfl) ?_
  refine lv_aload_n hx hb d_law_452 rfl (lv_at hl 0 rfl) ?_
  refine lv_iload_n hx hb d_law_453 rfl (lv_at hl 3 rfl) ?_
  refine lv_iconst (v := 1) hx hb d_law_454 (by decide) ?_
  refine lv_iadd hx hb d_law_455 ?_
  refine va_sld hx hb hX hbl hbA hI.2.2 (hin 1 (by decide)) d_law_456 ?_
  refine lv_aload_n hx hb d_law_457 rfl (lv_at hl 0 rfl) ?_
  refine lv_iload_n hx hb d_law_458 rfl (lv_at hl 3 rfl) ?_
  refine lv_iconst (v := 2) hx hb d_law_459 (by decide) ?_
  refine lv_iadd hx hb d_law_460 ?_
  refine va_sld hx hb hX hbl hbA hI.2.2 (hin 2 (by decide)) d_law_461 ?_
  refine lv_aload_n hx hb d_law_462 rfl (lv_at hl 0 rfl) ?_
  refine lv_iload_n hx hb d_law_463 rfl (lv_at hl 3 rfl) ?_
  refine lv_iconst (v := 3) hx hb d_law_464 (by decide) ?_
  refine lv_iadd hx hb d_law_465 ?_
  refine va_sld hx hb hX hbl hbA hI.2.2 (hin 3 (by decide)) d_law_466 ?_
  refine lv_aload_n hx hb d_law_467 rfl (lv_at hl 0 rfl) ?_
  refine lv_iload_n hx hb d_law_468 rfl (lv_at hl 3 rfl) ?_
  refine lv_iconst (v := 4) hx hb d_law_469 (by decide) ?_
  refine lv_iadd hx hb d_law_470 ?_
  refine va_sld hx hb hX hbl hbA hI.2.2 (hin 4 (by decide)) d_law_471 ?_
  refine lv_aload_n hx hb d_law_472 rfl (lv_at hl 0 rfl) ?_
  refine lv_iload_n hx hb d_law_473 rfl (lv_at hl 3 rfl) ?_
  refine lv_iconst (v := 5) hx hb d_law_474 (by decide) ?_
  refine lv_iadd hx hb d_law_475 ?_
  refine va_sld hx hb hX hbl hbA hI.2.2 (hin 5 (by decide)) d_law_476 ?_
  refine lv_aload_n hx hb d_law_477 rfl (lv_at hl 0 rfl) ?_
  refine lv_iload_n hx hb d_law_478 rfl (lv_at hl 3 rfl) ?_
  refine lv_bipush (v := 6) hx hb d_law_479 (by decide) ?_
  refine lv_iadd hx hb d_law_481 ?_
  refine va_sld hx hb hX hbl hbA hI.2.2 (hin 6 (by decide)) d_law_482 ?_
  refine lv_aload_n hx hb d_law_483 rfl (lv_at hl 0 rfl) ?_
  refine lv_iload_n hx hb d_law_484 rfl (lv_at hl 3 rfl) ?_
  refine lv_bipush (v := 7) hx hb d_law_485 (by decide) ?_
  refine lv_iadd hx hb d_law_487 ?_
  refine va_sld hx hb hX hbl hbA hI.2.2 (hin 7 (by decide)) d_law_488 ?_
  refine fh_callV (As := [.int (xs (nI i + 1).toNatClampNeg), .int (xs (nI i + 2).toNatClampNeg), .int (xs (nI i + 3).toNatClampNeg), .int (xs (nI i + 4).toNatClampNeg), .int (xs (nI i + 5).toNatClampNeg), .int (xs (nI i + 6).toNatClampNeg), .int (xs (nI i + 7).toNatClampNeg)]) (rest := [.int v]) S fT_good (hE.nw nw_sub) hI (oi_o e3) rfl (c_Mo_holds e2) fy_Mo_holds fst_Mo_holds k_756 ⟨rfl, rfl⟩ ⟨Nat.le_of_ble_eq_true rfl, Nat.le_of_ble_eq_true rfl⟩ ⟨Nat.le_of_ble_eq_true rfl, Nat.le_of_ble_eq_true rfl⟩ rfl hl.1 rfl (Nat.le_of_ble_eq_true rfl) d_law_489 (fun H locs hI => ?_)
  refine lv_icmp_eq (tgt := 652) hx hb d_law_492 (by decide) (fun _ => ?_) (fun z => absurd rfl z)
  exact kk h2 S' M' _ _ hLI2 hI
set_option maxHeartbeats 4000000 in
set_option maxRecDepth 100000 in
theorem law_facts {p : Program} {l : Launch} {e : Env} {s : State} {m : MethodId} {below : List Frame} {meth : Method} {c : Code} {D : va_G} {K t : Nat → Nat} {b L : Nat} {xs : Nat → Int32} {L1 L2 : Nat → Nat → Nat} {h : fh_H} {S0 : CS} {M0 : MS} {H : Heap} {locs : List Loc} {ls : Array Slot} {i : Nat} {Q : State → Prop} (S : CallFix p m c code 4 s #[Value.ref b] fT "FactFinderLaw") (hE : fh_E D classes (tysK K) (tbT t) NWL2 (fun q => s.heap.size ≤ q) s) (hX : va_X b L xs s s.heap) (hbl : b < s.heap.size) (hL : L ≤ 4096) (hi : i + 8 ≤ L) (hLI : LI K L1 L2 h S0 M0) (hI : fh_I D classes (fun q => s.heap.size ≤ q) s.heap h H locs) (hl : lv_has ls 4 [(0, .ref b), (1, va_rf (some (L1 0 0))), (2, va_rf (some (L2 0 0))), (3, .int (nI i))]) (kk : ∀ (h2 : fh_H) (S' : CS) (M' : MS) (H : Heap) (locs : List Loc), LI K L1 L2 h2 S' M' → fh_I D classes (fun q => s.heap.size ≤ q) s.heap h2 H locs → W p l e room_1 s m #[Value.ref b] below meth c H locs 76 87639 Q (F0 m 652 ls [])) : W p l e room_1 s m #[Value.ref b] below meth c H locs 76 87639 Q (F0 m 497 ls []) := by
  obtain ⟨hx, hb, hml, hown, hts⟩ := id S
  have hbA : ¬ (fun q : Nat => s.heap.size ≤ q) b := Nat.not_le.mpr hbl
  have hin : ∀ k : Nat, k < 8 → vp_in (nI i + nI k) L := fun k hk => by rw [nI_add]; exact vp_in_nI (by omega) (by omega)
  obtain ⟨v, h1, h2, S', M', e1, e2, ⟨fs, e3⟩, hLI2⟩ := hLI.call (tF := t_FF_facts 2000 (xs (nI i + 1).toNatClampNeg) S0) (tM := t_Mo_facts 2000 (xs (nI i + 1).toNatClampNeg) M0) (fun h => f_FF_facts K 2000 (L1 0 0) (xs (nI i + 1).toNatClampNeg) h) (fun h => f_Mo_facts K 2000 (L2 0 0) (xs (nI i + 1).toNatClampNeg) h) (call_facts (Nat.le_refl _) hLI.2.2.2.2.2) (fun res ht => u_FF_facts hLI.1 ht hLI.2.2.2.1) (fun h1 res hW ht => u_Mo_facts hLI.2.1 ht hW)
  replace e1 : f_FF_facts K 2000 (L1 0 0) (xs (nI i + 1).toNatClampNeg) h = some (v, h1) := e1
  replace e2 : f_Mo_facts K 2000 (L2 0 0) (xs (nI i + 1).toNatClampNeg) h1 = some (v, h2) := e2
  refine fh_aload_n S d_law_497 rfl (lv_at hl 1 rfl) ?_
  refine lv_aload_n hx hb d_law_498 rfl (lv_at hl 0 rfl) ?_
  refine lv_iload_n hx hb d_law_499 rfl (lv_at hl 3 rfl) ?_
  refine lv_iconst (v := 1) hx hb d_law_500 (by decide) ?_
  refine lv_iadd hx hb d_law_501 ?_
  refine va_sld hx hb hX hbl hbA hI.2.2 (hin 1 (by decide)) d_law_502 ?_
  refine fh_callV (As := [.int (xs (nI i + 1).toNatClampNeg)]) (rest := []) S fT_good (hE.nw nw_sub) hI (oi_o (hLI.2.2.2.1.1 0 0 (by decide))) rfl (c_FF_facts e1) fy_FF_facts fst_FF_facts k_738 ⟨rfl, rfl⟩ ⟨Nat.le_of_ble_eq_true rfl, Nat.le_of_ble_eq_true rfl⟩ ⟨Nat.le_of_ble_eq_true rfl, Nat.le_of_ble_eq_true rfl⟩ rfl hl.1 rfl (Nat.le_of_ble_eq_true rfl) d_law_503 (fun H locs hI => ?_)
  refine fh_aload_n S d_law_506 rfl (lv_at hl 2 rfl) ?_
  refine lv_aload_n hx hb d_law_507 rfl (lv_at hl 0 rfl) ?_
  refine lv_iload_n hx hb d_law_508 rfl (lv_at hl 3 rfl) ?_
  refine lv_iconst (v := 1) hx hb d_law_509 (by decide) ?_
  refine lv_iadd hx hb d_law_510 ?_
  refine va_sld hx hb hX hbl hbA hI.2.2 (hin 1 (by decide)) d_law_511 ?_
  refine fh_callV (As := [.int (xs (nI i + 1).toNatClampNeg)]) (rest := [.int v]) S fT_good (hE.nw nw_sub) hI (oi_o e3) rfl (c_Mo_facts e2) fy_Mo_facts fst_Mo_facts k_757 ⟨rfl, rfl⟩ ⟨Nat.le_of_ble_eq_true rfl, Nat.le_of_ble_eq_true rfl⟩ ⟨Nat.le_of_ble_eq_true rfl, Nat.le_of_ble_eq_true rfl⟩ rfl hl.1 rfl (Nat.le_of_ble_eq_true rfl) d_law_512 (fun H locs hI => ?_)
  refine lv_icmp_eq (tgt := 652) hx hb d_law_515 (by decide) (fun _ => ?_) (fun z => absurd rfl z)
  exact kk h2 S' M' _ _ hLI2 hI
set_option maxHeartbeats 4000000 in
set_option maxRecDepth 100000 in
theorem law_fact {p : Program} {l : Launch} {e : Env} {s : State} {m : MethodId} {below : List Frame} {meth : Method} {c : Code} {D : va_G} {K t : Nat → Nat} {b L : Nat} {xs : Nat → Int32} {L1 L2 : Nat → Nat → Nat} {h : fh_H} {S0 : CS} {M0 : MS} {H : Heap} {locs : List Loc} {ls : Array Slot} {i : Nat} {Q : State → Prop} (S : CallFix p m c code 4 s #[Value.ref b] fT "FactFinderLaw") (hE : fh_E D classes (tysK K) (tbT t) NWL2 (fun q => s.heap.size ≤ q) s) (hX : va_X b L xs s s.heap) (hbl : b < s.heap.size) (hL : L ≤ 4096) (hi : i + 8 ≤ L) (hLI : LI K L1 L2 h S0 M0) (hI : fh_I D classes (fun q => s.heap.size ≤ q) s.heap h H locs) (hl : lv_has ls 4 [(0, .ref b), (1, va_rf (some (L1 0 0))), (2, va_rf (some (L2 0 0))), (3, .int (nI i))]) (kk : ∀ (h2 : fh_H) (S' : CS) (M' : MS) (H : Heap) (locs : List Loc), LI K L1 L2 h2 S' M' → fh_I D classes (fun q => s.heap.size ≤ q) s.heap h2 H locs → W p l e room_1 s m #[Value.ref b] below meth c H locs 76 87639 Q (F0 m 652 ls [])) : W p l e room_1 s m #[Value.ref b] below meth c H locs 76 87639 Q (F0 m 520 ls []) := by
  obtain ⟨hx, hb, hml, hown, hts⟩ := id S
  have hbA : ¬ (fun q : Nat => s.heap.size ≤ q) b := Nat.not_le.mpr hbl
  have hin : ∀ k : Nat, k < 8 → vp_in (nI i + nI k) L := fun k hk => by rw [nI_add]; exact vp_in_nI (by omega) (by omega)
  obtain ⟨v, h1, h2, S', M', e1, e2, ⟨fs, e3⟩, hLI2⟩ := hLI.call (tF := t_FF_fact 2000 (xs (nI i + 1).toNatClampNeg) (xs (nI i + 2).toNatClampNeg) (xs (nI i + 3).toNatClampNeg) S0) (tM := t_Mo_fact 2000 (xs (nI i + 1).toNatClampNeg) (xs (nI i + 2).toNatClampNeg) (xs (nI i + 3).toNatClampNeg) M0) (fun h => f_FF_fact K 2000 (L1 0 0) (xs (nI i + 1).toNatClampNeg) (xs (nI i + 2).toNatClampNeg) (xs (nI i + 3).toNatClampNeg) h) (fun h => f_Mo_fact K 2000 (L2 0 0) (xs (nI i + 1).toNatClampNeg) (xs (nI i + 2).toNatClampNeg) (xs (nI i + 3).toNatClampNeg) h) (call_fact (Nat.le_refl _) hLI.2.2.2.2.2) (fun res ht => u_FF_fact hLI.1 ht hLI.2.2.2.1) (fun h1 res hW ht => u_Mo_fact hLI.2.1 ht hW)
  replace e1 : f_FF_fact K 2000 (L1 0 0) (xs (nI i + 1).toNatClampNeg) (xs (nI i + 2).toNatClampNeg) (xs (nI i + 3).toNatClampNeg) h = some (v, h1) := e1
  replace e2 : f_Mo_fact K 2000 (L2 0 0) (xs (nI i + 1).toNatClampNeg) (xs (nI i + 2).toNatClampNeg) (xs (nI i + 3).toNatClampNeg) h1 = some (v, h2) := e2
  refine fh_aload_n S d_law_520 rfl (lv_at hl 1 rfl) ?_
  refine lv_aload_n hx hb d_law_521 rfl (lv_at hl 0 rfl) ?_
  refine lv_iload_n hx hb d_law_522 rfl (lv_at hl 3 rfl) ?_
  refine lv_iconst (v := 1) hx hb d_law_523 (by decide) ?_
  refine lv_iadd hx hb d_law_524 ?_
  refine va_sld hx hb hX hbl hbA hI.2.2 (hin 1 (by decide)) d_law_525 ?_
  refine lv_aload_n hx hb d_law_526 rfl (lv_at hl 0 rfl) ?_
  refine lv_iload_n hx hb d_law_527 rfl (lv_at hl 3 rfl) ?_
  refine lv_iconst (v := 2) hx hb d_law_528 (by decide) ?_
  refine lv_iadd hx hb d_law_529 ?_
  refine va_sld hx hb hX hbl hbA hI.2.2 (hin 2 (by decide)) d_law_530 ?_
  refine lv_aload_n hx hb d_law_531 rfl (lv_at hl 0 rfl) ?_
  refine lv_iload_n hx hb d_law_532 rfl (lv_at hl 3 rfl) ?_
  refine lv_iconst (v := 3) hx hb d_law_533 (by decide) ?_
  refine lv_iadd hx hb d_law_534 ?_
  refine va_sld hx hb hX hbl hbA hI.2.2 (hin 3 (by decide)) d_law_535 ?_
  refine fh_callV (As := [.int (xs (nI i + 1).toNatClampNeg), .int (xs (nI i + 2).toNatClampNeg), .int (xs (nI i + 3).toNatClampNeg)]) (rest := []) S fT_good (hE.nw nw_sub) hI (oi_o (hLI.2.2.2.1.1 0 0 (by decide))) rfl (c_FF_fact e1) fy_FF_fact fst_FF_fact k_739 ⟨rfl, rfl⟩ ⟨Nat.le_of_ble_eq_true rfl, Nat.le_of_ble_eq_true rfl⟩ ⟨Nat.le_of_ble_eq_true rfl, Nat.le_of_ble_eq_true rfl⟩ rfl hl.1 rfl (Nat.le_of_ble_eq_true rfl) d_law_536 (fun H locs hI => ?_)
  refine fh_aload_n S d_law_539 rfl (lv_at hl 2 rfl) ?_
  refine lv_aload_n hx hb d_law_540 rfl (lv_at hl 0 rfl) ?_
  refine lv_iload_n hx hb d_law_541 rfl (lv_at hl 3 rfl) ?_
  refine lv_iconst (v := 1) hx hb d_law_542 (by decide) ?_
  refine lv_iadd hx hb d_law_543 ?_
  refine va_sld hx hb hX hbl hbA hI.2.2 (hin 1 (by decide)) d_law_544 ?_
  refine lv_aload_n hx hb d_law_545 rfl (lv_at hl 0 rfl) ?_
  refine lv_iload_n hx hb d_law_546 rfl (lv_at hl 3 rfl) ?_
  refine lv_iconst (v := 2) hx hb d_law_547 (by decide) ?_
  refine lv_iadd hx hb d_law_548 ?_
  refine va_sld hx hb hX hbl hbA hI.2.2 (hin 2 (by decide)) d_law_549 ?_
  refine lv_aload_n hx hb d_law_550 rfl (lv_at hl 0 rfl) ?_
  refine lv_iload_n hx hb d_law_551 rfl (lv_at hl 3 rfl) ?_
  refine lv_iconst (v := 3) hx hb d_law_552 (by decide) ?_
  refine lv_iadd hx hb d_law_553 ?_
  refine va_sld hx hb hX hbl hbA hI.2.2 (hin 3 (by decide)) d_law_554 ?_
  refine fh_callV (As := [.int (xs (nI i + 1).toNatClampNeg), .int (xs (nI i + 2).toNatClampNeg), .int (xs (nI i + 3).toNatClampNeg)]) (rest := [.int v]) S fT_good (hE.nw nw_sub) hI (oi_o e3) rfl (c_Mo_fact e2) fy_Mo_fact fst_Mo_fact k_758 ⟨rfl, rfl⟩ ⟨Nat.le_of_ble_eq_true rfl, Nat.le_of_ble_eq_true rfl⟩ ⟨Nat.le_of_ble_eq_true rfl, Nat.le_of_ble_eq_true rfl⟩ rfl hl.1 rfl (Nat.le_of_ble_eq_true rfl) d_law_555 (fun H locs hI => ?_)
  refine lv_icmp_eq (tgt := 652) hx hb d_law_558 (by decide) (fun _ => ?_) (fun z => absurd rfl z)
  exact kk h2 S' M' _ _ hLI2 hI
set_option maxHeartbeats 4000000 in
set_option maxRecDepth 100000 in
theorem law_needs {p : Program} {l : Launch} {e : Env} {s : State} {m : MethodId} {below : List Frame} {meth : Method} {c : Code} {D : va_G} {K t : Nat → Nat} {b L : Nat} {xs : Nat → Int32} {L1 L2 : Nat → Nat → Nat} {h : fh_H} {S0 : CS} {M0 : MS} {H : Heap} {locs : List Loc} {ls : Array Slot} {i : Nat} {Q : State → Prop} (S : CallFix p m c code 4 s #[Value.ref b] fT "FactFinderLaw") (hE : fh_E D classes (tysK K) (tbT t) NWL2 (fun q => s.heap.size ≤ q) s) (hX : va_X b L xs s s.heap) (hbl : b < s.heap.size) (hL : L ≤ 4096) (hi : i + 8 ≤ L) (hLI : LI K L1 L2 h S0 M0) (hI : fh_I D classes (fun q => s.heap.size ≤ q) s.heap h H locs) (hl : lv_has ls 4 [(0, .ref b), (1, va_rf (some (L1 0 0))), (2, va_rf (some (L2 0 0))), (3, .int (nI i))]) (kk : ∀ (h2 : fh_H) (S' : CS) (M' : MS) (H : Heap) (locs : List Loc), LI K L1 L2 h2 S' M' → fh_I D classes (fun q => s.heap.size ≤ q) s.heap h2 H locs → W p l e room_1 s m #[Value.ref b] below meth c H locs 76 87639 Q (F0 m 652 ls [])) : W p l e room_1 s m #[Value.ref b] below meth c H locs 76 87639 Q (F0 m 563 ls []) := by
  obtain ⟨hx, hb, hml, hown, hts⟩ := id S
  have hbA : ¬ (fun q : Nat => s.heap.size ≤ q) b := Nat.not_le.mpr hbl
  have hin : ∀ k : Nat, k < 8 → vp_in (nI i + nI k) L := fun k hk => by rw [nI_add]; exact vp_in_nI (by omega) (by omega)
  obtain ⟨v, h1, h2, S', M', e1, e2, ⟨fs, e3⟩, hLI2⟩ := hLI.call (tF := t_FF_needs 2000 (xs (nI i + 1).toNatClampNeg) (xs (nI i + 2).toNatClampNeg) (xs (nI i + 3).toNatClampNeg) S0) (tM := t_Mo_needs3 2000 (xs (nI i + 1).toNatClampNeg) (xs (nI i + 2).toNatClampNeg) (xs (nI i + 3).toNatClampNeg) M0) (fun h => f_FF_needs K 2000 (L1 0 0) (xs (nI i + 1).toNatClampNeg) (xs (nI i + 2).toNatClampNeg) (xs (nI i + 3).toNatClampNeg) h) (fun h => f_Mo_needs3 K 2000 (L2 0 0) (xs (nI i + 1).toNatClampNeg) (xs (nI i + 2).toNatClampNeg) (xs (nI i + 3).toNatClampNeg) h) (call_needs (Nat.le_refl _) hLI.2.2.2.2.2) (fun res ht => u_FF_needs hLI.1 ht hLI.2.2.2.1) (fun h1 res hW ht => u_Mo_needs3 hLI.2.1 ht hW)
  replace e1 : f_FF_needs K 2000 (L1 0 0) (xs (nI i + 1).toNatClampNeg) (xs (nI i + 2).toNatClampNeg) (xs (nI i + 3).toNatClampNeg) h = some (v, h1) := e1
  replace e2 : f_Mo_needs3 K 2000 (L2 0 0) (xs (nI i + 1).toNatClampNeg) (xs (nI i + 2).toNatClampNeg) (xs (nI i + 3).toNatClampNeg) h1 = some (v, h2) := e2
  refine fh_aload_n S d_law_563 rfl (lv_at hl 1 rfl) ?_
  refine lv_aload_n hx hb d_law_564 rfl (lv_at hl 0 rfl) ?_
  refine lv_iload_n hx hb d_law_565 rfl (lv_at hl 3 rfl) ?_
  refine lv_iconst (v := 1) hx hb d_law_566 (by decide) ?_
  refine lv_iadd hx hb d_law_567 ?_
  refine va_sld hx hb hX hbl hbA hI.2.2 (hin 1 (by decide)) d_law_568 ?_
  refine lv_aload_n hx hb d_law_569 rfl (lv_at hl 0 rfl) ?_
  refine lv_iload_n hx hb d_law_570 rfl (lv_at hl 3 rfl) ?_
  refine lv_iconst (v := 2) hx hb d_law_571 (by decide) ?_
  refine lv_iadd hx hb d_law_572 ?_
  refine va_sld hx hb hX hbl hbA hI.2.2 (hin 2 (by decide)) d_law_573 ?_
  refine lv_aload_n hx hb d_law_574 rfl (lv_at hl 0 rfl) ?_
  refine lv_iload_n hx hb d_law_575 rfl (lv_at hl 3 rfl) ?_
  refine lv_iconst (v := 3) hx hb d_law_576 (by decide) ?_
  refine lv_iadd hx hb d_law_577 ?_
  refine va_sld hx hb hX hbl hbA hI.2.2 (hin 3 (by decide)) d_law_578 ?_
  refine fh_callV (As := [.int (xs (nI i + 1).toNatClampNeg), .int (xs (nI i + 2).toNatClampNeg), .int (xs (nI i + 3).toNatClampNeg)]) (rest := []) S fT_good (hE.nw nw_sub) hI (oi_o (hLI.2.2.2.1.1 0 0 (by decide))) rfl (c_FF_needs e1) fy_FF_needs fst_FF_needs k_740 ⟨rfl, rfl⟩ ⟨Nat.le_of_ble_eq_true rfl, Nat.le_of_ble_eq_true rfl⟩ ⟨Nat.le_of_ble_eq_true rfl, Nat.le_of_ble_eq_true rfl⟩ rfl hl.1 rfl (Nat.le_of_ble_eq_true rfl) d_law_579 (fun H locs hI => ?_)
  refine fh_aload_n S d_law_582 rfl (lv_at hl 2 rfl) ?_
  refine lv_aload_n hx hb d_law_583 rfl (lv_at hl 0 rfl) ?_
  refine lv_iload_n hx hb d_law_584 rfl (lv_at hl 3 rfl) ?_
  refine lv_iconst (v := 1) hx hb d_law_585 (by decide) ?_
  refine lv_iadd hx hb d_law_586 ?_
  refine va_sld hx hb hX hbl hbA hI.2.2 (hin 1 (by decide)) d_law_587 ?_
  refine lv_aload_n hx hb d_law_588 rfl (lv_at hl 0 rfl) ?_
  refine lv_iload_n hx hb d_law_589 rfl (lv_at hl 3 rfl) ?_
  refine lv_iconst (v := 2) hx hb d_law_590 (by decide) ?_
  refine lv_iadd hx hb d_law_591 ?_
  refine va_sld hx hb hX hbl hbA hI.2.2 (hin 2 (by decide)) d_law_592 ?_
  refine lv_aload_n hx hb d_law_593 rfl (lv_at hl 0 rfl) ?_
  refine lv_iload_n hx hb d_law_594 rfl (lv_at hl 3 rfl) ?_
  refine lv_iconst (v := 3) hx hb d_law_595 (by decide) ?_
  refine lv_iadd hx hb d_law_596 ?_
  refine va_sld hx hb hX hbl hbA hI.2.2 (hin 3 (by decide)) d_law_597 ?_
  refine fh_callV (As := [.int (xs (nI i + 1).toNatClampNeg), .int (xs (nI i + 2).toNatClampNeg), .int (xs (nI i + 3).toNatClampNeg)]) (rest := [.int v]) S fT_good (hE.nw nw_sub) hI (oi_o e3) rfl (c_Mo_needs3 e2) fy_Mo_needs3 fst_Mo_needs3 k_759 ⟨rfl, rfl⟩ ⟨Nat.le_of_ble_eq_true rfl, Nat.le_of_ble_eq_true rfl⟩ ⟨Nat.le_of_ble_eq_true rfl, Nat.le_of_ble_eq_true rfl⟩ rfl hl.1 rfl (Nat.le_of_ble_eq_true rfl) d_law_598 (fun H locs hI => ?_)
  refine lv_icmp_eq (tgt := 652) hx hb d_law_601 (by decide) (fun _ => ?_) (fun z => absurd rfl z)
  exact kk h2 S' M' _ _ hLI2 hI
set_option maxHeartbeats 4000000 in
set_option maxRecDepth 100000 in
theorem law_row {p : Program} {l : Launch} {e : Env} {s : State} {m : MethodId} {below : List Frame} {meth : Method} {c : Code} {D : va_G} {K t : Nat → Nat} {b L : Nat} {xs : Nat → Int32} {L1 L2 : Nat → Nat → Nat} {h : fh_H} {S0 : CS} {M0 : MS} {H : Heap} {locs : List Loc} {ls : Array Slot} {i : Nat} {Q : State → Prop} (S : CallFix p m c code 4 s #[Value.ref b] fT "FactFinderLaw") (hE : fh_E D classes (tysK K) (tbT t) NWL2 (fun q => s.heap.size ≤ q) s) (hX : va_X b L xs s s.heap) (hbl : b < s.heap.size) (hL : L ≤ 4096) (hi : i + 8 ≤ L) (hLI : LI K L1 L2 h S0 M0) (hI : fh_I D classes (fun q => s.heap.size ≤ q) s.heap h H locs) (hl : lv_has ls 4 [(0, .ref b), (1, va_rf (some (L1 0 0))), (2, va_rf (some (L2 0 0))), (3, .int (nI i))]) (kk : ∀ (h2 : fh_H) (S' : CS) (M' : MS) (H : Heap) (locs : List Loc), LI K L1 L2 h2 S' M' → fh_I D classes (fun q => s.heap.size ≤ q) s.heap h2 H locs → W p l e room_1 s m #[Value.ref b] below meth c H locs 76 87639 Q (F0 m 652 ls [])) : W p l e room_1 s m #[Value.ref b] below meth c H locs 76 87639 Q (F0 m 606 ls []) := by
  obtain ⟨hx, hb, hml, hown, hts⟩ := id S
  have hbA : ¬ (fun q : Nat => s.heap.size ≤ q) b := Nat.not_le.mpr hbl
  have hin : ∀ k : Nat, k < 8 → vp_in (nI i + nI k) L := fun k hk => by rw [nI_add]; exact vp_in_nI (by omega) (by omega)
  obtain ⟨v, h1, h2, S', M', e1, e2, ⟨fs, e3⟩, hLI2⟩ := hLI.call (tF := t_FF_row 2000 (xs (nI i + 1).toNatClampNeg) S0) (tM := t_Mo_row 2000 (xs (nI i + 1).toNatClampNeg) M0) (fun h => f_FF_row K 2000 (L1 0 0) (xs (nI i + 1).toNatClampNeg) h) (fun h => f_Mo_row K 2000 (L2 0 0) (xs (nI i + 1).toNatClampNeg) h) (call_row (Nat.le_refl _) hLI.2.2.2.2.2) (fun res ht => u_FF_row hLI.1 ht hLI.2.2.2.1) (fun h1 res hW ht => u_Mo_row hLI.2.1 ht hW)
  replace e1 : f_FF_row K 2000 (L1 0 0) (xs (nI i + 1).toNatClampNeg) h = some (v, h1) := e1
  replace e2 : f_Mo_row K 2000 (L2 0 0) (xs (nI i + 1).toNatClampNeg) h1 = some (v, h2) := e2
  refine fh_aload_n S d_law_606 rfl (lv_at hl 1 rfl) ?_
  refine lv_aload_n hx hb d_law_607 rfl (lv_at hl 0 rfl) ?_
  refine lv_iload_n hx hb d_law_608 rfl (lv_at hl 3 rfl) ?_
  refine lv_iconst (v := 1) hx hb d_law_609 (by decide) ?_
  refine lv_iadd hx hb d_law_610 ?_
  refine va_sld hx hb hX hbl hbA hI.2.2 (hin 1 (by decide)) d_law_611 ?_
  refine fh_callV (As := [.int (xs (nI i + 1).toNatClampNeg)]) (rest := []) S fT_good (hE.nw nw_sub) hI (oi_o (hLI.2.2.2.1.1 0 0 (by decide))) rfl (c_FF_row e1) fy_FF_row fst_FF_row k_741 ⟨rfl, rfl⟩ ⟨Nat.le_of_ble_eq_true rfl, Nat.le_of_ble_eq_true rfl⟩ ⟨Nat.le_of_ble_eq_true rfl, Nat.le_of_ble_eq_true rfl⟩ rfl hl.1 rfl (Nat.le_of_ble_eq_true rfl) d_law_612 (fun H locs hI => ?_)
  refine fh_aload_n S d_law_615 rfl (lv_at hl 2 rfl) ?_
  refine lv_aload_n hx hb d_law_616 rfl (lv_at hl 0 rfl) ?_
  refine lv_iload_n hx hb d_law_617 rfl (lv_at hl 3 rfl) ?_
  refine lv_iconst (v := 1) hx hb d_law_618 (by decide) ?_
  refine lv_iadd hx hb d_law_619 ?_
  refine va_sld hx hb hX hbl hbA hI.2.2 (hin 1 (by decide)) d_law_620 ?_
  refine fh_callV (As := [.int (xs (nI i + 1).toNatClampNeg)]) (rest := [.int v]) S fT_good (hE.nw nw_sub) hI (oi_o e3) rfl (c_Mo_row e2) fy_Mo_row fst_Mo_row k_760 ⟨rfl, rfl⟩ ⟨Nat.le_of_ble_eq_true rfl, Nat.le_of_ble_eq_true rfl⟩ ⟨Nat.le_of_ble_eq_true rfl, Nat.le_of_ble_eq_true rfl⟩ rfl hl.1 rfl (Nat.le_of_ble_eq_true rfl) d_law_621 (fun H locs hI => ?_)
  refine lv_icmp_eq (tgt := 652) hx hb d_law_624 (by decide) (fun _ => ?_) (fun z => absurd rfl z)
  exact kk h2 S' M' _ _ hLI2 hI
set_option maxHeartbeats 4000000 in
set_option maxRecDepth 100000 in
theorem law_ring {p : Program} {l : Launch} {e : Env} {s : State} {m : MethodId} {below : List Frame} {meth : Method} {c : Code} {D : va_G} {K t : Nat → Nat} {b L : Nat} {xs : Nat → Int32} {L1 L2 : Nat → Nat → Nat} {h : fh_H} {S0 : CS} {M0 : MS} {H : Heap} {locs : List Loc} {ls : Array Slot} {i : Nat} {Q : State → Prop} (S : CallFix p m c code 4 s #[Value.ref b] fT "FactFinderLaw") (hE : fh_E D classes (tysK K) (tbT t) NWL2 (fun q => s.heap.size ≤ q) s) (hX : va_X b L xs s s.heap) (hbl : b < s.heap.size) (hL : L ≤ 4096) (hi : i + 8 ≤ L) (hLI : LI K L1 L2 h S0 M0) (hI : fh_I D classes (fun q => s.heap.size ≤ q) s.heap h H locs) (hl : lv_has ls 4 [(0, .ref b), (1, va_rf (some (L1 0 0))), (2, va_rf (some (L2 0 0))), (3, .int (nI i))]) (kk : ∀ (h2 : fh_H) (S' : CS) (M' : MS) (H : Heap) (locs : List Loc), LI K L1 L2 h2 S' M' → fh_I D classes (fun q => s.heap.size ≤ q) s.heap h2 H locs → W p l e room_1 s m #[Value.ref b] below meth c H locs 76 87639 Q (F0 m 652 ls [])) : W p l e room_1 s m #[Value.ref b] below meth c H locs 76 87639 Q (F0 m 629 ls []) := by
  obtain ⟨hx, hb, hml, hown, hts⟩ := id S
  have hbA : ¬ (fun q : Nat => s.heap.size ≤ q) b := Nat.not_le.mpr hbl
  have hin : ∀ k : Nat, k < 8 → vp_in (nI i + nI k) L := fun k hk => by rw [nI_add]; exact vp_in_nI (by omega) (by omega)
  obtain ⟨v, h1, h2, S', M', e1, e2, ⟨fs, e3⟩, hLI2⟩ := hLI.call (tF := t_FF_ring 2000 (xs (nI i + 1).toNatClampNeg) S0) (tM := t_Mo_ring 2000 (xs (nI i + 1).toNatClampNeg) M0) (fun h => f_FF_ring K 2000 (L1 0 0) (xs (nI i + 1).toNatClampNeg) h) (fun h => f_Mo_ring K 2000 (L2 0 0) (xs (nI i + 1).toNatClampNeg) h) (call_ring (Nat.le_refl _) hLI.2.2.2.2.2) (fun res ht => u_FF_ring hLI.1 ht hLI.2.2.2.1) (fun h1 res hW ht => u_Mo_ring hLI.2.1 ht hW)
  replace e1 : f_FF_ring K 2000 (L1 0 0) (xs (nI i + 1).toNatClampNeg) h = some (v, h1) := e1
  replace e2 : f_Mo_ring K 2000 (L2 0 0) (xs (nI i + 1).toNatClampNeg) h1 = some (v, h2) := e2
  refine fh_aload_n S d_law_629 rfl (lv_at hl 1 rfl) ?_
  refine lv_aload_n hx hb d_law_630 rfl (lv_at hl 0 rfl) ?_
  refine lv_iload_n hx hb d_law_631 rfl (lv_at hl 3 rfl) ?_
  refine lv_iconst (v := 1) hx hb d_law_632 (by decide) ?_
  refine lv_iadd hx hb d_law_633 ?_
  refine va_sld hx hb hX hbl hbA hI.2.2 (hin 1 (by decide)) d_law_634 ?_
  refine fh_callV (As := [.int (xs (nI i + 1).toNatClampNeg)]) (rest := []) S fT_good (hE.nw nw_sub) hI (oi_o (hLI.2.2.2.1.1 0 0 (by decide))) rfl (c_FF_ring e1) fy_FF_ring fst_FF_ring k_742 ⟨rfl, rfl⟩ ⟨Nat.le_of_ble_eq_true rfl, Nat.le_of_ble_eq_true rfl⟩ ⟨Nat.le_of_ble_eq_true rfl, Nat.le_of_ble_eq_true rfl⟩ rfl hl.1 rfl (Nat.le_of_ble_eq_true rfl) d_law_635 (fun H locs hI => ?_)
  refine fh_aload_n S d_law_638 rfl (lv_at hl 2 rfl) ?_
  refine lv_aload_n hx hb d_law_639 rfl (lv_at hl 0 rfl) ?_
  refine lv_iload_n hx hb d_law_640 rfl (lv_at hl 3 rfl) ?_
  refine lv_iconst (v := 1) hx hb d_law_641 (by decide) ?_
  refine lv_iadd hx hb d_law_642 ?_
  refine va_sld hx hb hX hbl hbA hI.2.2 (hin 1 (by decide)) d_law_643 ?_
  refine fh_callV (As := [.int (xs (nI i + 1).toNatClampNeg)]) (rest := [.int v]) S fT_good (hE.nw nw_sub) hI (oi_o e3) rfl (c_Mo_ring e2) fy_Mo_ring fst_Mo_ring k_761 ⟨rfl, rfl⟩ ⟨Nat.le_of_ble_eq_true rfl, Nat.le_of_ble_eq_true rfl⟩ ⟨Nat.le_of_ble_eq_true rfl, Nat.le_of_ble_eq_true rfl⟩ rfl hl.1 rfl (Nat.le_of_ble_eq_true rfl) d_law_644 (fun H locs hI => ?_)
  refine lv_icmp_eq (tgt := 652) hx hb d_law_647 (by decide) (fun _ => ?_) (fun z => absurd rfl z)
  exact kk h2 S' M' _ _ hLI2 hI
