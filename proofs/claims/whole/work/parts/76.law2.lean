/-! The cases of the law: one call of the class, one of the model, the answers are one -/
section
variable {E : zCx} {b0 b L : Nat} {xs : Nat → Int32} {A : zA} {m : zM} {σ : zSt} {i : Nat}
theorem law_0 (X : zOK E cL_law RL 4 ret room_1) (hX : zScr E b0 L xs) (hL : L ≤ 3072) (hA : zmilA A b) (hB : zmodA A (b + 149)) (hm : zCR b m σ) (hq : zMR (b + 149) m σ) (ho : zStok σ) (hi : i + 6 ≤ L) (kk : ∀ m1 σ1, zCR b m1 σ1 → zMR (b + 149) m1 σ1 → zStok σ1 → zW E (166, 80481) A m1 1111 [some (vr b0), some (vr b), some (vr (b + 149)), some (vi (i : Int))] []) : zW E (166, 80481) A m 152 [some (vr b0), some (vr b), some (vr (b + 149)), some (vi (i : Int))] [] := by
  refine z_aload_n X dL_law_152 rfl ?_
  refine z_aload_n X dL_law_153 rfl ?_
  refine z_iload_n X dL_law_154 rfl ?_
  refine z_iconst X dL_law_155 ?_
  refine z_iadd X dL_law_156 ?_
  refine z_sld X hX (i + 1) dL_law_157 (by omega) (by omega) (by omega) ?_
  refine z_aload_n X dL_law_158 rfl ?_
  refine z_iload_n X dL_law_159 rfl ?_
  refine z_iconst X dL_law_160 ?_
  refine z_iadd X dL_law_161 ?_
  refine z_sld X hX (i + 2) dL_law_162 (by omega) (by omega) (by omega) ?_
  refine z_aload_n X dL_law_163 rfl ?_
  refine z_iload_n X dL_law_164 rfl ?_
  refine z_iconst X dL_law_165 ?_
  refine z_iadd X dL_law_166 ?_
  refine z_sld X hX (i + 3) dL_law_167 (by omega) (by omega) (by omega) ?_
  refine z_aload_n X dL_law_168 rfl ?_
  refine z_iload_n X dL_law_169 rfl ?_
  refine z_iconst X dL_law_170 ?_
  refine z_iadd X dL_law_171 ?_
  refine z_sld X hX (i + 4) dL_law_172 (by omega) (by omega) (by omega) ?_
  refine z_aload_n X dL_law_173 rfl ?_
  refine z_iload_n X dL_law_174 rfl ?_
  refine z_iconst X dL_law_175 ?_
  refine z_iadd X dL_law_176 ?_
  refine z_sld X hX (i + 5) dL_law_177 (by omega) (by omega) (by omega) ?_
  refine z_callVi X (As := [_, _, _, _, _]) dL_law_178 m_X7_rule i_X7_rule l_L_13 (c_X7_rule (zg E) hA hm (zx_32 xs (i + 1)) (zx_32 xs (i + 2)) (zx_32 xs (i + 3)) (zx_32 xs (i + 4)) (zx_32 xs (i + 5))) hA.1.1 rfl rfl rfl (Nat.le_of_ble_eq_true rfl) ⟨Nat.le_of_ble_eq_true rfl, Nat.le_of_ble_eq_true rfl⟩ ⟨Nat.le_of_ble_eq_true rfl, Nat.le_of_ble_eq_true rfl⟩ ⟨rfl, rfl⟩ (fun r1 m1 h1 => ?_)
  obtain ⟨hc1, hf1, rfl⟩ := h1
  have hq := hq.mo hf1
  refine z_aload_n X dL_law_181 rfl ?_
  refine z_aload_n X dL_law_182 rfl ?_
  refine z_iload_n X dL_law_183 rfl ?_
  refine z_iconst X dL_law_184 ?_
  refine z_iadd X dL_law_185 ?_
  refine z_sld X hX (i + 1) dL_law_186 (by omega) (by omega) (by omega) ?_
  refine z_aload_n X dL_law_187 rfl ?_
  refine z_iload_n X dL_law_188 rfl ?_
  refine z_iconst X dL_law_189 ?_
  refine z_iadd X dL_law_190 ?_
  refine z_sld X hX (i + 2) dL_law_191 (by omega) (by omega) (by omega) ?_
  refine z_aload_n X dL_law_192 rfl ?_
  refine z_iload_n X dL_law_193 rfl ?_
  refine z_iconst X dL_law_194 ?_
  refine z_iadd X dL_law_195 ?_
  refine z_sld X hX (i + 3) dL_law_196 (by omega) (by omega) (by omega) ?_
  refine z_aload_n X dL_law_197 rfl ?_
  refine z_iload_n X dL_law_198 rfl ?_
  refine z_iconst X dL_law_199 ?_
  refine z_iadd X dL_law_200 ?_
  refine z_sld X hX (i + 4) dL_law_201 (by omega) (by omega) (by omega) ?_
  refine z_aload_n X dL_law_202 rfl ?_
  refine z_iload_n X dL_law_203 rfl ?_
  refine z_iconst X dL_law_204 ?_
  refine z_iadd X dL_law_205 ?_
  refine z_sld X hX (i + 5) dL_law_206 (by omega) (by omega) (by omega) ?_
  refine z_callVi X (As := [_, _, _, _, _]) dL_law_207 m_X8_rule i_X8_rule l_L_17 (c_X8_rule (zg E) hB hq ho (zx_32 xs (i + 1)) (zx_32 xs (i + 2)) (zx_32 xs (i + 3)) (zx_32 xs (i + 4)) (zx_32 xs (i + 5))) hB.1.1 rfl rfl rfl (Nat.le_of_ble_eq_true rfl) ⟨Nat.le_of_ble_eq_true rfl, Nat.le_of_ble_eq_true rfl⟩ ⟨Nat.le_of_ble_eq_true rfl, Nat.le_of_ble_eq_true rfl⟩ ⟨rfl, rfl⟩ (fun r2 m2 h2 => ?_)
  obtain ⟨hc2, hf2, rfl⟩ := h2
  refine z_icmp_eqS X dL_law_210 1111 (by decide) ?_
  exact kk _ _ (hc1.mm hf2) hc2 (zStok_rule ho _ _ _ _ _)
theorem law_1 (X : zOK E cL_law RL 4 ret room_1) (hX : zScr E b0 L xs) (hL : L ≤ 3072) (hA : zmilA A b) (hB : zmodA A (b + 149)) (hm : zCR b m σ) (hq : zMR (b + 149) m σ) (ho : zStok σ) (hi : i + 6 ≤ L) (kk : ∀ m1 σ1, zCR b m1 σ1 → zMR (b + 149) m1 σ1 → zStok σ1 → zW E (166, 80481) A m1 1111 [some (vr b0), some (vr b), some (vr (b + 149)), some (vi (i : Int))] []) : zW E (166, 80481) A m 215 [some (vr b0), some (vr b), some (vr (b + 149)), some (vi (i : Int))] [] := by
  refine z_aload_n X dL_law_215 rfl ?_
  refine z_aload_n X dL_law_216 rfl ?_
  refine z_iload_n X dL_law_217 rfl ?_
  refine z_iconst X dL_law_218 ?_
  refine z_iadd X dL_law_219 ?_
  refine z_sld X hX (i + 1) dL_law_220 (by omega) (by omega) (by omega) ?_
  refine z_aload_n X dL_law_221 rfl ?_
  refine z_iload_n X dL_law_222 rfl ?_
  refine z_iconst X dL_law_223 ?_
  refine z_iadd X dL_law_224 ?_
  refine z_sld X hX (i + 2) dL_law_225 (by omega) (by omega) (by omega) ?_
  refine z_aload_n X dL_law_226 rfl ?_
  refine z_iload_n X dL_law_227 rfl ?_
  refine z_iconst X dL_law_228 ?_
  refine z_iadd X dL_law_229 ?_
  refine z_sld X hX (i + 3) dL_law_230 (by omega) (by omega) (by omega) ?_
  refine z_callVi X (As := [_, _, _]) dL_law_231 m_X7_bound i_X7_bound l_L_18 (c_X7_bound (zg E) hA hm (zx_32 xs (i + 1)) (zx_32 xs (i + 2)) (zx_32 xs (i + 3))) hA.1.1 rfl rfl rfl (Nat.le_of_ble_eq_true rfl) ⟨Nat.le_of_ble_eq_true rfl, Nat.le_of_ble_eq_true rfl⟩ ⟨Nat.le_of_ble_eq_true rfl, Nat.le_of_ble_eq_true rfl⟩ ⟨rfl, rfl⟩ (fun r1 m1 h1 => ?_)
  obtain ⟨hc1, hf1, rfl⟩ := h1
  have hq := hq.mo hf1
  refine z_aload_n X dL_law_234 rfl ?_
  refine z_aload_n X dL_law_235 rfl ?_
  refine z_iload_n X dL_law_236 rfl ?_
  refine z_iconst X dL_law_237 ?_
  refine z_iadd X dL_law_238 ?_
  refine z_sld X hX (i + 1) dL_law_239 (by omega) (by omega) (by omega) ?_
  refine z_aload_n X dL_law_240 rfl ?_
  refine z_iload_n X dL_law_241 rfl ?_
  refine z_iconst X dL_law_242 ?_
  refine z_iadd X dL_law_243 ?_
  refine z_sld X hX (i + 2) dL_law_244 (by omega) (by omega) (by omega) ?_
  refine z_aload_n X dL_law_245 rfl ?_
  refine z_iload_n X dL_law_246 rfl ?_
  refine z_iconst X dL_law_247 ?_
  refine z_iadd X dL_law_248 ?_
  refine z_sld X hX (i + 3) dL_law_249 (by omega) (by omega) (by omega) ?_
  refine z_callVi X (As := [_, _, _]) dL_law_250 m_X8_bound i_X8_bound l_L_22 (c_X8_bound (zg E) hB hq ho (zx_32 xs (i + 1)) (zx_32 xs (i + 2)) (zx_32 xs (i + 3))) hB.1.1 rfl rfl rfl (Nat.le_of_ble_eq_true rfl) ⟨Nat.le_of_ble_eq_true rfl, Nat.le_of_ble_eq_true rfl⟩ ⟨Nat.le_of_ble_eq_true rfl, Nat.le_of_ble_eq_true rfl⟩ ⟨rfl, rfl⟩ (fun r2 m2 h2 => ?_)
  obtain ⟨hc2, hf2, rfl⟩ := h2
  refine z_icmp_eqS X dL_law_253 1111 (by decide) ?_
  exact kk _ _ (hc1.mm hf2) hc2 (zStok_bound ho _ _ _)
theorem law_2 (X : zOK E cL_law RL 4 ret room_1) (hX : zScr E b0 L xs) (hL : L ≤ 3072) (hA : zmilA A b) (hB : zmodA A (b + 149)) (hm : zCR b m σ) (hq : zMR (b + 149) m σ) (ho : zStok σ) (hi : i + 6 ≤ L) (kk : ∀ m1 σ1, zCR b m1 σ1 → zMR (b + 149) m1 σ1 → zStok σ1 → zW E (166, 80481) A m1 1111 [some (vr b0), some (vr b), some (vr (b + 149)), some (vi (i : Int))] []) : zW E (166, 80481) A m 258 [some (vr b0), some (vr b), some (vr (b + 149)), some (vi (i : Int))] [] := by
  refine z_aload_n X dL_law_258 rfl ?_
  refine z_aload_n X dL_law_259 rfl ?_
  refine z_iload_n X dL_law_260 rfl ?_
  refine z_iconst X dL_law_261 ?_
  refine z_iadd X dL_law_262 ?_
  refine z_sld X hX (i + 1) dL_law_263 (by omega) (by omega) (by omega) ?_
  refine z_aload_n X dL_law_264 rfl ?_
  refine z_iload_n X dL_law_265 rfl ?_
  refine z_iconst X dL_law_266 ?_
  refine z_iadd X dL_law_267 ?_
  refine z_sld X hX (i + 2) dL_law_268 (by omega) (by omega) (by omega) ?_
  refine z_aload_n X dL_law_269 rfl ?_
  refine z_iload_n X dL_law_270 rfl ?_
  refine z_iconst X dL_law_271 ?_
  refine z_iadd X dL_law_272 ?_
  refine z_sld X hX (i + 3) dL_law_273 (by omega) (by omega) (by omega) ?_
  refine z_callVi X (As := [_, _, _]) dL_law_274 m_X7_at i_X7_at l_L_23 (c_X7_at (zg E) hA hm ho (zx_32 xs (i + 1)) (zx_32 xs (i + 2)) (zx_32 xs (i + 3))) hA.1.1 rfl rfl rfl (Nat.le_of_ble_eq_true rfl) ⟨Nat.le_of_ble_eq_true rfl, Nat.le_of_ble_eq_true rfl⟩ ⟨Nat.le_of_ble_eq_true rfl, Nat.le_of_ble_eq_true rfl⟩ ⟨rfl, rfl⟩ (fun r1 m1 h1 => ?_)
  obtain ⟨rfl, rfl⟩ := h1
  refine z_aload_n X dL_law_277 rfl ?_
  refine z_aload_n X dL_law_278 rfl ?_
  refine z_iload_n X dL_law_279 rfl ?_
  refine z_iconst X dL_law_280 ?_
  refine z_iadd X dL_law_281 ?_
  refine z_sld X hX (i + 1) dL_law_282 (by omega) (by omega) (by omega) ?_
  refine z_aload_n X dL_law_283 rfl ?_
  refine z_iload_n X dL_law_284 rfl ?_
  refine z_iconst X dL_law_285 ?_
  refine z_iadd X dL_law_286 ?_
  refine z_sld X hX (i + 2) dL_law_287 (by omega) (by omega) (by omega) ?_
  refine z_aload_n X dL_law_288 rfl ?_
  refine z_iload_n X dL_law_289 rfl ?_
  refine z_iconst X dL_law_290 ?_
  refine z_iadd X dL_law_291 ?_
  refine z_sld X hX (i + 3) dL_law_292 (by omega) (by omega) (by omega) ?_
  refine z_callVi X (As := [_, _, _]) dL_law_293 m_X8_at i_X8_at l_L_26 (c_X8_at (zg E) hB hq (zx_32 xs (i + 1)) (zx_32 xs (i + 2)) (zx_32 xs (i + 3))) hB.1.1 rfl rfl rfl (Nat.le_of_ble_eq_true rfl) ⟨Nat.le_of_ble_eq_true rfl, Nat.le_of_ble_eq_true rfl⟩ ⟨Nat.le_of_ble_eq_true rfl, Nat.le_of_ble_eq_true rfl⟩ ⟨rfl, rfl⟩ (fun r2 m2 h2 => ?_)
  obtain ⟨rfl, rfl⟩ := h2
  refine z_icmp_eqS X dL_law_296 1111 (by decide) ?_
  exact kk _ _ hm hq ho
theorem law_3 (X : zOK E cL_law RL 4 ret room_1) (hX : zScr E b0 L xs) (hL : L ≤ 3072) (hA : zmilA A b) (hB : zmodA A (b + 149)) (hm : zCR b m σ) (hq : zMR (b + 149) m σ) (ho : zStok σ) (hi : i + 6 ≤ L) (kk : ∀ m1 σ1, zCR b m1 σ1 → zMR (b + 149) m1 σ1 → zStok σ1 → zW E (166, 80481) A m1 1111 [some (vr b0), some (vr b), some (vr (b + 149)), some (vi (i : Int))] []) : zW E (166, 80481) A m 301 [some (vr b0), some (vr b), some (vr (b + 149)), some (vi (i : Int))] [] := by
  refine z_aload_n X dL_law_301 rfl ?_
  refine z_aload_n X dL_law_302 rfl ?_
  refine z_iload_n X dL_law_303 rfl ?_
  refine z_iconst X dL_law_304 ?_
  refine z_iadd X dL_law_305 ?_
  refine z_sld X hX (i + 1) dL_law_306 (by omega) (by omega) (by omega) ?_
  refine z_aload_n X dL_law_307 rfl ?_
  refine z_iload_n X dL_law_308 rfl ?_
  refine z_iconst X dL_law_309 ?_
  refine z_iadd X dL_law_310 ?_
  refine z_sld X hX (i + 2) dL_law_311 (by omega) (by omega) (by omega) ?_
  refine z_callVi X (As := [_, _]) dL_law_312 m_X7_falls i_X7_falls l_L_27 (c_X7_falls (zg E) hA hm ho (zx_32 xs (i + 1)) (zx_32 xs (i + 2))) hA.1.1 rfl rfl rfl (Nat.le_of_ble_eq_true rfl) ⟨Nat.le_of_ble_eq_true rfl, Nat.le_of_ble_eq_true rfl⟩ ⟨Nat.le_of_ble_eq_true rfl, Nat.le_of_ble_eq_true rfl⟩ ⟨rfl, rfl⟩ (fun r1 m1 h1 => ?_)
  obtain ⟨rfl, rfl⟩ := h1
  refine z_aload_n X dL_law_315 rfl ?_
  refine z_aload_n X dL_law_316 rfl ?_
  refine z_iload_n X dL_law_317 rfl ?_
  refine z_iconst X dL_law_318 ?_
  refine z_iadd X dL_law_319 ?_
  refine z_sld X hX (i + 1) dL_law_320 (by omega) (by omega) (by omega) ?_
  refine z_aload_n X dL_law_321 rfl ?_
  refine z_iload_n X dL_law_322 rfl ?_
  refine z_iconst X dL_law_323 ?_
  refine z_iadd X dL_law_324 ?_
  refine z_sld X hX (i + 2) dL_law_325 (by omega) (by omega) (by omega) ?_
  refine z_callVi X (As := [_, _]) dL_law_326 m_X8_falls i_X8_falls l_L_31 (c_X8_falls (zg E) hB hq ho (zx_32 xs (i + 1)) (zx_32 xs (i + 2))) hB.1.1 rfl rfl rfl (Nat.le_of_ble_eq_true rfl) ⟨Nat.le_of_ble_eq_true rfl, Nat.le_of_ble_eq_true rfl⟩ ⟨Nat.le_of_ble_eq_true rfl, Nat.le_of_ble_eq_true rfl⟩ ⟨rfl, rfl⟩ (fun r2 m2 h2 => ?_)
  obtain ⟨rfl, rfl⟩ := h2
  refine z_icmp_eqS X dL_law_329 1111 (by decide) ?_
  exact kk _ _ hm hq ho
theorem law_4 (X : zOK E cL_law RL 4 ret room_1) (hX : zScr E b0 L xs) (hL : L ≤ 3072) (hA : zmilA A b) (hB : zmodA A (b + 149)) (hm : zCR b m σ) (hq : zMR (b + 149) m σ) (ho : zStok σ) (hi : i + 6 ≤ L) (kk : ∀ m1 σ1, zCR b m1 σ1 → zMR (b + 149) m1 σ1 → zStok σ1 → zW E (166, 80481) A m1 1111 [some (vr b0), some (vr b), some (vr (b + 149)), some (vi (i : Int))] []) : zW E (166, 80481) A m 334 [some (vr b0), some (vr b), some (vr (b + 149)), some (vi (i : Int))] [] := by
  refine z_aload_n X dL_law_334 rfl ?_
  refine z_aload_n X dL_law_335 rfl ?_
  refine z_iload_n X dL_law_336 rfl ?_
  refine z_iconst X dL_law_337 ?_
  refine z_iadd X dL_law_338 ?_
  refine z_sld X hX (i + 1) dL_law_339 (by omega) (by omega) (by omega) ?_
  refine z_aload_n X dL_law_340 rfl ?_
  refine z_iload_n X dL_law_341 rfl ?_
  refine z_iconst X dL_law_342 ?_
  refine z_iadd X dL_law_343 ?_
  refine z_sld X hX (i + 2) dL_law_344 (by omega) (by omega) (by omega) ?_
  refine z_aload_n X dL_law_345 rfl ?_
  refine z_iload_n X dL_law_346 rfl ?_
  refine z_iconst X dL_law_347 ?_
  refine z_iadd X dL_law_348 ?_
  refine z_sld X hX (i + 3) dL_law_349 (by omega) (by omega) (by omega) ?_
  refine z_aload_n X dL_law_350 rfl ?_
  refine z_iload_n X dL_law_351 rfl ?_
  refine z_iconst X dL_law_352 ?_
  refine z_iadd X dL_law_353 ?_
  refine z_sld X hX (i + 4) dL_law_354 (by omega) (by omega) (by omega) ?_
  refine z_callVi X (As := [_, _, _, _]) dL_law_355 m_X7_grind i_X7_grind l_L_32 (c_X7_grind (zg E) hA hm ho (zx_32 xs (i + 1)) (zx_32 xs (i + 2)) (zx_32 xs (i + 3)) (zx_32 xs (i + 4))) hA.1.1 rfl rfl rfl (Nat.le_of_ble_eq_true rfl) ⟨Nat.le_of_ble_eq_true rfl, Nat.le_of_ble_eq_true rfl⟩ ⟨Nat.le_of_ble_eq_true rfl, Nat.le_of_ble_eq_true rfl⟩ ⟨rfl, rfl⟩ (fun r1 m1 h1 => ?_)
  obtain ⟨hc1, hf1, rfl⟩ := h1
  have hq := hq.mo hf1
  refine z_aload_n X dL_law_358 rfl ?_
  refine z_aload_n X dL_law_359 rfl ?_
  refine z_iload_n X dL_law_360 rfl ?_
  refine z_iconst X dL_law_361 ?_
  refine z_iadd X dL_law_362 ?_
  refine z_sld X hX (i + 1) dL_law_363 (by omega) (by omega) (by omega) ?_
  refine z_aload_n X dL_law_364 rfl ?_
  refine z_iload_n X dL_law_365 rfl ?_
  refine z_iconst X dL_law_366 ?_
  refine z_iadd X dL_law_367 ?_
  refine z_sld X hX (i + 2) dL_law_368 (by omega) (by omega) (by omega) ?_
  refine z_aload_n X dL_law_369 rfl ?_
  refine z_iload_n X dL_law_370 rfl ?_
  refine z_iconst X dL_law_371 ?_
  refine z_iadd X dL_law_372 ?_
  refine z_sld X hX (i + 3) dL_law_373 (by omega) (by omega) (by omega) ?_
  refine z_aload_n X dL_law_374 rfl ?_
  refine z_iload_n X dL_law_375 rfl ?_
  refine z_iconst X dL_law_376 ?_
  refine z_iadd X dL_law_377 ?_
  refine z_sld X hX (i + 4) dL_law_378 (by omega) (by omega) (by omega) ?_
  refine z_callVi X (As := [_, _, _, _]) dL_law_379 m_X8_grind i_X8_grind l_L_36 (c_X8_grind (zg E) hB hq ho (zx_32 xs (i + 1)) (zx_32 xs (i + 2)) (zx_32 xs (i + 3)) (zx_32 xs (i + 4))) hB.1.1 rfl rfl rfl (Nat.le_of_ble_eq_true rfl) ⟨Nat.le_of_ble_eq_true rfl, Nat.le_of_ble_eq_true rfl⟩ ⟨Nat.le_of_ble_eq_true rfl, Nat.le_of_ble_eq_true rfl⟩ ⟨rfl, rfl⟩ (fun r2 m2 h2 => ?_)
  obtain ⟨hc2, hf2, rfl⟩ := h2
  refine z_icmp_eqS X dL_law_382 1111 (by decide) ?_
  exact kk _ _ (hc1.mm hf2) hc2 (zStok_grind ho _ _ _ _)
theorem law_5 (X : zOK E cL_law RL 4 ret room_1) (hX : zScr E b0 L xs) (hL : L ≤ 3072) (hA : zmilA A b) (hB : zmodA A (b + 149)) (hm : zCR b m σ) (hq : zMR (b + 149) m σ) (ho : zStok σ) (hi : i + 6 ≤ L) (kk : ∀ m1 σ1, zCR b m1 σ1 → zMR (b + 149) m1 σ1 → zStok σ1 → zW E (166, 80481) A m1 1111 [some (vr b0), some (vr b), some (vr (b + 149)), some (vi (i : Int))] []) : zW E (166, 80481) A m 387 [some (vr b0), some (vr b), some (vr (b + 149)), some (vi (i : Int))] [] := by
  refine z_aload_n X dL_law_387 rfl ?_
  refine z_aload_n X dL_law_388 rfl ?_
  refine z_iload_n X dL_law_389 rfl ?_
  refine z_iconst X dL_law_390 ?_
  refine z_iadd X dL_law_391 ?_
  refine z_sld X hX (i + 1) dL_law_392 (by omega) (by omega) (by omega) ?_
  refine z_aload_n X dL_law_393 rfl ?_
  refine z_iload_n X dL_law_394 rfl ?_
  refine z_iconst X dL_law_395 ?_
  refine z_iadd X dL_law_396 ?_
  refine z_sld X hX (i + 2) dL_law_397 (by omega) (by omega) (by omega) ?_
  refine z_callVi X (As := [_, _]) dL_law_398 m_X7_more i_X7_more l_L_37 (c_X7_more (zg E) hA hm ho (zx_32 xs (i + 1)) (zx_32 xs (i + 2))) hA.1.1 rfl rfl rfl (Nat.le_of_ble_eq_true rfl) ⟨Nat.le_of_ble_eq_true rfl, Nat.le_of_ble_eq_true rfl⟩ ⟨Nat.le_of_ble_eq_true rfl, Nat.le_of_ble_eq_true rfl⟩ ⟨rfl, rfl⟩ (fun r1 m1 h1 => ?_)
  obtain ⟨hc1, hf1, rfl⟩ := h1
  have hq := hq.mo hf1
  refine z_aload_n X dL_law_401 rfl ?_
  refine z_aload_n X dL_law_402 rfl ?_
  refine z_iload_n X dL_law_403 rfl ?_
  refine z_iconst X dL_law_404 ?_
  refine z_iadd X dL_law_405 ?_
  refine z_sld X hX (i + 1) dL_law_406 (by omega) (by omega) (by omega) ?_
  refine z_aload_n X dL_law_407 rfl ?_
  refine z_iload_n X dL_law_408 rfl ?_
  refine z_iconst X dL_law_409 ?_
  refine z_iadd X dL_law_410 ?_
  refine z_sld X hX (i + 2) dL_law_411 (by omega) (by omega) (by omega) ?_
  refine z_callVi X (As := [_, _]) dL_law_412 m_X8_more i_X8_more l_L_40 (c_X8_more (zg E) hB hq ho (zx_32 xs (i + 1)) (zx_32 xs (i + 2))) hB.1.1 rfl rfl rfl (Nat.le_of_ble_eq_true rfl) ⟨Nat.le_of_ble_eq_true rfl, Nat.le_of_ble_eq_true rfl⟩ ⟨Nat.le_of_ble_eq_true rfl, Nat.le_of_ble_eq_true rfl⟩ ⟨rfl, rfl⟩ (fun r2 m2 h2 => ?_)
  obtain ⟨hc2, hf2, rfl⟩ := h2
  refine z_icmp_eqS X dL_law_415 1111 (by decide) ?_
  exact kk _ _ (hc1.mm hf2) hc2 (zStok_more ho _ _)
theorem law_6 (X : zOK E cL_law RL 4 ret room_1) (hX : zScr E b0 L xs) (hL : L ≤ 3072) (hA : zmilA A b) (hB : zmodA A (b + 149)) (hm : zCR b m σ) (hq : zMR (b + 149) m σ) (ho : zStok σ) (hi : i + 6 ≤ L) (kk : ∀ m1 σ1, zCR b m1 σ1 → zMR (b + 149) m1 σ1 → zStok σ1 → zW E (166, 80481) A m1 1111 [some (vr b0), some (vr b), some (vr (b + 149)), some (vi (i : Int))] []) : zW E (166, 80481) A m 420 [some (vr b0), some (vr b), some (vr (b + 149)), some (vi (i : Int))] [] := by
  refine z_aload_n X dL_law_420 rfl ?_
  refine z_aload_n X dL_law_421 rfl ?_
  refine z_iload_n X dL_law_422 rfl ?_
  refine z_iconst X dL_law_423 ?_
  refine z_iadd X dL_law_424 ?_
  refine z_sld X hX (i + 1) dL_law_425 (by omega) (by omega) (by omega) ?_
  refine z_aload_n X dL_law_426 rfl ?_
  refine z_iload_n X dL_law_427 rfl ?_
  refine z_iconst X dL_law_428 ?_
  refine z_iadd X dL_law_429 ?_
  refine z_sld X hX (i + 2) dL_law_430 (by omega) (by omega) (by omega) ?_
  refine z_aload_n X dL_law_431 rfl ?_
  refine z_iload_n X dL_law_432 rfl ?_
  refine z_iconst X dL_law_433 ?_
  refine z_iadd X dL_law_434 ?_
  refine z_sld X hX (i + 3) dL_law_435 (by omega) (by omega) (by omega) ?_
  refine z_callVi X (As := [_, _, _]) dL_law_436 m_X7_join i_X7_join l_L_41 (c_X7_join (zg E) hA hm ho (zx_32 xs (i + 1)) (zx_32 xs (i + 2)) (zx_32 xs (i + 3))) hA.1.1 rfl rfl rfl (Nat.le_of_ble_eq_true rfl) ⟨Nat.le_of_ble_eq_true rfl, Nat.le_of_ble_eq_true rfl⟩ ⟨Nat.le_of_ble_eq_true rfl, Nat.le_of_ble_eq_true rfl⟩ ⟨rfl, rfl⟩ (fun r1 m1 h1 => ?_)
  obtain ⟨hc1, hf1, rfl⟩ := h1
  have hq := hq.mo hf1
  refine z_aload_n X dL_law_439 rfl ?_
  refine z_aload_n X dL_law_440 rfl ?_
  refine z_iload_n X dL_law_441 rfl ?_
  refine z_iconst X dL_law_442 ?_
  refine z_iadd X dL_law_443 ?_
  refine z_sld X hX (i + 1) dL_law_444 (by omega) (by omega) (by omega) ?_
  refine z_aload_n X dL_law_445 rfl ?_
  refine z_iload_n X dL_law_446 rfl ?_
  refine z_iconst X dL_law_447 ?_
  refine z_iadd X dL_law_448 ?_
  refine z_sld X hX (i + 2) dL_law_449 (by omega) (by omega) (by omega) ?_
  refine z_aload_n X dL_law_450 rfl ?_
  refine z_iload_n X dL_law_451 rfl ?_
  refine z_iconst X dL_law_452 ?_
  refine z_iadd X dL_law_453 ?_
  refine z_sld X hX (i + 3) dL_law_454 (by omega) (by omega) (by omega) ?_
  refine z_callVi X (As := [_, _, _]) dL_law_455 m_X8_join i_X8_join l_L_44 (c_X8_join (zg E) hB hq ho (zx_32 xs (i + 1)) (zx_32 xs (i + 2)) (zx_32 xs (i + 3))) hB.1.1 rfl rfl rfl (Nat.le_of_ble_eq_true rfl) ⟨Nat.le_of_ble_eq_true rfl, Nat.le_of_ble_eq_true rfl⟩ ⟨Nat.le_of_ble_eq_true rfl, Nat.le_of_ble_eq_true rfl⟩ ⟨rfl, rfl⟩ (fun r2 m2 h2 => ?_)
  obtain ⟨hc2, hf2, rfl⟩ := h2
  refine z_icmp_eqS X dL_law_458 1111 (by decide) ?_
  exact kk _ _ (hc1.mm hf2) hc2 (zStok_join ho _ _ _)
theorem law_7 (X : zOK E cL_law RL 4 ret room_1) (hX : zScr E b0 L xs) (hL : L ≤ 3072) (hA : zmilA A b) (hB : zmodA A (b + 149)) (hm : zCR b m σ) (hq : zMR (b + 149) m σ) (ho : zStok σ) (hi : i + 6 ≤ L) (kk : ∀ m1 σ1, zCR b m1 σ1 → zMR (b + 149) m1 σ1 → zStok σ1 → zW E (166, 80481) A m1 1111 [some (vr b0), some (vr b), some (vr (b + 149)), some (vi (i : Int))] []) : zW E (166, 80481) A m 463 [some (vr b0), some (vr b), some (vr (b + 149)), some (vi (i : Int))] [] := by
  refine z_aload_n X dL_law_463 rfl ?_
  refine z_aload_n X dL_law_464 rfl ?_
  refine z_iload_n X dL_law_465 rfl ?_
  refine z_iconst X dL_law_466 ?_
  refine z_iadd X dL_law_467 ?_
  refine z_sld X hX (i + 1) dL_law_468 (by omega) (by omega) (by omega) ?_
  refine z_callVi X (As := [_]) dL_law_469 m_X7_empty i_X7_empty l_L_45 (c_X7_empty (zg E) hA hm ho (zx_32 xs (i + 1))) hA.1.1 rfl rfl rfl (Nat.le_of_ble_eq_true rfl) ⟨Nat.le_of_ble_eq_true rfl, Nat.le_of_ble_eq_true rfl⟩ ⟨Nat.le_of_ble_eq_true rfl, Nat.le_of_ble_eq_true rfl⟩ ⟨rfl, rfl⟩ (fun r1 m1 h1 => ?_)
  obtain ⟨hc1, hf1, rfl⟩ := h1
  have hq := hq.mo hf1
  refine z_aload_n X dL_law_472 rfl ?_
  refine z_aload_n X dL_law_473 rfl ?_
  refine z_iload_n X dL_law_474 rfl ?_
  refine z_iconst X dL_law_475 ?_
  refine z_iadd X dL_law_476 ?_
  refine z_sld X hX (i + 1) dL_law_477 (by omega) (by omega) (by omega) ?_
  refine z_callVi X (As := [_]) dL_law_478 m_X8_empty i_X8_empty l_L_49 (c_X8_empty (zg E) hB hq ho (zx_32 xs (i + 1))) hB.1.1 rfl rfl rfl (Nat.le_of_ble_eq_true rfl) ⟨Nat.le_of_ble_eq_true rfl, Nat.le_of_ble_eq_true rfl⟩ ⟨Nat.le_of_ble_eq_true rfl, Nat.le_of_ble_eq_true rfl⟩ ⟨rfl, rfl⟩ (fun r2 m2 h2 => ?_)
  obtain ⟨hc2, hf2, rfl⟩ := h2
  refine z_icmp_eqS X dL_law_481 1111 (by decide) ?_
  exact kk _ _ (hc1.mm hf2) hc2 (zStok_empty ho _)
theorem law_8 (X : zOK E cL_law RL 4 ret room_1) (hX : zScr E b0 L xs) (hL : L ≤ 3072) (hA : zmilA A b) (hB : zmodA A (b + 149)) (hm : zCR b m σ) (hq : zMR (b + 149) m σ) (ho : zStok σ) (hi : i + 6 ≤ L) (kk : ∀ m1 σ1, zCR b m1 σ1 → zMR (b + 149) m1 σ1 → zStok σ1 → zW E (166, 80481) A m1 1111 [some (vr b0), some (vr b), some (vr (b + 149)), some (vi (i : Int))] []) : zW E (166, 80481) A m 486 [some (vr b0), some (vr b), some (vr (b + 149)), some (vi (i : Int))] [] := by
  refine z_aload_n X dL_law_486 rfl ?_
  refine z_aload_n X dL_law_487 rfl ?_
  refine z_iload_n X dL_law_488 rfl ?_
  refine z_iconst X dL_law_489 ?_
  refine z_iadd X dL_law_490 ?_
  refine z_sld X hX (i + 1) dL_law_491 (by omega) (by omega) (by omega) ?_
  refine z_aload_n X dL_law_492 rfl ?_
  refine z_iload_n X dL_law_493 rfl ?_
  refine z_iconst X dL_law_494 ?_
  refine z_iadd X dL_law_495 ?_
  refine z_sld X hX (i + 2) dL_law_496 (by omega) (by omega) (by omega) ?_
  refine z_callVi X (As := [_, _]) dL_law_497 m_X7_span i_X7_span l_L_50 (c_X7_span (zg E) hA hm (zx_32 xs (i + 1)) (zx_32 xs (i + 2))) hA.1.1 rfl rfl rfl (Nat.le_of_ble_eq_true rfl) ⟨Nat.le_of_ble_eq_true rfl, Nat.le_of_ble_eq_true rfl⟩ ⟨Nat.le_of_ble_eq_true rfl, Nat.le_of_ble_eq_true rfl⟩ ⟨rfl, rfl⟩ (fun r1 m1 h1 => ?_)
  obtain ⟨rfl, rfl⟩ := h1
  refine z_aload_n X dL_law_500 rfl ?_
  refine z_aload_n X dL_law_501 rfl ?_
  refine z_iload_n X dL_law_502 rfl ?_
  refine z_iconst X dL_law_503 ?_
  refine z_iadd X dL_law_504 ?_
  refine z_sld X hX (i + 1) dL_law_505 (by omega) (by omega) (by omega) ?_
  refine z_aload_n X dL_law_506 rfl ?_
  refine z_iload_n X dL_law_507 rfl ?_
  refine z_iconst X dL_law_508 ?_
  refine z_iadd X dL_law_509 ?_
  refine z_sld X hX (i + 2) dL_law_510 (by omega) (by omega) (by omega) ?_
  refine z_callVi X (As := [_, _]) dL_law_511 m_X8_span i_X8_span l_L_53 (c_X8_span (zg E) hB hq ho (zx_32 xs (i + 1)) (zx_32 xs (i + 2))) hB.1.1 rfl rfl rfl (Nat.le_of_ble_eq_true rfl) ⟨Nat.le_of_ble_eq_true rfl, Nat.le_of_ble_eq_true rfl⟩ ⟨Nat.le_of_ble_eq_true rfl, Nat.le_of_ble_eq_true rfl⟩ ⟨rfl, rfl⟩ (fun r2 m2 h2 => ?_)
  obtain ⟨rfl, rfl⟩ := h2
  refine z_icmp_eqS X dL_law_514 1111 (by decide) ?_
  exact kk _ _ hm hq ho
theorem law_9 (X : zOK E cL_law RL 4 ret room_1) (hX : zScr E b0 L xs) (hL : L ≤ 3072) (hA : zmilA A b) (hB : zmodA A (b + 149)) (hm : zCR b m σ) (hq : zMR (b + 149) m σ) (ho : zStok σ) (hi : i + 6 ≤ L) (kk : ∀ m1 σ1, zCR b m1 σ1 → zMR (b + 149) m1 σ1 → zStok σ1 → zW E (166, 80481) A m1 1111 [some (vr b0), some (vr b), some (vr (b + 149)), some (vi (i : Int))] []) : zW E (166, 80481) A m 519 [some (vr b0), some (vr b), some (vr (b + 149)), some (vi (i : Int))] [] := by
  refine z_aload_n X dL_law_519 rfl ?_
  refine z_aload_n X dL_law_520 rfl ?_
  refine z_iload_n X dL_law_521 rfl ?_
  refine z_iconst X dL_law_522 ?_
  refine z_iadd X dL_law_523 ?_
  refine z_sld X hX (i + 1) dL_law_524 (by omega) (by omega) (by omega) ?_
  refine z_aload_n X dL_law_525 rfl ?_
  refine z_iload_n X dL_law_526 rfl ?_
  refine z_iconst X dL_law_527 ?_
  refine z_iadd X dL_law_528 ?_
  refine z_sld X hX (i + 2) dL_law_529 (by omega) (by omega) (by omega) ?_
  refine z_callVi X (As := [_, _]) dL_law_530 m_X7_bits i_X7_bits l_L_54 (c_X7_bits (zg E) hA hm (zx_32 xs (i + 1)) (zx_32 xs (i + 2))) hA.1.1 rfl rfl rfl (Nat.le_of_ble_eq_true rfl) ⟨Nat.le_of_ble_eq_true rfl, Nat.le_of_ble_eq_true rfl⟩ ⟨Nat.le_of_ble_eq_true rfl, Nat.le_of_ble_eq_true rfl⟩ ⟨rfl, rfl⟩ (fun r1 m1 h1 => ?_)
  obtain ⟨rfl, rfl⟩ := h1
  refine z_aload_n X dL_law_533 rfl ?_
  refine z_aload_n X dL_law_534 rfl ?_
  refine z_iload_n X dL_law_535 rfl ?_
  refine z_iconst X dL_law_536 ?_
  refine z_iadd X dL_law_537 ?_
  refine z_sld X hX (i + 1) dL_law_538 (by omega) (by omega) (by omega) ?_
  refine z_aload_n X dL_law_539 rfl ?_
  refine z_iload_n X dL_law_540 rfl ?_
  refine z_iconst X dL_law_541 ?_
  refine z_iadd X dL_law_542 ?_
  refine z_sld X hX (i + 2) dL_law_543 (by omega) (by omega) (by omega) ?_
  refine z_callVi X (As := [_, _]) dL_law_544 m_X8_bits i_X8_bits l_L_57 (c_X8_bits (zg E) hB hq ho (zx_32 xs (i + 1)) (zx_32 xs (i + 2))) hB.1.1 rfl rfl rfl (Nat.le_of_ble_eq_true rfl) ⟨Nat.le_of_ble_eq_true rfl, Nat.le_of_ble_eq_true rfl⟩ ⟨Nat.le_of_ble_eq_true rfl, Nat.le_of_ble_eq_true rfl⟩ ⟨rfl, rfl⟩ (fun r2 m2 h2 => ?_)
  obtain ⟨rfl, rfl⟩ := h2
  refine z_icmp_eqS X dL_law_547 1111 (by decide) ?_
  exact kk _ _ hm hq ho
theorem law_10 (X : zOK E cL_law RL 4 ret room_1) (hX : zScr E b0 L xs) (hL : L ≤ 3072) (hA : zmilA A b) (hB : zmodA A (b + 149)) (hm : zCR b m σ) (hq : zMR (b + 149) m σ) (ho : zStok σ) (hi : i + 6 ≤ L) (kk : ∀ m1 σ1, zCR b m1 σ1 → zMR (b + 149) m1 σ1 → zStok σ1 → zW E (166, 80481) A m1 1111 [some (vr b0), some (vr b), some (vr (b + 149)), some (vi (i : Int))] []) : zW E (166, 80481) A m 552 [some (vr b0), some (vr b), some (vr (b + 149)), some (vi (i : Int))] [] := by
  refine z_aload_n X dL_law_552 rfl ?_
  refine z_aload_n X dL_law_553 rfl ?_
  refine z_iload_n X dL_law_554 rfl ?_
  refine z_iconst X dL_law_555 ?_
  refine z_iadd X dL_law_556 ?_
  refine z_sld X hX (i + 1) dL_law_557 (by omega) (by omega) (by omega) ?_
  refine z_aload_n X dL_law_558 rfl ?_
  refine z_iload_n X dL_law_559 rfl ?_
  refine z_iconst X dL_law_560 ?_
  refine z_iadd X dL_law_561 ?_
  refine z_sld X hX (i + 2) dL_law_562 (by omega) (by omega) (by omega) ?_
  refine z_callVi X (As := [_, _]) dL_law_563 m_X7_sign i_X7_sign l_L_58 (c_X7_sign (zg E) hA hm (zx_32 xs (i + 1)) (zx_32 xs (i + 2))) hA.1.1 rfl rfl rfl (Nat.le_of_ble_eq_true rfl) ⟨Nat.le_of_ble_eq_true rfl, Nat.le_of_ble_eq_true rfl⟩ ⟨Nat.le_of_ble_eq_true rfl, Nat.le_of_ble_eq_true rfl⟩ ⟨rfl, rfl⟩ (fun r1 m1 h1 => ?_)
  obtain ⟨rfl, rfl⟩ := h1
  refine z_aload_n X dL_law_566 rfl ?_
  refine z_aload_n X dL_law_567 rfl ?_
  refine z_iload_n X dL_law_568 rfl ?_
  refine z_iconst X dL_law_569 ?_
  refine z_iadd X dL_law_570 ?_
  refine z_sld X hX (i + 1) dL_law_571 (by omega) (by omega) (by omega) ?_
  refine z_aload_n X dL_law_572 rfl ?_
  refine z_iload_n X dL_law_573 rfl ?_
  refine z_iconst X dL_law_574 ?_
  refine z_iadd X dL_law_575 ?_
  refine z_sld X hX (i + 2) dL_law_576 (by omega) (by omega) (by omega) ?_
  refine z_callVi X (As := [_, _]) dL_law_577 m_X8_sign i_X8_sign l_L_61 (c_X8_sign (zg E) hB hq ho (zx_32 xs (i + 1)) (zx_32 xs (i + 2))) hB.1.1 rfl rfl rfl (Nat.le_of_ble_eq_true rfl) ⟨Nat.le_of_ble_eq_true rfl, Nat.le_of_ble_eq_true rfl⟩ ⟨Nat.le_of_ble_eq_true rfl, Nat.le_of_ble_eq_true rfl⟩ ⟨rfl, rfl⟩ (fun r2 m2 h2 => ?_)
  obtain ⟨rfl, rfl⟩ := h2
  refine z_icmp_eqS X dL_law_580 1111 (by decide) ?_
  exact kk _ _ hm hq ho
theorem law_11 (X : zOK E cL_law RL 4 ret room_1) (hX : zScr E b0 L xs) (hL : L ≤ 3072) (hA : zmilA A b) (hB : zmodA A (b + 149)) (hm : zCR b m σ) (hq : zMR (b + 149) m σ) (ho : zStok σ) (hi : i + 6 ≤ L) (kk : ∀ m1 σ1, zCR b m1 σ1 → zMR (b + 149) m1 σ1 → zStok σ1 → zW E (166, 80481) A m1 1111 [some (vr b0), some (vr b), some (vr (b + 149)), some (vi (i : Int))] []) : zW E (166, 80481) A m 585 [some (vr b0), some (vr b), some (vr (b + 149)), some (vi (i : Int))] [] := by
  refine z_aload_n X dL_law_585 rfl ?_
  refine z_aload_n X dL_law_586 rfl ?_
  refine z_iload_n X dL_law_587 rfl ?_
  refine z_iconst X dL_law_588 ?_
  refine z_iadd X dL_law_589 ?_
  refine z_sld X hX (i + 1) dL_law_590 (by omega) (by omega) (by omega) ?_
  refine z_aload_n X dL_law_591 rfl ?_
  refine z_iload_n X dL_law_592 rfl ?_
  refine z_iconst X dL_law_593 ?_
  refine z_iadd X dL_law_594 ?_
  refine z_sld X hX (i + 2) dL_law_595 (by omega) (by omega) (by omega) ?_
  refine z_aload_n X dL_law_596 rfl ?_
  refine z_iload_n X dL_law_597 rfl ?_
  refine z_iconst X dL_law_598 ?_
  refine z_iadd X dL_law_599 ?_
  refine z_sld X hX (i + 3) dL_law_600 (by omega) (by omega) (by omega) ?_
  refine z_callVi X (As := [_, _, _]) dL_law_601 m_X7_rest i_X7_rest l_L_62 (c_X7_rest (zg E) hA hm (zx_32 xs (i + 1)) (zx_32 xs (i + 2)) (zx_32 xs (i + 3))) hA.1.1 rfl rfl rfl (Nat.le_of_ble_eq_true rfl) ⟨Nat.le_of_ble_eq_true rfl, Nat.le_of_ble_eq_true rfl⟩ ⟨Nat.le_of_ble_eq_true rfl, Nat.le_of_ble_eq_true rfl⟩ ⟨rfl, rfl⟩ (fun r1 m1 h1 => ?_)
  obtain ⟨rfl, rfl⟩ := h1
  refine z_aload_n X dL_law_604 rfl ?_
  refine z_aload_n X dL_law_605 rfl ?_
  refine z_iload_n X dL_law_606 rfl ?_
  refine z_iconst X dL_law_607 ?_
  refine z_iadd X dL_law_608 ?_
  refine z_sld X hX (i + 1) dL_law_609 (by omega) (by omega) (by omega) ?_
  refine z_aload_n X dL_law_610 rfl ?_
  refine z_iload_n X dL_law_611 rfl ?_
  refine z_iconst X dL_law_612 ?_
  refine z_iadd X dL_law_613 ?_
  refine z_sld X hX (i + 2) dL_law_614 (by omega) (by omega) (by omega) ?_
  refine z_aload_n X dL_law_615 rfl ?_
  refine z_iload_n X dL_law_616 rfl ?_
  refine z_iconst X dL_law_617 ?_
  refine z_iadd X dL_law_618 ?_
  refine z_sld X hX (i + 3) dL_law_619 (by omega) (by omega) (by omega) ?_
  refine z_callVi X (As := [_, _, _]) dL_law_620 m_X8_rest i_X8_rest l_L_65 (c_X8_rest (zg E) hB hq ho (zx_32 xs (i + 1)) (zx_32 xs (i + 2)) (zx_32 xs (i + 3))) hB.1.1 rfl rfl rfl (Nat.le_of_ble_eq_true rfl) ⟨Nat.le_of_ble_eq_true rfl, Nat.le_of_ble_eq_true rfl⟩ ⟨Nat.le_of_ble_eq_true rfl, Nat.le_of_ble_eq_true rfl⟩ ⟨rfl, rfl⟩ (fun r2 m2 h2 => ?_)
  obtain ⟨rfl, rfl⟩ := h2
  refine z_icmp_eqS X dL_law_623 1111 (by decide) ?_
  exact kk _ _ hm hq ho
theorem law_12 (X : zOK E cL_law RL 4 ret room_1) (hX : zScr E b0 L xs) (hL : L ≤ 3072) (hA : zmilA A b) (hB : zmodA A (b + 149)) (hm : zCR b m σ) (hq : zMR (b + 149) m σ) (ho : zStok σ) (hi : i + 6 ≤ L) (kk : ∀ m1 σ1, zCR b m1 σ1 → zMR (b + 149) m1 σ1 → zStok σ1 → zW E (166, 80481) A m1 1111 [some (vr b0), some (vr b), some (vr (b + 149)), some (vi (i : Int))] []) : zW E (166, 80481) A m 628 [some (vr b0), some (vr b), some (vr (b + 149)), some (vi (i : Int))] [] := by
  refine z_aload_n X dL_law_628 rfl ?_
  refine z_aload_n X dL_law_629 rfl ?_
  refine z_iload_n X dL_law_630 rfl ?_
  refine z_iconst X dL_law_631 ?_
  refine z_iadd X dL_law_632 ?_
  refine z_sld X hX (i + 1) dL_law_633 (by omega) (by omega) (by omega) ?_
  refine z_aload_n X dL_law_634 rfl ?_
  refine z_iload_n X dL_law_635 rfl ?_
  refine z_iconst X dL_law_636 ?_
  refine z_iadd X dL_law_637 ?_
  refine z_sld X hX (i + 2) dL_law_638 (by omega) (by omega) (by omega) ?_
  refine z_aload_n X dL_law_639 rfl ?_
  refine z_iload_n X dL_law_640 rfl ?_
  refine z_iconst X dL_law_641 ?_
  refine z_iadd X dL_law_642 ?_
  refine z_sld X hX (i + 3) dL_law_643 (by omega) (by omega) (by omega) ?_
  refine z_callVi X (As := [_, _, _]) dL_law_644 m_X7_word i_X7_word l_L_66 (c_X7_word (zg E) hA hm (zx_32 xs (i + 1)) (zx_32 xs (i + 2)) (zx_32 xs (i + 3))) hA.1.1 rfl rfl rfl (Nat.le_of_ble_eq_true rfl) ⟨Nat.le_of_ble_eq_true rfl, Nat.le_of_ble_eq_true rfl⟩ ⟨Nat.le_of_ble_eq_true rfl, Nat.le_of_ble_eq_true rfl⟩ ⟨rfl, rfl⟩ (fun r1 m1 h1 => ?_)
  obtain ⟨rfl, rfl⟩ := h1
  refine z_aload_n X dL_law_647 rfl ?_
  refine z_aload_n X dL_law_648 rfl ?_
  refine z_iload_n X dL_law_649 rfl ?_
  refine z_iconst X dL_law_650 ?_
  refine z_iadd X dL_law_651 ?_
  refine z_sld X hX (i + 1) dL_law_652 (by omega) (by omega) (by omega) ?_
  refine z_aload_n X dL_law_653 rfl ?_
  refine z_iload_n X dL_law_654 rfl ?_
  refine z_iconst X dL_law_655 ?_
  refine z_iadd X dL_law_656 ?_
  refine z_sld X hX (i + 2) dL_law_657 (by omega) (by omega) (by omega) ?_
  refine z_aload_n X dL_law_658 rfl ?_
  refine z_iload_n X dL_law_659 rfl ?_
  refine z_iconst X dL_law_660 ?_
  refine z_iadd X dL_law_661 ?_
  refine z_sld X hX (i + 3) dL_law_662 (by omega) (by omega) (by omega) ?_
  refine z_callVi X (As := [_, _, _]) dL_law_663 m_X8_word i_X8_word l_L_69 (c_X8_word (zg E) hB hq ho (zx_32 xs (i + 1)) (zx_32 xs (i + 2)) (zx_32 xs (i + 3))) hB.1.1 rfl rfl rfl (Nat.le_of_ble_eq_true rfl) ⟨Nat.le_of_ble_eq_true rfl, Nat.le_of_ble_eq_true rfl⟩ ⟨Nat.le_of_ble_eq_true rfl, Nat.le_of_ble_eq_true rfl⟩ ⟨rfl, rfl⟩ (fun r2 m2 h2 => ?_)
  obtain ⟨rfl, rfl⟩ := h2
  refine z_icmp_eqS X dL_law_666 1111 (by decide) ?_
  exact kk _ _ hm hq ho
theorem law_13 (X : zOK E cL_law RL 4 ret room_1) (hX : zScr E b0 L xs) (hL : L ≤ 3072) (hA : zmilA A b) (hB : zmodA A (b + 149)) (hm : zCR b m σ) (hq : zMR (b + 149) m σ) (ho : zStok σ) (hi : i + 6 ≤ L) (kk : ∀ m1 σ1, zCR b m1 σ1 → zMR (b + 149) m1 σ1 → zStok σ1 → zW E (166, 80481) A m1 1111 [some (vr b0), some (vr b), some (vr (b + 149)), some (vi (i : Int))] []) : zW E (166, 80481) A m 671 [some (vr b0), some (vr b), some (vr (b + 149)), some (vi (i : Int))] [] := by
  refine z_aload_n X dL_law_671 rfl ?_
  refine z_aload_n X dL_law_672 rfl ?_
  refine z_iload_n X dL_law_673 rfl ?_
  refine z_iconst X dL_law_674 ?_
  refine z_iadd X dL_law_675 ?_
  refine z_sld X hX (i + 1) dL_law_676 (by omega) (by omega) (by omega) ?_
  refine z_aload_n X dL_law_677 rfl ?_
  refine z_iload_n X dL_law_678 rfl ?_
  refine z_iconst X dL_law_679 ?_
  refine z_iadd X dL_law_680 ?_
  refine z_sld X hX (i + 2) dL_law_681 (by omega) (by omega) (by omega) ?_
  refine z_callVi X (As := [_, _]) dL_law_682 m_X7_same i_X7_same l_L_70 (c_X7_same (zg E) hA hm (zx_32 xs (i + 1)) (zx_32 xs (i + 2))) hA.1.1 rfl rfl rfl (Nat.le_of_ble_eq_true rfl) ⟨Nat.le_of_ble_eq_true rfl, Nat.le_of_ble_eq_true rfl⟩ ⟨Nat.le_of_ble_eq_true rfl, Nat.le_of_ble_eq_true rfl⟩ ⟨rfl, rfl⟩ (fun r1 m1 h1 => ?_)
  obtain ⟨rfl, rfl⟩ := h1
  refine z_aload_n X dL_law_685 rfl ?_
  refine z_aload_n X dL_law_686 rfl ?_
  refine z_iload_n X dL_law_687 rfl ?_
  refine z_iconst X dL_law_688 ?_
  refine z_iadd X dL_law_689 ?_
  refine z_sld X hX (i + 1) dL_law_690 (by omega) (by omega) (by omega) ?_
  refine z_aload_n X dL_law_691 rfl ?_
  refine z_iload_n X dL_law_692 rfl ?_
  refine z_iconst X dL_law_693 ?_
  refine z_iadd X dL_law_694 ?_
  refine z_sld X hX (i + 2) dL_law_695 (by omega) (by omega) (by omega) ?_
  refine z_callVi X (As := [_, _]) dL_law_696 m_X8_same i_X8_same l_L_73 (c_X8_same (zg E) hB hq ho (zx_32 xs (i + 1)) (zx_32 xs (i + 2))) hB.1.1 rfl rfl rfl (Nat.le_of_ble_eq_true rfl) ⟨Nat.le_of_ble_eq_true rfl, Nat.le_of_ble_eq_true rfl⟩ ⟨Nat.le_of_ble_eq_true rfl, Nat.le_of_ble_eq_true rfl⟩ ⟨rfl, rfl⟩ (fun r2 m2 h2 => ?_)
  obtain ⟨rfl, rfl⟩ := h2
  refine z_icmp_eqS X dL_law_699 1111 (by decide) ?_
  exact kk _ _ hm hq ho
theorem law_14 (X : zOK E cL_law RL 4 ret room_1) (hX : zScr E b0 L xs) (hL : L ≤ 3072) (hA : zmilA A b) (hB : zmodA A (b + 149)) (hm : zCR b m σ) (hq : zMR (b + 149) m σ) (ho : zStok σ) (hi : i + 6 ≤ L) (kk : ∀ m1 σ1, zCR b m1 σ1 → zMR (b + 149) m1 σ1 → zStok σ1 → zW E (166, 80481) A m1 1111 [some (vr b0), some (vr b), some (vr (b + 149)), some (vi (i : Int))] []) : zW E (166, 80481) A m 704 [some (vr b0), some (vr b), some (vr (b + 149)), some (vi (i : Int))] [] := by
  refine z_aload_n X dL_law_704 rfl ?_
  refine z_aload_n X dL_law_705 rfl ?_
  refine z_iload_n X dL_law_706 rfl ?_
  refine z_iconst X dL_law_707 ?_
  refine z_iadd X dL_law_708 ?_
  refine z_sld X hX (i + 1) dL_law_709 (by omega) (by omega) (by omega) ?_
  refine z_aload_n X dL_law_710 rfl ?_
  refine z_iload_n X dL_law_711 rfl ?_
  refine z_iconst X dL_law_712 ?_
  refine z_iadd X dL_law_713 ?_
  refine z_sld X hX (i + 2) dL_law_714 (by omega) (by omega) (by omega) ?_
  refine z_aload_n X dL_law_715 rfl ?_
  refine z_iload_n X dL_law_716 rfl ?_
  refine z_iconst X dL_law_717 ?_
  refine z_iadd X dL_law_718 ?_
  refine z_sld X hX (i + 3) dL_law_719 (by omega) (by omega) (by omega) ?_
  refine z_aload_n X dL_law_720 rfl ?_
  refine z_iload_n X dL_law_721 rfl ?_
  refine z_iconst X dL_law_722 ?_
  refine z_iadd X dL_law_723 ?_
  refine z_sld X hX (i + 4) dL_law_724 (by omega) (by omega) (by omega) ?_
  refine z_callVi X (As := [_, _, _, _]) dL_law_725 m_X7_part i_X7_part l_L_74 (c_X7_part (zg E) hA hm ho (zx_32 xs (i + 1)) (zx_32 xs (i + 2)) (zx_32 xs (i + 3)) (zx_32 xs (i + 4))) hA.1.1 rfl rfl rfl (Nat.le_of_ble_eq_true rfl) ⟨Nat.le_of_ble_eq_true rfl, Nat.le_of_ble_eq_true rfl⟩ ⟨Nat.le_of_ble_eq_true rfl, Nat.le_of_ble_eq_true rfl⟩ ⟨rfl, rfl⟩ (fun r1 m1 h1 => ?_)
  obtain ⟨hc1, hf1, rfl⟩ := h1
  have hq := hq.mo hf1
  refine z_aload_n X dL_law_728 rfl ?_
  refine z_aload_n X dL_law_729 rfl ?_
  refine z_iload_n X dL_law_730 rfl ?_
  refine z_iconst X dL_law_731 ?_
  refine z_iadd X dL_law_732 ?_
  refine z_sld X hX (i + 1) dL_law_733 (by omega) (by omega) (by omega) ?_
  refine z_aload_n X dL_law_734 rfl ?_
  refine z_iload_n X dL_law_735 rfl ?_
  refine z_iconst X dL_law_736 ?_
  refine z_iadd X dL_law_737 ?_
  refine z_sld X hX (i + 2) dL_law_738 (by omega) (by omega) (by omega) ?_
  refine z_aload_n X dL_law_739 rfl ?_
  refine z_iload_n X dL_law_740 rfl ?_
  refine z_iconst X dL_law_741 ?_
  refine z_iadd X dL_law_742 ?_
  refine z_sld X hX (i + 3) dL_law_743 (by omega) (by omega) (by omega) ?_
  refine z_aload_n X dL_law_744 rfl ?_
  refine z_iload_n X dL_law_745 rfl ?_
  refine z_iconst X dL_law_746 ?_
  refine z_iadd X dL_law_747 ?_
  refine z_sld X hX (i + 4) dL_law_748 (by omega) (by omega) (by omega) ?_
  refine z_callVi X (As := [_, _, _, _]) dL_law_749 m_X8_part i_X8_part l_L_77 (c_X8_part (zg E) hB hq ho (zx_32 xs (i + 1)) (zx_32 xs (i + 2)) (zx_32 xs (i + 3)) (zx_32 xs (i + 4))) hB.1.1 rfl rfl rfl (Nat.le_of_ble_eq_true rfl) ⟨Nat.le_of_ble_eq_true rfl, Nat.le_of_ble_eq_true rfl⟩ ⟨Nat.le_of_ble_eq_true rfl, Nat.le_of_ble_eq_true rfl⟩ ⟨rfl, rfl⟩ (fun r2 m2 h2 => ?_)
  obtain ⟨hc2, hf2, rfl⟩ := h2
  refine z_icmp_eqS X dL_law_752 1111 (by decide) ?_
  exact kk _ _ (hc1.mm hf2) hc2 (zStok_part ho _ _ _ _)
theorem law_15 (X : zOK E cL_law RL 4 ret room_1) (hX : zScr E b0 L xs) (hL : L ≤ 3072) (hA : zmilA A b) (hB : zmodA A (b + 149)) (hm : zCR b m σ) (hq : zMR (b + 149) m σ) (ho : zStok σ) (hi : i + 6 ≤ L) (kk : ∀ m1 σ1, zCR b m1 σ1 → zMR (b + 149) m1 σ1 → zStok σ1 → zW E (166, 80481) A m1 1111 [some (vr b0), some (vr b), some (vr (b + 149)), some (vi (i : Int))] []) : zW E (166, 80481) A m 757 [some (vr b0), some (vr b), some (vr (b + 149)), some (vi (i : Int))] [] := by
  refine z_aload_n X dL_law_757 rfl ?_
  refine z_aload_n X dL_law_758 rfl ?_
  refine z_iload_n X dL_law_759 rfl ?_
  refine z_iconst X dL_law_760 ?_
  refine z_iadd X dL_law_761 ?_
  refine z_sld X hX (i + 1) dL_law_762 (by omega) (by omega) (by omega) ?_
  refine z_callVi X (As := [_]) dL_law_763 m_X7_clear i_X7_clear l_L_78 (c_X7_clear (zg E) hA hm ho (zx_32 xs (i + 1))) hA.1.1 rfl rfl rfl (Nat.le_of_ble_eq_true rfl) ⟨Nat.le_of_ble_eq_true rfl, Nat.le_of_ble_eq_true rfl⟩ ⟨Nat.le_of_ble_eq_true rfl, Nat.le_of_ble_eq_true rfl⟩ ⟨rfl, rfl⟩ (fun r1 m1 h1 => ?_)
  obtain ⟨hc1, hf1, rfl⟩ := h1
  have hq := hq.mo hf1
  refine z_aload_n X dL_law_766 rfl ?_
  refine z_aload_n X dL_law_767 rfl ?_
  refine z_iload_n X dL_law_768 rfl ?_
  refine z_iconst X dL_law_769 ?_
  refine z_iadd X dL_law_770 ?_
  refine z_sld X hX (i + 1) dL_law_771 (by omega) (by omega) (by omega) ?_
  refine z_callVi X (As := [_]) dL_law_772 m_X8_clear i_X8_clear l_L_81 (c_X8_clear (zg E) hB hq ho (zx_32 xs (i + 1))) hB.1.1 rfl rfl rfl (Nat.le_of_ble_eq_true rfl) ⟨Nat.le_of_ble_eq_true rfl, Nat.le_of_ble_eq_true rfl⟩ ⟨Nat.le_of_ble_eq_true rfl, Nat.le_of_ble_eq_true rfl⟩ ⟨rfl, rfl⟩ (fun r2 m2 h2 => ?_)
  obtain ⟨hc2, hf2, rfl⟩ := h2
  refine z_icmp_eqS X dL_law_775 1111 (by decide) ?_
  exact kk _ _ (hc1.mm hf2) hc2 (zStok_clear ho _)
theorem law_16 (X : zOK E cL_law RL 4 ret room_1) (hX : zScr E b0 L xs) (hL : L ≤ 3072) (hA : zmilA A b) (hB : zmodA A (b + 149)) (hm : zCR b m σ) (hq : zMR (b + 149) m σ) (ho : zStok σ) (hi : i + 6 ≤ L) (kk : ∀ m1 σ1, zCR b m1 σ1 → zMR (b + 149) m1 σ1 → zStok σ1 → zW E (166, 80481) A m1 1111 [some (vr b0), some (vr b), some (vr (b + 149)), some (vi (i : Int))] []) : zW E (166, 80481) A m 780 [some (vr b0), some (vr b), some (vr (b + 149)), some (vi (i : Int))] [] := by
  refine z_aload_n X dL_law_780 rfl ?_
  refine z_aload_n X dL_law_781 rfl ?_
  refine z_iload_n X dL_law_782 rfl ?_
  refine z_iconst X dL_law_783 ?_
  refine z_iadd X dL_law_784 ?_
  refine z_sld X hX (i + 1) dL_law_785 (by omega) (by omega) (by omega) ?_
  refine z_aload_n X dL_law_786 rfl ?_
  refine z_iload_n X dL_law_787 rfl ?_
  refine z_iconst X dL_law_788 ?_
  refine z_iadd X dL_law_789 ?_
  refine z_sld X hX (i + 2) dL_law_790 (by omega) (by omega) (by omega) ?_
  refine z_aload_n X dL_law_791 rfl ?_
  refine z_iload_n X dL_law_792 rfl ?_
  refine z_iconst X dL_law_793 ?_
  refine z_iadd X dL_law_794 ?_
  refine z_sld X hX (i + 3) dL_law_795 (by omega) (by omega) (by omega) ?_
  refine z_callVi X (As := [_, _, _]) dL_law_796 m_X7_told i_X7_told l_L_82 (c_X7_told (zg E) hA hm ho (zx_32 xs (i + 1)) (zx_32 xs (i + 2)) (zx_32 xs (i + 3))) hA.1.1 rfl rfl rfl (Nat.le_of_ble_eq_true rfl) ⟨Nat.le_of_ble_eq_true rfl, Nat.le_of_ble_eq_true rfl⟩ ⟨Nat.le_of_ble_eq_true rfl, Nat.le_of_ble_eq_true rfl⟩ ⟨rfl, rfl⟩ (fun r1 m1 h1 => ?_)
  obtain ⟨rfl, rfl⟩ := h1
  refine z_aload_n X dL_law_799 rfl ?_
  refine z_aload_n X dL_law_800 rfl ?_
  refine z_iload_n X dL_law_801 rfl ?_
  refine z_iconst X dL_law_802 ?_
  refine z_iadd X dL_law_803 ?_
  refine z_sld X hX (i + 1) dL_law_804 (by omega) (by omega) (by omega) ?_
  refine z_aload_n X dL_law_805 rfl ?_
  refine z_iload_n X dL_law_806 rfl ?_
  refine z_iconst X dL_law_807 ?_
  refine z_iadd X dL_law_808 ?_
  refine z_sld X hX (i + 2) dL_law_809 (by omega) (by omega) (by omega) ?_
  refine z_aload_n X dL_law_810 rfl ?_
  refine z_iload_n X dL_law_811 rfl ?_
  refine z_iconst X dL_law_812 ?_
  refine z_iadd X dL_law_813 ?_
  refine z_sld X hX (i + 3) dL_law_814 (by omega) (by omega) (by omega) ?_
  refine z_callVi X (As := [_, _, _]) dL_law_815 m_X8_told i_X8_told l_L_85 (c_X8_told (zg E) hB hq ho (zx_32 xs (i + 1)) (zx_32 xs (i + 2)) (zx_32 xs (i + 3))) hB.1.1 rfl rfl rfl (Nat.le_of_ble_eq_true rfl) ⟨Nat.le_of_ble_eq_true rfl, Nat.le_of_ble_eq_true rfl⟩ ⟨Nat.le_of_ble_eq_true rfl, Nat.le_of_ble_eq_true rfl⟩ ⟨rfl, rfl⟩ (fun r2 m2 h2 => ?_)
  obtain ⟨rfl, rfl⟩ := h2
  refine z_icmp_eqS X dL_law_818 1111 (by decide) ?_
  exact kk _ _ hm hq ho
theorem law_17 (X : zOK E cL_law RL 4 ret room_1) (hX : zScr E b0 L xs) (hL : L ≤ 3072) (hA : zmilA A b) (hB : zmodA A (b + 149)) (hm : zCR b m σ) (hq : zMR (b + 149) m σ) (ho : zStok σ) (hi : i + 6 ≤ L) (kk : ∀ m1 σ1, zCR b m1 σ1 → zMR (b + 149) m1 σ1 → zStok σ1 → zW E (166, 80481) A m1 1111 [some (vr b0), some (vr b), some (vr (b + 149)), some (vi (i : Int))] []) : zW E (166, 80481) A m 823 [some (vr b0), some (vr b), some (vr (b + 149)), some (vi (i : Int))] [] := by
  refine z_aload_n X dL_law_823 rfl ?_
  refine z_aload_n X dL_law_824 rfl ?_
  refine z_iload_n X dL_law_825 rfl ?_
  refine z_iconst X dL_law_826 ?_
  refine z_iadd X dL_law_827 ?_
  refine z_sld X hX (i + 1) dL_law_828 (by omega) (by omega) (by omega) ?_
  refine z_aload_n X dL_law_829 rfl ?_
  refine z_iload_n X dL_law_830 rfl ?_
  refine z_iconst X dL_law_831 ?_
  refine z_iadd X dL_law_832 ?_
  refine z_sld X hX (i + 2) dL_law_833 (by omega) (by omega) (by omega) ?_
  refine z_aload_n X dL_law_834 rfl ?_
  refine z_iload_n X dL_law_835 rfl ?_
  refine z_iconst X dL_law_836 ?_
  refine z_iadd X dL_law_837 ?_
  refine z_sld X hX (i + 3) dL_law_838 (by omega) (by omega) (by omega) ?_
  refine z_aload_n X dL_law_839 rfl ?_
  refine z_iload_n X dL_law_840 rfl ?_
  refine z_iconst X dL_law_841 ?_
  refine z_iadd X dL_law_842 ?_
  refine z_sld X hX (i + 4) dL_law_843 (by omega) (by omega) (by omega) ?_
  refine z_callVi X (As := [_, _, _, _]) dL_law_844 m_X7_figures i_X7_figures l_L_86 (c_X7_figures (zg E) hA hm ho (zx_32 xs (i + 1)) (zx_32 xs (i + 2)) (zx_32 xs (i + 3)) (zx_32 xs (i + 4))) hA.1.1 rfl rfl rfl (Nat.le_of_ble_eq_true rfl) ⟨Nat.le_of_ble_eq_true rfl, Nat.le_of_ble_eq_true rfl⟩ ⟨Nat.le_of_ble_eq_true rfl, Nat.le_of_ble_eq_true rfl⟩ ⟨rfl, rfl⟩ (fun r1 m1 h1 => ?_)
  obtain ⟨hc1, hf1, rfl⟩ := h1
  have hq := hq.mo hf1
  refine z_aload_n X dL_law_847 rfl ?_
  refine z_aload_n X dL_law_848 rfl ?_
  refine z_iload_n X dL_law_849 rfl ?_
  refine z_iconst X dL_law_850 ?_
  refine z_iadd X dL_law_851 ?_
  refine z_sld X hX (i + 1) dL_law_852 (by omega) (by omega) (by omega) ?_
  refine z_aload_n X dL_law_853 rfl ?_
  refine z_iload_n X dL_law_854 rfl ?_
  refine z_iconst X dL_law_855 ?_
  refine z_iadd X dL_law_856 ?_
  refine z_sld X hX (i + 2) dL_law_857 (by omega) (by omega) (by omega) ?_
  refine z_aload_n X dL_law_858 rfl ?_
  refine z_iload_n X dL_law_859 rfl ?_
  refine z_iconst X dL_law_860 ?_
  refine z_iadd X dL_law_861 ?_
  refine z_sld X hX (i + 3) dL_law_862 (by omega) (by omega) (by omega) ?_
  refine z_aload_n X dL_law_863 rfl ?_
  refine z_iload_n X dL_law_864 rfl ?_
  refine z_iconst X dL_law_865 ?_
  refine z_iadd X dL_law_866 ?_
  refine z_sld X hX (i + 4) dL_law_867 (by omega) (by omega) (by omega) ?_
  refine z_callVi X (As := [_, _, _, _]) dL_law_868 m_X8_figures i_X8_figures l_L_89 (c_X8_figures (zg E) hB hq ho (zx_32 xs (i + 1)) (zx_32 xs (i + 2)) (zx_32 xs (i + 3)) (zx_32 xs (i + 4))) hB.1.1 rfl rfl rfl (Nat.le_of_ble_eq_true rfl) ⟨Nat.le_of_ble_eq_true rfl, Nat.le_of_ble_eq_true rfl⟩ ⟨Nat.le_of_ble_eq_true rfl, Nat.le_of_ble_eq_true rfl⟩ ⟨rfl, rfl⟩ (fun r2 m2 h2 => ?_)
  obtain ⟨hc2, hf2, rfl⟩ := h2
  refine z_icmp_eqS X dL_law_871 1111 (by decide) ?_
  exact kk _ _ (hc1.mm hf2) hc2 (zStok_figures ho _ _ _ _)
theorem law_18 (X : zOK E cL_law RL 4 ret room_1) (hX : zScr E b0 L xs) (hL : L ≤ 3072) (hA : zmilA A b) (hB : zmodA A (b + 149)) (hm : zCR b m σ) (hq : zMR (b + 149) m σ) (ho : zStok σ) (hi : i + 6 ≤ L) (kk : ∀ m1 σ1, zCR b m1 σ1 → zMR (b + 149) m1 σ1 → zStok σ1 → zW E (166, 80481) A m1 1111 [some (vr b0), some (vr b), some (vr (b + 149)), some (vi (i : Int))] []) : zW E (166, 80481) A m 876 [some (vr b0), some (vr b), some (vr (b + 149)), some (vi (i : Int))] [] := by
  refine z_aload_n X dL_law_876 rfl ?_
  refine z_aload_n X dL_law_877 rfl ?_
  refine z_iload_n X dL_law_878 rfl ?_
  refine z_iconst X dL_law_879 ?_
  refine z_iadd X dL_law_880 ?_
  refine z_sld X hX (i + 1) dL_law_881 (by omega) (by omega) (by omega) ?_
  refine z_aload_n X dL_law_882 rfl ?_
  refine z_iload_n X dL_law_883 rfl ?_
  refine z_iconst X dL_law_884 ?_
  refine z_iadd X dL_law_885 ?_
  refine z_sld X hX (i + 2) dL_law_886 (by omega) (by omega) (by omega) ?_
  refine z_aload_n X dL_law_887 rfl ?_
  refine z_iload_n X dL_law_888 rfl ?_
  refine z_iconst X dL_law_889 ?_
  refine z_iadd X dL_law_890 ?_
  refine z_sld X hX (i + 3) dL_law_891 (by omega) (by omega) (by omega) ?_
  refine z_callVi X (As := [_, _, _]) dL_law_892 m_X7_need i_X7_need l_L_90 (c_X7_need (zg E) hA hm ho (zx_32 xs (i + 1)) (zx_32 xs (i + 2)) (zx_32 xs (i + 3))) hA.1.1 rfl rfl rfl (Nat.le_of_ble_eq_true rfl) ⟨Nat.le_of_ble_eq_true rfl, Nat.le_of_ble_eq_true rfl⟩ ⟨Nat.le_of_ble_eq_true rfl, Nat.le_of_ble_eq_true rfl⟩ ⟨rfl, rfl⟩ (fun r1 m1 h1 => ?_)
  obtain ⟨hc1, hf1, rfl⟩ := h1
  have hq := hq.mo hf1
  refine z_aload_n X dL_law_895 rfl ?_
  refine z_aload_n X dL_law_896 rfl ?_
  refine z_iload_n X dL_law_897 rfl ?_
  refine z_iconst X dL_law_898 ?_
  refine z_iadd X dL_law_899 ?_
  refine z_sld X hX (i + 1) dL_law_900 (by omega) (by omega) (by omega) ?_
  refine z_aload_n X dL_law_901 rfl ?_
  refine z_iload_n X dL_law_902 rfl ?_
  refine z_iconst X dL_law_903 ?_
  refine z_iadd X dL_law_904 ?_
  refine z_sld X hX (i + 2) dL_law_905 (by omega) (by omega) (by omega) ?_
  refine z_aload_n X dL_law_906 rfl ?_
  refine z_iload_n X dL_law_907 rfl ?_
  refine z_iconst X dL_law_908 ?_
  refine z_iadd X dL_law_909 ?_
  refine z_sld X hX (i + 3) dL_law_910 (by omega) (by omega) (by omega) ?_
  refine z_callVi X (As := [_, _, _]) dL_law_911 m_X8_need i_X8_need l_L_93 (c_X8_need (zg E) hB hq ho (zx_32 xs (i + 1)) (zx_32 xs (i + 2)) (zx_32 xs (i + 3))) hB.1.1 rfl rfl rfl (Nat.le_of_ble_eq_true rfl) ⟨Nat.le_of_ble_eq_true rfl, Nat.le_of_ble_eq_true rfl⟩ ⟨Nat.le_of_ble_eq_true rfl, Nat.le_of_ble_eq_true rfl⟩ ⟨rfl, rfl⟩ (fun r2 m2 h2 => ?_)
  obtain ⟨hc2, hf2, rfl⟩ := h2
  refine z_icmp_eqS X dL_law_914 1111 (by decide) ?_
  exact kk _ _ (hc1.mm hf2) hc2 ho
theorem law_19 (X : zOK E cL_law RL 4 ret room_1) (hX : zScr E b0 L xs) (hL : L ≤ 3072) (hA : zmilA A b) (hB : zmodA A (b + 149)) (hm : zCR b m σ) (hq : zMR (b + 149) m σ) (ho : zStok σ) (hi : i + 6 ≤ L) (kk : ∀ m1 σ1, zCR b m1 σ1 → zMR (b + 149) m1 σ1 → zStok σ1 → zW E (166, 80481) A m1 1111 [some (vr b0), some (vr b), some (vr (b + 149)), some (vi (i : Int))] []) : zW E (166, 80481) A m 919 [some (vr b0), some (vr b), some (vr (b + 149)), some (vi (i : Int))] [] := by
  refine z_aload_n X dL_law_919 rfl ?_
  refine z_callVi X (As := []) dL_law_920 m_X7_signOf i_X7_signOf l_L_94 (c_X7_signOf (zg E) hA hm) hA.1.1 rfl rfl rfl (Nat.le_of_ble_eq_true rfl) ⟨Nat.le_of_ble_eq_true rfl, Nat.le_of_ble_eq_true rfl⟩ ⟨Nat.le_of_ble_eq_true rfl, Nat.le_of_ble_eq_true rfl⟩ ⟨rfl, rfl⟩ (fun r1 m1 h1 => ?_)
  obtain ⟨rfl, rfl⟩ := h1
  refine z_aload_n X dL_law_923 rfl ?_
  refine z_callVi X (As := []) dL_law_924 m_X8_signOf i_X8_signOf l_L_98 (c_X8_signOf (zg E) hB hq) hB.1.1 rfl rfl rfl (Nat.le_of_ble_eq_true rfl) ⟨Nat.le_of_ble_eq_true rfl, Nat.le_of_ble_eq_true rfl⟩ ⟨Nat.le_of_ble_eq_true rfl, Nat.le_of_ble_eq_true rfl⟩ ⟨rfl, rfl⟩ (fun r2 m2 h2 => ?_)
  obtain ⟨rfl, rfl⟩ := h2
  refine z_icmp_eqS X dL_law_927 1111 (by decide) ?_
  exact kk _ _ hm hq ho
theorem law_20 (X : zOK E cL_law RL 4 ret room_1) (hX : zScr E b0 L xs) (hL : L ≤ 3072) (hA : zmilA A b) (hB : zmodA A (b + 149)) (hm : zCR b m σ) (hq : zMR (b + 149) m σ) (ho : zStok σ) (hi : i + 6 ≤ L) (kk : ∀ m1 σ1, zCR b m1 σ1 → zMR (b + 149) m1 σ1 → zStok σ1 → zW E (166, 80481) A m1 1111 [some (vr b0), some (vr b), some (vr (b + 149)), some (vi (i : Int))] []) : zW E (166, 80481) A m 932 [some (vr b0), some (vr b), some (vr (b + 149)), some (vi (i : Int))] [] := by
  refine z_aload_n X dL_law_932 rfl ?_
  refine z_callVl X (As := []) dL_law_933 m_X7_whole i_X7_whole l_L_99 (c_X7_whole (zg E) hA hm) hA.1.1 rfl rfl rfl (Nat.le_of_ble_eq_true rfl) ⟨Nat.le_of_ble_eq_true rfl, Nat.le_of_ble_eq_true rfl⟩ ⟨Nat.le_of_ble_eq_true rfl, Nat.le_of_ble_eq_true rfl⟩ ⟨rfl, rfl⟩ (fun r1 m1 h1 => ?_)
  obtain ⟨rfl, rfl⟩ := h1
  refine z_aload_n X dL_law_936 rfl ?_
  refine z_callVl X (As := []) dL_law_937 m_X8_whole i_X8_whole l_L_103 (c_X8_whole (zg E) hB hq) hB.1.1 rfl rfl rfl (Nat.le_of_ble_eq_true rfl) ⟨Nat.le_of_ble_eq_true rfl, Nat.le_of_ble_eq_true rfl⟩ ⟨Nat.le_of_ble_eq_true rfl, Nat.le_of_ble_eq_true rfl⟩ ⟨rfl, rfl⟩ (fun r2 m2 h2 => ?_)
  obtain ⟨rfl, rfl⟩ := h2
  refine z_lcmp_eqS X dL_law_940 dL_law_941 1111 (by decide) ?_
  exact kk _ _ hm hq ho
theorem law_21 (X : zOK E cL_law RL 4 ret room_1) (hX : zScr E b0 L xs) (hL : L ≤ 3072) (hA : zmilA A b) (hB : zmodA A (b + 149)) (hm : zCR b m σ) (hq : zMR (b + 149) m σ) (ho : zStok σ) (hi : i + 6 ≤ L) (kk : ∀ m1 σ1, zCR b m1 σ1 → zMR (b + 149) m1 σ1 → zStok σ1 → zW E (166, 80481) A m1 1111 [some (vr b0), some (vr b), some (vr (b + 149)), some (vi (i : Int))] []) : zW E (166, 80481) A m 946 [some (vr b0), some (vr b), some (vr (b + 149)), some (vi (i : Int))] [] := by
  refine z_aload_n X dL_law_946 rfl ?_
  refine z_aload_n X dL_law_947 rfl ?_
  refine z_iload_n X dL_law_948 rfl ?_
  refine z_iconst X dL_law_949 ?_
  refine z_iadd X dL_law_950 ?_
  refine z_sld X hX (i + 1) dL_law_951 (by omega) (by omega) (by omega) ?_
  refine z_callVi X (As := [_]) dL_law_952 m_X7_figure i_X7_figure l_L_104 (c_X7_figure (zg E) hA hm (zx_32 xs (i + 1))) hA.1.1 rfl rfl rfl (Nat.le_of_ble_eq_true rfl) ⟨Nat.le_of_ble_eq_true rfl, Nat.le_of_ble_eq_true rfl⟩ ⟨Nat.le_of_ble_eq_true rfl, Nat.le_of_ble_eq_true rfl⟩ ⟨rfl, rfl⟩ (fun r1 m1 h1 => ?_)
  obtain ⟨rfl, rfl⟩ := h1
  refine z_aload_n X dL_law_955 rfl ?_
  refine z_aload_n X dL_law_956 rfl ?_
  refine z_iload_n X dL_law_957 rfl ?_
  refine z_iconst X dL_law_958 ?_
  refine z_iadd X dL_law_959 ?_
  refine z_sld X hX (i + 1) dL_law_960 (by omega) (by omega) (by omega) ?_
  refine z_callVi X (As := [_]) dL_law_961 m_X8_figure i_X8_figure l_L_107 (c_X8_figure (zg E) hB hq ho (zx_32 xs (i + 1))) hB.1.1 rfl rfl rfl (Nat.le_of_ble_eq_true rfl) ⟨Nat.le_of_ble_eq_true rfl, Nat.le_of_ble_eq_true rfl⟩ ⟨Nat.le_of_ble_eq_true rfl, Nat.le_of_ble_eq_true rfl⟩ ⟨rfl, rfl⟩ (fun r2 m2 h2 => ?_)
  obtain ⟨rfl, rfl⟩ := h2
  refine z_icmp_eqS X dL_law_964 1111 (by decide) ?_
  exact kk _ _ hm hq ho
theorem law_22 (X : zOK E cL_law RL 4 ret room_1) (hX : zScr E b0 L xs) (hL : L ≤ 3072) (hA : zmilA A b) (hB : zmodA A (b + 149)) (hm : zCR b m σ) (hq : zMR (b + 149) m σ) (ho : zStok σ) (hi : i + 6 ≤ L) (kk : ∀ m1 σ1, zCR b m1 σ1 → zMR (b + 149) m1 σ1 → zStok σ1 → zW E (166, 80481) A m1 1111 [some (vr b0), some (vr b), some (vr (b + 149)), some (vi (i : Int))] []) : zW E (166, 80481) A m 969 [some (vr b0), some (vr b), some (vr (b + 149)), some (vi (i : Int))] [] := by
  refine z_aload_n X dL_law_969 rfl ?_
  refine z_aload_n X dL_law_970 rfl ?_
  refine z_iload_n X dL_law_971 rfl ?_
  refine z_iconst X dL_law_972 ?_
  refine z_iadd X dL_law_973 ?_
  refine z_sld X hX (i + 1) dL_law_974 (by omega) (by omega) (by omega) ?_
  refine z_callVi X (As := [_]) dL_law_975 m_X7_count i_X7_count l_L_108 (c_X7_count (zg E) hA hm (zx_32 xs (i + 1))) hA.1.1 rfl rfl rfl (Nat.le_of_ble_eq_true rfl) ⟨Nat.le_of_ble_eq_true rfl, Nat.le_of_ble_eq_true rfl⟩ ⟨Nat.le_of_ble_eq_true rfl, Nat.le_of_ble_eq_true rfl⟩ ⟨rfl, rfl⟩ (fun r1 m1 h1 => ?_)
  obtain ⟨rfl, rfl⟩ := h1
  refine z_aload_n X dL_law_978 rfl ?_
  refine z_aload_n X dL_law_979 rfl ?_
  refine z_iload_n X dL_law_980 rfl ?_
  refine z_iconst X dL_law_981 ?_
  refine z_iadd X dL_law_982 ?_
  refine z_sld X hX (i + 1) dL_law_983 (by omega) (by omega) (by omega) ?_
  refine z_callVi X (As := [_]) dL_law_984 m_X8_count i_X8_count l_L_111 (c_X8_count (zg E) hB hq ho (zx_32 xs (i + 1))) hB.1.1 rfl rfl rfl (Nat.le_of_ble_eq_true rfl) ⟨Nat.le_of_ble_eq_true rfl, Nat.le_of_ble_eq_true rfl⟩ ⟨Nat.le_of_ble_eq_true rfl, Nat.le_of_ble_eq_true rfl⟩ ⟨rfl, rfl⟩ (fun r2 m2 h2 => ?_)
  obtain ⟨rfl, rfl⟩ := h2
  refine z_icmp_eqS X dL_law_987 1111 (by decide) ?_
  exact kk _ _ hm hq ho
theorem law_23 (X : zOK E cL_law RL 4 ret room_1) (hX : zScr E b0 L xs) (hL : L ≤ 3072) (hA : zmilA A b) (hB : zmodA A (b + 149)) (hm : zCR b m σ) (hq : zMR (b + 149) m σ) (ho : zStok σ) (hi : i + 6 ≤ L) (kk : ∀ m1 σ1, zCR b m1 σ1 → zMR (b + 149) m1 σ1 → zStok σ1 → zW E (166, 80481) A m1 1111 [some (vr b0), some (vr b), some (vr (b + 149)), some (vi (i : Int))] []) : zW E (166, 80481) A m 992 [some (vr b0), some (vr b), some (vr (b + 149)), some (vi (i : Int))] [] := by
  refine z_aload_n X dL_law_992 rfl ?_
  refine z_aload_n X dL_law_993 rfl ?_
  refine z_iload_n X dL_law_994 rfl ?_
  refine z_iconst X dL_law_995 ?_
  refine z_iadd X dL_law_996 ?_
  refine z_sld X hX (i + 1) dL_law_997 (by omega) (by omega) (by omega) ?_
  refine z_aload_n X dL_law_998 rfl ?_
  refine z_iload_n X dL_law_999 rfl ?_
  refine z_iconst X dL_law_1000 ?_
  refine z_iadd X dL_law_1001 ?_
  refine z_sld X hX (i + 2) dL_law_1002 (by omega) (by omega) (by omega) ?_
  refine z_callVi X (As := [_, _]) dL_law_1003 m_X7_where i_X7_where l_L_112 (c_X7_where (zg E) hA hm (zx_32 xs (i + 1)) (zx_32 xs (i + 2))) hA.1.1 rfl rfl rfl (Nat.le_of_ble_eq_true rfl) ⟨Nat.le_of_ble_eq_true rfl, Nat.le_of_ble_eq_true rfl⟩ ⟨Nat.le_of_ble_eq_true rfl, Nat.le_of_ble_eq_true rfl⟩ ⟨rfl, rfl⟩ (fun r1 m1 h1 => ?_)
  obtain ⟨rfl, rfl⟩ := h1
  refine z_aload_n X dL_law_1006 rfl ?_
  refine z_aload_n X dL_law_1007 rfl ?_
  refine z_iload_n X dL_law_1008 rfl ?_
  refine z_iconst X dL_law_1009 ?_
  refine z_iadd X dL_law_1010 ?_
  refine z_sld X hX (i + 1) dL_law_1011 (by omega) (by omega) (by omega) ?_
  refine z_aload_n X dL_law_1012 rfl ?_
  refine z_iload_n X dL_law_1013 rfl ?_
  refine z_iconst X dL_law_1014 ?_
  refine z_iadd X dL_law_1015 ?_
  refine z_sld X hX (i + 2) dL_law_1016 (by omega) (by omega) (by omega) ?_
  refine z_callVi X (As := [_, _]) dL_law_1017 m_X8_where i_X8_where l_L_115 (c_X8_where (zg E) hB hq ho (zx_32 xs (i + 1)) (zx_32 xs (i + 2))) hB.1.1 rfl rfl rfl (Nat.le_of_ble_eq_true rfl) ⟨Nat.le_of_ble_eq_true rfl, Nat.le_of_ble_eq_true rfl⟩ ⟨Nat.le_of_ble_eq_true rfl, Nat.le_of_ble_eq_true rfl⟩ ⟨rfl, rfl⟩ (fun r2 m2 h2 => ?_)
  obtain ⟨rfl, rfl⟩ := h2
  refine z_icmp_eqS X dL_law_1020 1111 (by decide) ?_
  exact kk _ _ hm hq ho
theorem law_24 (X : zOK E cL_law RL 4 ret room_1) (hX : zScr E b0 L xs) (hL : L ≤ 3072) (hA : zmilA A b) (hB : zmodA A (b + 149)) (hm : zCR b m σ) (hq : zMR (b + 149) m σ) (ho : zStok σ) (hi : i + 6 ≤ L) (kk : ∀ m1 σ1, zCR b m1 σ1 → zMR (b + 149) m1 σ1 → zStok σ1 → zW E (166, 80481) A m1 1111 [some (vr b0), some (vr b), some (vr (b + 149)), some (vi (i : Int))] []) : zW E (166, 80481) A m 1025 [some (vr b0), some (vr b), some (vr (b + 149)), some (vi (i : Int))] [] := by
  refine z_aload_n X dL_law_1025 rfl ?_
  refine z_aload_n X dL_law_1026 rfl ?_
  refine z_iload_n X dL_law_1027 rfl ?_
  refine z_iconst X dL_law_1028 ?_
  refine z_iadd X dL_law_1029 ?_
  refine z_sld X hX (i + 1) dL_law_1030 (by omega) (by omega) (by omega) ?_
  refine z_callVi X (As := [_]) dL_law_1031 m_X7_about i_X7_about l_L_116 (c_X7_about (zg E) hA hm (zx_32 xs (i + 1))) hA.1.1 rfl rfl rfl (Nat.le_of_ble_eq_true rfl) ⟨Nat.le_of_ble_eq_true rfl, Nat.le_of_ble_eq_true rfl⟩ ⟨Nat.le_of_ble_eq_true rfl, Nat.le_of_ble_eq_true rfl⟩ ⟨rfl, rfl⟩ (fun r1 m1 h1 => ?_)
  obtain ⟨rfl, rfl⟩ := h1
  refine z_aload_n X dL_law_1034 rfl ?_
  refine z_aload_n X dL_law_1035 rfl ?_
  refine z_iload_n X dL_law_1036 rfl ?_
  refine z_iconst X dL_law_1037 ?_
  refine z_iadd X dL_law_1038 ?_
  refine z_sld X hX (i + 1) dL_law_1039 (by omega) (by omega) (by omega) ?_
  refine z_callVi X (As := [_]) dL_law_1040 m_X8_about i_X8_about l_L_119 (c_X8_about (zg E) hB hq ho (zx_32 xs (i + 1))) hB.1.1 rfl rfl rfl (Nat.le_of_ble_eq_true rfl) ⟨Nat.le_of_ble_eq_true rfl, Nat.le_of_ble_eq_true rfl⟩ ⟨Nat.le_of_ble_eq_true rfl, Nat.le_of_ble_eq_true rfl⟩ ⟨rfl, rfl⟩ (fun r2 m2 h2 => ?_)
  obtain ⟨rfl, rfl⟩ := h2
  refine z_icmp_eqS X dL_law_1043 1111 (by decide) ?_
  exact kk _ _ hm hq ho
theorem law_25 (X : zOK E cL_law RL 4 ret room_1) (hX : zScr E b0 L xs) (hL : L ≤ 3072) (hA : zmilA A b) (hB : zmodA A (b + 149)) (hm : zCR b m σ) (hq : zMR (b + 149) m σ) (ho : zStok σ) (hi : i + 6 ≤ L) (kk : ∀ m1 σ1, zCR b m1 σ1 → zMR (b + 149) m1 σ1 → zStok σ1 → zW E (166, 80481) A m1 1111 [some (vr b0), some (vr b), some (vr (b + 149)), some (vi (i : Int))] []) : zW E (166, 80481) A m 1048 [some (vr b0), some (vr b), some (vr (b + 149)), some (vi (i : Int))] [] := by
  refine z_aload_n X dL_law_1048 rfl ?_
  refine z_aload_n X dL_law_1049 rfl ?_
  refine z_iload_n X dL_law_1050 rfl ?_
  refine z_iconst X dL_law_1051 ?_
  refine z_iadd X dL_law_1052 ?_
  refine z_sld X hX (i + 1) dL_law_1053 (by omega) (by omega) (by omega) ?_
  refine z_aload_n X dL_law_1054 rfl ?_
  refine z_iload_n X dL_law_1055 rfl ?_
  refine z_iconst X dL_law_1056 ?_
  refine z_iadd X dL_law_1057 ?_
  refine z_sld X hX (i + 2) dL_law_1058 (by omega) (by omega) (by omega) ?_
  refine z_aload_n X dL_law_1059 rfl ?_
  refine z_iload_n X dL_law_1060 rfl ?_
  refine z_iconst X dL_law_1061 ?_
  refine z_iadd X dL_law_1062 ?_
  refine z_sld X hX (i + 3) dL_law_1063 (by omega) (by omega) (by omega) ?_
  refine z_aload_n X dL_law_1064 rfl ?_
  refine z_iload_n X dL_law_1065 rfl ?_
  refine z_iconst X dL_law_1066 ?_
  refine z_iadd X dL_law_1067 ?_
  refine z_sld X hX (i + 4) dL_law_1068 (by omega) (by omega) (by omega) ?_
  refine z_aload_n X dL_law_1069 rfl ?_
  refine z_iload_n X dL_law_1070 rfl ?_
  refine z_iconst X dL_law_1071 ?_
  refine z_iadd X dL_law_1072 ?_
  refine z_sld X hX (i + 5) dL_law_1073 (by omega) (by omega) (by omega) ?_
  refine z_callVi X (As := [_, _, _, _, _]) dL_law_1074 m_X7_agree i_X7_agree l_L_120 (c_X7_agree (zg E) hA hm ho (zx_32 xs (i + 1)) (zx_32 xs (i + 2)) (zx_32 xs (i + 3)) (zx_32 xs (i + 4)) (zx_32 xs (i + 5))) hA.1.1 rfl rfl rfl (Nat.le_of_ble_eq_true rfl) ⟨Nat.le_of_ble_eq_true rfl, Nat.le_of_ble_eq_true rfl⟩ ⟨Nat.le_of_ble_eq_true rfl, Nat.le_of_ble_eq_true rfl⟩ ⟨rfl, rfl⟩ (fun r1 m1 h1 => ?_)
  obtain ⟨hc1, hf1, rfl⟩ := h1
  have hq := hq.mo hf1
  refine z_aload_n X dL_law_1077 rfl ?_
  refine z_aload_n X dL_law_1078 rfl ?_
  refine z_iload_n X dL_law_1079 rfl ?_
  refine z_iconst X dL_law_1080 ?_
  refine z_iadd X dL_law_1081 ?_
  refine z_sld X hX (i + 1) dL_law_1082 (by omega) (by omega) (by omega) ?_
  refine z_aload_n X dL_law_1083 rfl ?_
  refine z_iload_n X dL_law_1084 rfl ?_
  refine z_iconst X dL_law_1085 ?_
  refine z_iadd X dL_law_1086 ?_
  refine z_sld X hX (i + 2) dL_law_1087 (by omega) (by omega) (by omega) ?_
  refine z_aload_n X dL_law_1088 rfl ?_
  refine z_iload_n X dL_law_1089 rfl ?_
  refine z_iconst X dL_law_1090 ?_
  refine z_iadd X dL_law_1091 ?_
  refine z_sld X hX (i + 3) dL_law_1092 (by omega) (by omega) (by omega) ?_
  refine z_aload_n X dL_law_1093 rfl ?_
  refine z_iload_n X dL_law_1094 rfl ?_
  refine z_iconst X dL_law_1095 ?_
  refine z_iadd X dL_law_1096 ?_
  refine z_sld X hX (i + 4) dL_law_1097 (by omega) (by omega) (by omega) ?_
  refine z_aload_n X dL_law_1098 rfl ?_
  refine z_iload_n X dL_law_1099 rfl ?_
  refine z_iconst X dL_law_1100 ?_
  refine z_iadd X dL_law_1101 ?_
  refine z_sld X hX (i + 5) dL_law_1102 (by omega) (by omega) (by omega) ?_
  refine z_callVi X (As := [_, _, _, _, _]) dL_law_1103 m_X8_agree i_X8_agree l_L_123 (c_X8_agree (zg E) hB hq ho (zx_32 xs (i + 1)) (zx_32 xs (i + 2)) (zx_32 xs (i + 3)) (zx_32 xs (i + 4)) (zx_32 xs (i + 5))) hB.1.1 rfl rfl rfl (Nat.le_of_ble_eq_true rfl) ⟨Nat.le_of_ble_eq_true rfl, Nat.le_of_ble_eq_true rfl⟩ ⟨Nat.le_of_ble_eq_true rfl, Nat.le_of_ble_eq_true rfl⟩ ⟨rfl, rfl⟩ (fun r2 m2 h2 => ?_)
  obtain ⟨hc2, hf2, rfl⟩ := h2
  refine z_icmp_eqS X dL_law_1106 1111 (by decide) ?_
  exact kk _ _ (hc1.mm hf2) hc2 ho
end
