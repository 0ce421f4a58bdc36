/-! the law: its cases, its walk -/
theorem nI_and31 (x : Int32) : ∃ t, t < 32 ∧ x &&& nI 31 = nI t := by
  refine ⟨x.toBitVec.toNat % 32, Nat.mod_lt _ (by decide), ?_⟩
  apply Int32.toBitVec_inj.mp
  apply BitVec.eq_of_toNat_eq
  have h1 : (nI 31).toBitVec = 31#32 := rfl
  simp only [Int32.toBitVec_and, h1, nI, Int32.toBitVec_ofNat', BitVec.toNat_and, BitVec.toNat_ofNat]
  rw [show 31 % 2 ^ 32 = 2 ^ 5 - 1 from rfl, Nat.and_two_pow_sub_one_eq_mod]
  omega
section LAW
variable {G : sG} {d : Nat} {P : sQ} {w : sW} {s : xS} {i : Nat} {κ : Nat × Nat} {l0 l1 l2 l3 : Option Value} {st : List Value}
theorem t_putL {B : Nat} {x : Int64} (h : clAt G w B s) (ho : okS s) (k : ∀ w', Fr w w' (fun q => B ≤ q ∧ q < B + 92) → clAt G w' B (spPut s (uL x)).2 → P (some (.int (spPut s (uL x)).1)) w') : wpM G (d + 3) yX9_put (0, 0) [.ref B, .long x] w P := by
  have q := t_put (d := d) (uL_lt x) h ho k
  rw [lU_uL] at q
  exact q
theorem m_putL {D : Nat} {x : Int64} (h : mdAt G w D s) (ho : okS s) (k : ∀ w', Fr w w' (sD D) → mdAt G w' D (spPut s (uL x)).2 → P (some (.int (spPut s (uL x)).1)) w') : wpM G (d + 2) yX10_put (0, 0) [.ref D, .long x] w P := by
  have q := m_put (d := d) (uL_lt x) h ho k
  rw [lU_uL] at q
  exact q
theorem law_end (hL : gL G ≤ 3072) (hi : i ≤ gL G) (kt : gL G < i + 6 → wp G d m_law P 1224 [l0, l1, l2, l3] st w κ) (kf : i + 6 ≤ gL G → wp G d m_law P 27 [l0, l1, l2, l3] st w κ) : wp G d m_law P 23 [l0, l1, l2, l3] (.int (nI 6) :: .int (nI (gL G)) :: .int (nI i) :: st) w κ := by
  have e : nI (gL G) - nI 6 = iZ ((gL G : Int) - 6) := by rw [nI_Z, nI_Z, iZ_sub]; rfl
  have e2 : nI (gL G) - nI 6 < nI i ↔ (gL G : Int) - 6 < (i : Int) := by rw [e, nI_Z, iZ_lt ⟨by omega, by omega⟩ ⟨by omega, by omega⟩]
  refine qL_law_23 ?_
  refine qL_law_24 (fun h => kt ?_) (fun h => kf ?_)
  · have := e2.mp h
    omega
  · have := mt e2.mpr h
    omega
theorem jn_247 {x : Int32} {b : Bool} (hb : b = true ↔ x ≠ 0) (k : wp G d m_law P 255 [l0, l1, l2, l3] (.int (nI (bN b)) :: st) w κ) : wp G d m_law P 247 [l0, l1, l2, l3] (.int x :: st) w κ := by
  refine qL_law_247 (fun h => ?_) (fun h => ?_)
  · cases b
    · exact qL_law_254 k
    · exact absurd h (hb.mp rfl)
  · cases b
    · exact absurd (hb.mpr h) (by decide)
    · exact qL_law_250 (qL_law_251 k)
theorem jn_279 {x : Int32} {b : Bool} (hb : b = true ↔ x ≠ 0) (k : wp G d m_law P 287 [l0, l1, l2, l3] (.int (nI (bN b)) :: st) w κ) : wp G d m_law P 279 [l0, l1, l2, l3] (.int x :: st) w κ := by
  refine qL_law_279 (fun h => ?_) (fun h => ?_)
  · cases b
    · exact qL_law_286 k
    · exact absurd h (hb.mp rfl)
  · cases b
    · exact absurd (hb.mpr h) (by decide)
    · exact qL_law_282 (qL_law_283 k)
theorem jn_316 {x : Int32} {b : Bool} (hb : b = true ↔ x ≠ 0) (k : wp G d m_law P 324 [l0, l1, l2, l3] (.int (nI (bN b)) :: st) w κ) : wp G d m_law P 316 [l0, l1, l2, l3] (.int x :: st) w κ := by
  refine qL_law_316 (fun h => ?_) (fun h => ?_)
  · cases b
    · exact qL_law_323 k
    · exact absurd h (hb.mp rfl)
  · cases b
    · exact absurd (hb.mpr h) (by decide)
    · exact qL_law_319 (qL_law_320 k)
theorem jn_348 {x : Int32} {b : Bool} (hb : b = true ↔ x ≠ 0) (k : wp G d m_law P 356 [l0, l1, l2, l3] (.int (nI (bN b)) :: st) w κ) : wp G d m_law P 348 [l0, l1, l2, l3] (.int x :: st) w κ := by
  refine qL_law_348 (fun h => ?_) (fun h => ?_)
  · cases b
    · exact qL_law_355 k
    · exact absurd h (hb.mp rfl)
  · cases b
    · exact absurd (hb.mpr h) (by decide)
    · exact qL_law_351 (qL_law_352 k)
theorem jn_385 {x : Int32} {b : Bool} (hb : b = true ↔ x ≠ 0) (k : wp G d m_law P 393 [l0, l1, l2, l3] (.int (nI (bN b)) :: st) w κ) : wp G d m_law P 385 [l0, l1, l2, l3] (.int x :: st) w κ := by
  refine qL_law_385 (fun h => ?_) (fun h => ?_)
  · cases b
    · exact qL_law_392 k
    · exact absurd h (hb.mp rfl)
  · cases b
    · exact absurd (hb.mpr h) (by decide)
    · exact qL_law_388 (qL_law_389 k)
theorem jn_412 {x : Int32} {b : Bool} (hb : b = true ↔ x ≠ 0) (k : wp G d m_law P 420 [l0, l1, l2, l3] (.int (nI (bN b)) :: st) w κ) : wp G d m_law P 412 [l0, l1, l2, l3] (.int x :: st) w κ := by
  refine qL_law_412 (fun h => ?_) (fun h => ?_)
  · cases b
    · exact qL_law_419 k
    · exact absurd h (hb.mp rfl)
  · cases b
    · exact absurd (hb.mpr h) (by decide)
    · exact qL_law_415 (qL_law_416 k)
theorem jn_857 {x : Int32} {b : Bool} (hb : b = true ↔ x ≠ 0) (k : wp G d m_law P 865 [l0, l1, l2, l3] (.int (nI (bN b)) :: st) w κ) : wp G d m_law P 857 [l0, l1, l2, l3] (.int x :: st) w κ := by
  refine qL_law_857 (fun h => ?_) (fun h => ?_)
  · cases b
    · exact qL_law_864 k
    · exact absurd h (hb.mp rfl)
  · cases b
    · exact absurd (hb.mpr h) (by decide)
    · exact qL_law_860 (qL_law_861 k)
theorem jn_884 {x : Int32} {b : Bool} (hb : b = true ↔ x ≠ 0) (k : wp G d m_law P 892 [l0, l1, l2, l3] (.int (nI (bN b)) :: st) w κ) : wp G d m_law P 884 [l0, l1, l2, l3] (.int x :: st) w κ := by
  refine qL_law_884 (fun h => ?_) (fun h => ?_)
  · cases b
    · exact qL_law_891 k
    · exact absurd h (hb.mp rfl)
  · cases b
    · exact absurd (hb.mpr h) (by decide)
    · exact qL_law_887 (qL_law_888 k)
theorem c_load (hL : gL G ≤ 3072) (hi : i + 6 ≤ gL G) (h : clAt G w (gB G) s) (hm : mdAt G w (gB G + 92) s) (ho : okS s) (k : ∀ w' s', clAt G w' (gB G) s' → mdAt G w' (gB G + 92) s' → okS s' → wp G (d + 17) m_law P 1218 [some (.ref (gb G)), some (.ref (gB G)), some (.ref (gB G + 92)), some (.int (nI i))] [] w' κ) : wp G (d + 17) m_law P 160 [some (.ref (gb G)), some (.ref (gB G)), some (.ref (gB G + 92)), some (.int (nI i))] [] w κ := by
  have e0 := h.o
  refine qL_law_160 ?_
  refine qL_law_161 ?_
  refine qL_law_162 ?_
  refine qL_law_163 ?_
  first | refine nL_law_164 ?_ | refine qL_law_164 ?_
  refine qL_law_165 (by omega) hL ?_
  refine qL_law_166 (by assumption) (Nat.le_of_ble_eq_true rfl) (t_load h ho (fun w1 hF1 h1 => ?_))
  have hm1 := hm.fr hF1 (fun q a1 a2 hq => by have hq2 : q < gB G + 92 := hq.2; omega)
  obtain ⟨⟨v, o1, _⟩, _⟩ := id hm1
  refine qL_law_169 ?_
  refine qL_law_170 ?_
  refine qL_law_171 ?_
  refine qL_law_172 ?_
  first | refine nL_law_173 ?_ | refine qL_law_173 ?_
  refine qL_law_174 (by omega) hL ?_
  refine qL_law_175 (by assumption) (Nat.le_of_ble_eq_true rfl) (m_load hm1 ho (fun w2 hF2 hm2 => ?_))
  have h2 := h1.fr hF2 (fun q a1 a2 hq => by have hq1 : gB G + 92 ≤ q := hq.1; omega)
  exact qL_law_178 (fun _ => k _ _ h2 hm2 (ok_load ho)) (fun hne => absurd rfl hne)
theorem c_set (hL : gL G ≤ 3072) (hi : i + 6 ≤ gL G) (h : clAt G w (gB G) s) (hm : mdAt G w (gB G + 92) s) (ho : okS s) (k : ∀ w' s', clAt G w' (gB G) s' → mdAt G w' (gB G + 92) s' → okS s' → wp G (d + 17) m_law P 1218 [some (.ref (gb G)), some (.ref (gB G)), some (.ref (gB G + 92)), some (.int (nI i))] [] w' κ) : wp G (d + 17) m_law P 183 [some (.ref (gb G)), some (.ref (gB G)), some (.ref (gB G + 92)), some (.int (nI i))] [] w κ := by
  have e0 := h.o
  refine qL_law_183 ?_
  refine qL_law_184 ?_
  refine qL_law_185 ?_
  refine qL_law_186 ?_
  first | refine nL_law_187 ?_ | refine qL_law_187 ?_
  refine qL_law_188 (by omega) hL ?_
  refine qL_law_189 ?_
  refine qL_law_190 ?_
  refine qL_law_191 ?_
  first | refine nL_law_192 ?_ | refine qL_law_192 ?_
  refine qL_law_193 (by omega) hL ?_
  refine qL_law_194 ?_
  refine qL_law_195 ?_
  refine qL_law_196 ?_
  first | refine nL_law_197 ?_ | refine qL_law_197 ?_
  refine qL_law_198 (by omega) hL ?_
  refine qL_law_199 ?_
  refine qL_law_200 ?_
  refine qL_law_201 ?_
  first | refine nL_law_202 ?_ | refine qL_law_202 ?_
  refine qL_law_203 (by omega) hL ?_
  refine qL_law_204 (by assumption) (Nat.le_of_ble_eq_true rfl) (t_setE h ho (fun w1 hF1 h1 => ?_))
  have hm1 := hm.fr hF1 (fun q a1 a2 hq => by have hq2 : q < gB G + 92 := hq.2; omega)
  obtain ⟨⟨v, o1, _⟩, _⟩ := id hm1
  refine qL_law_207 ?_
  refine qL_law_208 ?_
  refine qL_law_209 ?_
  refine qL_law_210 ?_
  first | refine nL_law_211 ?_ | refine qL_law_211 ?_
  refine qL_law_212 (by omega) hL ?_
  refine qL_law_213 ?_
  refine qL_law_214 ?_
  refine qL_law_215 ?_
  first | refine nL_law_216 ?_ | refine qL_law_216 ?_
  refine qL_law_217 (by omega) hL ?_
  refine qL_law_218 ?_
  refine qL_law_219 ?_
  refine qL_law_220 ?_
  first | refine nL_law_221 ?_ | refine qL_law_221 ?_
  refine qL_law_222 (by omega) hL ?_
  refine qL_law_223 ?_
  refine qL_law_224 ?_
  refine qL_law_225 ?_
  first | refine nL_law_226 ?_ | refine qL_law_226 ?_
  refine qL_law_227 (by omega) hL ?_
  refine qL_law_228 (by assumption) (Nat.le_of_ble_eq_true rfl) (m_set hm1 ho (fun w2 hF2 hm2 => ?_))
  have h2 := h1.fr hF2 (fun q a1 a2 hq => by have hq1 : gB G + 92 ≤ q := hq.1; omega)
  exact qL_law_231 (fun _ => k _ _ h2 hm2 (ok_set ho)) (fun hne => absurd rfl hne)
theorem c_raise (hL : gL G ≤ 3072) (hi : i + 6 ≤ gL G) (h : clAt G w (gB G) s) (hm : mdAt G w (gB G + 92) s) (ho : okS s) (k : ∀ w' s', clAt G w' (gB G) s' → mdAt G w' (gB G + 92) s' → okS s' → wp G (d + 17) m_law P 1218 [some (.ref (gb G)), some (.ref (gB G)), some (.ref (gB G + 92)), some (.int (nI i))] [] w' κ) : wp G (d + 17) m_law P 236 [some (.ref (gb G)), some (.ref (gB G)), some (.ref (gB G + 92)), some (.int (nI i))] [] w κ := by
  have e0 := h.o
  obtain ⟨b, hb⟩ : ∃ b : Bool, (b = true ↔ gx G (i + 2) ≠ 0) := ⟨decide (gx G (i + 2) ≠ 0), by simp⟩
  refine qL_law_236 ?_
  refine qL_law_237 ?_
  refine qL_law_238 ?_
  refine qL_law_239 ?_
  first | refine nL_law_240 ?_ | refine qL_law_240 ?_
  refine qL_law_241 (by omega) hL ?_
  refine qL_law_242 ?_
  refine qL_law_243 ?_
  refine qL_law_244 ?_
  first | refine nL_law_245 ?_ | refine qL_law_245 ?_
  refine qL_law_246 (by omega) hL ?_
  refine jn_247 hb ?_
  refine qL_law_255 ?_
  refine qL_law_256 ?_
  refine qL_law_257 ?_
  first | refine nL_law_258 ?_ | refine qL_law_258 ?_
  refine qL_law_259 (by omega) hL ?_
  refine qL_law_260 ?_
  refine qL_law_261 ?_
  refine qL_law_262 ?_
  first | refine nL_law_263 ?_ | refine qL_law_263 ?_
  refine qL_law_264 (by omega) hL ?_
  refine qL_law_265 (by assumption) (Nat.le_of_ble_eq_true rfl) (t_raise b h ho (fun w1 hF1 h1 => ?_))
  have hm1 := hm.fr hF1 (fun q a1 a2 hq => by have hq2 : q < gB G + 92 := hq.2; omega)
  obtain ⟨⟨v, o1, _⟩, _⟩ := id hm1
  refine qL_law_268 ?_
  refine qL_law_269 ?_
  refine qL_law_270 ?_
  refine qL_law_271 ?_
  first | refine nL_law_272 ?_ | refine qL_law_272 ?_
  refine qL_law_273 (by omega) hL ?_
  refine qL_law_274 ?_
  refine qL_law_275 ?_
  refine qL_law_276 ?_
  first | refine nL_law_277 ?_ | refine qL_law_277 ?_
  refine qL_law_278 (by omega) hL ?_
  refine jn_279 hb ?_
  refine qL_law_287 ?_
  refine qL_law_288 ?_
  refine qL_law_289 ?_
  first | refine nL_law_290 ?_ | refine qL_law_290 ?_
  refine qL_law_291 (by omega) hL ?_
  refine qL_law_292 ?_
  refine qL_law_293 ?_
  refine qL_law_294 ?_
  first | refine nL_law_295 ?_ | refine qL_law_295 ?_
  refine qL_law_296 (by omega) hL ?_
  refine qL_law_297 (by assumption) (Nat.le_of_ble_eq_true rfl) (m_raise b hm1 ho (fun w2 hF2 hm2 => ?_))
  have h2 := h1.fr hF2 (fun q a1 a2 hq => by have hq1 : gB G + 92 ≤ q := hq.1; omega)
  exact qL_law_300 (fun _ => k _ _ h2 hm2 (ok_raise ho)) (fun hne => absurd rfl hne)
theorem c_exchange (hL : gL G ≤ 3072) (hi : i + 6 ≤ gL G) (h : clAt G w (gB G) s) (hm : mdAt G w (gB G + 92) s) (ho : okS s) (k : ∀ w' s', clAt G w' (gB G) s' → mdAt G w' (gB G + 92) s' → okS s' → wp G (d + 17) m_law P 1218 [some (.ref (gb G)), some (.ref (gB G)), some (.ref (gB G + 92)), some (.int (nI i))] [] w' κ) : wp G (d + 17) m_law P 305 [some (.ref (gb G)), some (.ref (gB G)), some (.ref (gB G + 92)), some (.int (nI i))] [] w κ := by
  have e0 := h.o
  obtain ⟨b, hb⟩ : ∃ b : Bool, (b = true ↔ gx G (i + 2) ≠ 0) := ⟨decide (gx G (i + 2) ≠ 0), by simp⟩
  refine qL_law_305 ?_
  refine qL_law_306 ?_
  refine qL_law_307 ?_
  refine qL_law_308 ?_
  first | refine nL_law_309 ?_ | refine qL_law_309 ?_
  refine qL_law_310 (by omega) hL ?_
  refine qL_law_311 ?_
  refine qL_law_312 ?_
  refine qL_law_313 ?_
  first | refine nL_law_314 ?_ | refine qL_law_314 ?_
  refine qL_law_315 (by omega) hL ?_
  refine jn_316 hb ?_
  refine qL_law_324 ?_
  refine qL_law_325 ?_
  refine qL_law_326 ?_
  first | refine nL_law_327 ?_ | refine qL_law_327 ?_
  refine qL_law_328 (by omega) hL ?_
  refine qL_law_329 ?_
  refine qL_law_330 ?_
  refine qL_law_331 ?_
  first | refine nL_law_332 ?_ | refine qL_law_332 ?_
  refine qL_law_333 (by omega) hL ?_
  refine qL_law_334 (by assumption) (Nat.le_of_ble_eq_true rfl) (t_exchange b h ho (fun w1 hF1 h1 => ?_))
  have hm1 := hm.fr hF1 (fun q a1 a2 hq => by have hq2 : q < gB G + 92 := hq.2; omega)
  obtain ⟨⟨v, o1, _⟩, _⟩ := id hm1
  refine qL_law_337 ?_
  refine qL_law_338 ?_
  refine qL_law_339 ?_
  refine qL_law_340 ?_
  first | refine nL_law_341 ?_ | refine qL_law_341 ?_
  refine qL_law_342 (by omega) hL ?_
  refine qL_law_343 ?_
  refine qL_law_344 ?_
  refine qL_law_345 ?_
  first | refine nL_law_346 ?_ | refine qL_law_346 ?_
  refine qL_law_347 (by omega) hL ?_
  refine jn_348 hb ?_
  refine qL_law_356 ?_
  refine qL_law_357 ?_
  refine qL_law_358 ?_
  first | refine nL_law_359 ?_ | refine qL_law_359 ?_
  refine qL_law_360 (by omega) hL ?_
  refine qL_law_361 ?_
  refine qL_law_362 ?_
  refine qL_law_363 ?_
  first | refine nL_law_364 ?_ | refine qL_law_364 ?_
  refine qL_law_365 (by omega) hL ?_
  refine qL_law_366 (by assumption) (Nat.le_of_ble_eq_true rfl) (m_exchange b hm1 ho (fun w2 hF2 hm2 => ?_))
  have h2 := h1.fr hF2 (fun q a1 a2 hq => by have hq1 : gB G + 92 ≤ q := hq.1; omega)
  exact qL_law_369 (fun _ => k _ _ h2 hm2 (ok_exchange ho)) (fun hne => absurd rfl hne)
theorem c_drop (hL : gL G ≤ 3072) (hi : i + 6 ≤ gL G) (h : clAt G w (gB G) s) (hm : mdAt G w (gB G + 92) s) (ho : okS s) (k : ∀ w' s', clAt G w' (gB G) s' → mdAt G w' (gB G + 92) s' → okS s' → wp G (d + 17) m_law P 1218 [some (.ref (gb G)), some (.ref (gB G)), some (.ref (gB G + 92)), some (.int (nI i))] [] w' κ) : wp G (d + 17) m_law P 374 [some (.ref (gb G)), some (.ref (gB G)), some (.ref (gB G + 92)), some (.int (nI i))] [] w κ := by
  have e0 := h.o
  obtain ⟨b, hb⟩ : ∃ b : Bool, (b = true ↔ gx G (i + 2) ≠ 0) := ⟨decide (gx G (i + 2) ≠ 0), by simp⟩
  refine qL_law_374 ?_
  refine qL_law_375 ?_
  refine qL_law_376 ?_
  refine qL_law_377 ?_
  first | refine nL_law_378 ?_ | refine qL_law_378 ?_
  refine qL_law_379 (by omega) hL ?_
  refine qL_law_380 ?_
  refine qL_law_381 ?_
  refine qL_law_382 ?_
  first | refine nL_law_383 ?_ | refine qL_law_383 ?_
  refine qL_law_384 (by omega) hL ?_
  refine jn_385 hb ?_
  refine qL_law_393 ?_
  refine qL_law_394 ?_
  refine qL_law_395 ?_
  first | refine nL_law_396 ?_ | refine qL_law_396 ?_
  refine qL_law_397 (by omega) hL ?_
  refine qL_law_398 (by assumption) (Nat.le_of_ble_eq_true rfl) (t_drop b h ho (fun w1 hF1 h1 => ?_))
  have hm1 := hm.fr hF1 (fun q a1 a2 hq => by have hq2 : q < gB G + 92 := hq.2; omega)
  obtain ⟨⟨v, o1, _⟩, _⟩ := id hm1
  refine qL_law_401 ?_
  refine qL_law_402 ?_
  refine qL_law_403 ?_
  refine qL_law_404 ?_
  first | refine nL_law_405 ?_ | refine qL_law_405 ?_
  refine qL_law_406 (by omega) hL ?_
  refine qL_law_407 ?_
  refine qL_law_408 ?_
  refine qL_law_409 ?_
  first | refine nL_law_410 ?_ | refine qL_law_410 ?_
  refine qL_law_411 (by omega) hL ?_
  refine jn_412 hb ?_
  refine qL_law_420 ?_
  refine qL_law_421 ?_
  refine qL_law_422 ?_
  first | refine nL_law_423 ?_ | refine qL_law_423 ?_
  refine qL_law_424 (by omega) hL ?_
  refine qL_law_425 (by assumption) (Nat.le_of_ble_eq_true rfl) (m_drop b hm1 ho (fun w2 hF2 hm2 => ?_))
  have h2 := h1.fr hF2 (fun q a1 a2 hq => by have hq1 : gB G + 92 ≤ q := hq.1; omega)
  exact qL_law_428 (fun _ => k _ _ h2 hm2 (ok_drop ho)) (fun hne => absurd rfl hne)
theorem c_turn (hL : gL G ≤ 3072) (hi : i + 6 ≤ gL G) (h : clAt G w (gB G) s) (hm : mdAt G w (gB G + 92) s) (ho : okS s) (k : ∀ w' s', clAt G w' (gB G) s' → mdAt G w' (gB G + 92) s' → okS s' → wp G (d + 17) m_law P 1218 [some (.ref (gb G)), some (.ref (gB G)), some (.ref (gB G + 92)), some (.int (nI i))] [] w' κ) : wp G (d + 17) m_law P 433 [some (.ref (gb G)), some (.ref (gB G)), some (.ref (gB G + 92)), some (.int (nI i))] [] w κ := by
  have e0 := h.o
  refine qL_law_433 ?_
  refine qL_law_434 ?_
  refine qL_law_435 ?_
  refine qL_law_436 ?_
  first | refine nL_law_437 ?_ | refine qL_law_437 ?_
  refine qL_law_438 (by omega) hL ?_
  refine qL_law_439 (by assumption) (Nat.le_of_ble_eq_true rfl) (t_turn h ho (fun w1 hF1 h1 => ?_))
  have hm1 := hm.fr hF1 (fun q a1 a2 hq => by have hq2 : q < gB G + 92 := hq.2; omega)
  obtain ⟨⟨v, o1, _⟩, _⟩ := id hm1
  refine qL_law_442 ?_
  refine qL_law_443 ?_
  refine qL_law_444 ?_
  refine qL_law_445 ?_
  first | refine nL_law_446 ?_ | refine qL_law_446 ?_
  refine qL_law_447 (by omega) hL ?_
  refine qL_law_448 (by assumption) (Nat.le_of_ble_eq_true rfl) (m_turn hm1 ho (fun w2 hF2 hm2 => ?_))
  have h2 := h1.fr hF2 (fun q a1 a2 hq => by have hq1 : gB G + 92 ≤ q := hq.1; omega)
  exact qL_law_451 (fun _ => k _ _ h2 hm2 (ok_turn ho)) (fun hne => absurd rfl hne)
theorem c_product (hL : gL G ≤ 3072) (hi : i + 6 ≤ gL G) (h : clAt G w (gB G) s) (hm : mdAt G w (gB G + 92) s) (ho : okS s) (k : ∀ w' s', clAt G w' (gB G) s' → mdAt G w' (gB G + 92) s' → okS s' → wp G (d + 17) m_law P 1218 [some (.ref (gb G)), some (.ref (gB G)), some (.ref (gB G + 92)), some (.int (nI i))] [] w' κ) : wp G (d + 17) m_law P 456 [some (.ref (gb G)), some (.ref (gB G)), some (.ref (gB G + 92)), some (.int (nI i))] [] w κ := by
  have e0 := h.o
  refine qL_law_456 ?_
  refine qL_law_457 ?_
  refine qL_law_458 ?_
  refine qL_law_459 ?_
  first | refine nL_law_460 ?_ | refine qL_law_460 ?_
  refine qL_law_461 (by omega) hL ?_
  refine qL_law_462 ?_
  refine qL_law_463 ?_
  refine qL_law_464 ?_
  first | refine nL_law_465 ?_ | refine qL_law_465 ?_
  refine qL_law_466 (by omega) hL ?_
  refine qL_law_467 ?_
  refine qL_law_468 ?_
  refine qL_law_469 ?_
  first | refine nL_law_470 ?_ | refine qL_law_470 ?_
  refine qL_law_471 (by omega) hL ?_
  refine qL_law_472 (by assumption) (Nat.le_of_ble_eq_true rfl) (t_product h ho (fun w1 hF1 h1 => ?_))
  have hm1 := hm.fr hF1 (fun q a1 a2 hq => by have hq2 : q < gB G + 92 := hq.2; omega)
  obtain ⟨⟨v, o1, _⟩, _⟩ := id hm1
  refine qL_law_475 ?_
  refine qL_law_476 ?_
  refine qL_law_477 ?_
  refine qL_law_478 ?_
  first | refine nL_law_479 ?_ | refine qL_law_479 ?_
  refine qL_law_480 (by omega) hL ?_
  refine qL_law_481 ?_
  refine qL_law_482 ?_
  refine qL_law_483 ?_
  first | refine nL_law_484 ?_ | refine qL_law_484 ?_
  refine qL_law_485 (by omega) hL ?_
  refine qL_law_486 ?_
  refine qL_law_487 ?_
  refine qL_law_488 ?_
  first | refine nL_law_489 ?_ | refine qL_law_489 ?_
  refine qL_law_490 (by omega) hL ?_
  refine qL_law_491 (by assumption) (Nat.le_of_ble_eq_true rfl) (m_product hm1 ho (fun w2 hF2 hm2 => ?_))
  have h2 := h1.fr hF2 (fun q a1 a2 hq => by have hq1 : gB G + 92 ≤ q := hq.1; omega)
  exact qL_law_494 (fun _ => k _ _ h2 hm2 (ok_product ho)) (fun hne => absurd rfl hne)
theorem c_close (hL : gL G ≤ 3072) (hi : i + 6 ≤ gL G) (h : clAt G w (gB G) s) (hm : mdAt G w (gB G + 92) s) (ho : okS s) (k : ∀ w' s', clAt G w' (gB G) s' → mdAt G w' (gB G + 92) s' → okS s' → wp G (d + 17) m_law P 1218 [some (.ref (gb G)), some (.ref (gB G)), some (.ref (gB G + 92)), some (.int (nI i))] [] w' κ) : wp G (d + 17) m_law P 499 [some (.ref (gb G)), some (.ref (gB G)), some (.ref (gB G + 92)), some (.int (nI i))] [] w κ := by
  have e0 := h.o
  refine qL_law_499 ?_
  refine qL_law_500 ?_
  refine qL_law_501 ?_
  refine qL_law_502 ?_
  first | refine nL_law_503 ?_ | refine qL_law_503 ?_
  refine qL_law_504 (by omega) hL ?_
  refine qL_law_505 (by assumption) (Nat.le_of_ble_eq_true rfl) (t_close h ho (fun w1 hF1 h1 => ?_))
  have hm1 := hm.fr hF1 (fun q a1 a2 hq => by have hq2 : q < gB G + 92 := hq.2; omega)
  obtain ⟨⟨v, o1, _⟩, _⟩ := id hm1
  refine qL_law_508 ?_
  refine qL_law_509 ?_
  refine qL_law_510 ?_
  refine qL_law_511 ?_
  first | refine nL_law_512 ?_ | refine qL_law_512 ?_
  refine qL_law_513 (by omega) hL ?_
  refine qL_law_514 (by assumption) (Nat.le_of_ble_eq_true rfl) (m_close hm1 ho (fun w2 hF2 hm2 => ?_))
  have h2 := h1.fr hF2 (fun q a1 a2 hq => by have hq1 : gB G + 92 ≤ q := hq.1; omega)
  exact qL_law_517 (fun _ => k _ _ h2 hm2 (ok_close ho)) (fun hne => absurd rfl hne)
theorem c_entry (hL : gL G ≤ 3072) (hi : i + 6 ≤ gL G) (h : clAt G w (gB G) s) (hm : mdAt G w (gB G + 92) s) (ho : okS s) (k : ∀ w' s', clAt G w' (gB G) s' → mdAt G w' (gB G + 92) s' → okS s' → wp G (d + 17) m_law P 1218 [some (.ref (gb G)), some (.ref (gB G)), some (.ref (gB G + 92)), some (.int (nI i))] [] w' κ) : wp G (d + 17) m_law P 522 [some (.ref (gb G)), some (.ref (gB G)), some (.ref (gB G + 92)), some (.int (nI i))] [] w κ := by
  have e0 := h.o
  refine qL_law_522 ?_
  refine qL_law_523 ?_
  refine qL_law_524 ?_
  refine qL_law_525 ?_
  first | refine nL_law_526 ?_ | refine qL_law_526 ?_
  refine qL_law_527 (by omega) hL ?_
  refine qL_law_528 ?_
  refine qL_law_529 ?_
  refine qL_law_530 ?_
  first | refine nL_law_531 ?_ | refine qL_law_531 ?_
  refine qL_law_532 (by omega) hL ?_
  refine qL_law_533 ?_
  refine qL_law_534 ?_
  refine qL_law_535 ?_
  first | refine nL_law_536 ?_ | refine qL_law_536 ?_
  refine qL_law_537 (by omega) hL ?_
  refine qL_law_538 (by assumption) (Nat.le_of_ble_eq_true rfl) (t_entry h ho ?_)
  have h1 := h
  have hm1 := hm
  obtain ⟨⟨v, o1, _⟩, _⟩ := id hm1
  refine qL_law_541 ?_
  refine qL_law_542 ?_
  refine qL_law_543 ?_
  refine qL_law_544 ?_
  first | refine nL_law_545 ?_ | refine qL_law_545 ?_
  refine qL_law_546 (by omega) hL ?_
  refine qL_law_547 ?_
  refine qL_law_548 ?_
  refine qL_law_549 ?_
  first | refine nL_law_550 ?_ | refine qL_law_550 ?_
  refine qL_law_551 (by omega) hL ?_
  refine qL_law_552 ?_
  refine qL_law_553 ?_
  refine qL_law_554 ?_
  first | refine nL_law_555 ?_ | refine qL_law_555 ?_
  refine qL_law_556 (by omega) hL ?_
  refine qL_law_557 (by assumption) (Nat.le_of_ble_eq_true rfl) (m_entry hm1 ho ?_)
  have h2 := h1
  have hm2 := hm1
  exact qL_law_560 (fun _ => k _ _ h2 hm2 (ho)) (fun hne => absurd rfl hne)
theorem c_permanent (hL : gL G ≤ 3072) (hi : i + 6 ≤ gL G) (h : clAt G w (gB G) s) (hm : mdAt G w (gB G + 92) s) (ho : okS s) (k : ∀ w' s', clAt G w' (gB G) s' → mdAt G w' (gB G + 92) s' → okS s' → wp G (d + 17) m_law P 1218 [some (.ref (gb G)), some (.ref (gB G)), some (.ref (gB G + 92)), some (.int (nI i))] [] w' κ) : wp G (d + 17) m_law P 565 [some (.ref (gb G)), some (.ref (gB G)), some (.ref (gB G + 92)), some (.int (nI i))] [] w κ := by
  have e0 := h.o
  refine qL_law_565 ?_
  refine qL_law_566 ?_
  refine qL_law_567 ?_
  refine qL_law_568 ?_
  first | refine nL_law_569 ?_ | refine qL_law_569 ?_
  refine qL_law_570 (by omega) hL ?_
  refine qL_law_571 ?_
  refine qL_law_572 ?_
  refine qL_law_573 ?_
  first | refine nL_law_574 ?_ | refine qL_law_574 ?_
  refine qL_law_575 (by omega) hL ?_
  refine qL_law_576 ?_
  refine qL_law_577 ?_
  refine qL_law_578 ?_
  first | refine nL_law_579 ?_ | refine qL_law_579 ?_
  refine qL_law_580 (by omega) hL ?_
  refine qL_law_581 ?_
  refine qL_law_582 ?_
  refine qL_law_583 ?_
  first | refine nL_law_584 ?_ | refine qL_law_584 ?_
  refine qL_law_585 (by omega) hL ?_
  refine qL_law_586 (by assumption) (Nat.le_of_ble_eq_true rfl) (t_permanent h ho (fun w1 hF1 h1 => ?_))
  have hm1 := hm.fr hF1 (fun q a1 a2 hq => by have hq2 : q < gB G + 92 := hq.2; omega)
  obtain ⟨⟨v, o1, _⟩, _⟩ := id hm1
  refine qL_law_589 ?_
  refine qL_law_590 ?_
  refine qL_law_591 ?_
  refine qL_law_592 ?_
  first | refine nL_law_593 ?_ | refine qL_law_593 ?_
  refine qL_law_594 (by omega) hL ?_
  refine qL_law_595 ?_
  refine qL_law_596 ?_
  refine qL_law_597 ?_
  first | refine nL_law_598 ?_ | refine qL_law_598 ?_
  refine qL_law_599 (by omega) hL ?_
  refine qL_law_600 ?_
  refine qL_law_601 ?_
  refine qL_law_602 ?_
  first | refine nL_law_603 ?_ | refine qL_law_603 ?_
  refine qL_law_604 (by omega) hL ?_
  refine qL_law_605 ?_
  refine qL_law_606 ?_
  refine qL_law_607 ?_
  first | refine nL_law_608 ?_ | refine qL_law_608 ?_
  refine qL_law_609 (by omega) hL ?_
  refine qL_law_610 (by assumption) (Nat.le_of_ble_eq_true rfl) (m_permanent hm1 ho (fun w2 hF2 hm2 => ?_))
  have h2 := h1.fr hF2 (fun q a1 a2 hq => by have hq1 : gB G + 92 ≤ q := hq.1; omega)
  exact qL_law_613 (fun _ => k _ _ h2 hm2 (ho)) (fun hne => absurd rfl hne)
theorem c_byParts (hL : gL G ≤ 3072) (hi : i + 6 ≤ gL G) (h : clAt G w (gB G) s) (hm : mdAt G w (gB G + 92) s) (ho : okS s) (k : ∀ w' s', clAt G w' (gB G) s' → mdAt G w' (gB G + 92) s' → okS s' → wp G (d + 17) m_law P 1218 [some (.ref (gb G)), some (.ref (gB G)), some (.ref (gB G + 92)), some (.int (nI i))] [] w' κ) : wp G (d + 17) m_law P 618 [some (.ref (gb G)), some (.ref (gB G)), some (.ref (gB G + 92)), some (.int (nI i))] [] w κ := by
  have e0 := h.o
  refine qL_law_618 ?_
  refine qL_law_619 ?_
  refine qL_law_620 ?_
  refine qL_law_621 ?_
  first | refine nL_law_622 ?_ | refine qL_law_622 ?_
  refine qL_law_623 (by omega) hL ?_
  refine qL_law_624 ?_
  refine qL_law_625 ?_
  refine qL_law_626 ?_
  first | refine nL_law_627 ?_ | refine qL_law_627 ?_
  refine qL_law_628 (by omega) hL ?_
  refine qL_law_629 (by assumption) (Nat.le_of_ble_eq_true rfl) (t_byParts h ho (fun w1 hF1 h1 => ?_))
  have hm1 := hm.fr hF1 (fun q a1 a2 hq => by have hq2 : q < gB G + 92 := hq.2; omega)
  obtain ⟨⟨v, o1, _⟩, _⟩ := id hm1
  refine qL_law_632 ?_
  refine qL_law_633 ?_
  refine qL_law_634 ?_
  refine qL_law_635 ?_
  first | refine nL_law_636 ?_ | refine qL_law_636 ?_
  refine qL_law_637 (by omega) hL ?_
  refine qL_law_638 ?_
  refine qL_law_639 ?_
  refine qL_law_640 ?_
  first | refine nL_law_641 ?_ | refine qL_law_641 ?_
  refine qL_law_642 (by omega) hL ?_
  refine qL_law_643 (by assumption) (Nat.le_of_ble_eq_true rfl) (m_byParts hm1 ho (fun w2 hF2 hm2 => ?_))
  have h2 := h1.fr hF2 (fun q a1 a2 hq => by have hq1 : gB G + 92 ≤ q := hq.1; omega)
  exact qL_law_646 (fun _ => k _ _ h2 hm2 (ho)) (fun hne => absurd rfl hne)
theorem c_canTouch (hL : gL G ≤ 3072) (hi : i + 6 ≤ gL G) (h : clAt G w (gB G) s) (hm : mdAt G w (gB G + 92) s) (ho : okS s) (k : ∀ w' s', clAt G w' (gB G) s' → mdAt G w' (gB G + 92) s' → okS s' → wp G (d + 17) m_law P 1218 [some (.ref (gb G)), some (.ref (gB G)), some (.ref (gB G + 92)), some (.int (nI i))] [] w' κ) : wp G (d + 17) m_law P 651 [some (.ref (gb G)), some (.ref (gB G)), some (.ref (gB G + 92)), some (.int (nI i))] [] w κ := by
  have e0 := h.o
  refine qL_law_651 ?_
  refine qL_law_652 ?_
  refine qL_law_653 ?_
  refine qL_law_654 ?_
  first | refine nL_law_655 ?_ | refine qL_law_655 ?_
  refine qL_law_656 (by omega) hL ?_
  refine qL_law_657 ?_
  refine qL_law_658 ?_
  refine qL_law_659 ?_
  first | refine nL_law_660 ?_ | refine qL_law_660 ?_
  refine qL_law_661 (by omega) hL ?_
  refine qL_law_662 (by assumption) (Nat.le_of_ble_eq_true rfl) (t_canTouch h ho (fun w1 hF1 h1 => ?_))
  have hm1 := hm.fr hF1 (fun q a1 a2 hq => by have hq2 : q < gB G + 92 := hq.2; omega)
  obtain ⟨⟨v, o1, _⟩, _⟩ := id hm1
  refine qL_law_665 ?_
  refine qL_law_666 ?_
  refine qL_law_667 ?_
  refine qL_law_668 ?_
  first | refine nL_law_669 ?_ | refine qL_law_669 ?_
  refine qL_law_670 (by omega) hL ?_
  refine qL_law_671 ?_
  refine qL_law_672 ?_
  refine qL_law_673 ?_
  first | refine nL_law_674 ?_ | refine qL_law_674 ?_
  refine qL_law_675 (by omega) hL ?_
  refine qL_law_676 (by assumption) (Nat.le_of_ble_eq_true rfl) (m_canTouch hm1 ho (fun w2 hF2 hm2 => ?_))
  have h2 := h1.fr hF2 (fun q a1 a2 hq => by have hq1 : gB G + 92 ≤ q := hq.1; omega)
  exact qL_law_679 (fun _ => k _ _ h2 hm2 (ho)) (fun hne => absurd rfl hne)
theorem c_byCovers (hL : gL G ≤ 3072) (hi : i + 6 ≤ gL G) (h : clAt G w (gB G) s) (hm : mdAt G w (gB G + 92) s) (ho : okS s) (k : ∀ w' s', clAt G w' (gB G) s' → mdAt G w' (gB G + 92) s' → okS s' → wp G (d + 17) m_law P 1218 [some (.ref (gb G)), some (.ref (gB G)), some (.ref (gB G + 92)), some (.int (nI i))] [] w' κ) : wp G (d + 17) m_law P 684 [some (.ref (gb G)), some (.ref (gB G)), some (.ref (gB G + 92)), some (.int (nI i))] [] w κ := by
  have e0 := h.o
  refine qL_law_684 ?_
  refine qL_law_685 ?_
  refine qL_law_686 ?_
  refine qL_law_687 ?_
  first | refine nL_law_688 ?_ | refine qL_law_688 ?_
  refine qL_law_689 (by omega) hL ?_
  refine qL_law_690 ?_
  refine qL_law_691 ?_
  refine qL_law_692 ?_
  first | refine nL_law_693 ?_ | refine qL_law_693 ?_
  refine qL_law_694 (by omega) hL ?_
  refine qL_law_695 (by assumption) (Nat.le_of_ble_eq_true rfl) (t_byCovers h ho (fun w1 hF1 h1 => ?_))
  have hm1 := hm.fr hF1 (fun q a1 a2 hq => by have hq2 : q < gB G + 92 := hq.2; omega)
  obtain ⟨⟨v, o1, _⟩, _⟩ := id hm1
  refine qL_law_698 ?_
  refine qL_law_699 ?_
  refine qL_law_700 ?_
  refine qL_law_701 ?_
  first | refine nL_law_702 ?_ | refine qL_law_702 ?_
  refine qL_law_703 (by omega) hL ?_
  refine qL_law_704 ?_
  refine qL_law_705 ?_
  refine qL_law_706 ?_
  first | refine nL_law_707 ?_ | refine qL_law_707 ?_
  refine qL_law_708 (by omega) hL ?_
  refine qL_law_709 (by assumption) (Nat.le_of_ble_eq_true rfl) (m_byCovers hm1 ho (fun w2 hF2 hm2 => ?_))
  have h2 := h1.fr hF2 (fun q a1 a2 hq => by have hq1 : gB G + 92 ≤ q := hq.1; omega)
  exact qL_law_712 (fun _ => k _ _ h2 hm2 (ho)) (fun hne => absurd rfl hne)
theorem c_cover (hL : gL G ≤ 3072) (hi : i + 6 ≤ gL G) (h : clAt G w (gB G) s) (hm : mdAt G w (gB G + 92) s) (ho : okS s) (k : ∀ w' s', clAt G w' (gB G) s' → mdAt G w' (gB G + 92) s' → okS s' → wp G (d + 17) m_law P 1218 [some (.ref (gb G)), some (.ref (gB G)), some (.ref (gB G + 92)), some (.int (nI i))] [] w' κ) : wp G (d + 17) m_law P 717 [some (.ref (gb G)), some (.ref (gB G)), some (.ref (gB G + 92)), some (.int (nI i))] [] w κ := by
  have e0 := h.o
  refine qL_law_717 ?_
  refine qL_law_718 ?_
  refine qL_law_719 ?_
  refine qL_law_720 ?_
  first | refine nL_law_721 ?_ | refine qL_law_721 ?_
  refine qL_law_722 (by omega) hL ?_
  refine qL_law_723 ?_
  refine qL_law_724 ?_
  refine qL_law_725 ?_
  first | refine nL_law_726 ?_ | refine qL_law_726 ?_
  refine qL_law_727 (by omega) hL ?_
  refine qL_law_728 (by assumption) (Nat.le_of_ble_eq_true rfl) (t_cover ffOK_ok h ho (fun w1 hF1 h1 => ?_))
  have hm1 := hm.fr hF1 (fun q a1 a2 hq => by have hq2 : q < gB G + 92 := hq.2; omega)
  obtain ⟨⟨v, o1, _⟩, _⟩ := id hm1
  refine qL_law_731 ?_
  refine qL_law_732 ?_
  refine qL_law_733 ?_
  refine qL_law_734 ?_
  first | refine nL_law_735 ?_ | refine qL_law_735 ?_
  refine qL_law_736 (by omega) hL ?_
  refine qL_law_737 ?_
  refine qL_law_738 ?_
  refine qL_law_739 ?_
  first | refine nL_law_740 ?_ | refine qL_law_740 ?_
  refine qL_law_741 (by omega) hL ?_
  refine qL_law_742 (by assumption) (Nat.le_of_ble_eq_true rfl) (m_cover hm1 ho (fun w2 hF2 hm2 => ?_))
  have h2 := h1.fr hF2 (fun q a1 a2 hq => by have hq1 : gB G + 92 ≤ q := hq.1; omega)
  exact qL_law_745 (fun _ => k _ _ h2 hm2 (ho)) (fun hne => absurd rfl hne)
theorem c_cone (hL : gL G ≤ 3072) (hi : i + 6 ≤ gL G) (h : clAt G w (gB G) s) (hm : mdAt G w (gB G + 92) s) (ho : okS s) (k : ∀ w' s', clAt G w' (gB G) s' → mdAt G w' (gB G + 92) s' → okS s' → wp G (d + 17) m_law P 1218 [some (.ref (gb G)), some (.ref (gB G)), some (.ref (gB G + 92)), some (.int (nI i))] [] w' κ) : wp G (d + 17) m_law P 750 [some (.ref (gb G)), some (.ref (gB G)), some (.ref (gB G + 92)), some (.int (nI i))] [] w κ := by
  have e0 := h.o
  refine qL_law_750 ?_
  refine qL_law_751 ?_
  refine qL_law_752 ?_
  refine qL_law_753 ?_
  first | refine nL_law_754 ?_ | refine qL_law_754 ?_
  refine qL_law_755 (by omega) hL ?_
  refine qL_law_756 ?_
  refine qL_law_757 ?_
  refine qL_law_758 ?_
  first | refine nL_law_759 ?_ | refine qL_law_759 ?_
  refine qL_law_760 (by omega) hL ?_
  refine qL_law_761 ?_
  refine qL_law_762 ?_
  refine qL_law_763 ?_
  first | refine nL_law_764 ?_ | refine qL_law_764 ?_
  refine qL_law_765 (by omega) hL ?_
  refine qL_law_766 ?_
  refine qL_law_767 ?_
  refine qL_law_768 ?_
  first | refine nL_law_769 ?_ | refine qL_law_769 ?_
  refine qL_law_770 (by omega) hL ?_
  refine qL_law_771 (by assumption) (Nat.le_of_ble_eq_true rfl) (t_cone h ho ?_)
  have h1 := h
  have hm1 := hm
  obtain ⟨⟨v, o1, _⟩, _⟩ := id hm1
  refine qL_law_774 ?_
  refine qL_law_775 ?_
  refine qL_law_776 ?_
  refine qL_law_777 ?_
  first | refine nL_law_778 ?_ | refine qL_law_778 ?_
  refine qL_law_779 (by omega) hL ?_
  refine qL_law_780 ?_
  refine qL_law_781 ?_
  refine qL_law_782 ?_
  first | refine nL_law_783 ?_ | refine qL_law_783 ?_
  refine qL_law_784 (by omega) hL ?_
  refine qL_law_785 ?_
  refine qL_law_786 ?_
  refine qL_law_787 ?_
  first | refine nL_law_788 ?_ | refine qL_law_788 ?_
  refine qL_law_789 (by omega) hL ?_
  refine qL_law_790 ?_
  refine qL_law_791 ?_
  refine qL_law_792 ?_
  first | refine nL_law_793 ?_ | refine qL_law_793 ?_
  refine qL_law_794 (by omega) hL ?_
  refine qL_law_795 (by assumption) (Nat.le_of_ble_eq_true rfl) (m_cone hm1 ho ?_)
  have h2 := h1
  have hm2 := hm1
  exact qL_law_798 (fun _ => k _ _ h2 hm2 (ho)) (fun hne => absurd rfl hne)
theorem c_factor (hL : gL G ≤ 3072) (hi : i + 6 ≤ gL G) (h : clAt G w (gB G) s) (hm : mdAt G w (gB G + 92) s) (ho : okS s) (k : ∀ w' s', clAt G w' (gB G) s' → mdAt G w' (gB G + 92) s' → okS s' → wp G (d + 17) m_law P 1218 [some (.ref (gb G)), some (.ref (gB G)), some (.ref (gB G + 92)), some (.int (nI i))] [] w' κ) : wp G (d + 17) m_law P 803 [some (.ref (gb G)), some (.ref (gB G)), some (.ref (gB G + 92)), some (.int (nI i))] [] w κ := by
  have e0 := h.o
  refine qL_law_803 ?_
  refine qL_law_804 ?_
  refine qL_law_805 ?_
  refine qL_law_806 ?_
  first | refine nL_law_807 ?_ | refine qL_law_807 ?_
  refine qL_law_808 (by omega) hL ?_
  refine qL_law_809 ?_
  refine qL_law_810 ?_
  refine qL_law_811 ?_
  first | refine nL_law_812 ?_ | refine qL_law_812 ?_
  refine qL_law_813 (by omega) hL ?_
  refine qL_law_814 ?_
  refine qL_law_815 ?_
  refine qL_law_816 ?_
  first | refine nL_law_817 ?_ | refine qL_law_817 ?_
  refine qL_law_818 (by omega) hL ?_
  refine qL_law_819 (by assumption) (Nat.le_of_ble_eq_true rfl) (t_factor h ho ?_)
  have h1 := h
  have hm1 := hm
  obtain ⟨⟨v, o1, _⟩, _⟩ := id hm1
  refine qL_law_822 ?_
  refine qL_law_823 ?_
  refine qL_law_824 ?_
  refine qL_law_825 ?_
  first | refine nL_law_826 ?_ | refine qL_law_826 ?_
  refine qL_law_827 (by omega) hL ?_
  refine qL_law_828 ?_
  refine qL_law_829 ?_
  refine qL_law_830 ?_
  first | refine nL_law_831 ?_ | refine qL_law_831 ?_
  refine qL_law_832 (by omega) hL ?_
  refine qL_law_833 ?_
  refine qL_law_834 ?_
  refine qL_law_835 ?_
  first | refine nL_law_836 ?_ | refine qL_law_836 ?_
  refine qL_law_837 (by omega) hL ?_
  refine qL_law_838 (by assumption) (Nat.le_of_ble_eq_true rfl) (m_factor hm1 ho ?_)
  have h2 := h1
  have hm2 := hm1
  exact qL_law_841 (fun _ => k _ _ h2 hm2 (ho)) (fun hne => absurd rfl hne)
theorem c_byCone (hL : gL G ≤ 3072) (hi : i + 6 ≤ gL G) (h : clAt G w (gB G) s) (hm : mdAt G w (gB G + 92) s) (ho : okS s) (k : ∀ w' s', clAt G w' (gB G) s' → mdAt G w' (gB G + 92) s' → okS s' → wp G (d + 17) m_law P 1218 [some (.ref (gb G)), some (.ref (gB G)), some (.ref (gB G + 92)), some (.int (nI i))] [] w' κ) : wp G (d + 17) m_law P 846 [some (.ref (gb G)), some (.ref (gB G)), some (.ref (gB G + 92)), some (.int (nI i))] [] w κ := by
  have e0 := h.o
  obtain ⟨b, hb⟩ : ∃ b : Bool, (b = true ↔ gx G (i + 2) ≠ 0) := ⟨decide (gx G (i + 2) ≠ 0), by simp⟩
  refine qL_law_846 ?_
  refine qL_law_847 ?_
  refine qL_law_848 ?_
  refine qL_law_849 ?_
  first | refine nL_law_850 ?_ | refine qL_law_850 ?_
  refine qL_law_851 (by omega) hL ?_
  refine qL_law_852 ?_
  refine qL_law_853 ?_
  refine qL_law_854 ?_
  first | refine nL_law_855 ?_ | refine qL_law_855 ?_
  refine qL_law_856 (by omega) hL ?_
  refine jn_857 hb ?_
  refine qL_law_865 ?_
  refine qL_law_866 ?_
  refine qL_law_867 ?_
  first | refine nL_law_868 ?_ | refine qL_law_868 ?_
  refine qL_law_869 (by omega) hL ?_
  refine qL_law_870 (by assumption) (Nat.le_of_ble_eq_true rfl) (t_byCone b h ho (fun w1 hF1 h1 => ?_))
  have hm1 := hm.fr hF1 (fun q a1 a2 hq => by have hq2 : q < gB G + 92 := hq.2; omega)
  obtain ⟨⟨v, o1, _⟩, _⟩ := id hm1
  refine qL_law_873 ?_
  refine qL_law_874 ?_
  refine qL_law_875 ?_
  refine qL_law_876 ?_
  first | refine nL_law_877 ?_ | refine qL_law_877 ?_
  refine qL_law_878 (by omega) hL ?_
  refine qL_law_879 ?_
  refine qL_law_880 ?_
  refine qL_law_881 ?_
  first | refine nL_law_882 ?_ | refine qL_law_882 ?_
  refine qL_law_883 (by omega) hL ?_
  refine jn_884 hb ?_
  refine qL_law_892 ?_
  refine qL_law_893 ?_
  refine qL_law_894 ?_
  first | refine nL_law_895 ?_ | refine qL_law_895 ?_
  refine qL_law_896 (by omega) hL ?_
  refine qL_law_897 (by assumption) (Nat.le_of_ble_eq_true rfl) (m_byCone b hm1 ho (fun w2 hF2 hm2 => ?_))
  have h2 := h1.fr hF2 (fun q a1 a2 hq => by have hq1 : gB G + 92 ≤ q := hq.1; omega)
  exact qL_law_900 (fun _ => k _ _ h2 hm2 (ho)) (fun hne => absurd rfl hne)
theorem c_arrayOf (hL : gL G ≤ 3072) (hi : i + 6 ≤ gL G) (h : clAt G w (gB G) s) (hm : mdAt G w (gB G + 92) s) (ho : okS s) (k : ∀ w' s', clAt G w' (gB G) s' → mdAt G w' (gB G + 92) s' → okS s' → wp G (d + 17) m_law P 1218 [some (.ref (gb G)), some (.ref (gB G)), some (.ref (gB G + 92)), some (.int (nI i))] [] w' κ) : wp G (d + 17) m_law P 905 [some (.ref (gb G)), some (.ref (gB G)), some (.ref (gB G + 92)), some (.int (nI i))] [] w κ := by
  have e0 := h.o
  refine qL_law_905 ?_
  refine qL_law_906 ?_
  refine qL_law_907 ?_
  refine qL_law_908 ?_
  first | refine nL_law_909 ?_ | refine qL_law_909 ?_
  refine qL_law_910 (by omega) hL ?_
  refine qL_law_911 ?_
  refine qL_law_912 ?_
  refine qL_law_913 ?_
  first | refine nL_law_914 ?_ | refine qL_law_914 ?_
  refine qL_law_915 (by omega) hL ?_
  refine qL_law_916 (by assumption) (Nat.le_of_ble_eq_true rfl) (t_arrayOf h ho ?_)
  have h1 := h
  have hm1 := hm
  obtain ⟨⟨v, o1, _⟩, _⟩ := id hm1
  refine qL_law_919 ?_
  refine qL_law_920 ?_
  refine qL_law_921 ?_
  refine qL_law_922 ?_
  first | refine nL_law_923 ?_ | refine qL_law_923 ?_
  refine qL_law_924 (by omega) hL ?_
  refine qL_law_925 ?_
  refine qL_law_926 ?_
  refine qL_law_927 ?_
  first | refine nL_law_928 ?_ | refine qL_law_928 ?_
  refine qL_law_929 (by omega) hL ?_
  refine qL_law_930 (by assumption) (Nat.le_of_ble_eq_true rfl) (m_arrayOf hm1 ho ?_)
  have h2 := h1
  have hm2 := hm1
  exact qL_law_933 (fun _ => k _ _ h2 hm2 (ho)) (fun hne => absurd rfl hne)
theorem c_ring (hL : gL G ≤ 3072) (hi : i + 6 ≤ gL G) (h : clAt G w (gB G) s) (hm : mdAt G w (gB G + 92) s) (ho : okS s) (k : ∀ w' s', clAt G w' (gB G) s' → mdAt G w' (gB G + 92) s' → okS s' → wp G (d + 17) m_law P 1218 [some (.ref (gb G)), some (.ref (gB G)), some (.ref (gB G + 92)), some (.int (nI i))] [] w' κ) : wp G (d + 17) m_law P 938 [some (.ref (gb G)), some (.ref (gB G)), some (.ref (gB G + 92)), some (.int (nI i))] [] w κ := by
  have e0 := h.o
  refine qL_law_938 ?_
  refine qL_law_939 ?_
  refine qL_law_940 ?_
  refine qL_law_941 ?_
  first | refine nL_law_942 ?_ | refine qL_law_942 ?_
  refine qL_law_943 (by omega) hL ?_
  refine qL_law_944 ?_
  refine qL_law_945 ?_
  refine qL_law_946 ?_
  first | refine nL_law_947 ?_ | refine qL_law_947 ?_
  refine qL_law_948 (by omega) hL ?_
  refine qL_law_949 (by assumption) (Nat.le_of_ble_eq_true rfl) (t_ring h ho (fun w1 hF1 h1 => ?_))
  have hm1 := hm.fr hF1 (fun q a1 a2 hq => by have hq2 : q < gB G + 92 := hq.2; omega)
  obtain ⟨⟨v, o1, _⟩, _⟩ := id hm1
  refine qL_law_952 ?_
  refine qL_law_953 ?_
  refine qL_law_954 ?_
  refine qL_law_955 ?_
  first | refine nL_law_956 ?_ | refine qL_law_956 ?_
  refine qL_law_957 (by omega) hL ?_
  refine qL_law_958 ?_
  refine qL_law_959 ?_
  refine qL_law_960 ?_
  first | refine nL_law_961 ?_ | refine qL_law_961 ?_
  refine qL_law_962 (by omega) hL ?_
  refine qL_law_963 (by assumption) (Nat.le_of_ble_eq_true rfl) (m_ring hm1 ho ?_)
  have h2 := h1
  have hm2 := hm1
  exact qL_law_966 (fun _ => k _ _ h2 hm2 (ho)) (fun hne => absurd rfl hne)
theorem c_count (hL : gL G ≤ 3072) (hi : i + 6 ≤ gL G) (h : clAt G w (gB G) s) (hm : mdAt G w (gB G + 92) s) (ho : okS s) (k : ∀ w' s', clAt G w' (gB G) s' → mdAt G w' (gB G + 92) s' → okS s' → wp G (d + 17) m_law P 1218 [some (.ref (gb G)), some (.ref (gB G)), some (.ref (gB G + 92)), some (.int (nI i))] [] w' κ) : wp G (d + 17) m_law P 971 [some (.ref (gb G)), some (.ref (gB G)), some (.ref (gB G + 92)), some (.int (nI i))] [] w κ := by
  have e0 := h.o
  refine qL_law_971 ?_
  refine qL_law_972 ?_
  refine qL_law_973 ?_
  refine qL_law_974 ?_
  first | refine nL_law_975 ?_ | refine qL_law_975 ?_
  refine qL_law_976 (by omega) hL ?_
  refine qL_law_977 (by assumption) (Nat.le_of_ble_eq_true rfl) (t_count h ?_)
  have h1 := h
  have hm1 := hm
  obtain ⟨⟨v, o1, _⟩, _⟩ := id hm1
  refine qL_law_980 ?_
  refine qL_law_981 ?_
  refine qL_law_982 ?_
  refine qL_law_983 ?_
  first | refine nL_law_984 ?_ | refine qL_law_984 ?_
  refine qL_law_985 (by omega) hL ?_
  refine qL_law_986 (by assumption) (Nat.le_of_ble_eq_true rfl) (m_count hm1 ?_)
  have h2 := h1
  have hm2 := hm1
  exact qL_law_989 (fun _ => k _ _ h2 hm2 (ho)) (fun hne => absurd rfl hne)
theorem c_ifSet (hL : gL G ≤ 3072) (hi : i + 6 ≤ gL G) (h : clAt G w (gB G) s) (hm : mdAt G w (gB G + 92) s) (ho : okS s) (k : ∀ w' s', clAt G w' (gB G) s' → mdAt G w' (gB G + 92) s' → okS s' → wp G (d + 17) m_law P 1218 [some (.ref (gb G)), some (.ref (gB G)), some (.ref (gB G + 92)), some (.int (nI i))] [] w' κ) : wp G (d + 17) m_law P 994 [some (.ref (gb G)), some (.ref (gB G)), some (.ref (gB G + 92)), some (.int (nI i))] [] w κ := by
  have e0 := h.o
  refine qL_law_994 ?_
  refine qL_law_995 ?_
  refine qL_law_996 ?_
  refine qL_law_997 ?_
  first | refine nL_law_998 ?_ | refine qL_law_998 ?_
  refine qL_law_999 (by omega) hL ?_
  refine qL_law_1000 ?_
  refine qL_law_1001 ?_
  refine qL_law_1002 ?_
  first | refine nL_law_1003 ?_ | refine qL_law_1003 ?_
  refine qL_law_1004 (by omega) hL ?_
  refine qL_law_1005 ?_
  refine qL_law_1006 ?_
  refine qL_law_1007 ?_
  first | refine nL_law_1008 ?_ | refine qL_law_1008 ?_
  refine qL_law_1009 (by omega) hL ?_
  refine qL_law_1010 ?_
  refine qL_law_1011 ?_
  refine qL_law_1012 ?_
  first | refine nL_law_1013 ?_ | refine qL_law_1013 ?_
  refine qL_law_1014 (by omega) hL ?_
  refine qL_law_1015 ?_
  refine qL_law_1016 ?_
  refine qL_law_1017 ?_
  first | refine nL_law_1018 ?_ | refine qL_law_1018 ?_
  refine qL_law_1019 (by omega) hL ?_
  refine qL_law_1020 (by assumption) (Nat.le_of_ble_eq_true rfl) (t_ifSet h ho (fun w1 hF1 h1 => ?_))
  have hm1 := hm.fr hF1 (fun q a1 a2 hq => by have hq2 : q < gB G + 92 := hq.2; omega)
  obtain ⟨⟨v, o1, _⟩, _⟩ := id hm1
  refine qL_law_1023 ?_
  refine qL_law_1024 ?_
  refine qL_law_1025 ?_
  refine qL_law_1026 ?_
  first | refine nL_law_1027 ?_ | refine qL_law_1027 ?_
  refine qL_law_1028 (by omega) hL ?_
  refine qL_law_1029 ?_
  refine qL_law_1030 ?_
  refine qL_law_1031 ?_
  first | refine nL_law_1032 ?_ | refine qL_law_1032 ?_
  refine qL_law_1033 (by omega) hL ?_
  refine qL_law_1034 ?_
  refine qL_law_1035 ?_
  refine qL_law_1036 ?_
  first | refine nL_law_1037 ?_ | refine qL_law_1037 ?_
  refine qL_law_1038 (by omega) hL ?_
  refine qL_law_1039 ?_
  refine qL_law_1040 ?_
  refine qL_law_1041 ?_
  first | refine nL_law_1042 ?_ | refine qL_law_1042 ?_
  refine qL_law_1043 (by omega) hL ?_
  refine qL_law_1044 ?_
  refine qL_law_1045 ?_
  refine qL_law_1046 ?_
  first | refine nL_law_1047 ?_ | refine qL_law_1047 ?_
  refine qL_law_1048 (by omega) hL ?_
  refine qL_law_1049 (by assumption) (Nat.le_of_ble_eq_true rfl) (m_ifSet hm1 ho (fun w2 hF2 hm2 => ?_))
  have h2 := h1.fr hF2 (fun q a1 a2 hq => by have hq1 : gB G + 92 ≤ q := hq.1; omega)
  exact qL_law_1052 (fun _ => k _ _ h2 hm2 (ho)) (fun hne => absurd rfl hne)
theorem c_bestZero (hL : gL G ≤ 3072) (hi : i + 6 ≤ gL G) (h : clAt G w (gB G) s) (hm : mdAt G w (gB G + 92) s) (ho : okS s) (k : ∀ w' s', clAt G w' (gB G) s' → mdAt G w' (gB G + 92) s' → okS s' → wp G (d + 17) m_law P 1218 [some (.ref (gb G)), some (.ref (gB G)), some (.ref (gB G + 92)), some (.int (nI i))] [] w' κ) : wp G (d + 17) m_law P 1057 [some (.ref (gb G)), some (.ref (gB G)), some (.ref (gB G + 92)), some (.int (nI i))] [] w κ := by
  have e0 := h.o
  refine qL_law_1057 ?_
  refine qL_law_1058 ?_
  refine qL_law_1059 ?_
  refine qL_law_1060 ?_
  first | refine nL_law_1061 ?_ | refine qL_law_1061 ?_
  refine qL_law_1062 (by omega) hL ?_
  refine qL_law_1063 (by assumption) (Nat.le_of_ble_eq_true rfl) (t_bestZero h ho (fun w1 hF1 h1 => ?_))
  have hm1 := hm.fr hF1 (fun q a1 a2 hq => by have hq2 : q < gB G + 92 := hq.2; omega)
  obtain ⟨⟨v, o1, _⟩, _⟩ := id hm1
  refine qL_law_1066 ?_
  refine qL_law_1067 ?_
  refine qL_law_1068 ?_
  refine qL_law_1069 ?_
  first | refine nL_law_1070 ?_ | refine qL_law_1070 ?_
  refine qL_law_1071 (by omega) hL ?_
  refine qL_law_1072 (by assumption) (Nat.le_of_ble_eq_true rfl) (m_bestZero hm1 ho (fun w2 hF2 hm2 => ?_))
  have h2 := h1.fr hF2 (fun q a1 a2 hq => by have hq1 : gB G + 92 ≤ q := hq.1; omega)
  exact qL_law_1075 (fun _ => k _ _ h2 hm2 (ho)) (fun hne => absurd rfl hne)
theorem c_put (hL : gL G ≤ 3072) (hi : i + 6 ≤ gL G) (h : clAt G w (gB G) s) (hm : mdAt G w (gB G + 92) s) (ho : okS s) (k : ∀ w' s', clAt G w' (gB G) s' → mdAt G w' (gB G + 92) s' → okS s' → wp G (d + 17) m_law P 1218 [some (.ref (gb G)), some (.ref (gB G)), some (.ref (gB G + 92)), some (.int (nI i))] [] w' κ) : wp G (d + 17) m_law P 1080 [some (.ref (gb G)), some (.ref (gB G)), some (.ref (gB G + 92)), some (.int (nI i))] [] w κ := by
  have e0 := h.o
  refine qL_law_1080 ?_
  refine qL_law_1081 ?_
  refine qL_law_1082 ?_
  refine qL_law_1083 ?_
  first | refine nL_law_1084 ?_ | refine qL_law_1084 ?_
  refine qL_law_1085 (by omega) hL ?_
  refine qL_law_1086 ?_
  refine qL_law_1087 ?_
  refine qL_law_1089 ?_
  refine qL_law_1090 ?_
  refine qL_law_1091 ?_
  refine qL_law_1092 ?_
  first | refine nL_law_1093 ?_ | refine qL_law_1093 ?_
  refine qL_law_1094 (by omega) hL ?_
  refine qL_law_1095 ?_
  refine qL_law_1096 ?_
  refine qL_law_1099 ?_
  refine qL_law_1100 ?_
  refine qL_law_1101 (by assumption) (Nat.le_of_ble_eq_true rfl) (t_putL h ho (fun w1 hF1 h1 => ?_))
  have hm1 := hm.fr hF1 (fun q a1 a2 hq => by have hq2 : q < gB G + 92 := hq.2; omega)
  obtain ⟨⟨v, o1, _⟩, _⟩ := id hm1
  refine qL_law_1104 ?_
  refine qL_law_1105 ?_
  refine qL_law_1106 ?_
  refine qL_law_1107 ?_
  first | refine nL_law_1108 ?_ | refine qL_law_1108 ?_
  refine qL_law_1109 (by omega) hL ?_
  refine qL_law_1110 ?_
  refine qL_law_1111 ?_
  refine qL_law_1113 ?_
  refine qL_law_1114 ?_
  refine qL_law_1115 ?_
  refine qL_law_1116 ?_
  first | refine nL_law_1117 ?_ | refine qL_law_1117 ?_
  refine qL_law_1118 (by omega) hL ?_
  refine qL_law_1119 ?_
  refine qL_law_1120 ?_
  refine qL_law_1123 ?_
  refine qL_law_1124 ?_
  refine qL_law_1125 (by assumption) (Nat.le_of_ble_eq_true rfl) (m_putL hm1 ho (fun w2 hF2 hm2 => ?_))
  have h2 := h1.fr hF2 (fun q a1 a2 hq => by have hq1 : gB G + 92 ≤ q := hq.1; omega)
  exact qL_law_1128 (fun _ => k _ _ h2 hm2 (ok_put ho)) (fun hne => absurd rfl hne)
theorem c_wipe (hL : gL G ≤ 3072) (hi : i + 6 ≤ gL G) (h : clAt G w (gB G) s) (hm : mdAt G w (gB G + 92) s) (ho : okS s) (k : ∀ w' s', clAt G w' (gB G) s' → mdAt G w' (gB G + 92) s' → okS s' → wp G (d + 17) m_law P 1218 [some (.ref (gb G)), some (.ref (gB G)), some (.ref (gB G + 92)), some (.int (nI i))] [] w' κ) : wp G (d + 17) m_law P 1133 [some (.ref (gb G)), some (.ref (gB G)), some (.ref (gB G + 92)), some (.int (nI i))] [] w κ := by
  have e0 := h.o
  refine qL_law_1133 ?_
  refine qL_law_1134 (by assumption) (Nat.le_of_ble_eq_true rfl) (t_wipe h (fun w1 hF1 h1 => ?_))
  have hm1 := hm.fr hF1 (fun q a1 a2 hq => by have hq2 : q < gB G + 92 := hq.2; omega)
  obtain ⟨⟨v, o1, _⟩, _⟩ := id hm1
  refine qL_law_1137 ?_
  refine qL_law_1138 (by assumption) (Nat.le_of_ble_eq_true rfl) (m_wipe hm1 (fun w2 hF2 hm2 => ?_))
  have h2 := h1.fr hF2 (fun q a1 a2 hq => by have hq1 : gB G + 92 ≤ q := hq.1; omega)
  exact qL_law_1141 (fun _ => k _ _ h2 hm2 (ok_wipe ho)) (fun hne => absurd rfl hne)
theorem c_fault (hL : gL G ≤ 3072) (hi : i + 6 ≤ gL G) (h : clAt G w (gB G) s) (hm : mdAt G w (gB G + 92) s) (ho : okS s) (k : ∀ w' s', clAt G w' (gB G) s' → mdAt G w' (gB G + 92) s' → okS s' → wp G (d + 17) m_law P 1218 [some (.ref (gb G)), some (.ref (gB G)), some (.ref (gB G + 92)), some (.int (nI i))] [] w' κ) : wp G (d + 17) m_law P 1146 [some (.ref (gb G)), some (.ref (gB G)), some (.ref (gB G + 92)), some (.int (nI i))] [] w κ := by
  have e0 := h.o
  refine qL_law_1146 ?_
  refine qL_law_1147 (by assumption) (Nat.le_of_ble_eq_true rfl) (t_fault h ho ?_)
  have h1 := h
  have hm1 := hm
  obtain ⟨⟨v, o1, _⟩, _⟩ := id hm1
  refine qL_law_1150 ?_
  refine qL_law_1151 (by assumption) (Nat.le_of_ble_eq_true rfl) (m_fault hm1 ho (fun w2 hF2 hm2 => ?_))
  have h2 := h1.fr hF2 (fun q a1 a2 hq => by have hq1 : gB G + 92 ≤ q := hq.1; omega)
  exact qL_law_1154 (fun _ => k _ _ h2 hm2 (ho)) (fun hne => absurd rfl hne)
theorem c_undo (hL : gL G ≤ 3072) (hi : i + 6 ≤ gL G) (h : clAt G w (gB G) s) (hm : mdAt G w (gB G + 92) s) (ho : okS s) (k : ∀ w' s', clAt G w' (gB G) s' → mdAt G w' (gB G + 92) s' → okS s' → wp G (d + 17) m_law P 1218 [some (.ref (gb G)), some (.ref (gB G)), some (.ref (gB G + 92)), some (.int (nI i))] [] w' κ) : wp G (d + 17) m_law P 1159 [some (.ref (gb G)), some (.ref (gB G)), some (.ref (gB G + 92)), some (.int (nI i))] [] w κ := by
  have e0 := h.o
  refine qL_law_1159 ?_
  refine qL_law_1160 (by assumption) (Nat.le_of_ble_eq_true rfl) (t_undo h ho (fun w1 hF1 h1 => ?_))
  have hm1 := hm.fr hF1 (fun q a1 a2 hq => by have hq2 : q < gB G + 92 := hq.2; omega)
  obtain ⟨⟨v, o1, _⟩, _⟩ := id hm1
  refine qL_law_1163 ?_
  refine qL_law_1164 (by assumption) (Nat.le_of_ble_eq_true rfl) (m_undo hm1 ho (fun w2 hF2 hm2 => ?_))
  have h2 := h1.fr hF2 (fun q a1 a2 hq => by have hq1 : gB G + 92 ≤ q := hq.1; omega)
  exact qL_law_1167 (fun _ => k _ _ h2 hm2 (ok_undo ho)) (fun hne => absurd rfl hne)
theorem c_save (hL : gL G ≤ 3072) (hi : i + 6 ≤ gL G) (h : clAt G w (gB G) s) (hm : mdAt G w (gB G + 92) s) (ho : okS s) (k : ∀ w' s', clAt G w' (gB G) s' → mdAt G w' (gB G + 92) s' → okS s' → wp G (d + 17) m_law P 1218 [some (.ref (gb G)), some (.ref (gB G)), some (.ref (gB G + 92)), some (.int (nI i))] [] w' κ) : wp G (d + 17) m_law P 1172 [some (.ref (gb G)), some (.ref (gB G)), some (.ref (gB G + 92)), some (.int (nI i))] [] w κ := by
  have e0 := h.o
  refine qL_law_1172 ?_
  refine qL_law_1173 ?_
  refine qL_law_1174 ?_
  refine qL_law_1175 ?_
  first | refine nL_law_1176 ?_ | refine qL_law_1176 ?_
  refine qL_law_1177 (by omega) hL ?_
  refine qL_law_1178 (by assumption) (Nat.le_of_ble_eq_true rfl) (t_save h ho (fun w1 hF1 h1 => ?_))
  have hm1 := hm.fr hF1 (fun q a1 a2 hq => by have hq2 : q < gB G + 92 := hq.2; omega)
  obtain ⟨⟨v, o1, _⟩, _⟩ := id hm1
  refine qL_law_1181 ?_
  refine qL_law_1182 ?_
  refine qL_law_1183 ?_
  refine qL_law_1184 ?_
  first | refine nL_law_1185 ?_ | refine qL_law_1185 ?_
  refine qL_law_1186 (by omega) hL ?_
  refine qL_law_1187 (by assumption) (Nat.le_of_ble_eq_true rfl) (m_save hm1 ho (fun w2 hF2 hm2 => ?_))
  have h2 := h1.fr hF2 (fun q a1 a2 hq => by have hq1 : gB G + 92 ≤ q := hq.1; omega)
  exact qL_law_1190 (fun _ => k _ _ h2 hm2 (ok_save ho)) (fun hne => absurd rfl hne)
theorem c_restore (hL : gL G ≤ 3072) (hi : i + 6 ≤ gL G) (h : clAt G w (gB G) s) (hm : mdAt G w (gB G + 92) s) (ho : okS s) (k : ∀ w' s', clAt G w' (gB G) s' → mdAt G w' (gB G + 92) s' → okS s' → wp G (d + 17) m_law P 1218 [some (.ref (gb G)), some (.ref (gB G)), some (.ref (gB G + 92)), some (.int (nI i))] [] w' κ) : wp G (d + 17) m_law P 1195 [some (.ref (gb G)), some (.ref (gB G)), some (.ref (gB G + 92)), some (.int (nI i))] [] w κ := by
  have e0 := h.o
  refine qL_law_1195 ?_
  refine qL_law_1196 ?_
  refine qL_law_1197 ?_
  refine qL_law_1198 ?_
  first | refine nL_law_1199 ?_ | refine qL_law_1199 ?_
  refine qL_law_1200 (by omega) hL ?_
  refine qL_law_1201 (by assumption) (Nat.le_of_ble_eq_true rfl) (t_restore h ho (fun w1 hF1 h1 => ?_))
  have hm1 := hm.fr hF1 (fun q a1 a2 hq => by have hq2 : q < gB G + 92 := hq.2; omega)
  obtain ⟨⟨v, o1, _⟩, _⟩ := id hm1
  refine qL_law_1204 ?_
  refine qL_law_1205 ?_
  refine qL_law_1206 ?_
  refine qL_law_1207 ?_
  first | refine nL_law_1208 ?_ | refine qL_law_1208 ?_
  refine qL_law_1209 (by omega) hL ?_
  refine qL_law_1210 (by assumption) (Nat.le_of_ble_eq_true rfl) (m_restore hm1 ho (fun w2 hF2 hm2 => ?_))
  have h2 := h1.fr hF2 (fun q a1 a2 hq => by have hq1 : gB G + 92 ≤ q := hq.1; omega)
  exact qL_law_1213 (fun _ => k _ _ h2 hm2 (ok_restore ho)) (fun hne => absurd rfl hne)
theorem law_loop (hL : gL G ≤ 3072) (hP : ∀ w', P (some (.int 1)) w') : ∀ n i (w : sW) (s : xS), gL G ≤ i + n → i ≤ gL G → clAt G w (gB G) s → mdAt G w (gB G + 92) s → okS s → wp G (d + 17) m_law P 18 [some (.ref (gb G)), some (.ref (gB G)), some (.ref (gB G + 92)), some (.int (nI i))] [] w κ := by
  intro n
  induction n with
  | zero =>
    intro i w s hn hi h hm ho
    refine qL_law_18 ?_
    refine qL_law_19 ?_
    refine qL_law_20 ?_
    refine qL_law_21 ?_
    refine law_end hL hi (fun _ => ?_) (fun z => by exfalso; omega)
    refine qL_law_1224 (qL_law_1225 rfl (hP w))
  | succ n ih =>
    intro i w s hn hi h hm ho
    refine qL_law_18 ?_
    refine qL_law_19 ?_
    refine qL_law_20 ?_
    refine qL_law_21 ?_
    refine law_end hL hi (fun _ => ?_) (fun z => ?_)
    · refine qL_law_1224 (qL_law_1225 rfl (hP w))
    · have nx : ∀ w' s', clAt G w' (gB G) s' → mdAt G w' (gB G + 92) s' → okS s' → wp G (d + 17) m_law P 1218 [some (.ref (gb G)), some (.ref (gB G)), some (.ref (gB G + 92)), some (.int (nI i))] [] w' κ := by
        intro w' s' h' hm' ho'
        first | refine nL_law_1218 ?_ | refine qL_law_1218 ?_
        refine qL_law_1221 ?_
        exact ih (i + 6) w' s' (by omega) (by omega) h' hm' ho'
      refine qL_law_27 ?_
      refine qL_law_28 ?_
      refine qL_law_29 (by omega) hL ?_
      refine qL_law_30 ?_
      refine qL_law_32 ?_
      obtain ⟨t, ht, e⟩ := nI_and31 (gx G i)
      rw [e]
      rcases (show t = 0 ∨ t = 1 ∨ t = 2 ∨ t = 3 ∨ t = 4 ∨ t = 5 ∨ t = 6 ∨ t = 7 ∨ t = 8 ∨ t = 9 ∨ t = 10 ∨ t = 11 ∨ t = 12 ∨ t = 13 ∨ t = 14 ∨ t = 15 ∨ t = 16 ∨ t = 17 ∨ t = 18 ∨ t = 19 ∨ t = 20 ∨ t = 21 ∨ t = 22 ∨ t = 23 ∨ t = 24 ∨ t = 25 ∨ t = 26 ∨ t = 27 ∨ 28 ≤ t by omega) with rfl | rfl | rfl | rfl | rfl | rfl | rfl | rfl | rfl | rfl | rfl | rfl | rfl | rfl | rfl | rfl | rfl | rfl | rfl | rfl | rfl | rfl | rfl | rfl | rfl | rfl | rfl | rfl | h28
      · exact qL_law_33_0 (c_load hL z h hm ho nx)
      · exact qL_law_33_1 (c_set hL z h hm ho nx)
      · exact qL_law_33_2 (c_raise hL z h hm ho nx)
      · exact qL_law_33_3 (c_exchange hL z h hm ho nx)
      · exact qL_law_33_4 (c_drop hL z h hm ho nx)
      · exact qL_law_33_5 (c_turn hL z h hm ho nx)
      · exact qL_law_33_6 (c_product hL z h hm ho nx)
      · exact qL_law_33_7 (c_close hL z h hm ho nx)
      · exact qL_law_33_8 (c_entry hL z h hm ho nx)
      · exact qL_law_33_9 (c_permanent hL z h hm ho nx)
      · exact qL_law_33_10 (c_byParts hL z h hm ho nx)
      · exact qL_law_33_11 (c_canTouch hL z h hm ho nx)
      · exact qL_law_33_12 (c_byCovers hL z h hm ho nx)
      · exact qL_law_33_13 (c_cover hL z h hm ho nx)
      · exact qL_law_33_14 (c_cone hL z h hm ho nx)
      · exact qL_law_33_15 (c_factor hL z h hm ho nx)
      · exact qL_law_33_16 (c_byCone hL z h hm ho nx)
      · exact qL_law_33_17 (c_arrayOf hL z h hm ho nx)
      · exact qL_law_33_18 (c_ring hL z h hm ho nx)
      · exact qL_law_33_19 (c_count hL z h hm ho nx)
      · exact qL_law_33_20 (c_ifSet hL z h hm ho nx)
      · exact qL_law_33_21 (c_bestZero hL z h hm ho nx)
      · exact qL_law_33_22 (c_put hL z h hm ho nx)
      · exact qL_law_33_23 (c_wipe hL z h hm ho nx)
      · exact qL_law_33_24 (c_fault hL z h hm ho nx)
      · exact qL_law_33_25 (c_undo hL z h hm ho nx)
      · exact qL_law_33_26 (c_save hL z h hm ho nx)
      · exact qL_law_33_27 (c_restore hL z h hm ho nx)
      · exact qL_law_33_d (Or.inr (by rw [nI_Z, iZ_T (by omega) (by omega)]; omega)) (nx w s h hm ho)
end LAW
theorem law_wp {w0 : sW} (hw : w0.2 = 0) (G : sG) (hL : gL G ≤ 3072) : wp G 17 m_law (fun r _ => r = some (.int 1)) 0 [some (.ref (gb G)), none, none, none] [] w0 (600000, 7302249) := by
  refine qL_law_0 (k1 := 599999) (k2 := 7302238) ?_
  rw [hw, Nat.add_zero]
  generalize hu1 : s_new w0 _ _ = u1
  have b1 : u1.1 (gB G) = ob 8 [.null, .null, .null, .null, .null, .null, .null, .null, .null, .null, .null] := by rw [← hu1]; exact s_newS
  have n1 : u1.2 = 1 := by rw [← hu1]; exact congrArg (· + 1) hw
  refine qL_law_3 rfl ?_
  refine qL_law_4 (k1 := 91) (k2 := 720) (j1 := 599908) (j2 := 7301518) (Nat.le_of_ble_eq_true rfl) (t_init9 n1 b1 (fun w2 n2 h2 => ⟨?_, rfl⟩))
  refine qL_law_7 ?_
  refine qL_law_8 (k1 := 599907) (k2 := 7301499) ?_
  rw [n2]
  generalize hu3 : s_new w2 _ _ = u3
  have b3 : u3.1 (gB G + 92) = ob 9 [.null, .null, .int 0, .null, .null, .null, .int 0, .null, .int 0, .null, .int 0, .null, .int 0, .int 0, .int 0, .null, .null, .null, .null] := by rw [← hu3]; exact s_newS
  have L3 : Lo w2 u3 (gB G + 92) := by rw [← hu3]; exact Lo.rf.nw (Nat.le_refl _)
  have n3 : u3.2 = 93 := by rw [← hu3]; exact congrArg (· + 1) n2
  refine qL_law_11 rfl ?_
  refine qL_law_12 (k1 := 12) (k2 := 8780) (j1 := 599895) (j2 := 7292719) (Nat.le_of_ble_eq_true rfl) (m_init rfl n3 b3 (fun w4 L4 hm4 => ⟨?_, rfl⟩))
  have h4 : clAt G w4 (gB G) s0S := clAt.fr (w := (w2.1, w4.2)) h2 (L3.tr L4 (Nat.le_refl _)).fr (fun q a1 a2 => Nat.not_le_of_lt a2)
  refine qL_law_15 ?_
  refine qL_law_16 ?_
  refine qL_law_17 ?_
  exact law_loop (d := 0) hL (fun _ => rfl) (gL G) 0 w4 s0S (by omega) (Nat.zero_le _) h4 hm4 okS0
