/-! THE LAW: each call, of both -/
set_option maxRecDepth 20000 in
theorem lc_line {E : qE} {l : Launch} {b L : Nat} {xs : Nat → Int32} {o1 u : Nat} {D : va_G} {ca : Nat → ClassId} {G : qSt → qSt → Nat → List (Option qV) → List qV → Prop} {σ τ : qSt} (C : Lx E l b L xs o1 u D ca G) {i : Int} (hi : 0 ≤ i ∧ i + 6 ≤ L) {A : aSt} (h1 : RelD σ A) (h2 : RelM τ A) (hA : AOk A) (hN : ∀ (σ' τ' : qSt) (A' : aSt), RelD σ' A' → RelM τ' A' → AOk A' → G σ' τ' 1342 [some (qr 99 0), some (qr 0 0), some (qr 1 0), some (qi i)] []) : G σ τ 184 [some (qr 99 0), some (qr 0 0), some (qr 1 0), some (qi i)] [] := by
  refine l_aload_n C dL_law_184 rfl ?_
  refine l_aload_n C dL_law_185 rfl ?_
  refine l_iload_n C dL_law_186 rfl ?_
  refine l_iconst C dL_law_187 ?_
  refine l_iadd C dL_law_188 ?_
  refine l_sld C dL_law_189 (by omega) ?_
  refine l_callD C dL_law_190 mv_L_13 rfl (o_line (o1, u, D, ca) l σ _ A h1 hA (ii _)) rfl rfl (fun _ => rfl) (fun _ => Nat.le_of_ble_eq_true rfl) (fun z1 σ1 g1 => ?_)
  obtain ⟨rfl, r1⟩ := g1
  refine l_aload_n C dL_law_193 rfl ?_
  refine l_aload_n C dL_law_194 rfl ?_
  refine l_iload_n C dL_law_195 rfl ?_
  refine l_iconst C dL_law_196 ?_
  refine l_iadd C dL_law_197 ?_
  refine l_sld C dL_law_198 (by omega) ?_
  refine l_callM C dL_law_199 mv_L_17 rfl (m_line (o1 + 213, u, D, ca) l τ _ A h2 hA (ii _)) rfl rfl (fun _ => rfl) (fun _ => Nat.le_of_ble_eq_true rfl) (fun z2 τ1 g2 => ?_)
  obtain ⟨rfl, r2⟩ := g2
  refine l_same 1342 C dL_law_202 (by decide) ?_
  exact hN _ _ _ r1 r2 (ok_line hA _)
set_option maxRecDepth 20000 in
theorem lc_frame {E : qE} {l : Launch} {b L : Nat} {xs : Nat → Int32} {o1 u : Nat} {D : va_G} {ca : Nat → ClassId} {G : qSt → qSt → Nat → List (Option qV) → List qV → Prop} {σ τ : qSt} (C : Lx E l b L xs o1 u D ca G) {i : Int} (hi : 0 ≤ i ∧ i + 6 ≤ L) {A : aSt} (h1 : RelD σ A) (h2 : RelM τ A) (hA : AOk A) (hN : ∀ (σ' τ' : qSt) (A' : aSt), RelD σ' A' → RelM τ' A' → AOk A' → G σ' τ' 1342 [some (qr 99 0), some (qr 0 0), some (qr 1 0), some (qi i)] []) : G σ τ 207 [some (qr 99 0), some (qr 0 0), some (qr 1 0), some (qi i)] [] := by
  refine l_aload_n C dL_law_207 rfl ?_
  refine l_aload_n C dL_law_208 rfl ?_
  refine l_iload_n C dL_law_209 rfl ?_
  refine l_iconst C dL_law_210 ?_
  refine l_iadd C dL_law_211 ?_
  refine l_sld C dL_law_212 (by omega) ?_
  refine l_aload_n C dL_law_213 rfl ?_
  refine l_iload_n C dL_law_214 rfl ?_
  refine l_iconst C dL_law_215 ?_
  refine l_iadd C dL_law_216 ?_
  refine l_sld C dL_law_217 (by omega) ?_
  refine l_callD C dL_law_218 mv_L_18 rfl (o_frame (o1, u, D, ca) l σ _ _ A h1 hA (ii _) (ii _)) rfl rfl (fun _ => rfl) (fun _ => Nat.le_of_ble_eq_true rfl) (fun z1 σ1 g1 => ?_)
  obtain ⟨rfl, r1⟩ := g1
  refine l_aload_n C dL_law_221 rfl ?_
  refine l_aload_n C dL_law_222 rfl ?_
  refine l_iload_n C dL_law_223 rfl ?_
  refine l_iconst C dL_law_224 ?_
  refine l_iadd C dL_law_225 ?_
  refine l_sld C dL_law_226 (by omega) ?_
  refine l_aload_n C dL_law_227 rfl ?_
  refine l_iload_n C dL_law_228 rfl ?_
  refine l_iconst C dL_law_229 ?_
  refine l_iadd C dL_law_230 ?_
  refine l_sld C dL_law_231 (by omega) ?_
  refine l_callM C dL_law_232 mv_L_22 rfl (m_frame (o1 + 213, u, D, ca) l τ _ _ A h2 hA (ii _) (ii _)) rfl rfl (fun _ => rfl) (fun _ => Nat.le_of_ble_eq_true rfl) (fun z2 τ1 g2 => ?_)
  obtain ⟨rfl, r2⟩ := g2
  refine l_same 1342 C dL_law_235 (by decide) ?_
  exact hN _ _ _ r1 r2 (ok_frame hA _ _)
set_option maxRecDepth 20000 in
theorem lc_wording {E : qE} {l : Launch} {b L : Nat} {xs : Nat → Int32} {o1 u : Nat} {D : va_G} {ca : Nat → ClassId} {G : qSt → qSt → Nat → List (Option qV) → List qV → Prop} {σ τ : qSt} (C : Lx E l b L xs o1 u D ca G) {i : Int} (hi : 0 ≤ i ∧ i + 6 ≤ L) {A : aSt} (h1 : RelD σ A) (h2 : RelM τ A) (hA : AOk A) (hN : ∀ (σ' τ' : qSt) (A' : aSt), RelD σ' A' → RelM τ' A' → AOk A' → G σ' τ' 1342 [some (qr 99 0), some (qr 0 0), some (qr 1 0), some (qi i)] []) : G σ τ 240 [some (qr 99 0), some (qr 0 0), some (qr 1 0), some (qi i)] [] := by
  refine l_aload_n C dL_law_240 rfl ?_
  refine l_aload_n C dL_law_241 rfl ?_
  refine l_iload_n C dL_law_242 rfl ?_
  refine l_iconst C dL_law_243 ?_
  refine l_iadd C dL_law_244 ?_
  refine l_sld C dL_law_245 (by omega) ?_
  refine l_aload_n C dL_law_246 rfl ?_
  refine l_iload_n C dL_law_247 rfl ?_
  refine l_iconst C dL_law_248 ?_
  refine l_iadd C dL_law_249 ?_
  refine l_sld C dL_law_250 (by omega) ?_
  refine l_aload_n C dL_law_251 rfl ?_
  refine l_iload_n C dL_law_252 rfl ?_
  refine l_iconst C dL_law_253 ?_
  refine l_iadd C dL_law_254 ?_
  refine l_sld C dL_law_255 (by omega) ?_
  refine l_callD C dL_law_256 mv_L_23 rfl (o_wording (o1, u, D, ca) l σ _ _ _ A h1 hA (ii _) (ii _) (ii _)) rfl rfl (fun _ => rfl) (fun _ => Nat.le_of_ble_eq_true rfl) (fun z1 σ1 g1 => ?_)
  obtain ⟨rfl, r1⟩ := g1
  refine l_aload_n C dL_law_259 rfl ?_
  refine l_aload_n C dL_law_260 rfl ?_
  refine l_iload_n C dL_law_261 rfl ?_
  refine l_iconst C dL_law_262 ?_
  refine l_iadd C dL_law_263 ?_
  refine l_sld C dL_law_264 (by omega) ?_
  refine l_aload_n C dL_law_265 rfl ?_
  refine l_iload_n C dL_law_266 rfl ?_
  refine l_iconst C dL_law_267 ?_
  refine l_iadd C dL_law_268 ?_
  refine l_sld C dL_law_269 (by omega) ?_
  refine l_aload_n C dL_law_270 rfl ?_
  refine l_iload_n C dL_law_271 rfl ?_
  refine l_iconst C dL_law_272 ?_
  refine l_iadd C dL_law_273 ?_
  refine l_sld C dL_law_274 (by omega) ?_
  refine l_callM C dL_law_275 mv_L_27 rfl (m_wording (o1 + 213, u, D, ca) l τ _ _ _ A h2 hA (ii _) (ii _) (ii _)) rfl rfl (fun _ => rfl) (fun _ => Nat.le_of_ble_eq_true rfl) (fun z2 τ1 g2 => ?_)
  obtain ⟨rfl, r2⟩ := g2
  refine l_same 1342 C dL_law_278 (by decide) ?_
  exact hN _ _ _ r1 r2 (ok_wording hA _ _ _)
set_option maxRecDepth 20000 in
theorem lc_as {E : qE} {l : Launch} {b L : Nat} {xs : Nat → Int32} {o1 u : Nat} {D : va_G} {ca : Nat → ClassId} {G : qSt → qSt → Nat → List (Option qV) → List qV → Prop} {σ τ : qSt} (C : Lx E l b L xs o1 u D ca G) {i : Int} (hi : 0 ≤ i ∧ i + 6 ≤ L) {A : aSt} (h1 : RelD σ A) (h2 : RelM τ A) (hA : AOk A) (hN : ∀ (σ' τ' : qSt) (A' : aSt), RelD σ' A' → RelM τ' A' → AOk A' → G σ' τ' 1342 [some (qr 99 0), some (qr 0 0), some (qr 1 0), some (qi i)] []) : G σ τ 283 [some (qr 99 0), some (qr 0 0), some (qr 1 0), some (qi i)] [] := by
  refine l_aload_n C dL_law_283 rfl ?_
  refine l_aload_n C dL_law_284 rfl ?_
  refine l_iload_n C dL_law_285 rfl ?_
  refine l_iconst C dL_law_286 ?_
  refine l_iadd C dL_law_287 ?_
  refine l_sld C dL_law_288 (by omega) ?_
  refine l_aload_n C dL_law_289 rfl ?_
  refine l_iload_n C dL_law_290 rfl ?_
  refine l_iconst C dL_law_291 ?_
  refine l_iadd C dL_law_292 ?_
  refine l_sld C dL_law_293 (by omega) ?_
  refine l_callD C dL_law_294 mv_L_28 rfl (o_as (o1, u, D, ca) l σ _ _ A h1 hA (ii _) (ii _)) rfl rfl (fun _ => rfl) (fun _ => Nat.le_of_ble_eq_true rfl) (fun z1 σ1 g1 => ?_)
  obtain ⟨rfl, r1⟩ := g1
  refine l_aload_n C dL_law_297 rfl ?_
  refine l_aload_n C dL_law_298 rfl ?_
  refine l_iload_n C dL_law_299 rfl ?_
  refine l_iconst C dL_law_300 ?_
  refine l_iadd C dL_law_301 ?_
  refine l_sld C dL_law_302 (by omega) ?_
  refine l_aload_n C dL_law_303 rfl ?_
  refine l_iload_n C dL_law_304 rfl ?_
  refine l_iconst C dL_law_305 ?_
  refine l_iadd C dL_law_306 ?_
  refine l_sld C dL_law_307 (by omega) ?_
  refine l_callM C dL_law_308 mv_L_31 rfl (m_as (o1 + 213, u, D, ca) l τ _ _ A h2 hA (ii _) (ii _)) rfl rfl (fun _ => rfl) (fun _ => Nat.le_of_ble_eq_true rfl) (fun z2 τ1 g2 => ?_)
  obtain ⟨rfl, r2⟩ := g2
  refine l_same 1342 C dL_law_311 (by decide) ?_
  exact hN _ _ _ r1 r2 (ok_as hA _ _)
set_option maxRecDepth 20000 in
theorem lc_syllable {E : qE} {l : Launch} {b L : Nat} {xs : Nat → Int32} {o1 u : Nat} {D : va_G} {ca : Nat → ClassId} {G : qSt → qSt → Nat → List (Option qV) → List qV → Prop} {σ τ : qSt} (C : Lx E l b L xs o1 u D ca G) {i : Int} (hi : 0 ≤ i ∧ i + 6 ≤ L) {A : aSt} (h1 : RelD σ A) (h2 : RelM τ A) (hA : AOk A) (hN : ∀ (σ' τ' : qSt) (A' : aSt), RelD σ' A' → RelM τ' A' → AOk A' → G σ' τ' 1342 [some (qr 99 0), some (qr 0 0), some (qr 1 0), some (qi i)] []) : G σ τ 316 [some (qr 99 0), some (qr 0 0), some (qr 1 0), some (qi i)] [] := by
  refine l_aload_n C dL_law_316 rfl ?_
  refine l_aload_n C dL_law_317 rfl ?_
  refine l_iload_n C dL_law_318 rfl ?_
  refine l_iconst C dL_law_319 ?_
  refine l_iadd C dL_law_320 ?_
  refine l_sld C dL_law_321 (by omega) ?_
  refine l_aload_n C dL_law_322 rfl ?_
  refine l_iload_n C dL_law_323 rfl ?_
  refine l_iconst C dL_law_324 ?_
  refine l_iadd C dL_law_325 ?_
  refine l_sld C dL_law_326 (by omega) ?_
  refine l_aload_n C dL_law_327 rfl ?_
  refine l_iload_n C dL_law_328 rfl ?_
  refine l_iconst C dL_law_329 ?_
  refine l_iadd C dL_law_330 ?_
  refine l_sld C dL_law_331 (by omega) ?_
  refine l_aload_n C dL_law_332 rfl ?_
  refine l_iload_n C dL_law_333 rfl ?_
  refine l_iconst C dL_law_334 ?_
  refine l_iadd C dL_law_335 ?_
  refine l_sld C dL_law_336 (by omega) ?_
  refine l_aload_n C dL_law_337 rfl ?_
  refine l_iload_n C dL_law_338 rfl ?_
  refine l_iconst C dL_law_339 ?_
  refine l_iadd C dL_law_340 ?_
  refine l_sld C dL_law_341 (by omega) ?_
  refine l_callD C dL_law_342 mv_L_32 rfl (o_syllable (o1, u, D, ca) l σ _ _ _ _ _ A h1 hA (ii _) (ii _) (ii _) (ii _) (ii _)) rfl rfl (fun _ => rfl) (fun _ => Nat.le_of_ble_eq_true rfl) (fun z1 σ1 g1 => ?_)
  obtain ⟨rfl, r1⟩ := g1
  refine l_aload_n C dL_law_345 rfl ?_
  refine l_aload_n C dL_law_346 rfl ?_
  refine l_iload_n C dL_law_347 rfl ?_
  refine l_iconst C dL_law_348 ?_
  refine l_iadd C dL_law_349 ?_
  refine l_sld C dL_law_350 (by omega) ?_
  refine l_aload_n C dL_law_351 rfl ?_
  refine l_iload_n C dL_law_352 rfl ?_
  refine l_iconst C dL_law_353 ?_
  refine l_iadd C dL_law_354 ?_
  refine l_sld C dL_law_355 (by omega) ?_
  refine l_aload_n C dL_law_356 rfl ?_
  refine l_iload_n C dL_law_357 rfl ?_
  refine l_iconst C dL_law_358 ?_
  refine l_iadd C dL_law_359 ?_
  refine l_sld C dL_law_360 (by omega) ?_
  refine l_aload_n C dL_law_361 rfl ?_
  refine l_iload_n C dL_law_362 rfl ?_
  refine l_iconst C dL_law_363 ?_
  refine l_iadd C dL_law_364 ?_
  refine l_sld C dL_law_365 (by omega) ?_
  refine l_aload_n C dL_law_366 rfl ?_
  refine l_iload_n C dL_law_367 rfl ?_
  refine l_iconst C dL_law_368 ?_
  refine l_iadd C dL_law_369 ?_
  refine l_sld C dL_law_370 (by omega) ?_
  refine l_callM C dL_law_371 mv_L_36 rfl (m_syllable (o1 + 213, u, D, ca) l τ _ _ _ _ _ A h2 hA (ii _) (ii _) (ii _) (ii _) (ii _)) rfl rfl (fun _ => rfl) (fun _ => Nat.le_of_ble_eq_true rfl) (fun z2 τ1 g2 => ?_)
  obtain ⟨rfl, r2⟩ := g2
  refine l_same 1342 C dL_law_374 (by decide) ?_
  exact hN _ _ _ r1 r2 (ok_syllable hA _ _ _ _ _)
set_option maxRecDepth 20000 in
theorem lc_cut {E : qE} {l : Launch} {b L : Nat} {xs : Nat → Int32} {o1 u : Nat} {D : va_G} {ca : Nat → ClassId} {G : qSt → qSt → Nat → List (Option qV) → List qV → Prop} {σ τ : qSt} (C : Lx E l b L xs o1 u D ca G) {i : Int} (hi : 0 ≤ i ∧ i + 6 ≤ L) {A : aSt} (h1 : RelD σ A) (h2 : RelM τ A) (hA : AOk A) (hN : ∀ (σ' τ' : qSt) (A' : aSt), RelD σ' A' → RelM τ' A' → AOk A' → G σ' τ' 1342 [some (qr 99 0), some (qr 0 0), some (qr 1 0), some (qi i)] []) : G σ τ 379 [some (qr 99 0), some (qr 0 0), some (qr 1 0), some (qi i)] [] := by
  refine l_aload_n C dL_law_379 rfl ?_
  refine l_aload_n C dL_law_380 rfl ?_
  refine l_iload_n C dL_law_381 rfl ?_
  refine l_iconst C dL_law_382 ?_
  refine l_iadd C dL_law_383 ?_
  refine l_sld C dL_law_384 (by omega) ?_
  refine l_callD C dL_law_385 mv_L_37 rfl (o_cut (o1, u, D, ca) l σ _ A h1 hA (ii _)) rfl rfl (fun _ => rfl) (fun _ => Nat.le_of_ble_eq_true rfl) (fun z1 σ1 g1 => ?_)
  obtain ⟨rfl, r1⟩ := g1
  refine l_aload_n C dL_law_388 rfl ?_
  refine l_aload_n C dL_law_389 rfl ?_
  refine l_iload_n C dL_law_390 rfl ?_
  refine l_iconst C dL_law_391 ?_
  refine l_iadd C dL_law_392 ?_
  refine l_sld C dL_law_393 (by omega) ?_
  refine l_callM C dL_law_394 mv_L_40 rfl (m_cut (o1 + 213, u, D, ca) l τ _ A h2 hA (ii _)) rfl rfl (fun _ => rfl) (fun _ => Nat.le_of_ble_eq_true rfl) (fun z2 τ1 g2 => ?_)
  obtain ⟨rfl, r2⟩ := g2
  refine l_same 1342 C dL_law_397 (by decide) ?_
  exact hN _ _ _ r1 r2 (ok_cut hA _)
set_option maxRecDepth 20000 in
theorem lc_of {E : qE} {l : Launch} {b L : Nat} {xs : Nat → Int32} {o1 u : Nat} {D : va_G} {ca : Nat → ClassId} {G : qSt → qSt → Nat → List (Option qV) → List qV → Prop} {σ τ : qSt} (C : Lx E l b L xs o1 u D ca G) {i : Int} (hi : 0 ≤ i ∧ i + 6 ≤ L) {A : aSt} (h1 : RelD σ A) (h2 : RelM τ A) (hA : AOk A) (hN : ∀ (σ' τ' : qSt) (A' : aSt), RelD σ' A' → RelM τ' A' → AOk A' → G σ' τ' 1342 [some (qr 99 0), some (qr 0 0), some (qr 1 0), some (qi i)] []) : G σ τ 402 [some (qr 99 0), some (qr 0 0), some (qr 1 0), some (qi i)] [] := by
  refine l_aload_n C dL_law_402 rfl ?_
  refine l_aload_n C dL_law_403 rfl ?_
  refine l_iload_n C dL_law_404 rfl ?_
  refine l_iconst C dL_law_405 ?_
  refine l_iadd C dL_law_406 ?_
  refine l_sld C dL_law_407 (by omega) ?_
  refine l_aload_n C dL_law_408 rfl ?_
  refine l_iload_n C dL_law_409 rfl ?_
  refine l_iconst C dL_law_410 ?_
  refine l_iadd C dL_law_411 ?_
  refine l_sld C dL_law_412 (by omega) ?_
  refine l_callD C dL_law_413 mv_L_41 rfl (o_of (o1, u, D, ca) l σ _ _ A h1 hA (ii _) (ii _)) rfl rfl (fun _ => rfl) (fun _ => Nat.le_of_ble_eq_true rfl) (fun z1 σ1 g1 => ?_)
  obtain ⟨rfl, r1⟩ := g1
  refine l_aload_n C dL_law_416 rfl ?_
  refine l_aload_n C dL_law_417 rfl ?_
  refine l_iload_n C dL_law_418 rfl ?_
  refine l_iconst C dL_law_419 ?_
  refine l_iadd C dL_law_420 ?_
  refine l_sld C dL_law_421 (by omega) ?_
  refine l_aload_n C dL_law_422 rfl ?_
  refine l_iload_n C dL_law_423 rfl ?_
  refine l_iconst C dL_law_424 ?_
  refine l_iadd C dL_law_425 ?_
  refine l_sld C dL_law_426 (by omega) ?_
  refine l_callM C dL_law_427 mv_L_44 rfl (m_of (o1 + 213, u, D, ca) l τ _ _ A h2 hA (ii _) (ii _)) rfl rfl (fun _ => rfl) (fun _ => Nat.le_of_ble_eq_true rfl) (fun z2 τ1 g2 => ?_)
  obtain ⟨rfl, r2⟩ := g2
  refine l_same 1342 C dL_law_430 (by decide) ?_
  exact hN _ _ _ r1 r2 (ok_of hA _ _)
set_option maxRecDepth 20000 in
theorem lc_told {E : qE} {l : Launch} {b L : Nat} {xs : Nat → Int32} {o1 u : Nat} {D : va_G} {ca : Nat → ClassId} {G : qSt → qSt → Nat → List (Option qV) → List qV → Prop} {σ τ : qSt} (C : Lx E l b L xs o1 u D ca G) {i : Int} (hi : 0 ≤ i ∧ i + 6 ≤ L) {A : aSt} (h1 : RelD σ A) (h2 : RelM τ A) (hA : AOk A) (hN : ∀ (σ' τ' : qSt) (A' : aSt), RelD σ' A' → RelM τ' A' → AOk A' → G σ' τ' 1342 [some (qr 99 0), some (qr 0 0), some (qr 1 0), some (qi i)] []) : G σ τ 435 [some (qr 99 0), some (qr 0 0), some (qr 1 0), some (qi i)] [] := by
  refine l_aload_n C dL_law_435 rfl ?_
  refine l_aload_n C dL_law_436 rfl ?_
  refine l_iload_n C dL_law_437 rfl ?_
  refine l_iconst C dL_law_438 ?_
  refine l_iadd C dL_law_439 ?_
  refine l_sld C dL_law_440 (by omega) ?_
  refine l_aload_n C dL_law_441 rfl ?_
  refine l_iload_n C dL_law_442 rfl ?_
  refine l_iconst C dL_law_443 ?_
  refine l_iadd C dL_law_444 ?_
  refine l_sld C dL_law_445 (by omega) ?_
  refine l_callD C dL_law_446 mv_L_45 rfl (o_told (o1, u, D, ca) l σ _ _ A h1 hA (ii _) (ii _)) rfl rfl (fun _ => rfl) (fun _ => Nat.le_of_ble_eq_true rfl) (fun z1 σ1 g1 => ?_)
  obtain ⟨rfl, r1⟩ := g1
  refine l_aload_n C dL_law_449 rfl ?_
  refine l_aload_n C dL_law_450 rfl ?_
  refine l_iload_n C dL_law_451 rfl ?_
  refine l_iconst C dL_law_452 ?_
  refine l_iadd C dL_law_453 ?_
  refine l_sld C dL_law_454 (by omega) ?_
  refine l_aload_n C dL_law_455 rfl ?_
  refine l_iload_n C dL_law_456 rfl ?_
  refine l_iconst C dL_law_457 ?_
  refine l_iadd C dL_law_458 ?_
  refine l_sld C dL_law_459 (by omega) ?_
  refine l_callM C dL_law_460 mv_L_48 rfl (m_told (o1 + 213, u, D, ca) l τ _ _ A h2 hA (ii _) (ii _)) rfl rfl (fun _ => rfl) (fun _ => Nat.le_of_ble_eq_true rfl) (fun z2 τ1 g2 => ?_)
  obtain ⟨rfl, r2⟩ := g2
  refine l_same 1342 C dL_law_463 (by decide) ?_
  exact hN _ _ _ r1 r2 (ok_told hA _ _)
set_option maxRecDepth 20000 in
theorem lc_shape {E : qE} {l : Launch} {b L : Nat} {xs : Nat → Int32} {o1 u : Nat} {D : va_G} {ca : Nat → ClassId} {G : qSt → qSt → Nat → List (Option qV) → List qV → Prop} {σ τ : qSt} (C : Lx E l b L xs o1 u D ca G) {i : Int} (hi : 0 ≤ i ∧ i + 6 ≤ L) {A : aSt} (h1 : RelD σ A) (h2 : RelM τ A) (hA : AOk A) (hN : ∀ (σ' τ' : qSt) (A' : aSt), RelD σ' A' → RelM τ' A' → AOk A' → G σ' τ' 1342 [some (qr 99 0), some (qr 0 0), some (qr 1 0), some (qi i)] []) : G σ τ 468 [some (qr 99 0), some (qr 0 0), some (qr 1 0), some (qi i)] [] := by
  refine l_aload_n C dL_law_468 rfl ?_
  refine l_aload_n C dL_law_469 rfl ?_
  refine l_iload_n C dL_law_470 rfl ?_
  refine l_iconst C dL_law_471 ?_
  refine l_iadd C dL_law_472 ?_
  refine l_sld C dL_law_473 (by omega) ?_
  refine l_aload_n C dL_law_474 rfl ?_
  refine l_iload_n C dL_law_475 rfl ?_
  refine l_iconst C dL_law_476 ?_
  refine l_iadd C dL_law_477 ?_
  refine l_sld C dL_law_478 (by omega) ?_
  refine l_callD C dL_law_479 mv_L_49 rfl (o_shape (o1, u, D, ca) l σ _ _ A h1 hA (ii _) (ii _)) rfl rfl (fun _ => rfl) (fun _ => Nat.le_of_ble_eq_true rfl) (fun z1 σ1 g1 => ?_)
  obtain ⟨rfl, r1⟩ := g1
  refine l_aload_n C dL_law_482 rfl ?_
  refine l_aload_n C dL_law_483 rfl ?_
  refine l_iload_n C dL_law_484 rfl ?_
  refine l_iconst C dL_law_485 ?_
  refine l_iadd C dL_law_486 ?_
  refine l_sld C dL_law_487 (by omega) ?_
  refine l_aload_n C dL_law_488 rfl ?_
  refine l_iload_n C dL_law_489 rfl ?_
  refine l_iconst C dL_law_490 ?_
  refine l_iadd C dL_law_491 ?_
  refine l_sld C dL_law_492 (by omega) ?_
  refine l_callM C dL_law_493 mv_L_52 rfl (m_shape (o1 + 213, u, D, ca) l τ _ _ A h2 hA (ii _) (ii _)) rfl rfl (fun _ => rfl) (fun _ => Nat.le_of_ble_eq_true rfl) (fun z2 τ1 g2 => ?_)
  obtain ⟨rfl, r2⟩ := g2
  refine l_same 1342 C dL_law_496 (by decide) ?_
  exact hN _ _ _ r1 r2 (ok_shape hA _ _)
set_option maxRecDepth 20000 in
theorem lc_cost {E : qE} {l : Launch} {b L : Nat} {xs : Nat → Int32} {o1 u : Nat} {D : va_G} {ca : Nat → ClassId} {G : qSt → qSt → Nat → List (Option qV) → List qV → Prop} {σ τ : qSt} (C : Lx E l b L xs o1 u D ca G) {i : Int} (hi : 0 ≤ i ∧ i + 6 ≤ L) {A : aSt} (h1 : RelD σ A) (h2 : RelM τ A) (hA : AOk A) (hN : ∀ (σ' τ' : qSt) (A' : aSt), RelD σ' A' → RelM τ' A' → AOk A' → G σ' τ' 1342 [some (qr 99 0), some (qr 0 0), some (qr 1 0), some (qi i)] []) : G σ τ 501 [some (qr 99 0), some (qr 0 0), some (qr 1 0), some (qi i)] [] := by
  refine l_aload_n C dL_law_501 rfl ?_
  refine l_aload_n C dL_law_502 rfl ?_
  refine l_iload_n C dL_law_503 rfl ?_
  refine l_iconst C dL_law_504 ?_
  refine l_iadd C dL_law_505 ?_
  refine l_sld C dL_law_506 (by omega) ?_
  refine l_callD C dL_law_507 mv_L_53 rfl (o_cost (o1, u, D, ca) l σ _ A h1 hA (ii _)) rfl rfl (fun _ => rfl) (fun _ => Nat.le_of_ble_eq_true rfl) (fun z1 σ1 g1 => ?_)
  obtain ⟨rfl, r1⟩ := g1
  refine l_aload_n C dL_law_510 rfl ?_
  refine l_aload_n C dL_law_511 rfl ?_
  refine l_iload_n C dL_law_512 rfl ?_
  refine l_iconst C dL_law_513 ?_
  refine l_iadd C dL_law_514 ?_
  refine l_sld C dL_law_515 (by omega) ?_
  refine l_callM C dL_law_516 mv_L_56 rfl (m_cost (o1 + 213, u, D, ca) l τ _ A h2 hA (ii _)) rfl rfl (fun _ => rfl) (fun _ => Nat.le_of_ble_eq_true rfl) (fun z2 τ1 g2 => ?_)
  obtain ⟨rfl, r2⟩ := g2
  refine l_same 1342 C dL_law_519 (by decide) ?_
  exact hN _ _ _ r1 r2 (ok_cost hA _)
set_option maxRecDepth 20000 in
theorem lc_place {E : qE} {l : Launch} {b L : Nat} {xs : Nat → Int32} {o1 u : Nat} {D : va_G} {ca : Nat → ClassId} {G : qSt → qSt → Nat → List (Option qV) → List qV → Prop} {σ τ : qSt} (C : Lx E l b L xs o1 u D ca G) {i : Int} (hi : 0 ≤ i ∧ i + 6 ≤ L) {A : aSt} (h1 : RelD σ A) (h2 : RelM τ A) (hA : AOk A) (hN : ∀ (σ' τ' : qSt) (A' : aSt), RelD σ' A' → RelM τ' A' → AOk A' → G σ' τ' 1342 [some (qr 99 0), some (qr 0 0), some (qr 1 0), some (qi i)] []) : G σ τ 524 [some (qr 99 0), some (qr 0 0), some (qr 1 0), some (qi i)] [] := by
  refine l_aload_n C dL_law_524 rfl ?_
  refine l_aload_n C dL_law_525 rfl ?_
  refine l_iload_n C dL_law_526 rfl ?_
  refine l_iconst C dL_law_527 ?_
  refine l_iadd C dL_law_528 ?_
  refine l_sld C dL_law_529 (by omega) ?_
  refine l_aload_n C dL_law_530 rfl ?_
  refine l_iload_n C dL_law_531 rfl ?_
  refine l_iconst C dL_law_532 ?_
  refine l_iadd C dL_law_533 ?_
  refine l_sld C dL_law_534 (by omega) ?_
  refine l_aload_n C dL_law_535 rfl ?_
  refine l_iload_n C dL_law_536 rfl ?_
  refine l_iconst C dL_law_537 ?_
  refine l_iadd C dL_law_538 ?_
  refine l_sld C dL_law_539 (by omega) ?_
  refine l_if_eq 547 C dL_law_540 (by decide) (ii _) (fun hc => ?_) (fun hc => ?_)
  · refine l_iconst C dL_law_547 ?_
    refine l_callD C dL_law_548 mv_L_57 rfl (o_place (o1, u, D, ca) l σ _ _ _ A h1 hA (ii _) (ii _) (by decide)) rfl rfl (fun _ => rfl) (fun _ => Nat.le_of_ble_eq_true rfl) (fun z1 σ1 g1 => ?_)
    obtain ⟨rfl, r1⟩ := g1
    refine l_aload_n C dL_law_551 rfl ?_
    refine l_aload_n C dL_law_552 rfl ?_
    refine l_iload_n C dL_law_553 rfl ?_
    refine l_iconst C dL_law_554 ?_
    refine l_iadd C dL_law_555 ?_
    refine l_sld C dL_law_556 (by omega) ?_
    refine l_aload_n C dL_law_557 rfl ?_
    refine l_iload_n C dL_law_558 rfl ?_
    refine l_iconst C dL_law_559 ?_
    refine l_iadd C dL_law_560 ?_
    refine l_sld C dL_law_561 (by omega) ?_
    refine l_aload_n C dL_law_562 rfl ?_
    refine l_iload_n C dL_law_563 rfl ?_
    refine l_iconst C dL_law_564 ?_
    refine l_iadd C dL_law_565 ?_
    refine l_sld C dL_law_566 (by omega) ?_
    refine l_if_eq 574 C dL_law_567 (by decide) (ii _) (fun hd => ?_) (fun hd => ?_)
    · refine l_iconst C dL_law_574 ?_
      refine l_callM C dL_law_575 mv_L_61 rfl (m_place (o1 + 213, u, D, ca) l τ _ _ _ A h2 hA (ii _) (ii _) (by decide)) rfl rfl (fun _ => rfl) (fun _ => Nat.le_of_ble_eq_true rfl) (fun z2 τ1 g2 => ?_)
      obtain ⟨rfl, r2⟩ := g2
      refine l_same 1342 C dL_law_578 (by decide) ?_
      exact hN _ _ _ r1 r2 (ok_place hA _ _ _)
    · exact absurd hc hd
  · refine l_iconst C dL_law_543 ?_
    refine l_goto 548 C dL_law_544 (by decide) ?_
    refine l_callD C dL_law_548 mv_L_57 rfl (o_place (o1, u, D, ca) l σ _ _ _ A h1 hA (ii _) (ii _) (by decide)) rfl rfl (fun _ => rfl) (fun _ => Nat.le_of_ble_eq_true rfl) (fun z1 σ1 g1 => ?_)
    obtain ⟨rfl, r1⟩ := g1
    refine l_aload_n C dL_law_551 rfl ?_
    refine l_aload_n C dL_law_552 rfl ?_
    refine l_iload_n C dL_law_553 rfl ?_
    refine l_iconst C dL_law_554 ?_
    refine l_iadd C dL_law_555 ?_
    refine l_sld C dL_law_556 (by omega) ?_
    refine l_aload_n C dL_law_557 rfl ?_
    refine l_iload_n C dL_law_558 rfl ?_
    refine l_iconst C dL_law_559 ?_
    refine l_iadd C dL_law_560 ?_
    refine l_sld C dL_law_561 (by omega) ?_
    refine l_aload_n C dL_law_562 rfl ?_
    refine l_iload_n C dL_law_563 rfl ?_
    refine l_iconst C dL_law_564 ?_
    refine l_iadd C dL_law_565 ?_
    refine l_sld C dL_law_566 (by omega) ?_
    refine l_if_eq 574 C dL_law_567 (by decide) (ii _) (fun hd => ?_) (fun hd => ?_)
    · exact absurd hd hc
    · refine l_iconst C dL_law_570 ?_
      refine l_goto 575 C dL_law_571 (by decide) ?_
      refine l_callM C dL_law_575 mv_L_61 rfl (m_place (o1 + 213, u, D, ca) l τ _ _ _ A h2 hA (ii _) (ii _) (by decide)) rfl rfl (fun _ => rfl) (fun _ => Nat.le_of_ble_eq_true rfl) (fun z2 τ1 g2 => ?_)
      obtain ⟨rfl, r2⟩ := g2
      refine l_same 1342 C dL_law_578 (by decide) ?_
      exact hN _ _ _ r1 r2 (ok_place hA _ _ _)
set_option maxRecDepth 20000 in
theorem lc_on {E : qE} {l : Launch} {b L : Nat} {xs : Nat → Int32} {o1 u : Nat} {D : va_G} {ca : Nat → ClassId} {G : qSt → qSt → Nat → List (Option qV) → List qV → Prop} {σ τ : qSt} (C : Lx E l b L xs o1 u D ca G) {i : Int} (hi : 0 ≤ i ∧ i + 6 ≤ L) {A : aSt} (h1 : RelD σ A) (h2 : RelM τ A) (hA : AOk A) (hN : ∀ (σ' τ' : qSt) (A' : aSt), RelD σ' A' → RelM τ' A' → AOk A' → G σ' τ' 1342 [some (qr 99 0), some (qr 0 0), some (qr 1 0), some (qi i)] []) : G σ τ 583 [some (qr 99 0), some (qr 0 0), some (qr 1 0), some (qi i)] [] := by
  refine l_aload_n C dL_law_583 rfl ?_
  refine l_aload_n C dL_law_584 rfl ?_
  refine l_iload_n C dL_law_585 rfl ?_
  refine l_iconst C dL_law_586 ?_
  refine l_iadd C dL_law_587 ?_
  refine l_sld C dL_law_588 (by omega) ?_
  refine l_aload_n C dL_law_589 rfl ?_
  refine l_iload_n C dL_law_590 rfl ?_
  refine l_iconst C dL_law_591 ?_
  refine l_iadd C dL_law_592 ?_
  refine l_sld C dL_law_593 (by omega) ?_
  refine l_callD C dL_law_594 mv_L_62 rfl (o_on (o1, u, D, ca) l σ _ _ A h1 hA (ii _) (ii _)) rfl rfl (fun _ => rfl) (fun _ => Nat.le_of_ble_eq_true rfl) (fun z1 σ1 g1 => ?_)
  obtain ⟨rfl, r1⟩ := g1
  refine l_aload_n C dL_law_597 rfl ?_
  refine l_aload_n C dL_law_598 rfl ?_
  refine l_iload_n C dL_law_599 rfl ?_
  refine l_iconst C dL_law_600 ?_
  refine l_iadd C dL_law_601 ?_
  refine l_sld C dL_law_602 (by omega) ?_
  refine l_aload_n C dL_law_603 rfl ?_
  refine l_iload_n C dL_law_604 rfl ?_
  refine l_iconst C dL_law_605 ?_
  refine l_iadd C dL_law_606 ?_
  refine l_sld C dL_law_607 (by omega) ?_
  refine l_callM C dL_law_608 mv_L_65 rfl (m_on (o1 + 213, u, D, ca) l τ _ _ A h2 hA (ii _) (ii _)) rfl rfl (fun _ => rfl) (fun _ => Nat.le_of_ble_eq_true rfl) (fun z2 τ1 g2 => ?_)
  obtain ⟨rfl, r2⟩ := g2
  refine l_same 1342 C dL_law_611 (by decide) ?_
  exact hN _ _ _ r1 r2 (ok_on hA _ _)
set_option maxRecDepth 20000 in
theorem lc_name {E : qE} {l : Launch} {b L : Nat} {xs : Nat → Int32} {o1 u : Nat} {D : va_G} {ca : Nat → ClassId} {G : qSt → qSt → Nat → List (Option qV) → List qV → Prop} {σ τ : qSt} (C : Lx E l b L xs o1 u D ca G) {i : Int} (hi : 0 ≤ i ∧ i + 6 ≤ L) {A : aSt} (h1 : RelD σ A) (h2 : RelM τ A) (hA : AOk A) (hN : ∀ (σ' τ' : qSt) (A' : aSt), RelD σ' A' → RelM τ' A' → AOk A' → G σ' τ' 1342 [some (qr 99 0), some (qr 0 0), some (qr 1 0), some (qi i)] []) : G σ τ 616 [some (qr 99 0), some (qr 0 0), some (qr 1 0), some (qi i)] [] := by
  refine l_aload_n C dL_law_616 rfl ?_
  refine l_aload_n C dL_law_617 rfl ?_
  refine l_iload_n C dL_law_618 rfl ?_
  refine l_iconst C dL_law_619 ?_
  refine l_iadd C dL_law_620 ?_
  refine l_sld C dL_law_621 (by omega) ?_
  refine l_aload_n C dL_law_622 rfl ?_
  refine l_iload_n C dL_law_623 rfl ?_
  refine l_iconst C dL_law_624 ?_
  refine l_iadd C dL_law_625 ?_
  refine l_sld C dL_law_626 (by omega) ?_
  refine l_callD C dL_law_627 mv_L_66 rfl (o_name (o1, u, D, ca) l σ _ _ A h1 hA (ii _) (ii _)) rfl rfl (fun _ => rfl) (fun _ => Nat.le_of_ble_eq_true rfl) (fun z1 σ1 g1 => ?_)
  obtain ⟨rfl, r1⟩ := g1
  refine l_aload_n C dL_law_630 rfl ?_
  refine l_aload_n C dL_law_631 rfl ?_
  refine l_iload_n C dL_law_632 rfl ?_
  refine l_iconst C dL_law_633 ?_
  refine l_iadd C dL_law_634 ?_
  refine l_sld C dL_law_635 (by omega) ?_
  refine l_aload_n C dL_law_636 rfl ?_
  refine l_iload_n C dL_law_637 rfl ?_
  refine l_iconst C dL_law_638 ?_
  refine l_iadd C dL_law_639 ?_
  refine l_sld C dL_law_640 (by omega) ?_
  refine l_callM C dL_law_641 mv_L_69 rfl (m_name (o1 + 213, u, D, ca) l τ _ _ A h2 hA (ii _) (ii _)) rfl rfl (fun _ => rfl) (fun _ => Nat.le_of_ble_eq_true rfl) (fun z2 τ1 g2 => ?_)
  obtain ⟨rfl, r2⟩ := g2
  refine l_same 1342 C dL_law_644 (by decide) ?_
  exact hN _ _ _ r1 r2 (ok_name hA _ _)
set_option maxRecDepth 20000 in
theorem lc_text {E : qE} {l : Launch} {b L : Nat} {xs : Nat → Int32} {o1 u : Nat} {D : va_G} {ca : Nat → ClassId} {G : qSt → qSt → Nat → List (Option qV) → List qV → Prop} {σ τ : qSt} (C : Lx E l b L xs o1 u D ca G) {i : Int} (hi : 0 ≤ i ∧ i + 6 ≤ L) {A : aSt} (h1 : RelD σ A) (h2 : RelM τ A) (hA : AOk A) (hN : ∀ (σ' τ' : qSt) (A' : aSt), RelD σ' A' → RelM τ' A' → AOk A' → G σ' τ' 1342 [some (qr 99 0), some (qr 0 0), some (qr 1 0), some (qi i)] []) : G σ τ 649 [some (qr 99 0), some (qr 0 0), some (qr 1 0), some (qi i)] [] := by
  refine l_aload_n C dL_law_649 rfl ?_
  refine l_aload_n C dL_law_650 rfl ?_
  refine l_iload_n C dL_law_651 rfl ?_
  refine l_iconst C dL_law_652 ?_
  refine l_iadd C dL_law_653 ?_
  refine l_sld C dL_law_654 (by omega) ?_
  refine l_aload_n C dL_law_655 rfl ?_
  refine l_iload_n C dL_law_656 rfl ?_
  refine l_iconst C dL_law_657 ?_
  refine l_iadd C dL_law_658 ?_
  refine l_sld C dL_law_659 (by omega) ?_
  refine l_aload_n C dL_law_660 rfl ?_
  refine l_iload_n C dL_law_661 rfl ?_
  refine l_iconst C dL_law_662 ?_
  refine l_iadd C dL_law_663 ?_
  refine l_sld C dL_law_664 (by omega) ?_
  refine l_aload_n C dL_law_665 rfl ?_
  refine l_iload_n C dL_law_666 rfl ?_
  refine l_iconst C dL_law_667 ?_
  refine l_iadd C dL_law_668 ?_
  refine l_sld C dL_law_669 (by omega) ?_
  refine l_callD C dL_law_670 mv_L_70 rfl (o_text (o1, u, D, ca) l σ _ _ _ _ A h1 hA (ii _) (ii _) (ii _) (ii _)) rfl rfl (fun _ => rfl) (fun _ => Nat.le_of_ble_eq_true rfl) (fun z1 σ1 g1 => ?_)
  obtain ⟨rfl, r1⟩ := g1
  refine l_aload_n C dL_law_673 rfl ?_
  refine l_aload_n C dL_law_674 rfl ?_
  refine l_iload_n C dL_law_675 rfl ?_
  refine l_iconst C dL_law_676 ?_
  refine l_iadd C dL_law_677 ?_
  refine l_sld C dL_law_678 (by omega) ?_
  refine l_aload_n C dL_law_679 rfl ?_
  refine l_iload_n C dL_law_680 rfl ?_
  refine l_iconst C dL_law_681 ?_
  refine l_iadd C dL_law_682 ?_
  refine l_sld C dL_law_683 (by omega) ?_
  refine l_aload_n C dL_law_684 rfl ?_
  refine l_iload_n C dL_law_685 rfl ?_
  refine l_iconst C dL_law_686 ?_
  refine l_iadd C dL_law_687 ?_
  refine l_sld C dL_law_688 (by omega) ?_
  refine l_aload_n C dL_law_689 rfl ?_
  refine l_iload_n C dL_law_690 rfl ?_
  refine l_iconst C dL_law_691 ?_
  refine l_iadd C dL_law_692 ?_
  refine l_sld C dL_law_693 (by omega) ?_
  refine l_callM C dL_law_694 mv_L_74 rfl (m_text (o1 + 213, u, D, ca) l τ _ _ _ _ A h2 hA (ii _) (ii _) (ii _) (ii _)) rfl rfl (fun _ => rfl) (fun _ => Nat.le_of_ble_eq_true rfl) (fun z2 τ1 g2 => ?_)
  obtain ⟨rfl, r2⟩ := g2
  refine l_same 1342 C dL_law_697 (by decide) ?_
  exact hN _ _ _ r1 r2 (ok_text hA _ _ _ _)
set_option maxRecDepth 20000 in
theorem lc_barred {E : qE} {l : Launch} {b L : Nat} {xs : Nat → Int32} {o1 u : Nat} {D : va_G} {ca : Nat → ClassId} {G : qSt → qSt → Nat → List (Option qV) → List qV → Prop} {σ τ : qSt} (C : Lx E l b L xs o1 u D ca G) {i : Int} (hi : 0 ≤ i ∧ i + 6 ≤ L) {A : aSt} (h1 : RelD σ A) (h2 : RelM τ A) (hA : AOk A) (hN : ∀ (σ' τ' : qSt) (A' : aSt), RelD σ' A' → RelM τ' A' → AOk A' → G σ' τ' 1342 [some (qr 99 0), some (qr 0 0), some (qr 1 0), some (qi i)] []) : G σ τ 702 [some (qr 99 0), some (qr 0 0), some (qr 1 0), some (qi i)] [] := by
  refine l_aload_n C dL_law_702 rfl ?_
  refine l_aload_n C dL_law_703 rfl ?_
  refine l_iload_n C dL_law_704 rfl ?_
  refine l_iconst C dL_law_705 ?_
  refine l_iadd C dL_law_706 ?_
  refine l_sld C dL_law_707 (by omega) ?_
  refine l_aload_n C dL_law_708 rfl ?_
  refine l_iload_n C dL_law_709 rfl ?_
  refine l_iconst C dL_law_710 ?_
  refine l_iadd C dL_law_711 ?_
  refine l_sld C dL_law_712 (by omega) ?_
  refine l_aload_n C dL_law_713 rfl ?_
  refine l_iload_n C dL_law_714 rfl ?_
  refine l_iconst C dL_law_715 ?_
  refine l_iadd C dL_law_716 ?_
  refine l_sld C dL_law_717 (by omega) ?_
  refine l_callD C dL_law_718 mv_L_75 rfl (o_barred (o1, u, D, ca) l σ _ _ _ A h1 hA (ii _) (ii _) (ii _)) rfl rfl (fun _ => rfl) (fun _ => Nat.le_of_ble_eq_true rfl) (fun z1 σ1 g1 => ?_)
  obtain ⟨rfl, r1⟩ := g1
  refine l_aload_n C dL_law_721 rfl ?_
  refine l_aload_n C dL_law_722 rfl ?_
  refine l_iload_n C dL_law_723 rfl ?_
  refine l_iconst C dL_law_724 ?_
  refine l_iadd C dL_law_725 ?_
  refine l_sld C dL_law_726 (by omega) ?_
  refine l_aload_n C dL_law_727 rfl ?_
  refine l_iload_n C dL_law_728 rfl ?_
  refine l_iconst C dL_law_729 ?_
  refine l_iadd C dL_law_730 ?_
  refine l_sld C dL_law_731 (by omega) ?_
  refine l_aload_n C dL_law_732 rfl ?_
  refine l_iload_n C dL_law_733 rfl ?_
  refine l_iconst C dL_law_734 ?_
  refine l_iadd C dL_law_735 ?_
  refine l_sld C dL_law_736 (by omega) ?_
  refine l_callM C dL_law_737 mv_L_78 rfl (m_barred (o1 + 213, u, D, ca) l τ _ _ _ A h2 hA (ii _) (ii _) (ii _)) rfl rfl (fun _ => rfl) (fun _ => Nat.le_of_ble_eq_true rfl) (fun z2 τ1 g2 => ?_)
  obtain ⟨rfl, r2⟩ := g2
  refine l_same 1342 C dL_law_740 (by decide) ?_
  exact hN _ _ _ r1 r2 (ok_barred hA _ _ _)
set_option maxRecDepth 20000 in
theorem lc_chosen {E : qE} {l : Launch} {b L : Nat} {xs : Nat → Int32} {o1 u : Nat} {D : va_G} {ca : Nat → ClassId} {G : qSt → qSt → Nat → List (Option qV) → List qV → Prop} {σ τ : qSt} (C : Lx E l b L xs o1 u D ca G) {i : Int} (hi : 0 ≤ i ∧ i + 6 ≤ L) {A : aSt} (h1 : RelD σ A) (h2 : RelM τ A) (hA : AOk A) (hN : ∀ (σ' τ' : qSt) (A' : aSt), RelD σ' A' → RelM τ' A' → AOk A' → G σ' τ' 1342 [some (qr 99 0), some (qr 0 0), some (qr 1 0), some (qi i)] []) : G σ τ 745 [some (qr 99 0), some (qr 0 0), some (qr 1 0), some (qi i)] [] := by
  refine l_aload_n C dL_law_745 rfl ?_
  refine l_aload_n C dL_law_746 rfl ?_
  refine l_iload_n C dL_law_747 rfl ?_
  refine l_iconst C dL_law_748 ?_
  refine l_iadd C dL_law_749 ?_
  refine l_sld C dL_law_750 (by omega) ?_
  refine l_aload_n C dL_law_751 rfl ?_
  refine l_iload_n C dL_law_752 rfl ?_
  refine l_iconst C dL_law_753 ?_
  refine l_iadd C dL_law_754 ?_
  refine l_sld C dL_law_755 (by omega) ?_
  refine l_aload_n C dL_law_756 rfl ?_
  refine l_iload_n C dL_law_757 rfl ?_
  refine l_iconst C dL_law_758 ?_
  refine l_iadd C dL_law_759 ?_
  refine l_sld C dL_law_760 (by omega) ?_
  refine l_callD C dL_law_761 mv_L_79 rfl (o_chosen (o1, u, D, ca) l σ _ _ _ A h1 hA (ii _) (ii _) (ii _)) rfl rfl (fun _ => rfl) (fun _ => Nat.le_of_ble_eq_true rfl) (fun z1 σ1 g1 => ?_)
  obtain ⟨rfl, r1⟩ := g1
  refine l_aload_n C dL_law_764 rfl ?_
  refine l_aload_n C dL_law_765 rfl ?_
  refine l_iload_n C dL_law_766 rfl ?_
  refine l_iconst C dL_law_767 ?_
  refine l_iadd C dL_law_768 ?_
  refine l_sld C dL_law_769 (by omega) ?_
  refine l_aload_n C dL_law_770 rfl ?_
  refine l_iload_n C dL_law_771 rfl ?_
  refine l_iconst C dL_law_772 ?_
  refine l_iadd C dL_law_773 ?_
  refine l_sld C dL_law_774 (by omega) ?_
  refine l_aload_n C dL_law_775 rfl ?_
  refine l_iload_n C dL_law_776 rfl ?_
  refine l_iconst C dL_law_777 ?_
  refine l_iadd C dL_law_778 ?_
  refine l_sld C dL_law_779 (by omega) ?_
  refine l_callM C dL_law_780 mv_L_82 rfl (m_chosen (o1 + 213, u, D, ca) l τ _ _ _ A h2 hA (ii _) (ii _) (ii _)) rfl rfl (fun _ => rfl) (fun _ => Nat.le_of_ble_eq_true rfl) (fun z2 τ1 g2 => ?_)
  obtain ⟨rfl, r2⟩ := g2
  refine l_same 1342 C dL_law_783 (by decide) ?_
  exact hN _ _ _ r1 r2 (ok_chosen hA _ _ _)
set_option maxRecDepth 20000 in
theorem lc_lawful {E : qE} {l : Launch} {b L : Nat} {xs : Nat → Int32} {o1 u : Nat} {D : va_G} {ca : Nat → ClassId} {G : qSt → qSt → Nat → List (Option qV) → List qV → Prop} {σ τ : qSt} (C : Lx E l b L xs o1 u D ca G) {i : Int} (hi : 0 ≤ i ∧ i + 6 ≤ L) {A : aSt} (h1 : RelD σ A) (h2 : RelM τ A) (hA : AOk A) (hN : ∀ (σ' τ' : qSt) (A' : aSt), RelD σ' A' → RelM τ' A' → AOk A' → G σ' τ' 1342 [some (qr 99 0), some (qr 0 0), some (qr 1 0), some (qi i)] []) : G σ τ 788 [some (qr 99 0), some (qr 0 0), some (qr 1 0), some (qi i)] [] := by
  refine l_aload_n C dL_law_788 rfl ?_
  refine l_aload_n C dL_law_789 rfl ?_
  refine l_iload_n C dL_law_790 rfl ?_
  refine l_iconst C dL_law_791 ?_
  refine l_iadd C dL_law_792 ?_
  refine l_sld C dL_law_793 (by omega) ?_
  refine l_aload_n C dL_law_794 rfl ?_
  refine l_iload_n C dL_law_795 rfl ?_
  refine l_iconst C dL_law_796 ?_
  refine l_iadd C dL_law_797 ?_
  refine l_sld C dL_law_798 (by omega) ?_
  refine l_aload_n C dL_law_799 rfl ?_
  refine l_iload_n C dL_law_800 rfl ?_
  refine l_iconst C dL_law_801 ?_
  refine l_iadd C dL_law_802 ?_
  refine l_sld C dL_law_803 (by omega) ?_
  refine l_callD C dL_law_804 mv_L_83 rfl (o_lawful (o1, u, D, ca) l σ _ _ _ A h1 hA (ii _) (ii _) (ii _)) rfl rfl (fun _ => rfl) (fun _ => Nat.le_of_ble_eq_true rfl) (fun z1 σ1 g1 => ?_)
  obtain ⟨rfl, r1⟩ := g1
  refine l_aload_n C dL_law_807 rfl ?_
  refine l_aload_n C dL_law_808 rfl ?_
  refine l_iload_n C dL_law_809 rfl ?_
  refine l_iconst C dL_law_810 ?_
  refine l_iadd C dL_law_811 ?_
  refine l_sld C dL_law_812 (by omega) ?_
  refine l_aload_n C dL_law_813 rfl ?_
  refine l_iload_n C dL_law_814 rfl ?_
  refine l_iconst C dL_law_815 ?_
  refine l_iadd C dL_law_816 ?_
  refine l_sld C dL_law_817 (by omega) ?_
  refine l_aload_n C dL_law_818 rfl ?_
  refine l_iload_n C dL_law_819 rfl ?_
  refine l_iconst C dL_law_820 ?_
  refine l_iadd C dL_law_821 ?_
  refine l_sld C dL_law_822 (by omega) ?_
  refine l_callM C dL_law_823 mv_L_86 rfl (m_lawful (o1 + 213, u, D, ca) l τ _ _ _ A h2 hA (ii _) (ii _) (ii _)) rfl rfl (fun _ => rfl) (fun _ => Nat.le_of_ble_eq_true rfl) (fun z2 τ1 g2 => ?_)
  obtain ⟨rfl, r2⟩ := g2
  refine l_same 1342 C dL_law_826 (by decide) ?_
  exact hN _ _ _ r1 r2 (ok_lawful hA _ _ _)
set_option maxRecDepth 20000 in
theorem lc_best {E : qE} {l : Launch} {b L : Nat} {xs : Nat → Int32} {o1 u : Nat} {D : va_G} {ca : Nat → ClassId} {G : qSt → qSt → Nat → List (Option qV) → List qV → Prop} {σ τ : qSt} (C : Lx E l b L xs o1 u D ca G) {i : Int} (hi : 0 ≤ i ∧ i + 6 ≤ L) {A : aSt} (h1 : RelD σ A) (h2 : RelM τ A) (hA : AOk A) (hN : ∀ (σ' τ' : qSt) (A' : aSt), RelD σ' A' → RelM τ' A' → AOk A' → G σ' τ' 1342 [some (qr 99 0), some (qr 0 0), some (qr 1 0), some (qi i)] []) : G σ τ 831 [some (qr 99 0), some (qr 0 0), some (qr 1 0), some (qi i)] [] := by
  refine l_aload_n C dL_law_831 rfl ?_
  refine l_aload_n C dL_law_832 rfl ?_
  refine l_iload_n C dL_law_833 rfl ?_
  refine l_iconst C dL_law_834 ?_
  refine l_iadd C dL_law_835 ?_
  refine l_sld C dL_law_836 (by omega) ?_
  refine l_aload_n C dL_law_837 rfl ?_
  refine l_iload_n C dL_law_838 rfl ?_
  refine l_iconst C dL_law_839 ?_
  refine l_iadd C dL_law_840 ?_
  refine l_sld C dL_law_841 (by omega) ?_
  refine l_aload_n C dL_law_842 rfl ?_
  refine l_iload_n C dL_law_843 rfl ?_
  refine l_iconst C dL_law_844 ?_
  refine l_iadd C dL_law_845 ?_
  refine l_sld C dL_law_846 (by omega) ?_
  refine l_callD C dL_law_847 mv_L_87 rfl (o_best (o1, u, D, ca) l σ _ _ _ A h1 hA (ii _) (ii _) (ii _)) rfl rfl (fun _ => rfl) (fun _ => Nat.le_of_ble_eq_true rfl) (fun z1 σ1 g1 => ?_)
  obtain ⟨rfl, r1⟩ := g1
  refine l_aload_n C dL_law_850 rfl ?_
  refine l_aload_n C dL_law_851 rfl ?_
  refine l_iload_n C dL_law_852 rfl ?_
  refine l_iconst C dL_law_853 ?_
  refine l_iadd C dL_law_854 ?_
  refine l_sld C dL_law_855 (by omega) ?_
  refine l_aload_n C dL_law_856 rfl ?_
  refine l_iload_n C dL_law_857 rfl ?_
  refine l_iconst C dL_law_858 ?_
  refine l_iadd C dL_law_859 ?_
  refine l_sld C dL_law_860 (by omega) ?_
  refine l_aload_n C dL_law_861 rfl ?_
  refine l_iload_n C dL_law_862 rfl ?_
  refine l_iconst C dL_law_863 ?_
  refine l_iadd C dL_law_864 ?_
  refine l_sld C dL_law_865 (by omega) ?_
  refine l_callM C dL_law_866 mv_L_90 rfl (m_best (o1 + 213, u, D, ca) l τ _ _ _ A h2 hA (ii _) (ii _) (ii _)) rfl rfl (fun _ => rfl) (fun _ => Nat.le_of_ble_eq_true rfl) (fun z2 τ1 g2 => ?_)
  obtain ⟨rfl, r2⟩ := g2
  refine l_same 1342 C dL_law_869 (by decide) ?_
  exact hN _ _ _ r1 r2 (ok_best hA _ _ _)
set_option maxRecDepth 20000 in
theorem lc_worth {E : qE} {l : Launch} {b L : Nat} {xs : Nat → Int32} {o1 u : Nat} {D : va_G} {ca : Nat → ClassId} {G : qSt → qSt → Nat → List (Option qV) → List qV → Prop} {σ τ : qSt} (C : Lx E l b L xs o1 u D ca G) {i : Int} (hi : 0 ≤ i ∧ i + 6 ≤ L) {A : aSt} (h1 : RelD σ A) (h2 : RelM τ A) (hA : AOk A) (hN : ∀ (σ' τ' : qSt) (A' : aSt), RelD σ' A' → RelM τ' A' → AOk A' → G σ' τ' 1342 [some (qr 99 0), some (qr 0 0), some (qr 1 0), some (qi i)] []) : G σ τ 874 [some (qr 99 0), some (qr 0 0), some (qr 1 0), some (qi i)] [] := by
  refine l_aload_n C dL_law_874 rfl ?_
  refine l_aload_n C dL_law_875 rfl ?_
  refine l_iload_n C dL_law_876 rfl ?_
  refine l_iconst C dL_law_877 ?_
  refine l_iadd C dL_law_878 ?_
  refine l_sld C dL_law_879 (by omega) ?_
  refine l_aload_n C dL_law_880 rfl ?_
  refine l_iload_n C dL_law_881 rfl ?_
  refine l_iconst C dL_law_882 ?_
  refine l_iadd C dL_law_883 ?_
  refine l_sld C dL_law_884 (by omega) ?_
  refine l_callD C dL_law_885 mv_L_91 rfl (o_worth (o1, u, D, ca) l σ _ _ A h1 hA (ii _) (ii _)) rfl rfl (fun _ => rfl) (fun _ => Nat.le_of_ble_eq_true rfl) (fun z1 σ1 g1 => ?_)
  obtain ⟨rfl, r1⟩ := g1
  refine l_aload_n C dL_law_888 rfl ?_
  refine l_aload_n C dL_law_889 rfl ?_
  refine l_iload_n C dL_law_890 rfl ?_
  refine l_iconst C dL_law_891 ?_
  refine l_iadd C dL_law_892 ?_
  refine l_sld C dL_law_893 (by omega) ?_
  refine l_aload_n C dL_law_894 rfl ?_
  refine l_iload_n C dL_law_895 rfl ?_
  refine l_iconst C dL_law_896 ?_
  refine l_iadd C dL_law_897 ?_
  refine l_sld C dL_law_898 (by omega) ?_
  refine l_callM C dL_law_899 mv_L_94 rfl (m_worth (o1 + 213, u, D, ca) l τ _ _ A h2 hA (ii _) (ii _)) rfl rfl (fun _ => rfl) (fun _ => Nat.le_of_ble_eq_true rfl) (fun z2 τ1 g2 => ?_)
  obtain ⟨rfl, r2⟩ := g2
  refine l_same 1342 C dL_law_902 (by decide) ?_
  exact hN _ _ _ r1 r2 (ok_worth hA _ _)
set_option maxRecDepth 20000 in
theorem lc_actor {E : qE} {l : Launch} {b L : Nat} {xs : Nat → Int32} {o1 u : Nat} {D : va_G} {ca : Nat → ClassId} {G : qSt → qSt → Nat → List (Option qV) → List qV → Prop} {σ τ : qSt} (C : Lx E l b L xs o1 u D ca G) {i : Int} (hi : 0 ≤ i ∧ i + 6 ≤ L) {A : aSt} (h1 : RelD σ A) (h2 : RelM τ A) (hA : AOk A) (hN : ∀ (σ' τ' : qSt) (A' : aSt), RelD σ' A' → RelM τ' A' → AOk A' → G σ' τ' 1342 [some (qr 99 0), some (qr 0 0), some (qr 1 0), some (qi i)] []) : G σ τ 907 [some (qr 99 0), some (qr 0 0), some (qr 1 0), some (qi i)] [] := by
  refine l_aload_n C dL_law_907 rfl ?_
  refine l_aload_n C dL_law_908 rfl ?_
  refine l_iload_n C dL_law_909 rfl ?_
  refine l_iconst C dL_law_910 ?_
  refine l_iadd C dL_law_911 ?_
  refine l_sld C dL_law_912 (by omega) ?_
  refine l_aload_n C dL_law_913 rfl ?_
  refine l_iload_n C dL_law_914 rfl ?_
  refine l_iconst C dL_law_915 ?_
  refine l_iadd C dL_law_916 ?_
  refine l_sld C dL_law_917 (by omega) ?_
  refine l_callD C dL_law_918 mv_L_95 rfl (o_actor (o1, u, D, ca) l σ _ _ A h1 hA (ii _) (ii _)) rfl rfl (fun _ => rfl) (fun _ => Nat.le_of_ble_eq_true rfl) (fun z1 σ1 g1 => ?_)
  obtain ⟨rfl, r1⟩ := g1
  refine l_aload_n C dL_law_921 rfl ?_
  refine l_aload_n C dL_law_922 rfl ?_
  refine l_iload_n C dL_law_923 rfl ?_
  refine l_iconst C dL_law_924 ?_
  refine l_iadd C dL_law_925 ?_
  refine l_sld C dL_law_926 (by omega) ?_
  refine l_aload_n C dL_law_927 rfl ?_
  refine l_iload_n C dL_law_928 rfl ?_
  refine l_iconst C dL_law_929 ?_
  refine l_iadd C dL_law_930 ?_
  refine l_sld C dL_law_931 (by omega) ?_
  refine l_callM C dL_law_932 mv_L_98 rfl (m_actor (o1 + 213, u, D, ca) l τ _ _ A h2 hA (ii _) (ii _)) rfl rfl (fun _ => rfl) (fun _ => Nat.le_of_ble_eq_true rfl) (fun z2 τ1 g2 => ?_)
  obtain ⟨rfl, r2⟩ := g2
  refine l_same 1342 C dL_law_935 (by decide) ?_
  exact hN _ _ _ r1 r2 (ok_actor hA _ _)
set_option maxRecDepth 20000 in
theorem lc_free {E : qE} {l : Launch} {b L : Nat} {xs : Nat → Int32} {o1 u : Nat} {D : va_G} {ca : Nat → ClassId} {G : qSt → qSt → Nat → List (Option qV) → List qV → Prop} {σ τ : qSt} (C : Lx E l b L xs o1 u D ca G) {i : Int} (hi : 0 ≤ i ∧ i + 6 ≤ L) {A : aSt} (h1 : RelD σ A) (h2 : RelM τ A) (hA : AOk A) (hN : ∀ (σ' τ' : qSt) (A' : aSt), RelD σ' A' → RelM τ' A' → AOk A' → G σ' τ' 1342 [some (qr 99 0), some (qr 0 0), some (qr 1 0), some (qi i)] []) : G σ τ 940 [some (qr 99 0), some (qr 0 0), some (qr 1 0), some (qi i)] [] := by
  refine l_aload_n C dL_law_940 rfl ?_
  refine l_aload_n C dL_law_941 rfl ?_
  refine l_iload_n C dL_law_942 rfl ?_
  refine l_iconst C dL_law_943 ?_
  refine l_iadd C dL_law_944 ?_
  refine l_sld C dL_law_945 (by omega) ?_
  refine l_aload_n C dL_law_946 rfl ?_
  refine l_iload_n C dL_law_947 rfl ?_
  refine l_iconst C dL_law_948 ?_
  refine l_iadd C dL_law_949 ?_
  refine l_sld C dL_law_950 (by omega) ?_
  refine l_callD C dL_law_951 mv_L_99 rfl (o_free (o1, u, D, ca) l σ _ _ A h1 hA (ii _) (ii _)) rfl rfl (fun _ => rfl) (fun _ => Nat.le_of_ble_eq_true rfl) (fun z1 σ1 g1 => ?_)
  obtain ⟨rfl, r1⟩ := g1
  refine l_aload_n C dL_law_954 rfl ?_
  refine l_aload_n C dL_law_955 rfl ?_
  refine l_iload_n C dL_law_956 rfl ?_
  refine l_iconst C dL_law_957 ?_
  refine l_iadd C dL_law_958 ?_
  refine l_sld C dL_law_959 (by omega) ?_
  refine l_aload_n C dL_law_960 rfl ?_
  refine l_iload_n C dL_law_961 rfl ?_
  refine l_iconst C dL_law_962 ?_
  refine l_iadd C dL_law_963 ?_
  refine l_sld C dL_law_964 (by omega) ?_
  refine l_callM C dL_law_965 mv_L_102 rfl (m_free (o1 + 213, u, D, ca) l τ _ _ A h2 hA (ii _) (ii _)) rfl rfl (fun _ => rfl) (fun _ => Nat.le_of_ble_eq_true rfl) (fun z2 τ1 g2 => ?_)
  obtain ⟨rfl, r2⟩ := g2
  refine l_same 1342 C dL_law_968 (by decide) ?_
  exact hN _ _ _ r1 r2 (ok_free hA _ _)
set_option maxRecDepth 20000 in
theorem lc_room {E : qE} {l : Launch} {b L : Nat} {xs : Nat → Int32} {o1 u : Nat} {D : va_G} {ca : Nat → ClassId} {G : qSt → qSt → Nat → List (Option qV) → List qV → Prop} {σ τ : qSt} (C : Lx E l b L xs o1 u D ca G) {i : Int} (hi : 0 ≤ i ∧ i + 6 ≤ L) {A : aSt} (h1 : RelD σ A) (h2 : RelM τ A) (hA : AOk A) (hN : ∀ (σ' τ' : qSt) (A' : aSt), RelD σ' A' → RelM τ' A' → AOk A' → G σ' τ' 1342 [some (qr 99 0), some (qr 0 0), some (qr 1 0), some (qi i)] []) : G σ τ 973 [some (qr 99 0), some (qr 0 0), some (qr 1 0), some (qi i)] [] := by
  refine l_aload_n C dL_law_973 rfl ?_
  refine l_aload_n C dL_law_974 rfl ?_
  refine l_iload_n C dL_law_975 rfl ?_
  refine l_iconst C dL_law_976 ?_
  refine l_iadd C dL_law_977 ?_
  refine l_sld C dL_law_978 (by omega) ?_
  refine l_aload_n C dL_law_979 rfl ?_
  refine l_iload_n C dL_law_980 rfl ?_
  refine l_iconst C dL_law_981 ?_
  refine l_iadd C dL_law_982 ?_
  refine l_sld C dL_law_983 (by omega) ?_
  refine l_callD C dL_law_984 mv_L_103 rfl (o_room (o1, u, D, ca) l σ _ _ A h1 hA (ii _) (ii _)) rfl rfl (fun _ => rfl) (fun _ => Nat.le_of_ble_eq_true rfl) (fun z1 σ1 g1 => ?_)
  obtain ⟨rfl, r1⟩ := g1
  refine l_aload_n C dL_law_987 rfl ?_
  refine l_aload_n C dL_law_988 rfl ?_
  refine l_iload_n C dL_law_989 rfl ?_
  refine l_iconst C dL_law_990 ?_
  refine l_iadd C dL_law_991 ?_
  refine l_sld C dL_law_992 (by omega) ?_
  refine l_aload_n C dL_law_993 rfl ?_
  refine l_iload_n C dL_law_994 rfl ?_
  refine l_iconst C dL_law_995 ?_
  refine l_iadd C dL_law_996 ?_
  refine l_sld C dL_law_997 (by omega) ?_
  refine l_callM C dL_law_998 mv_L_106 rfl (m_room (o1 + 213, u, D, ca) l τ _ _ A h2 hA (ii _) (ii _)) rfl rfl (fun _ => rfl) (fun _ => Nat.le_of_ble_eq_true rfl) (fun z2 τ1 g2 => ?_)
  obtain ⟨rfl, r2⟩ := g2
  refine l_same 1342 C dL_law_1001 (by decide) ?_
  exact hN _ _ _ r1 r2 (ok_room hA _ _)
set_option maxRecDepth 20000 in
theorem lc_loop {E : qE} {l : Launch} {b L : Nat} {xs : Nat → Int32} {o1 u : Nat} {D : va_G} {ca : Nat → ClassId} {G : qSt → qSt → Nat → List (Option qV) → List qV → Prop} {σ τ : qSt} (C : Lx E l b L xs o1 u D ca G) {i : Int} (hi : 0 ≤ i ∧ i + 6 ≤ L) {A : aSt} (h1 : RelD σ A) (h2 : RelM τ A) (hA : AOk A) (hN : ∀ (σ' τ' : qSt) (A' : aSt), RelD σ' A' → RelM τ' A' → AOk A' → G σ' τ' 1342 [some (qr 99 0), some (qr 0 0), some (qr 1 0), some (qi i)] []) : G σ τ 1006 [some (qr 99 0), some (qr 0 0), some (qr 1 0), some (qi i)] [] := by
  refine l_aload_n C dL_law_1006 rfl ?_
  refine l_aload_n C dL_law_1007 rfl ?_
  refine l_iload_n C dL_law_1008 rfl ?_
  refine l_iconst C dL_law_1009 ?_
  refine l_iadd C dL_law_1010 ?_
  refine l_sld C dL_law_1011 (by omega) ?_
  refine l_callD C dL_law_1012 mv_L_107 rfl (o_loop (o1, u, D, ca) l σ _ A h1 hA (ii _)) rfl rfl (fun _ => rfl) (fun _ => Nat.le_of_ble_eq_true rfl) (fun z1 σ1 g1 => ?_)
  obtain ⟨rfl, r1⟩ := g1
  refine l_aload_n C dL_law_1015 rfl ?_
  refine l_aload_n C dL_law_1016 rfl ?_
  refine l_iload_n C dL_law_1017 rfl ?_
  refine l_iconst C dL_law_1018 ?_
  refine l_iadd C dL_law_1019 ?_
  refine l_sld C dL_law_1020 (by omega) ?_
  refine l_callM C dL_law_1021 mv_L_110 rfl (m_loop (o1 + 213, u, D, ca) l τ _ A h2 hA (ii _)) rfl rfl (fun _ => rfl) (fun _ => Nat.le_of_ble_eq_true rfl) (fun z2 τ1 g2 => ?_)
  obtain ⟨rfl, r2⟩ := g2
  refine l_same 1342 C dL_law_1024 (by decide) ?_
  exact hN _ _ _ r1 r2 (ok_loop hA _)
set_option maxRecDepth 20000 in
theorem lc_unloop {E : qE} {l : Launch} {b L : Nat} {xs : Nat → Int32} {o1 u : Nat} {D : va_G} {ca : Nat → ClassId} {G : qSt → qSt → Nat → List (Option qV) → List qV → Prop} {σ τ : qSt} (C : Lx E l b L xs o1 u D ca G) {i : Int} (hi : 0 ≤ i ∧ i + 6 ≤ L) {A : aSt} (h1 : RelD σ A) (h2 : RelM τ A) (hA : AOk A) (hN : ∀ (σ' τ' : qSt) (A' : aSt), RelD σ' A' → RelM τ' A' → AOk A' → G σ' τ' 1342 [some (qr 99 0), some (qr 0 0), some (qr 1 0), some (qi i)] []) : G σ τ 1029 [some (qr 99 0), some (qr 0 0), some (qr 1 0), some (qi i)] [] := by
  refine l_aload_n C dL_law_1029 rfl ?_
  refine l_callD C dL_law_1030 mv_L_111 rfl (o_unloop (o1, u, D, ca) l σ  A h1 hA ) rfl rfl (fun _ => rfl) (fun _ => Nat.le_of_ble_eq_true rfl) (fun z1 σ1 g1 => ?_)
  obtain ⟨rfl, r1⟩ := g1
  refine l_aload_n C dL_law_1033 rfl ?_
  refine l_callM C dL_law_1034 mv_L_115 rfl (m_unloop (o1 + 213, u, D, ca) l τ  A h2 hA ) rfl rfl (fun _ => rfl) (fun _ => Nat.le_of_ble_eq_true rfl) (fun z2 τ1 g2 => ?_)
  obtain ⟨rfl, r2⟩ := g2
  refine l_same 1342 C dL_law_1037 (by decide) ?_
  exact hN _ _ _ r1 r2 (ok_unloop hA )
set_option maxRecDepth 20000 in
theorem lc_plan {E : qE} {l : Launch} {b L : Nat} {xs : Nat → Int32} {o1 u : Nat} {D : va_G} {ca : Nat → ClassId} {G : qSt → qSt → Nat → List (Option qV) → List qV → Prop} {σ τ : qSt} (C : Lx E l b L xs o1 u D ca G) {i : Int} (hi : 0 ≤ i ∧ i + 6 ≤ L) {A : aSt} (h1 : RelD σ A) (h2 : RelM τ A) (hA : AOk A) (hN : ∀ (σ' τ' : qSt) (A' : aSt), RelD σ' A' → RelM τ' A' → AOk A' → G σ' τ' 1342 [some (qr 99 0), some (qr 0 0), some (qr 1 0), some (qi i)] []) : G σ τ 1042 [some (qr 99 0), some (qr 0 0), some (qr 1 0), some (qi i)] [] := by
  refine l_aload_n C dL_law_1042 rfl ?_
  refine l_callD C dL_law_1043 mv_L_116 rfl (o_plan (o1, u, D, ca) l σ  A h1 hA ) rfl rfl (fun _ => rfl) (fun _ => Nat.le_of_ble_eq_true rfl) (fun z1 σ1 g1 => ?_)
  obtain ⟨rfl, r1⟩ := g1
  refine l_aload_n C dL_law_1046 rfl ?_
  refine l_callM C dL_law_1047 mv_L_119 rfl (m_plan (o1 + 213, u, D, ca) l τ  A h2 hA ) rfl rfl (fun _ => rfl) (fun _ => Nat.le_of_ble_eq_true rfl) (fun z2 τ1 g2 => ?_)
  obtain ⟨rfl, r2⟩ := g2
  refine l_same 1342 C dL_law_1050 (by decide) ?_
  exact hN _ _ _ r1 r2 (ok_plan hA )
set_option maxRecDepth 20000 in
theorem lc_planned {E : qE} {l : Launch} {b L : Nat} {xs : Nat → Int32} {o1 u : Nat} {D : va_G} {ca : Nat → ClassId} {G : qSt → qSt → Nat → List (Option qV) → List qV → Prop} {σ τ : qSt} (C : Lx E l b L xs o1 u D ca G) {i : Int} (hi : 0 ≤ i ∧ i + 6 ≤ L) {A : aSt} (h1 : RelD σ A) (h2 : RelM τ A) (hA : AOk A) (hN : ∀ (σ' τ' : qSt) (A' : aSt), RelD σ' A' → RelM τ' A' → AOk A' → G σ' τ' 1342 [some (qr 99 0), some (qr 0 0), some (qr 1 0), some (qi i)] []) : G σ τ 1055 [some (qr 99 0), some (qr 0 0), some (qr 1 0), some (qi i)] [] := by
  refine l_aload_n C dL_law_1055 rfl ?_
  refine l_aload_n C dL_law_1056 rfl ?_
  refine l_iload_n C dL_law_1057 rfl ?_
  refine l_iconst C dL_law_1058 ?_
  refine l_iadd C dL_law_1059 ?_
  refine l_sld C dL_law_1060 (by omega) ?_
  refine l_callD C dL_law_1061 mv_L_120 rfl (o_planned (o1, u, D, ca) l σ _ A h1 hA (ii _)) rfl rfl (fun _ => rfl) (fun _ => Nat.le_of_ble_eq_true rfl) (fun z1 σ1 g1 => ?_)
  obtain ⟨rfl, r1⟩ := g1
  refine l_aload_n C dL_law_1064 rfl ?_
  refine l_aload_n C dL_law_1065 rfl ?_
  refine l_iload_n C dL_law_1066 rfl ?_
  refine l_iconst C dL_law_1067 ?_
  refine l_iadd C dL_law_1068 ?_
  refine l_sld C dL_law_1069 (by omega) ?_
  refine l_callM C dL_law_1070 mv_L_123 rfl (m_planned (o1 + 213, u, D, ca) l τ _ A h2 hA (ii _)) rfl rfl (fun _ => rfl) (fun _ => Nat.le_of_ble_eq_true rfl) (fun z2 τ1 g2 => ?_)
  obtain ⟨rfl, r2⟩ := g2
  refine l_same 1342 C dL_law_1073 (by decide) ?_
  exact hN _ _ _ r1 r2 (ok_planned hA _)
set_option maxRecDepth 20000 in
theorem lc_plans {E : qE} {l : Launch} {b L : Nat} {xs : Nat → Int32} {o1 u : Nat} {D : va_G} {ca : Nat → ClassId} {G : qSt → qSt → Nat → List (Option qV) → List qV → Prop} {σ τ : qSt} (C : Lx E l b L xs o1 u D ca G) {i : Int} (hi : 0 ≤ i ∧ i + 6 ≤ L) {A : aSt} (h1 : RelD σ A) (h2 : RelM τ A) (hA : AOk A) (hN : ∀ (σ' τ' : qSt) (A' : aSt), RelD σ' A' → RelM τ' A' → AOk A' → G σ' τ' 1342 [some (qr 99 0), some (qr 0 0), some (qr 1 0), some (qi i)] []) : G σ τ 1078 [some (qr 99 0), some (qr 0 0), some (qr 1 0), some (qi i)] [] := by
  refine l_aload_n C dL_law_1078 rfl ?_
  refine l_callD C dL_law_1079 mv_L_124 rfl (o_plans (o1, u, D, ca) l σ  A h1 hA ) rfl rfl (fun _ => rfl) (fun _ => Nat.le_of_ble_eq_true rfl) (fun z1 σ1 g1 => ?_)
  obtain ⟨rfl, r1⟩ := g1
  refine l_aload_n C dL_law_1082 rfl ?_
  refine l_callM C dL_law_1083 mv_L_127 rfl (m_plans (o1 + 213, u, D, ca) l τ  A h2 hA ) rfl rfl (fun _ => rfl) (fun _ => Nat.le_of_ble_eq_true rfl) (fun z2 τ1 g2 => ?_)
  obtain ⟨rfl, r2⟩ := g2
  refine l_same 1342 C dL_law_1086 (by decide) ?_
  exact hN _ _ _ r1 r2 (ok_plans hA )
set_option maxRecDepth 20000 in
theorem lc_change {E : qE} {l : Launch} {b L : Nat} {xs : Nat → Int32} {o1 u : Nat} {D : va_G} {ca : Nat → ClassId} {G : qSt → qSt → Nat → List (Option qV) → List qV → Prop} {σ τ : qSt} (C : Lx E l b L xs o1 u D ca G) {i : Int} (hi : 0 ≤ i ∧ i + 6 ≤ L) {A : aSt} (h1 : RelD σ A) (h2 : RelM τ A) (hA : AOk A) (hN : ∀ (σ' τ' : qSt) (A' : aSt), RelD σ' A' → RelM τ' A' → AOk A' → G σ' τ' 1342 [some (qr 99 0), some (qr 0 0), some (qr 1 0), some (qi i)] []) : G σ τ 1091 [some (qr 99 0), some (qr 0 0), some (qr 1 0), some (qi i)] [] := by
  refine l_aload_n C dL_law_1091 rfl ?_
  refine l_aload_n C dL_law_1092 rfl ?_
  refine l_iload_n C dL_law_1093 rfl ?_
  refine l_iconst C dL_law_1094 ?_
  refine l_iadd C dL_law_1095 ?_
  refine l_sld C dL_law_1096 (by omega) ?_
  refine l_aload_n C dL_law_1097 rfl ?_
  refine l_iload_n C dL_law_1098 rfl ?_
  refine l_iconst C dL_law_1099 ?_
  refine l_iadd C dL_law_1100 ?_
  refine l_sld C dL_law_1101 (by omega) ?_
  refine l_callD C dL_law_1102 mv_L_128 rfl (o_change (o1, u, D, ca) l σ _ _ A h1 hA (ii _) (ii _)) rfl rfl (fun _ => rfl) (fun _ => Nat.le_of_ble_eq_true rfl) (fun z1 σ1 g1 => ?_)
  obtain ⟨rfl, r1⟩ := g1
  refine l_aload_n C dL_law_1105 rfl ?_
  refine l_aload_n C dL_law_1106 rfl ?_
  refine l_iload_n C dL_law_1107 rfl ?_
  refine l_iconst C dL_law_1108 ?_
  refine l_iadd C dL_law_1109 ?_
  refine l_sld C dL_law_1110 (by omega) ?_
  refine l_aload_n C dL_law_1111 rfl ?_
  refine l_iload_n C dL_law_1112 rfl ?_
  refine l_iconst C dL_law_1113 ?_
  refine l_iadd C dL_law_1114 ?_
  refine l_sld C dL_law_1115 (by omega) ?_
  refine l_callM C dL_law_1116 mv_L_131 rfl (m_change (o1 + 213, u, D, ca) l τ _ _ A h2 hA (ii _) (ii _)) rfl rfl (fun _ => rfl) (fun _ => Nat.le_of_ble_eq_true rfl) (fun z2 τ1 g2 => ?_)
  obtain ⟨rfl, r2⟩ := g2
  refine l_same 1342 C dL_law_1119 (by decide) ?_
  exact hN _ _ _ r1 r2 (ok_change hA _ _)
set_option maxRecDepth 20000 in
theorem lc_kept {E : qE} {l : Launch} {b L : Nat} {xs : Nat → Int32} {o1 u : Nat} {D : va_G} {ca : Nat → ClassId} {G : qSt → qSt → Nat → List (Option qV) → List qV → Prop} {σ τ : qSt} (C : Lx E l b L xs o1 u D ca G) {i : Int} (hi : 0 ≤ i ∧ i + 6 ≤ L) {A : aSt} (h1 : RelD σ A) (h2 : RelM τ A) (hA : AOk A) (hN : ∀ (σ' τ' : qSt) (A' : aSt), RelD σ' A' → RelM τ' A' → AOk A' → G σ' τ' 1342 [some (qr 99 0), some (qr 0 0), some (qr 1 0), some (qi i)] []) : G σ τ 1124 [some (qr 99 0), some (qr 0 0), some (qr 1 0), some (qi i)] [] := by
  refine l_aload_n C dL_law_1124 rfl ?_
  refine l_aload_n C dL_law_1125 rfl ?_
  refine l_iload_n C dL_law_1126 rfl ?_
  refine l_iconst C dL_law_1127 ?_
  refine l_iadd C dL_law_1128 ?_
  refine l_sld C dL_law_1129 (by omega) ?_
  refine l_aload_n C dL_law_1130 rfl ?_
  refine l_iload_n C dL_law_1131 rfl ?_
  refine l_iconst C dL_law_1132 ?_
  refine l_iadd C dL_law_1133 ?_
  refine l_sld C dL_law_1134 (by omega) ?_
  refine l_callD C dL_law_1135 mv_L_132 rfl (o_kept (o1, u, D, ca) l σ _ _ A h1 hA (ii _) (ii _)) rfl rfl (fun _ => rfl) (fun _ => Nat.le_of_ble_eq_true rfl) (fun z1 σ1 g1 => ?_)
  obtain ⟨rfl, r1⟩ := g1
  refine l_aload_n C dL_law_1138 rfl ?_
  refine l_aload_n C dL_law_1139 rfl ?_
  refine l_iload_n C dL_law_1140 rfl ?_
  refine l_iconst C dL_law_1141 ?_
  refine l_iadd C dL_law_1142 ?_
  refine l_sld C dL_law_1143 (by omega) ?_
  refine l_aload_n C dL_law_1144 rfl ?_
  refine l_iload_n C dL_law_1145 rfl ?_
  refine l_iconst C dL_law_1146 ?_
  refine l_iadd C dL_law_1147 ?_
  refine l_sld C dL_law_1148 (by omega) ?_
  refine l_callM C dL_law_1149 mv_L_135 rfl (m_kept (o1 + 213, u, D, ca) l τ _ _ A h2 hA (ii _) (ii _)) rfl rfl (fun _ => rfl) (fun _ => Nat.le_of_ble_eq_true rfl) (fun z2 τ1 g2 => ?_)
  obtain ⟨rfl, r2⟩ := g2
  refine l_same 1342 C dL_law_1152 (by decide) ?_
  exact hN _ _ _ r1 r2 (ok_kept hA _ _)
set_option maxRecDepth 20000 in
theorem lc_sheet {E : qE} {l : Launch} {b L : Nat} {xs : Nat → Int32} {o1 u : Nat} {D : va_G} {ca : Nat → ClassId} {G : qSt → qSt → Nat → List (Option qV) → List qV → Prop} {σ τ : qSt} (C : Lx E l b L xs o1 u D ca G) {i : Int} (hi : 0 ≤ i ∧ i + 6 ≤ L) {A : aSt} (h1 : RelD σ A) (h2 : RelM τ A) (hA : AOk A) (hN : ∀ (σ' τ' : qSt) (A' : aSt), RelD σ' A' → RelM τ' A' → AOk A' → G σ' τ' 1342 [some (qr 99 0), some (qr 0 0), some (qr 1 0), some (qi i)] []) : G σ τ 1157 [some (qr 99 0), some (qr 0 0), some (qr 1 0), some (qi i)] [] := by
  refine l_aload_n C dL_law_1157 rfl ?_
  refine l_aload_n C dL_law_1158 rfl ?_
  refine l_iload_n C dL_law_1159 rfl ?_
  refine l_iconst C dL_law_1160 ?_
  refine l_iadd C dL_law_1161 ?_
  refine l_sld C dL_law_1162 (by omega) ?_
  refine l_aload_n C dL_law_1163 rfl ?_
  refine l_iload_n C dL_law_1164 rfl ?_
  refine l_iconst C dL_law_1165 ?_
  refine l_iadd C dL_law_1166 ?_
  refine l_sld C dL_law_1167 (by omega) ?_
  refine l_aload_n C dL_law_1168 rfl ?_
  refine l_iload_n C dL_law_1169 rfl ?_
  refine l_iconst C dL_law_1170 ?_
  refine l_iadd C dL_law_1171 ?_
  refine l_sld C dL_law_1172 (by omega) ?_
  refine l_callD C dL_law_1173 mv_L_136 rfl (o_sheet (o1, u, D, ca) l σ _ _ _ A h1 hA (ii _) (ii _) (ii _)) rfl rfl (fun _ => rfl) (fun _ => Nat.le_of_ble_eq_true rfl) (fun z1 σ1 g1 => ?_)
  obtain ⟨rfl, r1⟩ := g1
  refine l_aload_n C dL_law_1176 rfl ?_
  refine l_aload_n C dL_law_1177 rfl ?_
  refine l_iload_n C dL_law_1178 rfl ?_
  refine l_iconst C dL_law_1179 ?_
  refine l_iadd C dL_law_1180 ?_
  refine l_sld C dL_law_1181 (by omega) ?_
  refine l_aload_n C dL_law_1182 rfl ?_
  refine l_iload_n C dL_law_1183 rfl ?_
  refine l_iconst C dL_law_1184 ?_
  refine l_iadd C dL_law_1185 ?_
  refine l_sld C dL_law_1186 (by omega) ?_
  refine l_aload_n C dL_law_1187 rfl ?_
  refine l_iload_n C dL_law_1188 rfl ?_
  refine l_iconst C dL_law_1189 ?_
  refine l_iadd C dL_law_1190 ?_
  refine l_sld C dL_law_1191 (by omega) ?_
  refine l_callM C dL_law_1192 mv_L_139 rfl (m_sheet (o1 + 213, u, D, ca) l τ _ _ _ A h2 hA (ii _) (ii _) (ii _)) rfl rfl (fun _ => rfl) (fun _ => Nat.le_of_ble_eq_true rfl) (fun z2 τ1 g2 => ?_)
  obtain ⟨rfl, r2⟩ := g2
  refine l_same 1342 C dL_law_1195 (by decide) ?_
  exact hN _ _ _ r1 r2 (ok_sheet hA _ _ _)
set_option maxRecDepth 20000 in
theorem lc_put {E : qE} {l : Launch} {b L : Nat} {xs : Nat → Int32} {o1 u : Nat} {D : va_G} {ca : Nat → ClassId} {G : qSt → qSt → Nat → List (Option qV) → List qV → Prop} {σ τ : qSt} (C : Lx E l b L xs o1 u D ca G) {i : Int} (hi : 0 ≤ i ∧ i + 6 ≤ L) {A : aSt} (h1 : RelD σ A) (h2 : RelM τ A) (hA : AOk A) (hN : ∀ (σ' τ' : qSt) (A' : aSt), RelD σ' A' → RelM τ' A' → AOk A' → G σ' τ' 1342 [some (qr 99 0), some (qr 0 0), some (qr 1 0), some (qi i)] []) : G σ τ 1200 [some (qr 99 0), some (qr 0 0), some (qr 1 0), some (qi i)] [] := by
  refine l_aload_n C dL_law_1200 rfl ?_
  refine l_aload_n C dL_law_1201 rfl ?_
  refine l_iload_n C dL_law_1202 rfl ?_
  refine l_iconst C dL_law_1203 ?_
  refine l_iadd C dL_law_1204 ?_
  refine l_sld C dL_law_1205 (by omega) ?_
  refine l_aload_n C dL_law_1206 rfl ?_
  refine l_iload_n C dL_law_1207 rfl ?_
  refine l_iconst C dL_law_1208 ?_
  refine l_iadd C dL_law_1209 ?_
  refine l_sld C dL_law_1210 (by omega) ?_
  refine l_aload_n C dL_law_1211 rfl ?_
  refine l_iload_n C dL_law_1212 rfl ?_
  refine l_iconst C dL_law_1213 ?_
  refine l_iadd C dL_law_1214 ?_
  refine l_sld C dL_law_1215 (by omega) ?_
  refine l_callD C dL_law_1216 mv_L_140 rfl (o_put (o1, u, D, ca) l σ _ _ _ A h1 hA (ii _) (ii _) (ii _)) rfl rfl (fun _ => rfl) (fun _ => Nat.le_of_ble_eq_true rfl) (fun z1 σ1 g1 => ?_)
  obtain ⟨rfl, r1⟩ := g1
  refine l_aload_n C dL_law_1219 rfl ?_
  refine l_aload_n C dL_law_1220 rfl ?_
  refine l_iload_n C dL_law_1221 rfl ?_
  refine l_iconst C dL_law_1222 ?_
  refine l_iadd C dL_law_1223 ?_
  refine l_sld C dL_law_1224 (by omega) ?_
  refine l_aload_n C dL_law_1225 rfl ?_
  refine l_iload_n C dL_law_1226 rfl ?_
  refine l_iconst C dL_law_1227 ?_
  refine l_iadd C dL_law_1228 ?_
  refine l_sld C dL_law_1229 (by omega) ?_
  refine l_aload_n C dL_law_1230 rfl ?_
  refine l_iload_n C dL_law_1231 rfl ?_
  refine l_iconst C dL_law_1232 ?_
  refine l_iadd C dL_law_1233 ?_
  refine l_sld C dL_law_1234 (by omega) ?_
  refine l_callM C dL_law_1235 mv_L_143 rfl (m_put (o1 + 213, u, D, ca) l τ _ _ _ A h2 hA (ii _) (ii _) (ii _)) rfl rfl (fun _ => rfl) (fun _ => Nat.le_of_ble_eq_true rfl) (fun z2 τ1 g2 => ?_)
  obtain ⟨rfl, r2⟩ := g2
  refine l_same 1342 C dL_law_1238 (by decide) ?_
  exact hN _ _ _ r1 r2 (ok_put hA _ _ _)
set_option maxRecDepth 20000 in
theorem lc_copy {E : qE} {l : Launch} {b L : Nat} {xs : Nat → Int32} {o1 u : Nat} {D : va_G} {ca : Nat → ClassId} {G : qSt → qSt → Nat → List (Option qV) → List qV → Prop} {σ τ : qSt} (C : Lx E l b L xs o1 u D ca G) {i : Int} (hi : 0 ≤ i ∧ i + 6 ≤ L) {A : aSt} (h1 : RelD σ A) (h2 : RelM τ A) (hA : AOk A) (hN : ∀ (σ' τ' : qSt) (A' : aSt), RelD σ' A' → RelM τ' A' → AOk A' → G σ' τ' 1342 [some (qr 99 0), some (qr 0 0), some (qr 1 0), some (qi i)] []) : G σ τ 1243 [some (qr 99 0), some (qr 0 0), some (qr 1 0), some (qi i)] [] := by
  refine l_aload_n C dL_law_1243 rfl ?_
  refine l_aload_n C dL_law_1244 rfl ?_
  refine l_iload_n C dL_law_1245 rfl ?_
  refine l_iconst C dL_law_1246 ?_
  refine l_iadd C dL_law_1247 ?_
  refine l_sld C dL_law_1248 (by omega) ?_
  refine l_aload_n C dL_law_1249 rfl ?_
  refine l_iload_n C dL_law_1250 rfl ?_
  refine l_iconst C dL_law_1251 ?_
  refine l_iadd C dL_law_1252 ?_
  refine l_sld C dL_law_1253 (by omega) ?_
  refine l_aload_n C dL_law_1254 rfl ?_
  refine l_iload_n C dL_law_1255 rfl ?_
  refine l_iconst C dL_law_1256 ?_
  refine l_iadd C dL_law_1257 ?_
  refine l_sld C dL_law_1258 (by omega) ?_
  refine l_aload_n C dL_law_1259 rfl ?_
  refine l_iload_n C dL_law_1260 rfl ?_
  refine l_iconst C dL_law_1261 ?_
  refine l_iadd C dL_law_1262 ?_
  refine l_sld C dL_law_1263 (by omega) ?_
  refine l_aload_n C dL_law_1264 rfl ?_
  refine l_iload_n C dL_law_1265 rfl ?_
  refine l_iconst C dL_law_1266 ?_
  refine l_iadd C dL_law_1267 ?_
  refine l_sld C dL_law_1268 (by omega) ?_
  refine l_callD C dL_law_1269 mv_L_144 rfl (o_copy (o1, u, D, ca) l σ _ _ _ _ _ A h1 hA (ii _) (ii _) (ii _) (ii _) (ii _)) rfl rfl (fun _ => rfl) (fun _ => Nat.le_of_ble_eq_true rfl) (fun z1 σ1 g1 => ?_)
  obtain ⟨rfl, r1⟩ := g1
  refine l_aload_n C dL_law_1272 rfl ?_
  refine l_aload_n C dL_law_1273 rfl ?_
  refine l_iload_n C dL_law_1274 rfl ?_
  refine l_iconst C dL_law_1275 ?_
  refine l_iadd C dL_law_1276 ?_
  refine l_sld C dL_law_1277 (by omega) ?_
  refine l_aload_n C dL_law_1278 rfl ?_
  refine l_iload_n C dL_law_1279 rfl ?_
  refine l_iconst C dL_law_1280 ?_
  refine l_iadd C dL_law_1281 ?_
  refine l_sld C dL_law_1282 (by omega) ?_
  refine l_aload_n C dL_law_1283 rfl ?_
  refine l_iload_n C dL_law_1284 rfl ?_
  refine l_iconst C dL_law_1285 ?_
  refine l_iadd C dL_law_1286 ?_
  refine l_sld C dL_law_1287 (by omega) ?_
  refine l_aload_n C dL_law_1288 rfl ?_
  refine l_iload_n C dL_law_1289 rfl ?_
  refine l_iconst C dL_law_1290 ?_
  refine l_iadd C dL_law_1291 ?_
  refine l_sld C dL_law_1292 (by omega) ?_
  refine l_aload_n C dL_law_1293 rfl ?_
  refine l_iload_n C dL_law_1294 rfl ?_
  refine l_iconst C dL_law_1295 ?_
  refine l_iadd C dL_law_1296 ?_
  refine l_sld C dL_law_1297 (by omega) ?_
  refine l_callM C dL_law_1298 mv_L_147 rfl (m_copy (o1 + 213, u, D, ca) l τ _ _ _ _ _ A h2 hA (ii _) (ii _) (ii _) (ii _) (ii _)) rfl rfl (fun _ => rfl) (fun _ => Nat.le_of_ble_eq_true rfl) (fun z2 τ1 g2 => ?_)
  obtain ⟨rfl, r2⟩ := g2
  refine l_same 1342 C dL_law_1301 (by decide) ?_
  exact hN _ _ _ r1 r2 (ok_copy hA _ _ _ _ _)
set_option maxRecDepth 20000 in
theorem lc_undo {E : qE} {l : Launch} {b L : Nat} {xs : Nat → Int32} {o1 u : Nat} {D : va_G} {ca : Nat → ClassId} {G : qSt → qSt → Nat → List (Option qV) → List qV → Prop} {σ τ : qSt} (C : Lx E l b L xs o1 u D ca G) {i : Int} (hi : 0 ≤ i ∧ i + 6 ≤ L) {A : aSt} (h1 : RelD σ A) (h2 : RelM τ A) (hA : AOk A) (hN : ∀ (σ' τ' : qSt) (A' : aSt), RelD σ' A' → RelM τ' A' → AOk A' → G σ' τ' 1342 [some (qr 99 0), some (qr 0 0), some (qr 1 0), some (qi i)] []) : G σ τ 1306 [some (qr 99 0), some (qr 0 0), some (qr 1 0), some (qi i)] [] := by
  refine l_aload_n C dL_law_1306 rfl ?_
  refine l_callD C dL_law_1307 mv_L_148 rfl (o_undo (o1, u, D, ca) l σ  A h1 hA ) rfl rfl (fun _ => rfl) (fun _ => Nat.le_of_ble_eq_true rfl) (fun z1 σ1 g1 => ?_)
  obtain ⟨rfl, r1⟩ := g1
  refine l_aload_n C dL_law_1310 rfl ?_
  refine l_callM C dL_law_1311 mv_L_151 rfl (m_undo (o1 + 213, u, D, ca) l τ  A h2 hA ) rfl rfl (fun _ => rfl) (fun _ => Nat.le_of_ble_eq_true rfl) (fun z2 τ1 g2 => ?_)
  obtain ⟨rfl, r2⟩ := g2
  refine l_same 1342 C dL_law_1314 (by decide) ?_
  exact hN _ _ _ r1 r2 (ok_undo hA )
set_option maxRecDepth 20000 in
theorem lc_all {E : qE} {l : Launch} {b L : Nat} {xs : Nat → Int32} {o1 u : Nat} {D : va_G} {ca : Nat → ClassId} {G : qSt → qSt → Nat → List (Option qV) → List qV → Prop} {σ τ : qSt} (C : Lx E l b L xs o1 u D ca G) {i : Int} (hi : 0 ≤ i ∧ i + 6 ≤ L) {A : aSt} (h1 : RelD σ A) (h2 : RelM τ A) (hA : AOk A) (hN : ∀ (σ' τ' : qSt) (A' : aSt), RelD σ' A' → RelM τ' A' → AOk A' → G σ' τ' 1342 [some (qr 99 0), some (qr 0 0), some (qr 1 0), some (qi i)] []) : G σ τ 1319 [some (qr 99 0), some (qr 0 0), some (qr 1 0), some (qi i)] [] := by
  refine l_aload_n C dL_law_1319 rfl ?_
  refine l_aload_n C dL_law_1320 rfl ?_
  refine l_iload_n C dL_law_1321 rfl ?_
  refine l_iconst C dL_law_1322 ?_
  refine l_iadd C dL_law_1323 ?_
  refine l_sld C dL_law_1324 (by omega) ?_
  refine l_callD C dL_law_1325 mv_L_152 rfl (o_all (o1, u, D, ca) l σ _ A h1 hA (ii _)) rfl rfl (fun _ => rfl) (fun _ => Nat.le_of_ble_eq_true rfl) (fun z1 σ1 g1 => ?_)
  obtain ⟨rfl, r1⟩ := g1
  refine l_aload_n C dL_law_1328 rfl ?_
  refine l_aload_n C dL_law_1329 rfl ?_
  refine l_iload_n C dL_law_1330 rfl ?_
  refine l_iconst C dL_law_1331 ?_
  refine l_iadd C dL_law_1332 ?_
  refine l_sld C dL_law_1333 (by omega) ?_
  refine l_callM C dL_law_1334 mv_L_155 rfl (m_all (o1 + 213, u, D, ca) l τ _ A h2 hA (ii _)) rfl rfl (fun _ => rfl) (fun _ => Nat.le_of_ble_eq_true rfl) (fun z2 τ1 g2 => ?_)
  obtain ⟨rfl, r2⟩ := g2
  refine l_same 1342 C dL_law_1337 (by decide) ?_
  exact hN _ _ _ r1 r2 (ok_all hA _)
set_option maxRecDepth 20000 in
theorem law_loop {E : qE} {l : Launch} {b L : Nat} {xs : Nat → Int32} {o1 u : Nat} {D : va_G} {ca : Nat → ClassId} {G : qSt → qSt → Nat → List (Option qV) → List qV → Prop} (hL : L ≤ 3072) (C : Lx E l b L xs o1 u D ca G) : ∀ (k i : Nat) (σ τ : qSt) (A : aSt), L + 1 ≤ i + k → i ≤ L + 6 → RelD σ A → RelM τ A → AOk A → G σ τ 18 [some (qr 99 0), some (qr 0 0), some (qr 1 0), some (qi (i : Int))] [] := by
  intro k
  induction k with
  | zero =>
    intro i σ τ A hk hi h1 h2 hA
    refine l_iload_n C dL_law_18 rfl ?_
    refine l_aload_n C dL_law_19 rfl ?_
    refine l_slen C dL_law_20 ?_
    refine l_bipush C dL_law_21 ?_
    refine l_isub C dL_law_23 ?_
    refine l_ic_gt 1348 C dL_law_24 (by decide) (by omega) (by omega) (fun h => ?_) (fun h => ?_)
    · refine l_iconst C dL_law_1348 ?_
      exact l_ret C dL_law_1349
    · exfalso; omega
  | succ k ih =>
    intro i σ τ A hk hi h1 h2 hA
    refine l_iload_n C dL_law_18 rfl ?_
    refine l_aload_n C dL_law_19 rfl ?_
    refine l_slen C dL_law_20 ?_
    refine l_bipush C dL_law_21 ?_
    refine l_isub C dL_law_23 ?_
    refine l_ic_gt 1348 C dL_law_24 (by decide) (by omega) (by omega) (fun h => ?_) (fun h => ?_)
    · refine l_iconst C dL_law_1348 ?_
      exact l_ret C dL_law_1349
    · have nx : ∀ (σ' τ' : qSt) (A' : aSt), RelD σ' A' → RelM τ' A' → AOk A' → G σ' τ' 1342 [some (qr 99 0), some (qr 0 0), some (qr 1 0), some (qi (i : Int))] [] := by
        intro σ' τ' A' q1 q2 q3
        refine l_iinc C dL_law_1342 rfl rfl rfl (by decide) ?_
        refine l_goto 18 C dL_law_1345 (by decide) ?_
        exact ih (i + 6) σ' τ' A' (by omega) (by omega) q1 q2 q3
      refine l_aload_n C dL_law_27 rfl ?_
      refine l_iload_n C dL_law_28 rfl ?_
      refine l_sld C dL_law_29 (by omega) ?_
      refine l_bipush C dL_law_30 ?_
      refine l_iand _ C dL_law_32 (z_mask _ 6 64 rfl (by decide) (by decide)) ?_
      generalize hw : (xs (i : Int).toNat).toInt % 64 = w
      have hw2 : 0 ≤ w ∧ w < 64 := by omega
      rcases (by omega : w = 0 ∨ w = 1 ∨ w = 2 ∨ w = 3 ∨ w = 4 ∨ w = 5 ∨ w = 6 ∨ w = 7 ∨ w = 8 ∨ w = 9 ∨ w = 10 ∨ w = 11 ∨ w = 12 ∨ w = 13 ∨ w = 14 ∨ w = 15 ∨ w = 16 ∨ w = 17 ∨ w = 18 ∨ w = 19 ∨ w = 20 ∨ w = 21 ∨ w = 22 ∨ w = 23 ∨ w = 24 ∨ w = 25 ∨ w = 26 ∨ w = 27 ∨ w = 28 ∨ w = 29 ∨ w = 30 ∨ w = 31 ∨ w = 32 ∨ w = 33 ∨ (w < 0 ∨ 33 < w)) with hq | hq | hq | hq | hq | hq | hq | hq | hq | hq | hq | hq | hq | hq | hq | hq | hq | hq | hq | hq | hq | hq | hq | hq | hq | hq | hq | hq | hq | hq | hq | hq | hq | hq | hq
      · refine l_v hq ?_
        refine l_tabIn 184 C dL_law_33 (by decide) (by decide) (by decide) rfl (by decide) ?_
        exact lc_line C (by omega) h1 h2 hA nx
      · refine l_v hq ?_
        refine l_tabIn 207 C dL_law_33 (by decide) (by decide) (by decide) rfl (by decide) ?_
        exact lc_frame C (by omega) h1 h2 hA nx
      · refine l_v hq ?_
        refine l_tabIn 240 C dL_law_33 (by decide) (by decide) (by decide) rfl (by decide) ?_
        exact lc_wording C (by omega) h1 h2 hA nx
      · refine l_v hq ?_
        refine l_tabIn 283 C dL_law_33 (by decide) (by decide) (by decide) rfl (by decide) ?_
        exact lc_as C (by omega) h1 h2 hA nx
      · refine l_v hq ?_
        refine l_tabIn 316 C dL_law_33 (by decide) (by decide) (by decide) rfl (by decide) ?_
        exact lc_syllable C (by omega) h1 h2 hA nx
      · refine l_v hq ?_
        refine l_tabIn 379 C dL_law_33 (by decide) (by decide) (by decide) rfl (by decide) ?_
        exact lc_cut C (by omega) h1 h2 hA nx
      · refine l_v hq ?_
        refine l_tabIn 402 C dL_law_33 (by decide) (by decide) (by decide) rfl (by decide) ?_
        exact lc_of C (by omega) h1 h2 hA nx
      · refine l_v hq ?_
        refine l_tabIn 435 C dL_law_33 (by decide) (by decide) (by decide) rfl (by decide) ?_
        exact lc_told C (by omega) h1 h2 hA nx
      · refine l_v hq ?_
        refine l_tabIn 468 C dL_law_33 (by decide) (by decide) (by decide) rfl (by decide) ?_
        exact lc_shape C (by omega) h1 h2 hA nx
      · refine l_v hq ?_
        refine l_tabIn 501 C dL_law_33 (by decide) (by decide) (by decide) rfl (by decide) ?_
        exact lc_cost C (by omega) h1 h2 hA nx
      · refine l_v hq ?_
        refine l_tabIn 524 C dL_law_33 (by decide) (by decide) (by decide) rfl (by decide) ?_
        exact lc_place C (by omega) h1 h2 hA nx
      · refine l_v hq ?_
        refine l_tabIn 583 C dL_law_33 (by decide) (by decide) (by decide) rfl (by decide) ?_
        exact lc_on C (by omega) h1 h2 hA nx
      · refine l_v hq ?_
        refine l_tabIn 616 C dL_law_33 (by decide) (by decide) (by decide) rfl (by decide) ?_
        exact lc_name C (by omega) h1 h2 hA nx
      · refine l_v hq ?_
        refine l_tabIn 649 C dL_law_33 (by decide) (by decide) (by decide) rfl (by decide) ?_
        exact lc_text C (by omega) h1 h2 hA nx
      · refine l_v hq ?_
        refine l_tabIn 702 C dL_law_33 (by decide) (by decide) (by decide) rfl (by decide) ?_
        exact lc_barred C (by omega) h1 h2 hA nx
      · refine l_v hq ?_
        refine l_tabIn 745 C dL_law_33 (by decide) (by decide) (by decide) rfl (by decide) ?_
        exact lc_chosen C (by omega) h1 h2 hA nx
      · refine l_v hq ?_
        refine l_tabIn 788 C dL_law_33 (by decide) (by decide) (by decide) rfl (by decide) ?_
        exact lc_lawful C (by omega) h1 h2 hA nx
      · refine l_v hq ?_
        refine l_tabIn 831 C dL_law_33 (by decide) (by decide) (by decide) rfl (by decide) ?_
        exact lc_best C (by omega) h1 h2 hA nx
      · refine l_v hq ?_
        refine l_tabIn 874 C dL_law_33 (by decide) (by decide) (by decide) rfl (by decide) ?_
        exact lc_worth C (by omega) h1 h2 hA nx
      · refine l_v hq ?_
        refine l_tabIn 907 C dL_law_33 (by decide) (by decide) (by decide) rfl (by decide) ?_
        exact lc_actor C (by omega) h1 h2 hA nx
      · refine l_v hq ?_
        refine l_tabIn 940 C dL_law_33 (by decide) (by decide) (by decide) rfl (by decide) ?_
        exact lc_free C (by omega) h1 h2 hA nx
      · refine l_v hq ?_
        refine l_tabIn 973 C dL_law_33 (by decide) (by decide) (by decide) rfl (by decide) ?_
        exact lc_room C (by omega) h1 h2 hA nx
      · refine l_v hq ?_
        refine l_tabIn 1006 C dL_law_33 (by decide) (by decide) (by decide) rfl (by decide) ?_
        exact lc_loop C (by omega) h1 h2 hA nx
      · refine l_v hq ?_
        refine l_tabIn 1029 C dL_law_33 (by decide) (by decide) (by decide) rfl (by decide) ?_
        exact lc_unloop C (by omega) h1 h2 hA nx
      · refine l_v hq ?_
        refine l_tabIn 1042 C dL_law_33 (by decide) (by decide) (by decide) rfl (by decide) ?_
        exact lc_plan C (by omega) h1 h2 hA nx
      · refine l_v hq ?_
        refine l_tabIn 1055 C dL_law_33 (by decide) (by decide) (by decide) rfl (by decide) ?_
        exact lc_planned C (by omega) h1 h2 hA nx
      · refine l_v hq ?_
        refine l_tabIn 1078 C dL_law_33 (by decide) (by decide) (by decide) rfl (by decide) ?_
        exact lc_plans C (by omega) h1 h2 hA nx
      · refine l_v hq ?_
        refine l_tabIn 1091 C dL_law_33 (by decide) (by decide) (by decide) rfl (by decide) ?_
        exact lc_change C (by omega) h1 h2 hA nx
      · refine l_v hq ?_
        refine l_tabIn 1124 C dL_law_33 (by decide) (by decide) (by decide) rfl (by decide) ?_
        exact lc_kept C (by omega) h1 h2 hA nx
      · refine l_v hq ?_
        refine l_tabIn 1157 C dL_law_33 (by decide) (by decide) (by decide) rfl (by decide) ?_
        exact lc_sheet C (by omega) h1 h2 hA nx
      · refine l_v hq ?_
        refine l_tabIn 1200 C dL_law_33 (by decide) (by decide) (by decide) rfl (by decide) ?_
        exact lc_put C (by omega) h1 h2 hA nx
      · refine l_v hq ?_
        refine l_tabIn 1243 C dL_law_33 (by decide) (by decide) (by decide) rfl (by decide) ?_
        exact lc_copy C (by omega) h1 h2 hA nx
      · refine l_v hq ?_
        refine l_tabIn 1306 C dL_law_33 (by decide) (by decide) (by decide) rfl (by decide) ?_
        exact lc_undo C (by omega) h1 h2 hA nx
      · refine l_v hq ?_
        refine l_tabIn 1319 C dL_law_33 (by decide) (by decide) (by decide) rfl (by decide) ?_
        exact lc_all C (by omega) h1 h2 hA nx
      · refine l_tabOut 1342 C dL_law_33 (by decide) (by omega) hq ?_
        exact nx _ _ _ h1 h2 hA
