/-! ===== the law: its cases ===== -/
section LAW2
variable {I : MI} {G : MG} {J : MJ} {Φ : Ph} {a : Nat} {L : Ld} {T : Tm} {i N : Nat}
theorem la_type (S : SR I G J a L T) (hN : oul G 1000 = N) (hi : i + 4 < N) (hb : N ≤ 320) (kk : ∀ (I' : MI) (G' : MG) (J' : MJ), Kp I G I' G' → (∃ a L T, SR I' G' J' a L T) → Ev (12 + 1) mL_law 0 802 (lsL i) [] 136 I' G' J' Φ) : Ev (12 + 1) mL_law 0 152 (lsL i) [] 136 I G J Φ := by
  refine E_aload_n 1 dL_law_152 rfl rfl ?_
  refine la_arg 1 dL_law_153 dL_law_154 dL_law_155 dL_law_156 dL_law_157 rfl hN (by omega) hb ?_
  refine la_two (d := 12) (P := 158) (Q := 167) (As := [.int (I 1000 (i + 1))]) lk_RL_13 lk_RL_17 rfl rfl ⟨rfl, rfl⟩ ⟨rfl, rfl⟩ rfl (Nat.le_of_ble_eq_true rfl) (Nat.le_of_ble_eq_true rfl) dL_law_158 dL_law_161 dL_law_167 dL_law_170 rfl (fun I1 G1 J1 v hag hk => ?_) ?_ kk
  · have hN1 : oul G1 1000 = N := by unfold oul at hN ⊢; rw [(hag 1000 (by omega)).2]; exact hN
    refine la_arg 1 dL_law_162 dL_law_163 dL_law_164 dL_law_165 dL_law_166 rfl hN1 (by omega) hb ?_
    rw [(hag 1000 (by omega)).1]
    exact hk
  · exact ((p_type (d := 11) S _).post (fun _ _ _ _ _ q => P2.mono (by omega) q)).mono (by omega)
theorem la_clear (S : SR I G J a L T) (hN : oul G 1000 = N) (hi : i + 4 < N) (hb : N ≤ 320) (kk : ∀ (I' : MI) (G' : MG) (J' : MJ), Kp I G I' G' → (∃ a L T, SR I' G' J' a L T) → Ev (12 + 1) mL_law 0 802 (lsL i) [] 136 I' G' J' Φ) : Ev (12 + 1) mL_law 0 175 (lsL i) [] 136 I G J Φ := by
  refine E_aload_n 1 dL_law_175 rfl rfl ?_
  refine la_two (d := 12) (P := 176) (Q := 180) (As := []) lk_RL_18 lk_RL_22 rfl rfl ⟨rfl, rfl⟩ ⟨rfl, rfl⟩ rfl (Nat.le_of_ble_eq_true rfl) (Nat.le_of_ble_eq_true rfl) dL_law_176 dL_law_179 dL_law_180 dL_law_183 rfl (fun I1 G1 J1 v hag hk => ?_) ?_ kk
  · exact hk
  · exact ((p_clear (d := 12) S).post (fun _ _ _ _ _ q => P2.mono (by omega) q)).mono (by omega)
theorem la_hills (S : SR I G J a L T) (hN : oul G 1000 = N) (hi : i + 4 < N) (hb : N ≤ 320) (kk : ∀ (I' : MI) (G' : MG) (J' : MJ), Kp I G I' G' → (∃ a L T, SR I' G' J' a L T) → Ev (12 + 1) mL_law 0 802 (lsL i) [] 136 I' G' J' Φ) : Ev (12 + 1) mL_law 0 188 (lsL i) [] 136 I G J Φ := by
  refine E_aload_n 1 dL_law_188 rfl rfl ?_
  refine la_two (d := 12) (P := 189) (Q := 193) (As := []) lk_RL_23 lk_RL_26 rfl rfl ⟨rfl, rfl⟩ ⟨rfl, rfl⟩ rfl (Nat.le_of_ble_eq_true rfl) (Nat.le_of_ble_eq_true rfl) dL_law_189 dL_law_192 dL_law_193 dL_law_196 rfl (fun I1 G1 J1 v hag hk => ?_) ?_ kk
  · exact hk
  · exact ((p_hills (d := 6) S).post (fun _ _ _ _ _ q => P2.mono (by omega) q)).mono (by omega)
theorem la_hill (S : SR I G J a L T) (hN : oul G 1000 = N) (hi : i + 4 < N) (hb : N ≤ 320) (kk : ∀ (I' : MI) (G' : MG) (J' : MJ), Kp I G I' G' → (∃ a L T, SR I' G' J' a L T) → Ev (12 + 1) mL_law 0 802 (lsL i) [] 136 I' G' J' Φ) : Ev (12 + 1) mL_law 0 201 (lsL i) [] 136 I G J Φ := by
  refine E_aload_n 1 dL_law_201 rfl rfl ?_
  refine la_arg 1 dL_law_202 dL_law_203 dL_law_204 dL_law_205 dL_law_206 rfl hN (by omega) hb ?_
  refine la_arg 2 dL_law_207 dL_law_208 dL_law_209 dL_law_210 dL_law_211 rfl hN (by omega) hb ?_
  refine la_two (d := 12) (P := 212) (Q := 226) (As := [.int (I 1000 (i + 1)), .int (I 1000 (i + 2))]) lk_RL_27 lk_RL_31 rfl rfl ⟨rfl, rfl⟩ ⟨rfl, rfl⟩ rfl (Nat.le_of_ble_eq_true rfl) (Nat.le_of_ble_eq_true rfl) dL_law_212 dL_law_215 dL_law_226 dL_law_229 rfl (fun I1 G1 J1 v hag hk => ?_) ?_ kk
  · have hN1 : oul G1 1000 = N := by unfold oul at hN ⊢; rw [(hag 1000 (by omega)).2]; exact hN
    refine la_arg 1 dL_law_216 dL_law_217 dL_law_218 dL_law_219 dL_law_220 rfl hN1 (by omega) hb ?_
    refine la_arg 2 dL_law_221 dL_law_222 dL_law_223 dL_law_224 dL_law_225 rfl hN1 (by omega) hb ?_
    rw [(hag 1000 (by omega)).1]
    exact hk
  · exact ((p_hill (d := 10) S _ _).post (fun _ _ _ _ _ q => P2.mono (by omega) q)).mono (by omega)
theorem la_stone (S : SR I G J a L T) (hN : oul G 1000 = N) (hi : i + 4 < N) (hb : N ≤ 320) (kk : ∀ (I' : MI) (G' : MG) (J' : MJ), Kp I G I' G' → (∃ a L T, SR I' G' J' a L T) → Ev (12 + 1) mL_law 0 802 (lsL i) [] 136 I' G' J' Φ) : Ev (12 + 1) mL_law 0 234 (lsL i) [] 136 I G J Φ := by
  refine E_aload_n 1 dL_law_234 rfl rfl ?_
  refine la_arg 1 dL_law_235 dL_law_236 dL_law_237 dL_law_238 dL_law_239 rfl hN (by omega) hb ?_
  refine la_arg 2 dL_law_240 dL_law_241 dL_law_242 dL_law_243 dL_law_244 rfl hN (by omega) hb ?_
  refine la_two (d := 12) (P := 245) (Q := 259) (As := [.int (I 1000 (i + 1)), .int (I 1000 (i + 2))]) lk_RL_32 lk_RL_35 rfl rfl ⟨rfl, rfl⟩ ⟨rfl, rfl⟩ rfl (Nat.le_of_ble_eq_true rfl) (Nat.le_of_ble_eq_true rfl) dL_law_245 dL_law_248 dL_law_259 dL_law_262 rfl (fun I1 G1 J1 v hag hk => ?_) ?_ kk
  · have hN1 : oul G1 1000 = N := by unfold oul at hN ⊢; rw [(hag 1000 (by omega)).2]; exact hN
    refine la_arg 1 dL_law_249 dL_law_250 dL_law_251 dL_law_252 dL_law_253 rfl hN1 (by omega) hb ?_
    refine la_arg 2 dL_law_254 dL_law_255 dL_law_256 dL_law_257 dL_law_258 rfl hN1 (by omega) hb ?_
    rw [(hag 1000 (by omega)).1]
    exact hk
  · exact ((p_stone (d := 10) S _ _).post (fun _ _ _ _ _ q => P2.mono (by omega) q)).mono (by omega)
theorem la_man (S : SR I G J a L T) (hN : oul G 1000 = N) (hi : i + 4 < N) (hb : N ≤ 320) (kk : ∀ (I' : MI) (G' : MG) (J' : MJ), Kp I G I' G' → (∃ a L T, SR I' G' J' a L T) → Ev (12 + 1) mL_law 0 802 (lsL i) [] 136 I' G' J' Φ) : Ev (12 + 1) mL_law 0 267 (lsL i) [] 136 I G J Φ := by
  refine E_aload_n 1 dL_law_267 rfl rfl ?_
  refine la_arg 1 dL_law_268 dL_law_269 dL_law_270 dL_law_271 dL_law_272 rfl hN (by omega) hb ?_
  refine la_arg 2 dL_law_273 dL_law_274 dL_law_275 dL_law_276 dL_law_277 rfl hN (by omega) hb ?_
  refine la_two (d := 12) (P := 278) (Q := 292) (As := [.int (I 1000 (i + 1)), .int (I 1000 (i + 2))]) lk_RL_36 lk_RL_39 rfl rfl ⟨rfl, rfl⟩ ⟨rfl, rfl⟩ rfl (Nat.le_of_ble_eq_true rfl) (Nat.le_of_ble_eq_true rfl) dL_law_278 dL_law_281 dL_law_292 dL_law_295 rfl (fun I1 G1 J1 v hag hk => ?_) ?_ kk
  · have hN1 : oul G1 1000 = N := by unfold oul at hN ⊢; rw [(hag 1000 (by omega)).2]; exact hN
    refine la_arg 1 dL_law_282 dL_law_283 dL_law_284 dL_law_285 dL_law_286 rfl hN1 (by omega) hb ?_
    refine la_arg 2 dL_law_287 dL_law_288 dL_law_289 dL_law_290 dL_law_291 rfl hN1 (by omega) hb ?_
    rw [(hag 1000 (by omega)).1]
    exact hk
  · exact ((p_man (d := 10) S _ _).post (fun _ _ _ _ _ q => P2.mono (by omega) q)).mono (by omega)
theorem la_now (S : SR I G J a L T) (hN : oul G 1000 = N) (hi : i + 4 < N) (hb : N ≤ 320) (kk : ∀ (I' : MI) (G' : MG) (J' : MJ), Kp I G I' G' → (∃ a L T, SR I' G' J' a L T) → Ev (12 + 1) mL_law 0 802 (lsL i) [] 136 I' G' J' Φ) : Ev (12 + 1) mL_law 0 300 (lsL i) [] 136 I G J Φ := by
  refine E_aload_n 1 dL_law_300 rfl rfl ?_
  refine la_arg 1 dL_law_301 dL_law_302 dL_law_303 dL_law_304 dL_law_305 rfl hN (by omega) hb ?_
  refine la_two (d := 12) (P := 306) (Q := 315) (As := [.int (I 1000 (i + 1))]) lk_RL_40 lk_RL_43 rfl rfl ⟨rfl, rfl⟩ ⟨rfl, rfl⟩ rfl (Nat.le_of_ble_eq_true rfl) (Nat.le_of_ble_eq_true rfl) dL_law_306 dL_law_309 dL_law_315 dL_law_318 rfl (fun I1 G1 J1 v hag hk => ?_) ?_ kk
  · have hN1 : oul G1 1000 = N := by unfold oul at hN ⊢; rw [(hag 1000 (by omega)).2]; exact hN
    refine la_arg 1 dL_law_310 dL_law_311 dL_law_312 dL_law_313 dL_law_314 rfl hN1 (by omega) hb ?_
    rw [(hag 1000 (by omega)).1]
    exact hk
  · exact ((p_now (d := 10) S _).post (fun _ _ _ _ _ q => P2.mono (by omega) q)).mono (by omega)
theorem la_order (S : SR I G J a L T) (hN : oul G 1000 = N) (hi : i + 4 < N) (hb : N ≤ 320) (kk : ∀ (I' : MI) (G' : MG) (J' : MJ), Kp I G I' G' → (∃ a L T, SR I' G' J' a L T) → Ev (12 + 1) mL_law 0 802 (lsL i) [] 136 I' G' J' Φ) : Ev (12 + 1) mL_law 0 323 (lsL i) [] 136 I G J Φ := by
  refine E_aload_n 1 dL_law_323 rfl rfl ?_
  refine la_arg 1 dL_law_324 dL_law_325 dL_law_326 dL_law_327 dL_law_328 rfl hN (by omega) hb ?_
  refine la_arg 2 dL_law_329 dL_law_330 dL_law_331 dL_law_332 dL_law_333 rfl hN (by omega) hb ?_
  refine la_two (d := 12) (P := 334) (Q := 348) (As := [.int (I 1000 (i + 1)), .int (I 1000 (i + 2))]) lk_RL_44 lk_RL_47 rfl rfl ⟨rfl, rfl⟩ ⟨rfl, rfl⟩ rfl (Nat.le_of_ble_eq_true rfl) (Nat.le_of_ble_eq_true rfl) dL_law_334 dL_law_337 dL_law_348 dL_law_351 rfl (fun I1 G1 J1 v hag hk => ?_) ?_ kk
  · have hN1 : oul G1 1000 = N := by unfold oul at hN ⊢; rw [(hag 1000 (by omega)).2]; exact hN
    refine la_arg 1 dL_law_338 dL_law_339 dL_law_340 dL_law_341 dL_law_342 rfl hN1 (by omega) hb ?_
    refine la_arg 2 dL_law_343 dL_law_344 dL_law_345 dL_law_346 dL_law_347 rfl hN1 (by omega) hb ?_
    rw [(hag 1000 (by omega)).1]
    exact hk
  · exact ((p_order (d := 9) S _ _).post (fun _ _ _ _ _ q => P2.mono (by omega) q)).mono (by omega)
theorem la_hour (S : SR I G J a L T) (hN : oul G 1000 = N) (hi : i + 4 < N) (hb : N ≤ 320) (kk : ∀ (I' : MI) (G' : MG) (J' : MJ), Kp I G I' G' → (∃ a L T, SR I' G' J' a L T) → Ev (12 + 1) mL_law 0 802 (lsL i) [] 136 I' G' J' Φ) : Ev (12 + 1) mL_law 0 356 (lsL i) [] 136 I G J Φ := by
  refine E_aload_n 1 dL_law_356 rfl rfl ?_
  refine la_two (d := 12) (P := 357) (Q := 361) (As := []) lk_RL_48 lk_RL_51 rfl rfl ⟨rfl, rfl⟩ ⟨rfl, rfl⟩ rfl (Nat.le_of_ble_eq_true rfl) (Nat.le_of_ble_eq_true rfl) dL_law_357 dL_law_360 dL_law_361 dL_law_364 rfl (fun I1 G1 J1 v hag hk => ?_) ?_ kk
  · exact hk
  · exact ((p_hour (d := 7) S).post (fun _ _ _ _ _ q => P2.mono (by omega) q)).mono (by omega)
theorem la_undo (S : SR I G J a L T) (hN : oul G 1000 = N) (hi : i + 4 < N) (hb : N ≤ 320) (kk : ∀ (I' : MI) (G' : MG) (J' : MJ), Kp I G I' G' → (∃ a L T, SR I' G' J' a L T) → Ev (12 + 1) mL_law 0 802 (lsL i) [] 136 I' G' J' Φ) : Ev (12 + 1) mL_law 0 369 (lsL i) [] 136 I G J Φ := by
  refine E_aload_n 1 dL_law_369 rfl rfl ?_
  refine la_two (d := 12) (P := 370) (Q := 374) (As := []) lk_RL_52 lk_RL_55 rfl rfl ⟨rfl, rfl⟩ ⟨rfl, rfl⟩ rfl (Nat.le_of_ble_eq_true rfl) (Nat.le_of_ble_eq_true rfl) dL_law_370 dL_law_373 dL_law_374 dL_law_377 rfl (fun I1 G1 J1 v hag hk => ?_) ?_ kk
  · exact hk
  · exact ((p_undo (d := 10) S).post (fun _ _ _ _ _ q => P2.mono (by omega) q)).mono (by omega)
theorem la_highest (S : SR I G J a L T) (hN : oul G 1000 = N) (hi : i + 4 < N) (hb : N ≤ 320) (kk : ∀ (I' : MI) (G' : MG) (J' : MJ), Kp I G I' G' → (∃ a L T, SR I' G' J' a L T) → Ev (12 + 1) mL_law 0 802 (lsL i) [] 136 I' G' J' Φ) : Ev (12 + 1) mL_law 0 382 (lsL i) [] 136 I G J Φ := by
  refine E_aload_n 1 dL_law_382 rfl rfl ?_
  refine la_arg 1 dL_law_383 dL_law_384 dL_law_385 dL_law_386 dL_law_387 rfl hN (by omega) hb ?_
  refine la_arg 2 dL_law_388 dL_law_389 dL_law_390 dL_law_391 dL_law_392 rfl hN (by omega) hb ?_
  refine la_two (d := 12) (P := 393) (Q := 407) (As := [.int (I 1000 (i + 1)), .int (I 1000 (i + 2))]) lk_RL_56 lk_RL_59 rfl rfl ⟨rfl, rfl⟩ ⟨rfl, rfl⟩ rfl (Nat.le_of_ble_eq_true rfl) (Nat.le_of_ble_eq_true rfl) dL_law_393 dL_law_396 dL_law_407 dL_law_410 rfl (fun I1 G1 J1 v hag hk => ?_) ?_ kk
  · have hN1 : oul G1 1000 = N := by unfold oul at hN ⊢; rw [(hag 1000 (by omega)).2]; exact hN
    refine la_arg 1 dL_law_397 dL_law_398 dL_law_399 dL_law_400 dL_law_401 rfl hN1 (by omega) hb ?_
    refine la_arg 2 dL_law_402 dL_law_403 dL_law_404 dL_law_405 dL_law_406 rfl hN1 (by omega) hb ?_
    rw [(hag 1000 (by omega)).1]
    exact hk
  · exact ((p_highest (d := 2) S _ _).post (fun _ _ _ _ _ q => P2.mono (by omega) q)).mono (by omega)
theorem la_days (S : SR I G J a L T) (hN : oul G 1000 = N) (hi : i + 4 < N) (hb : N ≤ 320) (kk : ∀ (I' : MI) (G' : MG) (J' : MJ), Kp I G I' G' → (∃ a L T, SR I' G' J' a L T) → Ev (12 + 1) mL_law 0 802 (lsL i) [] 136 I' G' J' Φ) : Ev (12 + 1) mL_law 0 415 (lsL i) [] 136 I G J Φ := by
  refine E_aload_n 1 dL_law_415 rfl rfl ?_
  refine la_arg 1 dL_law_416 dL_law_417 dL_law_418 dL_law_419 dL_law_420 rfl hN (by omega) hb ?_
  refine la_two (d := 12) (P := 421) (Q := 430) (As := [.int (I 1000 (i + 1))]) lk_RL_60 lk_RL_63 rfl rfl ⟨rfl, rfl⟩ ⟨rfl, rfl⟩ rfl (Nat.le_of_ble_eq_true rfl) (Nat.le_of_ble_eq_true rfl) dL_law_421 dL_law_424 dL_law_430 dL_law_433 rfl (fun I1 G1 J1 v hag hk => ?_) ?_ kk
  · have hN1 : oul G1 1000 = N := by unfold oul at hN ⊢; rw [(hag 1000 (by omega)).2]; exact hN
    refine la_arg 1 dL_law_425 dL_law_426 dL_law_427 dL_law_428 dL_law_429 rfl hN1 (by omega) hb ?_
    rw [(hag 1000 (by omega)).1]
    exact hk
  · exact ((p_days (d := 6) S _).post (fun _ _ _ _ _ q => P2.mono (by omega) q)).mono (by omega)
theorem la_little (S : SR I G J a L T) (hN : oul G 1000 = N) (hi : i + 4 < N) (hb : N ≤ 320) (kk : ∀ (I' : MI) (G' : MG) (J' : MJ), Kp I G I' G' → (∃ a L T, SR I' G' J' a L T) → Ev (12 + 1) mL_law 0 802 (lsL i) [] 136 I' G' J' Φ) : Ev (12 + 1) mL_law 0 438 (lsL i) [] 136 I G J Φ := by
  refine E_aload_n 1 dL_law_438 rfl rfl ?_
  refine la_arg 1 dL_law_439 dL_law_440 dL_law_441 dL_law_442 dL_law_443 rfl hN (by omega) hb ?_
  refine la_two (d := 12) (P := 444) (Q := 453) (As := [.int (I 1000 (i + 1))]) lk_RL_64 lk_RL_67 rfl rfl ⟨rfl, rfl⟩ ⟨rfl, rfl⟩ rfl (Nat.le_of_ble_eq_true rfl) (Nat.le_of_ble_eq_true rfl) dL_law_444 dL_law_447 dL_law_453 dL_law_456 rfl (fun I1 G1 J1 v hag hk => ?_) ?_ kk
  · have hN1 : oul G1 1000 = N := by unfold oul at hN ⊢; rw [(hag 1000 (by omega)).2]; exact hN
    refine la_arg 1 dL_law_448 dL_law_449 dL_law_450 dL_law_451 dL_law_452 rfl hN1 (by omega) hb ?_
    rw [(hag 1000 (by omega)).1]
    exact hk
  · exact ((p_little (d := 8) S _).post (fun _ _ _ _ _ q => P2.mono (by omega) q)).mono (by omega)
theorem la_crew (S : SR I G J a L T) (hN : oul G 1000 = N) (hi : i + 4 < N) (hb : N ≤ 320) (kk : ∀ (I' : MI) (G' : MG) (J' : MJ), Kp I G I' G' → (∃ a L T, SR I' G' J' a L T) → Ev (12 + 1) mL_law 0 802 (lsL i) [] 136 I' G' J' Φ) : Ev (12 + 1) mL_law 0 461 (lsL i) [] 136 I G J Φ := by
  refine E_aload_n 1 dL_law_461 rfl rfl ?_
  refine la_arg 1 dL_law_462 dL_law_463 dL_law_464 dL_law_465 dL_law_466 rfl hN (by omega) hb ?_
  refine la_two (d := 12) (P := 467) (Q := 476) (As := [.int (I 1000 (i + 1))]) lk_RL_68 lk_RL_71 rfl rfl ⟨rfl, rfl⟩ ⟨rfl, rfl⟩ rfl (Nat.le_of_ble_eq_true rfl) (Nat.le_of_ble_eq_true rfl) dL_law_467 dL_law_470 dL_law_476 dL_law_479 rfl (fun I1 G1 J1 v hag hk => ?_) ?_ kk
  · have hN1 : oul G1 1000 = N := by unfold oul at hN ⊢; rw [(hag 1000 (by omega)).2]; exact hN
    refine la_arg 1 dL_law_471 dL_law_472 dL_law_473 dL_law_474 dL_law_475 rfl hN1 (by omega) hb ?_
    rw [(hag 1000 (by omega)).1]
    exact hk
  · exact ((p_crew (d := 9) S _).post (fun _ _ _ _ _ q => P2.mono (by omega) q)).mono (by omega)
theorem la_blocks (S : SR I G J a L T) (hN : oul G 1000 = N) (hi : i + 4 < N) (hb : N ≤ 320) (kk : ∀ (I' : MI) (G' : MG) (J' : MJ), Kp I G I' G' → (∃ a L T, SR I' G' J' a L T) → Ev (12 + 1) mL_law 0 802 (lsL i) [] 136 I' G' J' Φ) : Ev (12 + 1) mL_law 0 484 (lsL i) [] 136 I G J Φ := by
  refine E_aload_n 1 dL_law_484 rfl rfl ?_
  refine la_arg 1 dL_law_485 dL_law_486 dL_law_487 dL_law_488 dL_law_489 rfl hN (by omega) hb ?_
  refine la_two (d := 12) (P := 490) (Q := 499) (As := [.int (I 1000 (i + 1))]) lk_RL_72 lk_RL_75 rfl rfl ⟨rfl, rfl⟩ ⟨rfl, rfl⟩ rfl (Nat.le_of_ble_eq_true rfl) (Nat.le_of_ble_eq_true rfl) dL_law_490 dL_law_493 dL_law_499 dL_law_502 rfl (fun I1 G1 J1 v hag hk => ?_) ?_ kk
  · have hN1 : oul G1 1000 = N := by unfold oul at hN ⊢; rw [(hag 1000 (by omega)).2]; exact hN
    refine la_arg 1 dL_law_494 dL_law_495 dL_law_496 dL_law_497 dL_law_498 rfl hN1 (by omega) hb ?_
    rw [(hag 1000 (by omega)).1]
    exact hk
  · exact ((p_blocks (d := 10) S _).post (fun _ _ _ _ _ q => P2.mono (by omega) q)).mono (by omega)
theorem la_written (S : SR I G J a L T) (hN : oul G 1000 = N) (hi : i + 4 < N) (hb : N ≤ 320) (kk : ∀ (I' : MI) (G' : MG) (J' : MJ), Kp I G I' G' → (∃ a L T, SR I' G' J' a L T) → Ev (12 + 1) mL_law 0 802 (lsL i) [] 136 I' G' J' Φ) : Ev (12 + 1) mL_law 0 507 (lsL i) [] 136 I G J Φ := by
  refine E_aload_n 1 dL_law_507 rfl rfl ?_
  refine la_arg 1 dL_law_508 dL_law_509 dL_law_510 dL_law_511 dL_law_512 rfl hN (by omega) hb ?_
  refine la_arg 2 dL_law_513 dL_law_514 dL_law_515 dL_law_516 dL_law_517 rfl hN (by omega) hb ?_
  refine la_two (d := 12) (P := 518) (Q := 532) (As := [.int (I 1000 (i + 1)), .int (I 1000 (i + 2))]) lk_RL_76 lk_RL_79 rfl rfl ⟨rfl, rfl⟩ ⟨rfl, rfl⟩ rfl (Nat.le_of_ble_eq_true rfl) (Nat.le_of_ble_eq_true rfl) dL_law_518 dL_law_521 dL_law_532 dL_law_535 rfl (fun I1 G1 J1 v hag hk => ?_) ?_ kk
  · have hN1 : oul G1 1000 = N := by unfold oul at hN ⊢; rw [(hag 1000 (by omega)).2]; exact hN
    refine la_arg 1 dL_law_522 dL_law_523 dL_law_524 dL_law_525 dL_law_526 rfl hN1 (by omega) hb ?_
    refine la_arg 2 dL_law_527 dL_law_528 dL_law_529 dL_law_530 dL_law_531 rfl hN1 (by omega) hb ?_
    rw [(hag 1000 (by omega)).1]
    exact hk
  · exact ((p_written (d := 10) S _ _).post (fun _ _ _ _ _ q => P2.mono (by omega) q)).mono (by omega)
theorem la_saw (S : SR I G J a L T) (hN : oul G 1000 = N) (hi : i + 4 < N) (hb : N ≤ 320) (kk : ∀ (I' : MI) (G' : MG) (J' : MJ), Kp I G I' G' → (∃ a L T, SR I' G' J' a L T) → Ev (12 + 1) mL_law 0 802 (lsL i) [] 136 I' G' J' Φ) : Ev (12 + 1) mL_law 0 540 (lsL i) [] 136 I G J Φ := by
  refine E_aload_n 1 dL_law_540 rfl rfl ?_
  refine la_arg 1 dL_law_541 dL_law_542 dL_law_543 dL_law_544 dL_law_545 rfl hN (by omega) hb ?_
  refine la_arg 2 dL_law_546 dL_law_547 dL_law_548 dL_law_549 dL_law_550 rfl hN (by omega) hb ?_
  refine la_two (d := 12) (P := 551) (Q := 565) (As := [.int (I 1000 (i + 1)), .int (I 1000 (i + 2))]) lk_RL_80 lk_RL_83 rfl rfl ⟨rfl, rfl⟩ ⟨rfl, rfl⟩ rfl (Nat.le_of_ble_eq_true rfl) (Nat.le_of_ble_eq_true rfl) dL_law_551 dL_law_554 dL_law_565 dL_law_568 rfl (fun I1 G1 J1 v hag hk => ?_) ?_ kk
  · have hN1 : oul G1 1000 = N := by unfold oul at hN ⊢; rw [(hag 1000 (by omega)).2]; exact hN
    refine la_arg 1 dL_law_555 dL_law_556 dL_law_557 dL_law_558 dL_law_559 rfl hN1 (by omega) hb ?_
    refine la_arg 2 dL_law_560 dL_law_561 dL_law_562 dL_law_563 dL_law_564 rfl hN1 (by omega) hb ?_
    rw [(hag 1000 (by omega)).1]
    exact hk
  · exact ((p_saw (d := 10) S _ _).post (fun _ _ _ _ _ q => P2.mono (by omega) q)).mono (by omega)
theorem la_forget (S : SR I G J a L T) (hN : oul G 1000 = N) (hi : i + 4 < N) (hb : N ≤ 320) (kk : ∀ (I' : MI) (G' : MG) (J' : MJ), Kp I G I' G' → (∃ a L T, SR I' G' J' a L T) → Ev (12 + 1) mL_law 0 802 (lsL i) [] 136 I' G' J' Φ) : Ev (12 + 1) mL_law 0 573 (lsL i) [] 136 I G J Φ := by
  refine E_aload_n 1 dL_law_573 rfl rfl ?_
  refine la_two (d := 12) (P := 574) (Q := 578) (As := []) lk_RL_84 lk_RL_87 rfl rfl ⟨rfl, rfl⟩ ⟨rfl, rfl⟩ rfl (Nat.le_of_ble_eq_true rfl) (Nat.le_of_ble_eq_true rfl) dL_law_574 dL_law_577 dL_law_578 dL_law_581 rfl (fun I1 G1 J1 v hag hk => ?_) ?_ kk
  · exact hk
  · exact ((p_forget (d := 12) S).post (fun _ _ _ _ _ q => P2.mono (by omega) q)).mono (by omega)
theorem la_evening (S : SR I G J a L T) (hN : oul G 1000 = N) (hi : i + 4 < N) (hb : N ≤ 320) (kk : ∀ (I' : MI) (G' : MG) (J' : MJ), Kp I G I' G' → (∃ a L T, SR I' G' J' a L T) → Ev (12 + 1) mL_law 0 802 (lsL i) [] 136 I' G' J' Φ) : Ev (12 + 1) mL_law 0 586 (lsL i) [] 136 I G J Φ := by
  refine E_aload_n 1 dL_law_586 rfl rfl ?_
  refine la_two (d := 12) (P := 587) (Q := 591) (As := []) lk_RL_88 lk_RL_91 rfl rfl ⟨rfl, rfl⟩ ⟨rfl, rfl⟩ rfl (Nat.le_of_ble_eq_true rfl) (Nat.le_of_ble_eq_true rfl) dL_law_587 dL_law_590 dL_law_591 dL_law_594 rfl (fun I1 G1 J1 v hag hk => ?_) ?_ kk
  · exact hk
  · exact ((p_evening (d := 10) S).post (fun _ _ _ _ _ q => P2.mono (by omega) q)).mono (by omega)
theorem la_odds (S : SR I G J a L T) (hN : oul G 1000 = N) (hi : i + 4 < N) (hb : N ≤ 320) (kk : ∀ (I' : MI) (G' : MG) (J' : MJ), Kp I G I' G' → (∃ a L T, SR I' G' J' a L T) → Ev (12 + 1) mL_law 0 802 (lsL i) [] 136 I' G' J' Φ) : Ev (12 + 1) mL_law 0 599 (lsL i) [] 136 I G J Φ := by
  refine E_aload_n 1 dL_law_599 rfl rfl ?_
  refine la_arg 1 dL_law_600 dL_law_601 dL_law_602 dL_law_603 dL_law_604 rfl hN (by omega) hb ?_
  refine la_arg 2 dL_law_605 dL_law_606 dL_law_607 dL_law_608 dL_law_609 rfl hN (by omega) hb ?_
  refine la_arg 3 dL_law_610 dL_law_611 dL_law_612 dL_law_613 dL_law_614 rfl hN (by omega) hb ?_
  refine la_arg 4 dL_law_615 dL_law_616 dL_law_617 dL_law_618 dL_law_619 rfl hN (by omega) hb ?_
  refine la_twl (d := 12) (P := 620) (Q := 644) (As := [.int (I 1000 (i + 1)), .int (I 1000 (i + 2)), .int (I 1000 (i + 3)), .int (I 1000 (i + 4))]) lk_RL_92 lk_RL_96 rfl rfl ⟨rfl, rfl⟩ ⟨rfl, rfl⟩ rfl (Nat.le_of_ble_eq_true rfl) (Nat.le_of_ble_eq_true rfl) dL_law_620 dL_law_623 dL_law_644 dL_law_647 dL_law_648 rfl (fun I1 G1 J1 v hag hk => ?_) ?_ kk
  · have hN1 : oul G1 1000 = N := by unfold oul at hN ⊢; rw [(hag 1000 (by omega)).2]; exact hN
    refine la_arg 1 dL_law_624 dL_law_625 dL_law_626 dL_law_627 dL_law_628 rfl hN1 (by omega) hb ?_
    refine la_arg 2 dL_law_629 dL_law_630 dL_law_631 dL_law_632 dL_law_633 rfl hN1 (by omega) hb ?_
    refine la_arg 3 dL_law_634 dL_law_635 dL_law_636 dL_law_637 dL_law_638 rfl hN1 (by omega) hb ?_
    refine la_arg 4 dL_law_639 dL_law_640 dL_law_641 dL_law_642 dL_law_643 rfl hN1 (by omega) hb ?_
    rw [(hag 1000 (by omega)).1]
    exact hk
  · exact ((p_odds (d := 4) S _ _ _ _).post (fun _ _ _ _ _ q => P2l.mono (by omega) q)).mono (by omega)
theorem la_wear (S : SR I G J a L T) (hN : oul G 1000 = N) (hi : i + 4 < N) (hb : N ≤ 320) (kk : ∀ (I' : MI) (G' : MG) (J' : MJ), Kp I G I' G' → (∃ a L T, SR I' G' J' a L T) → Ev (12 + 1) mL_law 0 802 (lsL i) [] 136 I' G' J' Φ) : Ev (12 + 1) mL_law 0 653 (lsL i) [] 136 I G J Φ := by
  refine E_aload_n 1 dL_law_653 rfl rfl ?_
  refine la_arg 1 dL_law_654 dL_law_655 dL_law_656 dL_law_657 dL_law_658 rfl hN (by omega) hb ?_
  refine la_arg 2 dL_law_659 dL_law_660 dL_law_661 dL_law_662 dL_law_663 rfl hN (by omega) hb ?_
  refine la_two (d := 12) (P := 664) (Q := 678) (As := [.int (I 1000 (i + 1)), .int (I 1000 (i + 2))]) lk_RL_97 lk_RL_100 rfl rfl ⟨rfl, rfl⟩ ⟨rfl, rfl⟩ rfl (Nat.le_of_ble_eq_true rfl) (Nat.le_of_ble_eq_true rfl) dL_law_664 dL_law_667 dL_law_678 dL_law_681 rfl (fun I1 G1 J1 v hag hk => ?_) ?_ kk
  · have hN1 : oul G1 1000 = N := by unfold oul at hN ⊢; rw [(hag 1000 (by omega)).2]; exact hN
    refine la_arg 1 dL_law_668 dL_law_669 dL_law_670 dL_law_671 dL_law_672 rfl hN1 (by omega) hb ?_
    refine la_arg 2 dL_law_673 dL_law_674 dL_law_675 dL_law_676 dL_law_677 rfl hN1 (by omega) hb ?_
    rw [(hag 1000 (by omega)).1]
    exact hk
  · exact ((p_wear (d := 10) S _ _).post (fun _ _ _ _ _ q => P2.mono (by omega) q)).mono (by omega)
theorem la_rate (S : SR I G J a L T) (hN : oul G 1000 = N) (hi : i + 4 < N) (hb : N ≤ 320) (kk : ∀ (I' : MI) (G' : MG) (J' : MJ), Kp I G I' G' → (∃ a L T, SR I' G' J' a L T) → Ev (12 + 1) mL_law 0 802 (lsL i) [] 136 I' G' J' Φ) : Ev (12 + 1) mL_law 0 686 (lsL i) [] 136 I G J Φ := by
  refine E_aload_n 1 dL_law_686 rfl rfl ?_
  refine la_arg 1 dL_law_687 dL_law_688 dL_law_689 dL_law_690 dL_law_691 rfl hN (by omega) hb ?_
  refine la_arg 2 dL_law_692 dL_law_693 dL_law_694 dL_law_695 dL_law_696 rfl hN (by omega) hb ?_
  refine la_two (d := 12) (P := 697) (Q := 711) (As := [.int (I 1000 (i + 1)), .int (I 1000 (i + 2))]) lk_RL_101 lk_RL_104 rfl rfl ⟨rfl, rfl⟩ ⟨rfl, rfl⟩ rfl (Nat.le_of_ble_eq_true rfl) (Nat.le_of_ble_eq_true rfl) dL_law_697 dL_law_700 dL_law_711 dL_law_714 rfl (fun I1 G1 J1 v hag hk => ?_) ?_ kk
  · have hN1 : oul G1 1000 = N := by unfold oul at hN ⊢; rw [(hag 1000 (by omega)).2]; exact hN
    refine la_arg 1 dL_law_701 dL_law_702 dL_law_703 dL_law_704 dL_law_705 rfl hN1 (by omega) hb ?_
    refine la_arg 2 dL_law_706 dL_law_707 dL_law_708 dL_law_709 dL_law_710 rfl hN1 (by omega) hb ?_
    rw [(hag 1000 (by omega)).1]
    exact hk
  · exact ((p_rate (d := 7) S _ _).post (fun _ _ _ _ _ q => P2.mono (by omega) q)).mono (by omega)
theorem la_keep (S : SR I G J a L T) (hN : oul G 1000 = N) (hi : i + 4 < N) (hb : N ≤ 320) (kk : ∀ (I' : MI) (G' : MG) (J' : MJ), Kp I G I' G' → (∃ a L T, SR I' G' J' a L T) → Ev (12 + 1) mL_law 0 802 (lsL i) [] 136 I' G' J' Φ) : Ev (12 + 1) mL_law 0 719 (lsL i) [] 136 I G J Φ := by
  refine E_aload_n 1 dL_law_719 rfl rfl ?_
  refine la_arg 1 dL_law_720 dL_law_721 dL_law_722 dL_law_723 dL_law_724 rfl hN (by omega) hb ?_
  refine la_two (d := 12) (P := 725) (Q := 734) (As := [.int (I 1000 (i + 1))]) lk_RL_105 lk_RL_108 rfl rfl ⟨rfl, rfl⟩ ⟨rfl, rfl⟩ rfl (Nat.le_of_ble_eq_true rfl) (Nat.le_of_ble_eq_true rfl) dL_law_725 dL_law_728 dL_law_734 dL_law_737 rfl (fun I1 G1 J1 v hag hk => ?_) ?_ kk
  · have hN1 : oul G1 1000 = N := by unfold oul at hN ⊢; rw [(hag 1000 (by omega)).2]; exact hN
    refine la_arg 1 dL_law_729 dL_law_730 dL_law_731 dL_law_732 dL_law_733 rfl hN1 (by omega) hb ?_
    rw [(hag 1000 (by omega)).1]
    exact hk
  · exact ((p_keep (d := 10) S _).post (fun _ _ _ _ _ q => P2.mono (by omega) q)).mono (by omega)
theorem la_back (S : SR I G J a L T) (hN : oul G 1000 = N) (hi : i + 4 < N) (hb : N ≤ 320) (kk : ∀ (I' : MI) (G' : MG) (J' : MJ), Kp I G I' G' → (∃ a L T, SR I' G' J' a L T) → Ev (12 + 1) mL_law 0 802 (lsL i) [] 136 I' G' J' Φ) : Ev (12 + 1) mL_law 0 742 (lsL i) [] 136 I G J Φ := by
  refine E_aload_n 1 dL_law_742 rfl rfl ?_
  refine la_arg 1 dL_law_743 dL_law_744 dL_law_745 dL_law_746 dL_law_747 rfl hN (by omega) hb ?_
  refine la_two (d := 12) (P := 748) (Q := 757) (As := [.int (I 1000 (i + 1))]) lk_RL_109 lk_RL_112 rfl rfl ⟨rfl, rfl⟩ ⟨rfl, rfl⟩ rfl (Nat.le_of_ble_eq_true rfl) (Nat.le_of_ble_eq_true rfl) dL_law_748 dL_law_751 dL_law_757 dL_law_760 rfl (fun I1 G1 J1 v hag hk => ?_) ?_ kk
  · have hN1 : oul G1 1000 = N := by unfold oul at hN ⊢; rw [(hag 1000 (by omega)).2]; exact hN
    refine la_arg 1 dL_law_752 dL_law_753 dL_law_754 dL_law_755 dL_law_756 rfl hN1 (by omega) hb ?_
    rw [(hag 1000 (by omega)).1]
    exact hk
  · exact ((p_back (d := 10) S _).post (fun _ _ _ _ _ q => P2.mono (by omega) q)).mono (by omega)
theorem la_count (S : SR I G J a L T) (hN : oul G 1000 = N) (hi : i + 4 < N) (hb : N ≤ 320) (kk : ∀ (I' : MI) (G' : MG) (J' : MJ), Kp I G I' G' → (∃ a L T, SR I' G' J' a L T) → Ev (12 + 1) mL_law 0 802 (lsL i) [] 136 I' G' J' Φ) : Ev (12 + 1) mL_law 0 765 (lsL i) [] 136 I G J Φ := by
  refine E_aload_n 1 dL_law_765 rfl rfl ?_
  refine la_arg 1 dL_law_766 dL_law_767 dL_law_768 dL_law_769 dL_law_770 rfl hN (by omega) hb ?_
  refine la_two (d := 12) (P := 771) (Q := 780) (As := [.int (I 1000 (i + 1))]) lk_RL_113 lk_RL_116 rfl rfl ⟨rfl, rfl⟩ ⟨rfl, rfl⟩ rfl (Nat.le_of_ble_eq_true rfl) (Nat.le_of_ble_eq_true rfl) dL_law_771 dL_law_774 dL_law_780 dL_law_783 rfl (fun I1 G1 J1 v hag hk => ?_) ?_ kk
  · have hN1 : oul G1 1000 = N := by unfold oul at hN ⊢; rw [(hag 1000 (by omega)).2]; exact hN
    refine la_arg 1 dL_law_775 dL_law_776 dL_law_777 dL_law_778 dL_law_779 rfl hN1 (by omega) hb ?_
    rw [(hag 1000 (by omega)).1]
    exact hk
  · exact ((p_count (d := 12) S _).post (fun _ _ _ _ _ q => P2.mono (by omega) q)).mono (by omega)
theorem la_trace (S : SR I G J a L T) (hN : oul G 1000 = N) (hi : i + 4 < N) (hb : N ≤ 320) (kk : ∀ (I' : MI) (G' : MG) (J' : MJ), Kp I G I' G' → (∃ a L T, SR I' G' J' a L T) → Ev (12 + 1) mL_law 0 802 (lsL i) [] 136 I' G' J' Φ) : Ev (12 + 1) mL_law 0 788 (lsL i) [] 136 I G J Φ := by
  refine E_aload_n 1 dL_law_788 rfl rfl ?_
  refine la_twl (d := 12) (P := 789) (Q := 793) (As := []) lk_RL_117 lk_RL_121 rfl rfl ⟨rfl, rfl⟩ ⟨rfl, rfl⟩ rfl (Nat.le_of_ble_eq_true rfl) (Nat.le_of_ble_eq_true rfl) dL_law_789 dL_law_792 dL_law_793 dL_law_796 dL_law_797 rfl (fun I1 G1 J1 v hag hk => ?_) ?_ kk
  · exact hk
  · exact ((p_trace (d := 12) S).post (fun _ _ _ _ _ q => P2l.mono (by omega) q)).mono (by omega)
theorem SW_all {x : Int32} {P : Nat → Prop} {dt : Nat} : ∀ {ts : List Nat} {i : Nat}, (∀ u ∈ ts, P u) → P dt → SW x P dt i ts
  | [], _, _, h => h
  | u :: us, i, h, hd => ⟨fun _ => h u List.mem_cons_self, fun _ => SW_all (fun v hv => h v (List.mem_cons_of_mem _ hv)) hd⟩
set_option maxRecDepth 100000 in
theorem law_loop (hb : N ≤ 320) (hΦ : ∀ (I : MI) (G : MG) (J : MJ), Φ (some (.int 1)) 136 I G J) : ∀ (f i : Nat) {I : MI} {G : MG} {J : MJ}, N ≤ i + f → i ≤ 400 → oul G 1000 = N → (∃ a L T, SR I G J a L T) → Ev (12 + 1) mL_law 0 18 (lsL i) [] 136 I G J Φ := by
  intro f
  induction f with
  | zero =>
    intro i I G J hf hi hN hS
    refine E_iload_n 3 dL_law_18 rfl rfl ?_
    refine E_aload_n 0 dL_law_19 rfl rfl ?_
    refine E_oulen 1000 dL_law_20 (by decide) (by decide) ?_
    refine E_iconst (5 : Int32) dL_law_21 rfl ?_
    refine E_isub dL_law_22 ?_
    rw [hN]
    refine E_icmp_gt 808 dL_law_23 rfl (fun _ => ?_) (fun h => absurd ?_ h)
    · refine E_iconst (1 : Int32) dL_law_808 rfl ?_
      exact E_iret dL_law_809 (Or.inr ⟨rfl, rfl⟩) rfl (by decide +kernel) (hΦ I G J)
    · rw [show (5 : Int32) = nI 5 from rfl, Int32.lt_iff_toInt_lt, sub_toI (by omega) (by omega), toI_nI (by omega)]
      omega
  | succ f ih =>
    intro i I G J hf hi hN hS
    refine E_iload_n 3 dL_law_18 rfl rfl ?_
    refine E_aload_n 0 dL_law_19 rfl rfl ?_
    refine E_oulen 1000 dL_law_20 (by decide) (by decide) ?_
    refine E_iconst (5 : Int32) dL_law_21 rfl ?_
    refine E_isub dL_law_22 ?_
    rw [hN]
    have ec : nI N - (5 : Int32) < nI i ↔ N < i + 5 := by
      rw [show (5 : Int32) = nI 5 from rfl, Int32.lt_iff_toInt_lt, sub_toI (by omega) (by omega), toI_nI (by omega)]
      omega
    refine E_icmp_gt 808 dL_law_23 rfl (fun _ => ?_) (fun h => ?_)
    · refine E_iconst (1 : Int32) dL_law_808 rfl ?_
      exact E_iret dL_law_809 (Or.inr ⟨rfl, rfl⟩) rfl (by decide +kernel) (hΦ I G J)
    · rw [ec] at h
      obtain ⟨a, L, T, S⟩ := hS
      have kk : ∀ (I' : MI) (G' : MG) (J' : MJ), Kp I G I' G' → (∃ a L T, SR I' G' J' a L T) → Ev (12 + 1) mL_law 0 802 (lsL i) [] 136 I' G' J' Φ := by
        intro I' G' J' hk hs
        refine E_iinc (nI (i + 5)) dL_law_802 rfl (nI_add i 5) (Nat.le_of_ble_eq_true rfl) (?_ : Ev (12 + 1) mL_law 0 805 (lsL (i + 5)) [] 136 I' G' J' Φ)
        refine E_goto 18 dL_law_805 rfl ?_
        exact ih (i + 5) (by omega) (by omega) (hk.2.trans hN) hs
      refine E_aload_n 0 dL_law_26 rfl rfl ?_
      refine E_iload_n 3 dL_law_27 rfl rfl ?_
      refine E_ou 1000 i dL_law_28 (by decide) (by decide) (by rw [hN]; exact vp_in_nI (by omega) (by omega)) (nI_clamp (by omega)) ?_
      refine E_bipush (31 : Int32) dL_law_29 rfl ?_
      refine E_iand dL_law_31 ?_
      refine E_tsw 0 [152, 175, 188, 201, 234, 267, 300, 323, 356, 369, 382, 415, 438, 461, 484, 507, 540, 573, 586, 599, 653, 686, 719, 742, 765, 788] 802 dL_law_32 rfl rfl rfl (by decide) (SW_all (fun u hu => ?_) (kk I G J Kp.rf ⟨a, L, T, S⟩))
      simp only [List.mem_cons, List.not_mem_nil, or_false] at hu
      rcases hu with rfl | rfl | rfl | rfl | rfl | rfl | rfl | rfl | rfl | rfl | rfl | rfl | rfl | rfl | rfl | rfl | rfl | rfl | rfl | rfl | rfl | rfl | rfl | rfl | rfl | rfl
      · exact la_type S hN (by omega) hb kk
      · exact la_clear S hN (by omega) hb kk
      · exact la_hills S hN (by omega) hb kk
      · exact la_hill S hN (by omega) hb kk
      · exact la_stone S hN (by omega) hb kk
      · exact la_man S hN (by omega) hb kk
      · exact la_now S hN (by omega) hb kk
      · exact la_order S hN (by omega) hb kk
      · exact la_hour S hN (by omega) hb kk
      · exact la_undo S hN (by omega) hb kk
      · exact la_highest S hN (by omega) hb kk
      · exact la_days S hN (by omega) hb kk
      · exact la_little S hN (by omega) hb kk
      · exact la_crew S hN (by omega) hb kk
      · exact la_blocks S hN (by omega) hb kk
      · exact la_written S hN (by omega) hb kk
      · exact la_saw S hN (by omega) hb kk
      · exact la_forget S hN (by omega) hb kk
      · exact la_evening S hN (by omega) hb kk
      · exact la_odds S hN (by omega) hb kk
      · exact la_wear S hN (by omega) hb kk
      · exact la_rate S hN (by omega) hb kk
      · exact la_keep S hN (by omega) hb kk
      · exact la_back S hN (by omega) hb kk
      · exact la_count S hN (by omega) hb kk
      · exact la_trace S hN (by omega) hb kk
end LAW2
