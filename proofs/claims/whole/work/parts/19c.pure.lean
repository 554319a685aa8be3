set_option maxRecDepth 20000 in
set_option maxHeartbeats 4000000 in
theorem lw_c0 {Z : mZ} {t b L x mb k n1 n2 : Nat} {xs : Nat → Int32} {h : mHp} (hn1 : n1 + 1 ≤ 10) (hn2 : n2 + 1 ≤ 10) (hL : L ≤ 3072) (hk : 6 * k + 6 ≤ L) (X : mCx Z RL cL_law 4 10) (T : mCt Z t) (S : mSc Z b L xs) (I : INV h x mb) (P : STP Z.1 x mb n1 n2 mX7_row mX8_row [.int (xs (6 * k + 1)), .int (xs (6 * k + 2)), .int (xs (6 * k + 3))] h) (K : ∀ h2, INV h2 x mb → SW Z 1242 [(0, .ref b), (1, .ref x), (2, .ref mb), (3, .int (nI (6 * k)))] [] h2) : SW Z 192 [(0, .ref b), (1, .ref x), (2, .ref mb), (3, .int (nI (6 * k)))] [] h := by
  obtain ⟨v, h1, h2, k1, ⟨k2, ⟨fm, hm⟩⟩, I2⟩ := P
  obtain ⟨fx, hx⟩ := INV_x I
  refine r_aload_n X 1 dL_law_192 rfl ?_
  refine r_aload_n X 0 dL_law_193 rfl ?_
  refine r_iload_n X 3 dL_law_194 rfl ?_
  refine r_iconst X (nI 1) dL_law_195 (by decide) ?_
  refine r_iaddn X dL_law_196 ?_
  refine r_scr X S (by omega) hL dL_law_197 ?_
  refine r_aload_n X 0 dL_law_198 rfl ?_
  refine r_iload_n X 3 dL_law_199 rfl ?_
  refine r_iconst X (nI 2) dL_law_200 (by decide) ?_
  refine r_iaddn X dL_law_201 ?_
  refine r_scr X S (by omega) hL dL_law_202 ?_
  refine r_aload_n X 0 dL_law_203 rfl ?_
  refine r_iload_n X 3 dL_law_204 rfl ?_
  refine r_iconst X (nI 3) dL_law_205 (by decide) ?_
  refine r_iaddn X dL_law_206 ?_
  refine r_scr X S (by omega) hL dL_law_207 ?_
  refine r_invV X (As := [.int (xs (6 * k + 1)), .int (xs (6 * k + 2)), .int (xs (6 * k + 3))]) (st := []) (wG 410 (by decide +kernel) (by decide +kernel)) ki_X7_row ks_X7_row kn_RX7 kc_X7_row kd_X7_row rfl hn1 (by decide) dL_law_208 rfl (Nat.le_of_ble_eq_true rfl) hx k1 ?_
  refine r_aload_n X 2 dL_law_211 rfl ?_
  refine r_aload_n X 0 dL_law_212 rfl ?_
  refine r_iload_n X 3 dL_law_213 rfl ?_
  refine r_iconst X (nI 1) dL_law_214 (by decide) ?_
  refine r_iaddn X dL_law_215 ?_
  refine r_scr X S (by omega) hL dL_law_216 ?_
  refine r_aload_n X 0 dL_law_217 rfl ?_
  refine r_iload_n X 3 dL_law_218 rfl ?_
  refine r_iconst X (nI 2) dL_law_219 (by decide) ?_
  refine r_iaddn X dL_law_220 ?_
  refine r_scr X S (by omega) hL dL_law_221 ?_
  refine r_aload_n X 0 dL_law_222 rfl ?_
  refine r_iload_n X 3 dL_law_223 rfl ?_
  refine r_iconst X (nI 3) dL_law_224 (by decide) ?_
  refine r_iaddn X dL_law_225 ?_
  refine r_scr X S (by omega) hL dL_law_226 ?_
  refine r_invV X (As := [.int (xs (6 * k + 1)), .int (xs (6 * k + 2)), .int (xs (6 * k + 3))]) (st := [.int v]) (wG 1090 (by decide +kernel) (by decide +kernel)) ki_X8_row ks_X8_row kn_RX8 kc_X8_row kd_X8_row rfl hn2 (by decide) dL_law_227 rfl (Nat.le_of_ble_eq_true rfl) hm k2 ?_
  exact r_icmp_eq X 1242 dL_law_230 rfl (fun _ => K h2 I2) (fun q => absurd rfl q)
set_option maxRecDepth 20000 in
set_option maxHeartbeats 4000000 in
theorem lw_c1 {Z : mZ} {t b L x mb k n1 n2 : Nat} {xs : Nat → Int32} {h : mHp} (hn1 : n1 + 1 ≤ 10) (hn2 : n2 + 1 ≤ 10) (hL : L ≤ 3072) (hk : 6 * k + 6 ≤ L) (X : mCx Z RL cL_law 4 10) (T : mCt Z t) (S : mSc Z b L xs) (I : INV h x mb) (P : STP Z.1 x mb n1 n2 mX7_set mX8_set [.int (xs (6 * k + 1)), .int (xs (6 * k + 2)), .int (xs (6 * k + 3))] h) (K : ∀ h2, INV h2 x mb → SW Z 1242 [(0, .ref b), (1, .ref x), (2, .ref mb), (3, .int (nI (6 * k)))] [] h2) : SW Z 235 [(0, .ref b), (1, .ref x), (2, .ref mb), (3, .int (nI (6 * k)))] [] h := by
  obtain ⟨v, h1, h2, k1, ⟨k2, ⟨fm, hm⟩⟩, I2⟩ := P
  obtain ⟨fx, hx⟩ := INV_x I
  refine r_aload_n X 1 dL_law_235 rfl ?_
  refine r_aload_n X 0 dL_law_236 rfl ?_
  refine r_iload_n X 3 dL_law_237 rfl ?_
  refine r_iconst X (nI 1) dL_law_238 (by decide) ?_
  refine r_iaddn X dL_law_239 ?_
  refine r_scr X S (by omega) hL dL_law_240 ?_
  refine r_aload_n X 0 dL_law_241 rfl ?_
  refine r_iload_n X 3 dL_law_242 rfl ?_
  refine r_iconst X (nI 2) dL_law_243 (by decide) ?_
  refine r_iaddn X dL_law_244 ?_
  refine r_scr X S (by omega) hL dL_law_245 ?_
  refine r_aload_n X 0 dL_law_246 rfl ?_
  refine r_iload_n X 3 dL_law_247 rfl ?_
  refine r_iconst X (nI 3) dL_law_248 (by decide) ?_
  refine r_iaddn X dL_law_249 ?_
  refine r_scr X S (by omega) hL dL_law_250 ?_
  refine r_invV X (As := [.int (xs (6 * k + 1)), .int (xs (6 * k + 2)), .int (xs (6 * k + 3))]) (st := []) (wG 432 (by decide +kernel) (by decide +kernel)) ki_X7_set ks_X7_set kn_RX7 kc_X7_set kd_X7_set rfl hn1 (by decide) dL_law_251 rfl (Nat.le_of_ble_eq_true rfl) hx k1 ?_
  refine r_aload_n X 2 dL_law_254 rfl ?_
  refine r_aload_n X 0 dL_law_255 rfl ?_
  refine r_iload_n X 3 dL_law_256 rfl ?_
  refine r_iconst X (nI 1) dL_law_257 (by decide) ?_
  refine r_iaddn X dL_law_258 ?_
  refine r_scr X S (by omega) hL dL_law_259 ?_
  refine r_aload_n X 0 dL_law_260 rfl ?_
  refine r_iload_n X 3 dL_law_261 rfl ?_
  refine r_iconst X (nI 2) dL_law_262 (by decide) ?_
  refine r_iaddn X dL_law_263 ?_
  refine r_scr X S (by omega) hL dL_law_264 ?_
  refine r_aload_n X 0 dL_law_265 rfl ?_
  refine r_iload_n X 3 dL_law_266 rfl ?_
  refine r_iconst X (nI 3) dL_law_267 (by decide) ?_
  refine r_iaddn X dL_law_268 ?_
  refine r_scr X S (by omega) hL dL_law_269 ?_
  refine r_invV X (As := [.int (xs (6 * k + 1)), .int (xs (6 * k + 2)), .int (xs (6 * k + 3))]) (st := [.int v]) (wG 1110 (by decide +kernel) (by decide +kernel)) ki_X8_set ks_X8_set kn_RX8 kc_X8_set kd_X8_set rfl hn2 (by decide) dL_law_270 rfl (Nat.le_of_ble_eq_true rfl) hm k2 ?_
  exact r_icmp_eq X 1242 dL_law_273 rfl (fun _ => K h2 I2) (fun q => absurd rfl q)
set_option maxRecDepth 20000 in
set_option maxHeartbeats 4000000 in
theorem lw_c2 {Z : mZ} {t b L x mb k n1 n2 : Nat} {xs : Nat → Int32} {h : mHp} (hn1 : n1 + 1 ≤ 10) (hn2 : n2 + 1 ≤ 10) (hL : L ≤ 3072) (hk : 6 * k + 6 ≤ L) (X : mCx Z RL cL_law 4 10) (T : mCt Z t) (S : mSc Z b L xs) (I : INV h x mb) (P : STP Z.1 x mb n1 n2 mX7_copy mX8_copy [.int (xs (6 * k + 1)), .int (xs (6 * k + 2)), .int (xs (6 * k + 3)), .int (xs (6 * k + 4)), .int (xs (6 * k + 5))] h) (K : ∀ h2, INV h2 x mb → SW Z 1242 [(0, .ref b), (1, .ref x), (2, .ref mb), (3, .int (nI (6 * k)))] [] h2) : SW Z 278 [(0, .ref b), (1, .ref x), (2, .ref mb), (3, .int (nI (6 * k)))] [] h := by
  obtain ⟨v, h1, h2, k1, ⟨k2, ⟨fm, hm⟩⟩, I2⟩ := P
  obtain ⟨fx, hx⟩ := INV_x I
  refine r_aload_n X 1 dL_law_278 rfl ?_
  refine r_aload_n X 0 dL_law_279 rfl ?_
  refine r_iload_n X 3 dL_law_280 rfl ?_
  refine r_iconst X (nI 1) dL_law_281 (by decide) ?_
  refine r_iaddn X dL_law_282 ?_
  refine r_scr X S (by omega) hL dL_law_283 ?_
  refine r_aload_n X 0 dL_law_284 rfl ?_
  refine r_iload_n X 3 dL_law_285 rfl ?_
  refine r_iconst X (nI 2) dL_law_286 (by decide) ?_
  refine r_iaddn X dL_law_287 ?_
  refine r_scr X S (by omega) hL dL_law_288 ?_
  refine r_aload_n X 0 dL_law_289 rfl ?_
  refine r_iload_n X 3 dL_law_290 rfl ?_
  refine r_iconst X (nI 3) dL_law_291 (by decide) ?_
  refine r_iaddn X dL_law_292 ?_
  refine r_scr X S (by omega) hL dL_law_293 ?_
  refine r_aload_n X 0 dL_law_294 rfl ?_
  refine r_iload_n X 3 dL_law_295 rfl ?_
  refine r_iconst X (nI 4) dL_law_296 (by decide) ?_
  refine r_iaddn X dL_law_297 ?_
  refine r_scr X S (by omega) hL dL_law_298 ?_
  refine r_aload_n X 0 dL_law_299 rfl ?_
  refine r_iload_n X 3 dL_law_300 rfl ?_
  refine r_iconst X (nI 5) dL_law_301 (by decide) ?_
  refine r_iaddn X dL_law_302 ?_
  refine r_scr X S (by omega) hL dL_law_303 ?_
  refine r_invV X (As := [.int (xs (6 * k + 1)), .int (xs (6 * k + 2)), .int (xs (6 * k + 3)), .int (xs (6 * k + 4)), .int (xs (6 * k + 5))]) (st := []) (wG 448 (by decide +kernel) (by decide +kernel)) ki_X7_copy ks_X7_copy kn_RX7 kc_X7_copy kd_X7_copy rfl hn1 (by decide) dL_law_304 rfl (Nat.le_of_ble_eq_true rfl) hx k1 ?_
  refine r_aload_n X 2 dL_law_307 rfl ?_
  refine r_aload_n X 0 dL_law_308 rfl ?_
  refine r_iload_n X 3 dL_law_309 rfl ?_
  refine r_iconst X (nI 1) dL_law_310 (by decide) ?_
  refine r_iaddn X dL_law_311 ?_
  refine r_scr X S (by omega) hL dL_law_312 ?_
  refine r_aload_n X 0 dL_law_313 rfl ?_
  refine r_iload_n X 3 dL_law_314 rfl ?_
  refine r_iconst X (nI 2) dL_law_315 (by decide) ?_
  refine r_iaddn X dL_law_316 ?_
  refine r_scr X S (by omega) hL dL_law_317 ?_
  refine r_aload_n X 0 dL_law_318 rfl ?_
  refine r_iload_n X 3 dL_law_319 rfl ?_
  refine r_iconst X (nI 3) dL_law_320 (by decide) ?_
  refine r_iaddn X dL_law_321 ?_
  refine r_scr X S (by omega) hL dL_law_322 ?_
  refine r_aload_n X 0 dL_law_323 rfl ?_
  refine r_iload_n X 3 dL_law_324 rfl ?_
  refine r_iconst X (nI 4) dL_law_325 (by decide) ?_
  refine r_iaddn X dL_law_326 ?_
  refine r_scr X S (by omega) hL dL_law_327 ?_
  refine r_aload_n X 0 dL_law_328 rfl ?_
  refine r_iload_n X 3 dL_law_329 rfl ?_
  refine r_iconst X (nI 5) dL_law_330 (by decide) ?_
  refine r_iaddn X dL_law_331 ?_
  refine r_scr X S (by omega) hL dL_law_332 ?_
  refine r_invV X (As := [.int (xs (6 * k + 1)), .int (xs (6 * k + 2)), .int (xs (6 * k + 3)), .int (xs (6 * k + 4)), .int (xs (6 * k + 5))]) (st := [.int v]) (wG 1121 (by decide +kernel) (by decide +kernel)) ki_X8_copy ks_X8_copy kn_RX8 kc_X8_copy kd_X8_copy rfl hn2 (by decide) dL_law_333 rfl (Nat.le_of_ble_eq_true rfl) hm k2 ?_
  exact r_icmp_eq X 1242 dL_law_336 rfl (fun _ => K h2 I2) (fun q => absurd rfl q)
set_option maxRecDepth 20000 in
set_option maxHeartbeats 4000000 in
theorem lw_c3 {Z : mZ} {t b L x mb k n1 n2 : Nat} {xs : Nat → Int32} {h : mHp} (hn1 : n1 + 1 ≤ 10) (hn2 : n2 + 1 ≤ 10) (hL : L ≤ 3072) (hk : 6 * k + 6 ≤ L) (X : mCx Z RL cL_law 4 10) (T : mCt Z t) (S : mSc Z b L xs) (I : INV h x mb) (P : STP Z.1 x mb n1 n2 mX7_drop mX8_drop [.int (xs (6 * k + 1))] h) (K : ∀ h2, INV h2 x mb → SW Z 1242 [(0, .ref b), (1, .ref x), (2, .ref mb), (3, .int (nI (6 * k)))] [] h2) : SW Z 341 [(0, .ref b), (1, .ref x), (2, .ref mb), (3, .int (nI (6 * k)))] [] h := by
  obtain ⟨v, h1, h2, k1, ⟨k2, ⟨fm, hm⟩⟩, I2⟩ := P
  obtain ⟨fx, hx⟩ := INV_x I
  refine r_aload_n X 1 dL_law_341 rfl ?_
  refine r_aload_n X 0 dL_law_342 rfl ?_
  refine r_iload_n X 3 dL_law_343 rfl ?_
  refine r_iconst X (nI 1) dL_law_344 (by decide) ?_
  refine r_iaddn X dL_law_345 ?_
  refine r_scr X S (by omega) hL dL_law_346 ?_
  refine r_invV X (As := [.int (xs (6 * k + 1))]) (st := []) (wG 455 (by decide +kernel) (by decide +kernel)) ki_X7_drop ks_X7_drop kn_RX7 kc_X7_drop kd_X7_drop rfl hn1 (by decide) dL_law_347 rfl (Nat.le_of_ble_eq_true rfl) hx k1 ?_
  refine r_aload_n X 2 dL_law_350 rfl ?_
  refine r_aload_n X 0 dL_law_351 rfl ?_
  refine r_iload_n X 3 dL_law_352 rfl ?_
  refine r_iconst X (nI 1) dL_law_353 (by decide) ?_
  refine r_iaddn X dL_law_354 ?_
  refine r_scr X S (by omega) hL dL_law_355 ?_
  refine r_invV X (As := [.int (xs (6 * k + 1))]) (st := [.int v]) (wG 1129 (by decide +kernel) (by decide +kernel)) ki_X8_drop ks_X8_drop kn_RX8 kc_X8_drop kd_X8_drop rfl hn2 (by decide) dL_law_356 rfl (Nat.le_of_ble_eq_true rfl) hm k2 ?_
  exact r_icmp_eq X 1242 dL_law_359 rfl (fun _ => K h2 I2) (fun q => absurd rfl q)
set_option maxRecDepth 20000 in
set_option maxHeartbeats 4000000 in
theorem lw_c4 {Z : mZ} {t b L x mb k n1 n2 : Nat} {xs : Nat → Int32} {h : mHp} (hn1 : n1 + 1 ≤ 10) (hn2 : n2 + 1 ≤ 10) (hL : L ≤ 3072) (hk : 6 * k + 6 ≤ L) (X : mCx Z RL cL_law 4 10) (T : mCt Z t) (S : mSc Z b L xs) (I : INV h x mb) (P : STP Z.1 x mb n1 n2 mX7_feed mX8_feed [.int (xs (6 * k + 1))] h) (K : ∀ h2, INV h2 x mb → SW Z 1242 [(0, .ref b), (1, .ref x), (2, .ref mb), (3, .int (nI (6 * k)))] [] h2) : SW Z 364 [(0, .ref b), (1, .ref x), (2, .ref mb), (3, .int (nI (6 * k)))] [] h := by
  obtain ⟨v, h1, h2, k1, ⟨k2, ⟨fm, hm⟩⟩, I2⟩ := P
  obtain ⟨fx, hx⟩ := INV_x I
  refine r_aload_n X 1 dL_law_364 rfl ?_
  refine r_aload_n X 0 dL_law_365 rfl ?_
  refine r_iload_n X 3 dL_law_366 rfl ?_
  refine r_iconst X (nI 1) dL_law_367 (by decide) ?_
  refine r_iaddn X dL_law_368 ?_
  refine r_scr X S (by omega) hL dL_law_369 ?_
  refine r_invV X (As := [.int (xs (6 * k + 1))]) (st := []) (wG 463 (by decide +kernel) (by decide +kernel)) ki_X7_feed ks_X7_feed kn_RX7 kc_X7_feed kd_X7_feed rfl hn1 (by decide) dL_law_370 rfl (Nat.le_of_ble_eq_true rfl) hx k1 ?_
  refine r_aload_n X 2 dL_law_373 rfl ?_
  refine r_aload_n X 0 dL_law_374 rfl ?_
  refine r_iload_n X 3 dL_law_375 rfl ?_
  refine r_iconst X (nI 1) dL_law_376 (by decide) ?_
  refine r_iaddn X dL_law_377 ?_
  refine r_scr X S (by omega) hL dL_law_378 ?_
  refine r_invV X (As := [.int (xs (6 * k + 1))]) (st := [.int v]) (wG 1133 (by decide +kernel) (by decide +kernel)) ki_X8_feed ks_X8_feed kn_RX8 kc_X8_feed kd_X8_feed rfl hn2 (by decide) dL_law_379 rfl (Nat.le_of_ble_eq_true rfl) hm k2 ?_
  exact r_icmp_eq X 1242 dL_law_382 rfl (fun _ => K h2 I2) (fun q => absurd rfl q)
set_option maxRecDepth 20000 in
set_option maxHeartbeats 4000000 in
theorem lw_c5 {Z : mZ} {t b L x mb k n1 n2 : Nat} {xs : Nat → Int32} {h : mHp} (hn1 : n1 + 1 ≤ 10) (hn2 : n2 + 1 ≤ 10) (hL : L ≤ 3072) (hk : 6 * k + 6 ≤ L) (X : mCx Z RL cL_law 4 10) (T : mCt Z t) (S : mSc Z b L xs) (I : INV h x mb) (P : STP Z.1 x mb n1 n2 mX7_day mX8_day [] h) (K : ∀ h2, INV h2 x mb → SW Z 1242 [(0, .ref b), (1, .ref x), (2, .ref mb), (3, .int (nI (6 * k)))] [] h2) : SW Z 387 [(0, .ref b), (1, .ref x), (2, .ref mb), (3, .int (nI (6 * k)))] [] h := by
  obtain ⟨v, h1, h2, k1, ⟨k2, ⟨fm, hm⟩⟩, I2⟩ := P
  obtain ⟨fx, hx⟩ := INV_x I
  refine r_aload_n X 1 dL_law_387 rfl ?_
  refine r_invV X (As := []) (st := []) (wG 476 (by decide +kernel) (by decide +kernel)) ki_X7_day ks_X7_day kn_RX7 kc_X7_day kd_X7_day rfl hn1 (by decide) dL_law_388 rfl (Nat.le_of_ble_eq_true rfl) hx k1 ?_
  refine r_aload_n X 2 dL_law_391 rfl ?_
  refine r_invV X (As := []) (st := [.int v]) (wG 1138 (by decide +kernel) (by decide +kernel)) ki_X8_day ks_X8_day kn_RX8 kc_X8_day kd_X8_day rfl hn2 (by decide) dL_law_392 rfl (Nat.le_of_ble_eq_true rfl) hm k2 ?_
  exact r_icmp_eq X 1242 dL_law_395 rfl (fun _ => K h2 I2) (fun q => absurd rfl q)
set_option maxRecDepth 20000 in
set_option maxHeartbeats 4000000 in
theorem lw_c6 {Z : mZ} {t b L x mb k n1 n2 : Nat} {xs : Nat → Int32} {h : mHp} (hn1 : n1 + 1 ≤ 10) (hn2 : n2 + 1 ≤ 10) (hL : L ≤ 3072) (hk : 6 * k + 6 ≤ L) (X : mCx Z RL cL_law 4 10) (T : mCt Z t) (S : mSc Z b L xs) (I : INV h x mb) (P : STP Z.1 x mb n1 n2 mX7_fault mX8_fault [] h) (K : ∀ h2, INV h2 x mb → SW Z 1242 [(0, .ref b), (1, .ref x), (2, .ref mb), (3, .int (nI (6 * k)))] [] h2) : SW Z 400 [(0, .ref b), (1, .ref x), (2, .ref mb), (3, .int (nI (6 * k)))] [] h := by
  obtain ⟨v, h1, h2, k1, ⟨k2, ⟨fm, hm⟩⟩, I2⟩ := P
  obtain ⟨fx, hx⟩ := INV_x I
  refine r_aload_n X 1 dL_law_400 rfl ?_
  refine r_invV X (As := []) (st := []) (wG 535 (by decide +kernel) (by decide +kernel)) ki_X7_fault ks_X7_fault kn_RX7 kc_X7_fault kd_X7_fault rfl hn1 (by decide) dL_law_401 rfl (Nat.le_of_ble_eq_true rfl) hx k1 ?_
  refine r_aload_n X 2 dL_law_404 rfl ?_
  refine r_invV X (As := []) (st := [.int v]) (wG 1185 (by decide +kernel) (by decide +kernel)) ki_X8_fault ks_X8_fault kn_RX8 kc_X8_fault kd_X8_fault rfl hn2 (by decide) dL_law_405 rfl (Nat.le_of_ble_eq_true rfl) hm k2 ?_
  exact r_icmp_eq X 1242 dL_law_408 rfl (fun _ => K h2 I2) (fun q => absurd rfl q)
set_option maxRecDepth 20000 in
set_option maxHeartbeats 4000000 in
theorem lw_c7 {Z : mZ} {t b L x mb k n1 n2 : Nat} {xs : Nat → Int32} {h : mHp} (hn1 : n1 + 1 ≤ 10) (hn2 : n2 + 1 ≤ 10) (hL : L ≤ 3072) (hk : 6 * k + 6 ≤ L) (X : mCx Z RL cL_law 4 10) (T : mCt Z t) (S : mSc Z b L xs) (I : INV h x mb) (P : STP Z.1 x mb n1 n2 mX7_run mX8_run [.int (xs (6 * k + 1)), .int (xs (6 * k + 2))] h) (K : ∀ h2, INV h2 x mb → SW Z 1242 [(0, .ref b), (1, .ref x), (2, .ref mb), (3, .int (nI (6 * k)))] [] h2) : SW Z 413 [(0, .ref b), (1, .ref x), (2, .ref mb), (3, .int (nI (6 * k)))] [] h := by
  obtain ⟨v, h1, h2, k1, ⟨k2, ⟨fm, hm⟩⟩, I2⟩ := P
  obtain ⟨fx, hx⟩ := INV_x I
  refine r_aload_n X 1 dL_law_413 rfl ?_
  refine r_aload_n X 0 dL_law_414 rfl ?_
  refine r_iload_n X 3 dL_law_415 rfl ?_
  refine r_iconst X (nI 1) dL_law_416 (by decide) ?_
  refine r_iaddn X dL_law_417 ?_
  refine r_scr X S (by omega) hL dL_law_418 ?_
  refine r_aload_n X 0 dL_law_419 rfl ?_
  refine r_iload_n X 3 dL_law_420 rfl ?_
  refine r_iconst X (nI 2) dL_law_421 (by decide) ?_
  refine r_iaddn X dL_law_422 ?_
  refine r_scr X S (by omega) hL dL_law_423 ?_
  refine r_invV X (As := [.int (xs (6 * k + 1)), .int (xs (6 * k + 2))]) (st := []) (wG 539 (by decide +kernel) (by decide +kernel)) ki_X7_run ks_X7_run kn_RX7 kc_X7_run kd_X7_run rfl hn1 (by decide) dL_law_424 rfl (Nat.le_of_ble_eq_true rfl) hx k1 ?_
  refine r_aload_n X 2 dL_law_427 rfl ?_
  refine r_aload_n X 0 dL_law_428 rfl ?_
  refine r_iload_n X 3 dL_law_429 rfl ?_
  refine r_iconst X (nI 1) dL_law_430 (by decide) ?_
  refine r_iaddn X dL_law_431 ?_
  refine r_scr X S (by omega) hL dL_law_432 ?_
  refine r_aload_n X 0 dL_law_433 rfl ?_
  refine r_iload_n X 3 dL_law_434 rfl ?_
  refine r_iconst X (nI 2) dL_law_435 (by decide) ?_
  refine r_iaddn X dL_law_436 ?_
  refine r_scr X S (by omega) hL dL_law_437 ?_
  refine r_invV X (As := [.int (xs (6 * k + 1)), .int (xs (6 * k + 2))]) (st := [.int v]) (wG 1189 (by decide +kernel) (by decide +kernel)) ki_X8_run ks_X8_run kn_RX8 kc_X8_run kd_X8_run rfl hn2 (by decide) dL_law_438 rfl (Nat.le_of_ble_eq_true rfl) hm k2 ?_
  exact r_icmp_eq X 1242 dL_law_441 rfl (fun _ => K h2 I2) (fun q => absurd rfl q)
set_option maxRecDepth 20000 in
set_option maxHeartbeats 4000000 in
theorem lw_c8 {Z : mZ} {t b L x mb k n1 n2 : Nat} {xs : Nat → Int32} {h : mHp} (hn1 : n1 + 1 ≤ 10) (hn2 : n2 + 1 ≤ 10) (hL : L ≤ 3072) (hk : 6 * k + 6 ≤ L) (X : mCx Z RL cL_law 4 10) (T : mCt Z t) (S : mSc Z b L xs) (I : INV h x mb) (P : STP Z.1 x mb n1 n2 mX7_layBest mX8_layBest [] h) (K : ∀ h2, INV h2 x mb → SW Z 1242 [(0, .ref b), (1, .ref x), (2, .ref mb), (3, .int (nI (6 * k)))] [] h2) : SW Z 446 [(0, .ref b), (1, .ref x), (2, .ref mb), (3, .int (nI (6 * k)))] [] h := by
  obtain ⟨v, h1, h2, k1, ⟨k2, ⟨fm, hm⟩⟩, I2⟩ := P
  obtain ⟨fx, hx⟩ := INV_x I
  refine r_aload_n X 1 dL_law_446 rfl ?_
  refine r_invV X (As := []) (st := []) (wG 561 (by decide +kernel) (by decide +kernel)) ki_X7_layBest ks_X7_layBest kn_RX7 kc_X7_layBest kd_X7_layBest rfl hn1 (by decide) dL_law_447 rfl (Nat.le_of_ble_eq_true rfl) hx k1 ?_
  refine r_aload_n X 2 dL_law_450 rfl ?_
  refine r_invV X (As := []) (st := [.int v]) (wG 1202 (by decide +kernel) (by decide +kernel)) ki_X8_layBest ks_X8_layBest kn_RX8 kc_X8_layBest kd_X8_layBest rfl hn2 (by decide) dL_law_451 rfl (Nat.le_of_ble_eq_true rfl) hm k2 ?_
  exact r_icmp_eq X 1242 dL_law_454 rfl (fun _ => K h2 I2) (fun q => absurd rfl q)
set_option maxRecDepth 20000 in
set_option maxHeartbeats 4000000 in
theorem lw_c9 {Z : mZ} {t b L x mb k n1 n2 : Nat} {xs : Nat → Int32} {h : mHp} (hn1 : n1 + 1 ≤ 10) (hn2 : n2 + 1 ≤ 10) (hL : L ≤ 3072) (hk : 6 * k + 6 ≤ L) (X : mCx Z RL cL_law 4 10) (T : mCt Z t) (S : mSc Z b L xs) (I : INV h x mb) (P : STP Z.1 x mb n1 n2 mX7_demand mX8_demand [.int (xs (6 * k + 1)), .int (xs (6 * k + 2))] h) (K : ∀ h2, INV h2 x mb → SW Z 1242 [(0, .ref b), (1, .ref x), (2, .ref mb), (3, .int (nI (6 * k)))] [] h2) : SW Z 459 [(0, .ref b), (1, .ref x), (2, .ref mb), (3, .int (nI (6 * k)))] [] h := by
  obtain ⟨v, h1, h2, k1, ⟨k2, ⟨fm, hm⟩⟩, I2⟩ := P
  obtain ⟨fx, hx⟩ := INV_x I
  refine r_aload_n X 1 dL_law_459 rfl ?_
  refine r_aload_n X 0 dL_law_460 rfl ?_
  refine r_iload_n X 3 dL_law_461 rfl ?_
  refine r_iconst X (nI 1) dL_law_462 (by decide) ?_
  refine r_iaddn X dL_law_463 ?_
  refine r_scr X S (by omega) hL dL_law_464 ?_
  refine r_aload_n X 0 dL_law_465 rfl ?_
  refine r_iload_n X 3 dL_law_466 rfl ?_
  refine r_iconst X (nI 2) dL_law_467 (by decide) ?_
  refine r_iaddn X dL_law_468 ?_
  refine r_scr X S (by omega) hL dL_law_469 ?_
  refine r_invV X (As := [.int (xs (6 * k + 1)), .int (xs (6 * k + 2))]) (st := []) (wG 637 (by decide +kernel) (by decide +kernel)) ki_X7_demand ks_X7_demand kn_RX7 kc_X7_demand kd_X7_demand rfl hn1 (by decide) dL_law_470 rfl (Nat.le_of_ble_eq_true rfl) hx k1 ?_
  refine r_aload_n X 2 dL_law_473 rfl ?_
  refine r_aload_n X 0 dL_law_474 rfl ?_
  refine r_iload_n X 3 dL_law_475 rfl ?_
  refine r_iconst X (nI 1) dL_law_476 (by decide) ?_
  refine r_iaddn X dL_law_477 ?_
  refine r_scr X S (by omega) hL dL_law_478 ?_
  refine r_aload_n X 0 dL_law_479 rfl ?_
  refine r_iload_n X 3 dL_law_480 rfl ?_
  refine r_iconst X (nI 2) dL_law_481 (by decide) ?_
  refine r_iaddn X dL_law_482 ?_
  refine r_scr X S (by omega) hL dL_law_483 ?_
  refine r_invV X (As := [.int (xs (6 * k + 1)), .int (xs (6 * k + 2))]) (st := [.int v]) (wG 1261 (by decide +kernel) (by decide +kernel)) ki_X8_demand ks_X8_demand kn_RX8 kc_X8_demand kd_X8_demand rfl hn2 (by decide) dL_law_484 rfl (Nat.le_of_ble_eq_true rfl) hm k2 ?_
  exact r_icmp_eq X 1242 dL_law_487 rfl (fun _ => K h2 I2) (fun q => absurd rfl q)
set_option maxRecDepth 20000 in
set_option maxHeartbeats 4000000 in
theorem lw_c10 {Z : mZ} {t b L x mb k n1 n2 : Nat} {xs : Nat → Int32} {h : mHp} (hn1 : n1 + 1 ≤ 10) (hn2 : n2 + 1 ≤ 10) (hL : L ≤ 3072) (hk : 6 * k + 6 ≤ L) (X : mCx Z RL cL_law 4 10) (T : mCt Z t) (S : mSc Z b L xs) (I : INV h x mb) (P : STP Z.1 x mb n1 n2 mX7_reserve mX8_reserve [.int (xs (6 * k + 1))] h) (K : ∀ h2, INV h2 x mb → SW Z 1242 [(0, .ref b), (1, .ref x), (2, .ref mb), (3, .int (nI (6 * k)))] [] h2) : SW Z 492 [(0, .ref b), (1, .ref x), (2, .ref mb), (3, .int (nI (6 * k)))] [] h := by
  obtain ⟨v, h1, h2, k1, ⟨k2, ⟨fm, hm⟩⟩, I2⟩ := P
  obtain ⟨fx, hx⟩ := INV_x I
  refine r_aload_n X 1 dL_law_492 rfl ?_
  refine r_aload_n X 0 dL_law_493 rfl ?_
  refine r_iload_n X 3 dL_law_494 rfl ?_
  refine r_iconst X (nI 1) dL_law_495 (by decide) ?_
  refine r_iaddn X dL_law_496 ?_
  refine r_scr X S (by omega) hL dL_law_497 ?_
  refine r_invV X (As := [.int (xs (6 * k + 1))]) (st := []) (wG 645 (by decide +kernel) (by decide +kernel)) ki_X7_reserve ks_X7_reserve kn_RX7 kc_X7_reserve kd_X7_reserve rfl hn1 (by decide) dL_law_498 rfl (Nat.le_of_ble_eq_true rfl) hx k1 ?_
  refine r_aload_n X 2 dL_law_501 rfl ?_
  refine r_aload_n X 0 dL_law_502 rfl ?_
  refine r_iload_n X 3 dL_law_503 rfl ?_
  refine r_iconst X (nI 1) dL_law_504 (by decide) ?_
  refine r_iaddn X dL_law_505 ?_
  refine r_scr X S (by omega) hL dL_law_506 ?_
  refine r_invV X (As := [.int (xs (6 * k + 1))]) (st := [.int v]) (wG 1273 (by decide +kernel) (by decide +kernel)) ki_X8_reserve ks_X8_reserve kn_RX8 kc_X8_reserve kd_X8_reserve rfl hn2 (by decide) dL_law_507 rfl (Nat.le_of_ble_eq_true rfl) hm k2 ?_
  exact r_icmp_eq X 1242 dL_law_510 rfl (fun _ => K h2 I2) (fun q => absurd rfl q)
set_option maxRecDepth 20000 in
set_option maxHeartbeats 4000000 in
theorem lw_c11 {Z : mZ} {t b L x mb k n1 n2 : Nat} {xs : Nat → Int32} {h : mHp} (hn1 : n1 + 1 ≤ 10) (hn2 : n2 + 1 ≤ 10) (hL : L ≤ 3072) (hk : 6 * k + 6 ≤ L) (X : mCx Z RL cL_law 4 10) (T : mCt Z t) (S : mSc Z b L xs) (I : INV h x mb) (P : STP Z.1 x mb n1 n2 mX7_price mX8_price [.int (xs (6 * k + 1)), .int (xs (6 * k + 2))] h) (K : ∀ h2, INV h2 x mb → SW Z 1242 [(0, .ref b), (1, .ref x), (2, .ref mb), (3, .int (nI (6 * k)))] [] h2) : SW Z 515 [(0, .ref b), (1, .ref x), (2, .ref mb), (3, .int (nI (6 * k)))] [] h := by
  obtain ⟨v, h1, h2, k1, ⟨k2, ⟨fm, hm⟩⟩, I2⟩ := P
  obtain ⟨fx, hx⟩ := INV_x I
  refine r_aload_n X 1 dL_law_515 rfl ?_
  refine r_aload_n X 0 dL_law_516 rfl ?_
  refine r_iload_n X 3 dL_law_517 rfl ?_
  refine r_iconst X (nI 1) dL_law_518 (by decide) ?_
  refine r_iaddn X dL_law_519 ?_
  refine r_scr X S (by omega) hL dL_law_520 ?_
  refine r_aload_n X 0 dL_law_521 rfl ?_
  refine r_iload_n X 3 dL_law_522 rfl ?_
  refine r_iconst X (nI 2) dL_law_523 (by decide) ?_
  refine r_iaddn X dL_law_524 ?_
  refine r_scr X S (by omega) hL dL_law_525 ?_
  refine r_invV X (As := [.int (xs (6 * k + 1)), .int (xs (6 * k + 2))]) (st := []) (wG 649 (by decide +kernel) (by decide +kernel)) ki_X7_price ks_X7_price kn_RX7 kc_X7_price kd_X7_price rfl hn1 (by decide) dL_law_526 rfl (Nat.le_of_ble_eq_true rfl) hx k1 ?_
  refine r_aload_n X 2 dL_law_529 rfl ?_
  refine r_aload_n X 0 dL_law_530 rfl ?_
  refine r_iload_n X 3 dL_law_531 rfl ?_
  refine r_iconst X (nI 1) dL_law_532 (by decide) ?_
  refine r_iaddn X dL_law_533 ?_
  refine r_scr X S (by omega) hL dL_law_534 ?_
  refine r_aload_n X 0 dL_law_535 rfl ?_
  refine r_iload_n X 3 dL_law_536 rfl ?_
  refine r_iconst X (nI 2) dL_law_537 (by decide) ?_
  refine r_iaddn X dL_law_538 ?_
  refine r_scr X S (by omega) hL dL_law_539 ?_
  refine r_invV X (As := [.int (xs (6 * k + 1)), .int (xs (6 * k + 2))]) (st := [.int v]) (wG 1277 (by decide +kernel) (by decide +kernel)) ki_X8_price ks_X8_price kn_RX8 kc_X8_price kd_X8_price rfl hn2 (by decide) dL_law_540 rfl (Nat.le_of_ble_eq_true rfl) hm k2 ?_
  exact r_icmp_eq X 1242 dL_law_543 rfl (fun _ => K h2 I2) (fun q => absurd rfl q)
set_option maxRecDepth 20000 in
set_option maxHeartbeats 4000000 in
theorem lw_c12 {Z : mZ} {t b L x mb k n1 n2 : Nat} {xs : Nat → Int32} {h : mHp} (hn1 : n1 + 1 ≤ 10) (hn2 : n2 + 1 ≤ 10) (hL : L ≤ 3072) (hk : 6 * k + 6 ≤ L) (X : mCx Z RL cL_law 4 10) (T : mCt Z t) (S : mSc Z b L xs) (I : INV h x mb) (P : STP Z.1 x mb n1 n2 mX7_become mX8_become [.int (xs (6 * k + 1)), .int (xs (6 * k + 2))] h) (K : ∀ h2, INV h2 x mb → SW Z 1242 [(0, .ref b), (1, .ref x), (2, .ref mb), (3, .int (nI (6 * k)))] [] h2) : SW Z 548 [(0, .ref b), (1, .ref x), (2, .ref mb), (3, .int (nI (6 * k)))] [] h := by
  obtain ⟨v, h1, h2, k1, ⟨k2, ⟨fm, hm⟩⟩, I2⟩ := P
  obtain ⟨fx, hx⟩ := INV_x I
  refine r_aload_n X 1 dL_law_548 rfl ?_
  refine r_aload_n X 0 dL_law_549 rfl ?_
  refine r_iload_n X 3 dL_law_550 rfl ?_
  refine r_iconst X (nI 1) dL_law_551 (by decide) ?_
  refine r_iaddn X dL_law_552 ?_
  refine r_scr X S (by omega) hL dL_law_553 ?_
  refine r_aload_n X 0 dL_law_554 rfl ?_
  refine r_iload_n X 3 dL_law_555 rfl ?_
  refine r_iconst X (nI 2) dL_law_556 (by decide) ?_
  refine r_iaddn X dL_law_557 ?_
  refine r_scr X S (by omega) hL dL_law_558 ?_
  refine r_invV X (As := [.int (xs (6 * k + 1)), .int (xs (6 * k + 2))]) (st := []) (wG 657 (by decide +kernel) (by decide +kernel)) ki_X7_become ks_X7_become kn_RX7 kc_X7_become kd_X7_become rfl hn1 (by decide) dL_law_559 rfl (Nat.le_of_ble_eq_true rfl) hx k1 ?_
  refine r_aload_n X 2 dL_law_562 rfl ?_
  refine r_aload_n X 0 dL_law_563 rfl ?_
  refine r_iload_n X 3 dL_law_564 rfl ?_
  refine r_iconst X (nI 1) dL_law_565 (by decide) ?_
  refine r_iaddn X dL_law_566 ?_
  refine r_scr X S (by omega) hL dL_law_567 ?_
  refine r_aload_n X 0 dL_law_568 rfl ?_
  refine r_iload_n X 3 dL_law_569 rfl ?_
  refine r_iconst X (nI 2) dL_law_570 (by decide) ?_
  refine r_iaddn X dL_law_571 ?_
  refine r_scr X S (by omega) hL dL_law_572 ?_
  refine r_invV X (As := [.int (xs (6 * k + 1)), .int (xs (6 * k + 2))]) (st := [.int v]) (wG 1281 (by decide +kernel) (by decide +kernel)) ki_X8_become ks_X8_become kn_RX8 kc_X8_become kd_X8_become rfl hn2 (by decide) dL_law_573 rfl (Nat.le_of_ble_eq_true rfl) hm k2 ?_
  exact r_icmp_eq X 1242 dL_law_576 rfl (fun _ => K h2 I2) (fun q => absurd rfl q)
set_option maxRecDepth 20000 in
set_option maxHeartbeats 4000000 in
theorem lw_c13 {Z : mZ} {t b L x mb k n1 n2 : Nat} {xs : Nat → Int32} {h : mHp} (hn1 : n1 + 1 ≤ 10) (hn2 : n2 + 1 ≤ 10) (hL : L ≤ 3072) (hk : 6 * k + 6 ≤ L) (X : mCx Z RL cL_law 4 10) (T : mCt Z t) (S : mSc Z b L xs) (I : INV h x mb) (P : STP Z.1 x mb n1 n2 mX7_undo mX8_undo [] h) (K : ∀ h2, INV h2 x mb → SW Z 1242 [(0, .ref b), (1, .ref x), (2, .ref mb), (3, .int (nI (6 * k)))] [] h2) : SW Z 581 [(0, .ref b), (1, .ref x), (2, .ref mb), (3, .int (nI (6 * k)))] [] h := by
  obtain ⟨v, h1, h2, k1, ⟨k2, ⟨fm, hm⟩⟩, I2⟩ := P
  obtain ⟨fx, hx⟩ := INV_x I
  refine r_aload_n X 1 dL_law_581 rfl ?_
  refine r_invV X (As := []) (st := []) (wG 665 (by decide +kernel) (by decide +kernel)) ki_X7_undo ks_X7_undo kn_RX7 kc_X7_undo kd_X7_undo rfl hn1 (by decide) dL_law_582 rfl (Nat.le_of_ble_eq_true rfl) hx k1 ?_
  refine r_aload_n X 2 dL_law_585 rfl ?_
  refine r_invV X (As := []) (st := [.int v]) (wG 1285 (by decide +kernel) (by decide +kernel)) ki_X8_undo ks_X8_undo kn_RX8 kc_X8_undo kd_X8_undo rfl hn2 (by decide) dL_law_586 rfl (Nat.le_of_ble_eq_true rfl) hm k2 ?_
  exact r_icmp_eq X 1242 dL_law_589 rfl (fun _ => K h2 I2) (fun q => absurd rfl q)
set_option maxRecDepth 20000 in
set_option maxHeartbeats 4000000 in
theorem lw_c14 {Z : mZ} {t b L x mb k n1 n2 : Nat} {xs : Nat → Int32} {h : mHp} (hn1 : n1 + 1 ≤ 10) (hn2 : n2 + 1 ≤ 10) (hL : L ≤ 3072) (hk : 6 * k + 6 ≤ L) (X : mCx Z RL cL_law 4 10) (T : mCt Z t) (S : mSc Z b L xs) (I : INV h x mb) (P : STP Z.1 x mb n1 n2 mX7_unit mX8_unit [.int (xs (6 * k + 1)), .int (xs (6 * k + 2))] h) (K : ∀ h2, INV h2 x mb → SW Z 1242 [(0, .ref b), (1, .ref x), (2, .ref mb), (3, .int (nI (6 * k)))] [] h2) : SW Z 594 [(0, .ref b), (1, .ref x), (2, .ref mb), (3, .int (nI (6 * k)))] [] h := by
  obtain ⟨v, h1, h2, k1, ⟨k2, ⟨fm, hm⟩⟩, I2⟩ := P
  obtain ⟨fx, hx⟩ := INV_x I
  refine r_aload_n X 1 dL_law_594 rfl ?_
  refine r_aload_n X 0 dL_law_595 rfl ?_
  refine r_iload_n X 3 dL_law_596 rfl ?_
  refine r_iconst X (nI 1) dL_law_597 (by decide) ?_
  refine r_iaddn X dL_law_598 ?_
  refine r_scr X S (by omega) hL dL_law_599 ?_
  refine r_aload_n X 0 dL_law_600 rfl ?_
  refine r_iload_n X 3 dL_law_601 rfl ?_
  refine r_iconst X (nI 2) dL_law_602 (by decide) ?_
  refine r_iaddn X dL_law_603 ?_
  refine r_scr X S (by omega) hL dL_law_604 ?_
  refine r_invV X (As := [.int (xs (6 * k + 1)), .int (xs (6 * k + 2))]) (st := []) (wG 673 (by decide +kernel) (by decide +kernel)) ki_X7_unit ks_X7_unit kn_RX7 kc_X7_unit kd_X7_unit rfl hn1 (by decide) dL_law_605 rfl (Nat.le_of_ble_eq_true rfl) hx k1 ?_
  refine r_aload_n X 2 dL_law_608 rfl ?_
  refine r_aload_n X 0 dL_law_609 rfl ?_
  refine r_iload_n X 3 dL_law_610 rfl ?_
  refine r_iconst X (nI 1) dL_law_611 (by decide) ?_
  refine r_iaddn X dL_law_612 ?_
  refine r_scr X S (by omega) hL dL_law_613 ?_
  refine r_aload_n X 0 dL_law_614 rfl ?_
  refine r_iload_n X 3 dL_law_615 rfl ?_
  refine r_iconst X (nI 2) dL_law_616 (by decide) ?_
  refine r_iaddn X dL_law_617 ?_
  refine r_scr X S (by omega) hL dL_law_618 ?_
  refine r_invV X (As := [.int (xs (6 * k + 1)), .int (xs (6 * k + 2))]) (st := [.int v]) (wG 1289 (by decide +kernel) (by decide +kernel)) ki_X8_unit ks_X8_unit kn_RX8 kc_X8_unit kd_X8_unit rfl hn2 (by decide) dL_law_619 rfl (Nat.le_of_ble_eq_true rfl) hm k2 ?_
  exact r_icmp_eq X 1242 dL_law_622 rfl (fun _ => K h2 I2) (fun q => absurd rfl q)
set_option maxRecDepth 20000 in
set_option maxHeartbeats 4000000 in
theorem lw_c15 {Z : mZ} {t b L x mb k n1 n2 : Nat} {xs : Nat → Int32} {h : mHp} (hn1 : n1 + 1 ≤ 10) (hn2 : n2 + 1 ≤ 10) (hL : L ≤ 3072) (hk : 6 * k + 6 ≤ L) (X : mCx Z RL cL_law 4 10) (T : mCt Z t) (S : mSc Z b L xs) (I : INV h x mb) (P : STP Z.1 x mb n1 n2 mX7_hour mX8_hour [.int (xs (6 * k + 1)), .int (xs (6 * k + 2))] h) (K : ∀ h2, INV h2 x mb → SW Z 1242 [(0, .ref b), (1, .ref x), (2, .ref mb), (3, .int (nI (6 * k)))] [] h2) : SW Z 627 [(0, .ref b), (1, .ref x), (2, .ref mb), (3, .int (nI (6 * k)))] [] h := by
  obtain ⟨v, h1, h2, k1, ⟨k2, ⟨fm, hm⟩⟩, I2⟩ := P
  obtain ⟨fx, hx⟩ := INV_x I
  refine r_aload_n X 1 dL_law_627 rfl ?_
  refine r_aload_n X 0 dL_law_628 rfl ?_
  refine r_iload_n X 3 dL_law_629 rfl ?_
  refine r_iconst X (nI 1) dL_law_630 (by decide) ?_
  refine r_iaddn X dL_law_631 ?_
  refine r_scr X S (by omega) hL dL_law_632 ?_
  refine r_aload_n X 0 dL_law_633 rfl ?_
  refine r_iload_n X 3 dL_law_634 rfl ?_
  refine r_iconst X (nI 2) dL_law_635 (by decide) ?_
  refine r_iaddn X dL_law_636 ?_
  refine r_scr X S (by omega) hL dL_law_637 ?_
  refine r_invV X (As := [.int (xs (6 * k + 1)), .int (xs (6 * k + 2))]) (st := []) (wG 685 (by decide +kernel) (by decide +kernel)) ki_X7_hour ks_X7_hour kn_RX7 kc_X7_hour kd_X7_hour rfl hn1 (by decide) dL_law_638 rfl (Nat.le_of_ble_eq_true rfl) hx k1 ?_
  refine r_aload_n X 2 dL_law_641 rfl ?_
  refine r_aload_n X 0 dL_law_642 rfl ?_
  refine r_iload_n X 3 dL_law_643 rfl ?_
  refine r_iconst X (nI 1) dL_law_644 (by decide) ?_
  refine r_iaddn X dL_law_645 ?_
  refine r_scr X S (by omega) hL dL_law_646 ?_
  refine r_aload_n X 0 dL_law_647 rfl ?_
  refine r_iload_n X 3 dL_law_648 rfl ?_
  refine r_iconst X (nI 2) dL_law_649 (by decide) ?_
  refine r_iaddn X dL_law_650 ?_
  refine r_scr X S (by omega) hL dL_law_651 ?_
  refine r_invV X (As := [.int (xs (6 * k + 1)), .int (xs (6 * k + 2))]) (st := [.int v]) (wG 1302 (by decide +kernel) (by decide +kernel)) ki_X8_hour ks_X8_hour kn_RX8 kc_X8_hour kd_X8_hour rfl hn2 (by decide) dL_law_652 rfl (Nat.le_of_ble_eq_true rfl) hm k2 ?_
  exact r_icmp_eq X 1242 dL_law_655 rfl (fun _ => K h2 I2) (fun q => absurd rfl q)
set_option maxRecDepth 20000 in
set_option maxHeartbeats 4000000 in
theorem lw_c16 {Z : mZ} {t b L x mb k n1 n2 : Nat} {xs : Nat → Int32} {h : mHp} (hn1 : n1 + 1 ≤ 10) (hn2 : n2 + 1 ≤ 10) (hL : L ≤ 3072) (hk : 6 * k + 6 ≤ L) (X : mCx Z RL cL_law 4 10) (T : mCt Z t) (S : mSc Z b L xs) (I : INV h x mb) (P : STP Z.1 x mb n1 n2 mX7_gives mX8_gives [.int (xs (6 * k + 1)), .int (xs (6 * k + 2))] h) (K : ∀ h2, INV h2 x mb → SW Z 1242 [(0, .ref b), (1, .ref x), (2, .ref mb), (3, .int (nI (6 * k)))] [] h2) : SW Z 660 [(0, .ref b), (1, .ref x), (2, .ref mb), (3, .int (nI (6 * k)))] [] h := by
  obtain ⟨v, h1, h2, k1, ⟨k2, ⟨fm, hm⟩⟩, I2⟩ := P
  obtain ⟨fx, hx⟩ := INV_x I
  refine r_aload_n X 1 dL_law_660 rfl ?_
  refine r_aload_n X 0 dL_law_661 rfl ?_
  refine r_iload_n X 3 dL_law_662 rfl ?_
  refine r_iconst X (nI 1) dL_law_663 (by decide) ?_
  refine r_iaddn X dL_law_664 ?_
  refine r_scr X S (by omega) hL dL_law_665 ?_
  refine r_aload_n X 0 dL_law_666 rfl ?_
  refine r_iload_n X 3 dL_law_667 rfl ?_
  refine r_iconst X (nI 2) dL_law_668 (by decide) ?_
  refine r_iaddn X dL_law_669 ?_
  refine r_scr X S (by omega) hL dL_law_670 ?_
  refine r_invV X (As := [.int (xs (6 * k + 1)), .int (xs (6 * k + 2))]) (st := []) (wG 716 (by decide +kernel) (by decide +kernel)) ki_X7_gives ks_X7_gives kn_RX7 kc_X7_gives kd_X7_gives rfl hn1 (by decide) dL_law_671 rfl (Nat.le_of_ble_eq_true rfl) hx k1 ?_
  refine r_aload_n X 2 dL_law_674 rfl ?_
  refine r_aload_n X 0 dL_law_675 rfl ?_
  refine r_iload_n X 3 dL_law_676 rfl ?_
  refine r_iconst X (nI 1) dL_law_677 (by decide) ?_
  refine r_iaddn X dL_law_678 ?_
  refine r_scr X S (by omega) hL dL_law_679 ?_
  refine r_aload_n X 0 dL_law_680 rfl ?_
  refine r_iload_n X 3 dL_law_681 rfl ?_
  refine r_iconst X (nI 2) dL_law_682 (by decide) ?_
  refine r_iaddn X dL_law_683 ?_
  refine r_scr X S (by omega) hL dL_law_684 ?_
  refine r_invV X (As := [.int (xs (6 * k + 1)), .int (xs (6 * k + 2))]) (st := [.int v]) (wG 1312 (by decide +kernel) (by decide +kernel)) ki_X8_gives ks_X8_gives kn_RX8 kc_X8_gives kd_X8_gives rfl hn2 (by decide) dL_law_685 rfl (Nat.le_of_ble_eq_true rfl) hm k2 ?_
  exact r_icmp_eq X 1242 dL_law_688 rfl (fun _ => K h2 I2) (fun q => absurd rfl q)
set_option maxRecDepth 20000 in
set_option maxHeartbeats 4000000 in
theorem lw_c17 {Z : mZ} {t b L x mb k n1 n2 : Nat} {xs : Nat → Int32} {h : mHp} (hn1 : n1 + 1 ≤ 10) (hn2 : n2 + 1 ≤ 10) (hL : L ≤ 3072) (hk : 6 * k + 6 ≤ L) (X : mCx Z RL cL_law 4 10) (T : mCt Z t) (S : mSc Z b L xs) (I : INV h x mb) (P : STP Z.1 x mb n1 n2 mX7_plan mX8_plan [.int (xs (6 * k + 1))] h) (K : ∀ h2, INV h2 x mb → SW Z 1242 [(0, .ref b), (1, .ref x), (2, .ref mb), (3, .int (nI (6 * k)))] [] h2) : SW Z 693 [(0, .ref b), (1, .ref x), (2, .ref mb), (3, .int (nI (6 * k)))] [] h := by
  obtain ⟨v, h1, h2, k1, ⟨k2, ⟨fm, hm⟩⟩, I2⟩ := P
  obtain ⟨fx, hx⟩ := INV_x I
  refine r_aload_n X 1 dL_law_693 rfl ?_
  refine r_aload_n X 0 dL_law_694 rfl ?_
  refine r_iload_n X 3 dL_law_695 rfl ?_
  refine r_iconst X (nI 1) dL_law_696 (by decide) ?_
  refine r_iaddn X dL_law_697 ?_
  refine r_scr X S (by omega) hL dL_law_698 ?_
  refine r_invV X (As := [.int (xs (6 * k + 1))]) (st := []) (wG 727 (by decide +kernel) (by decide +kernel)) ki_X7_plan ks_X7_plan kn_RX7 kc_X7_plan kd_X7_plan rfl hn1 (by decide) dL_law_699 rfl (Nat.le_of_ble_eq_true rfl) hx k1 ?_
  refine r_aload_n X 2 dL_law_702 rfl ?_
  refine r_aload_n X 0 dL_law_703 rfl ?_
  refine r_iload_n X 3 dL_law_704 rfl ?_
  refine r_iconst X (nI 1) dL_law_705 (by decide) ?_
  refine r_iaddn X dL_law_706 ?_
  refine r_scr X S (by omega) hL dL_law_707 ?_
  refine r_invV X (As := [.int (xs (6 * k + 1))]) (st := [.int v]) (wG 1316 (by decide +kernel) (by decide +kernel)) ki_X8_plan ks_X8_plan kn_RX8 kc_X8_plan kd_X8_plan rfl hn2 (by decide) dL_law_708 rfl (Nat.le_of_ble_eq_true rfl) hm k2 ?_
  exact r_icmp_eq X 1242 dL_law_711 rfl (fun _ => K h2 I2) (fun q => absurd rfl q)
set_option maxRecDepth 20000 in
set_option maxHeartbeats 4000000 in
theorem lw_c18 {Z : mZ} {t b L x mb k n1 n2 : Nat} {xs : Nat → Int32} {h : mHp} (hn1 : n1 + 1 ≤ 10) (hn2 : n2 + 1 ≤ 10) (hL : L ≤ 3072) (hk : 6 * k + 6 ≤ L) (X : mCx Z RL cL_law 4 10) (T : mCt Z t) (S : mSc Z b L xs) (I : INV h x mb) (P : STP Z.1 x mb n1 n2 mX7_best mX8_best [.int (xs (6 * k + 1))] h) (K : ∀ h2, INV h2 x mb → SW Z 1242 [(0, .ref b), (1, .ref x), (2, .ref mb), (3, .int (nI (6 * k)))] [] h2) : SW Z 716 [(0, .ref b), (1, .ref x), (2, .ref mb), (3, .int (nI (6 * k)))] [] h := by
  obtain ⟨v, h1, h2, k1, ⟨k2, ⟨fm, hm⟩⟩, I2⟩ := P
  obtain ⟨fx, hx⟩ := INV_x I
  refine r_aload_n X 1 dL_law_716 rfl ?_
  refine r_aload_n X 0 dL_law_717 rfl ?_
  refine r_iload_n X 3 dL_law_718 rfl ?_
  refine r_iconst X (nI 1) dL_law_719 (by decide) ?_
  refine r_iaddn X dL_law_720 ?_
  refine r_scr X S (by omega) hL dL_law_721 ?_
  refine r_invV X (As := [.int (xs (6 * k + 1))]) (st := []) (wG 759 (by decide +kernel) (by decide +kernel)) ki_X7_best ks_X7_best kn_RX7 kc_X7_best kd_X7_best rfl hn1 (by decide) dL_law_722 rfl (Nat.le_of_ble_eq_true rfl) hx k1 ?_
  refine r_aload_n X 2 dL_law_725 rfl ?_
  refine r_aload_n X 0 dL_law_726 rfl ?_
  refine r_iload_n X 3 dL_law_727 rfl ?_
  refine r_iconst X (nI 1) dL_law_728 (by decide) ?_
  refine r_iaddn X dL_law_729 ?_
  refine r_scr X S (by omega) hL dL_law_730 ?_
  refine r_invV X (As := [.int (xs (6 * k + 1))]) (st := [.int v]) (wG 1327 (by decide +kernel) (by decide +kernel)) ki_X8_best ks_X8_best kn_RX8 kc_X8_best kd_X8_best rfl hn2 (by decide) dL_law_731 rfl (Nat.le_of_ble_eq_true rfl) hm k2 ?_
  exact r_icmp_eq X 1242 dL_law_734 rfl (fun _ => K h2 I2) (fun q => absurd rfl q)
set_option maxRecDepth 20000 in
set_option maxHeartbeats 4000000 in
theorem lw_c19 {Z : mZ} {t b L x mb k n1 n2 : Nat} {xs : Nat → Int32} {h : mHp} (hn1 : n1 + 1 ≤ 10) (hn2 : n2 + 1 ≤ 10) (hL : L ≤ 3072) (hk : 6 * k + 6 ≤ L) (X : mCx Z RL cL_law 4 10) (T : mCt Z t) (S : mSc Z b L xs) (I : INV h x mb) (P : STL Z.1 x mb n1 n2 mX7_alone mX8_alone [.int (xs (6 * k + 1)), .int (xs (6 * k + 2)), .int (xs (6 * k + 3)), .int (xs (6 * k + 4))] h) (K : ∀ h2, INV h2 x mb → SW Z 1242 [(0, .ref b), (1, .ref x), (2, .ref mb), (3, .int (nI (6 * k)))] [] h2) : SW Z 739 [(0, .ref b), (1, .ref x), (2, .ref mb), (3, .int (nI (6 * k)))] [] h := by
  obtain ⟨v, h1, h2, k1, ⟨k2, ⟨fm, hm⟩⟩, I2⟩ := P
  obtain ⟨fx, hx⟩ := INV_x I
  refine r_aload_n X 1 dL_law_739 rfl ?_
  refine r_aload_n X 0 dL_law_740 rfl ?_
  refine r_iload_n X 3 dL_law_741 rfl ?_
  refine r_iconst X (nI 1) dL_law_742 (by decide) ?_
  refine r_iaddn X dL_law_743 ?_
  refine r_scr X S (by omega) hL dL_law_744 ?_
  refine r_aload_n X 0 dL_law_745 rfl ?_
  refine r_iload_n X 3 dL_law_746 rfl ?_
  refine r_iconst X (nI 2) dL_law_747 (by decide) ?_
  refine r_iaddn X dL_law_748 ?_
  refine r_scr X S (by omega) hL dL_law_749 ?_
  refine r_aload_n X 0 dL_law_750 rfl ?_
  refine r_iload_n X 3 dL_law_751 rfl ?_
  refine r_iconst X (nI 3) dL_law_752 (by decide) ?_
  refine r_iaddn X dL_law_753 ?_
  refine r_scr X S (by omega) hL dL_law_754 ?_
  refine r_aload_n X 0 dL_law_755 rfl ?_
  refine r_iload_n X 3 dL_law_756 rfl ?_
  refine r_iconst X (nI 4) dL_law_757 (by decide) ?_
  refine r_iaddn X dL_law_758 ?_
  refine r_scr X S (by omega) hL dL_law_759 ?_
  refine r_invV X (As := [.int (xs (6 * k + 1)), .int (xs (6 * k + 2)), .int (xs (6 * k + 3)), .int (xs (6 * k + 4))]) (st := []) (wG 764 (by decide +kernel) (by decide +kernel)) ki_X7_alone ks_X7_alone kn_RX7 kc_X7_alone kd_X7_alone rfl hn1 (by decide) dL_law_760 rfl (Nat.le_of_ble_eq_true rfl) hx k1 ?_
  refine r_aload_n X 2 dL_law_763 rfl ?_
  refine r_aload_n X 0 dL_law_764 rfl ?_
  refine r_iload_n X 3 dL_law_765 rfl ?_
  refine r_iconst X (nI 1) dL_law_766 (by decide) ?_
  refine r_iaddn X dL_law_767 ?_
  refine r_scr X S (by omega) hL dL_law_768 ?_
  refine r_aload_n X 0 dL_law_769 rfl ?_
  refine r_iload_n X 3 dL_law_770 rfl ?_
  refine r_iconst X (nI 2) dL_law_771 (by decide) ?_
  refine r_iaddn X dL_law_772 ?_
  refine r_scr X S (by omega) hL dL_law_773 ?_
  refine r_aload_n X 0 dL_law_774 rfl ?_
  refine r_iload_n X 3 dL_law_775 rfl ?_
  refine r_iconst X (nI 3) dL_law_776 (by decide) ?_
  refine r_iaddn X dL_law_777 ?_
  refine r_scr X S (by omega) hL dL_law_778 ?_
  refine r_aload_n X 0 dL_law_779 rfl ?_
  refine r_iload_n X 3 dL_law_780 rfl ?_
  refine r_iconst X (nI 4) dL_law_781 (by decide) ?_
  refine r_iaddn X dL_law_782 ?_
  refine r_scr X S (by omega) hL dL_law_783 ?_
  refine r_invV X (As := [.int (xs (6 * k + 1)), .int (xs (6 * k + 2)), .int (xs (6 * k + 3)), .int (xs (6 * k + 4))]) (st := [.long v]) (wG 1331 (by decide +kernel) (by decide +kernel)) ki_X8_alone ks_X8_alone kn_RX8 kc_X8_alone kd_X8_alone rfl hn2 (by decide) dL_law_784 rfl (Nat.le_of_ble_eq_true rfl) hm k2 ?_
  exact r_lcmp_eq X 1242 dL_law_787 dL_law_788 rfl (fun _ => K h2 I2) (fun q => absurd rfl q)
set_option maxRecDepth 20000 in
set_option maxHeartbeats 4000000 in
theorem lw_c20 {Z : mZ} {t b L x mb k n1 n2 : Nat} {xs : Nat → Int32} {h : mHp} (hn1 : n1 + 1 ≤ 10) (hn2 : n2 + 1 ≤ 10) (hL : L ≤ 3072) (hk : 6 * k + 6 ≤ L) (X : mCx Z RL cL_law 4 10) (T : mCt Z t) (S : mSc Z b L xs) (I : INV h x mb) (P : STL Z.1 x mb n1 n2 mX7_bound mX8_bound [.int (xs (6 * k + 1)), .int (xs (6 * k + 2))] h) (K : ∀ h2, INV h2 x mb → SW Z 1242 [(0, .ref b), (1, .ref x), (2, .ref mb), (3, .int (nI (6 * k)))] [] h2) : SW Z 793 [(0, .ref b), (1, .ref x), (2, .ref mb), (3, .int (nI (6 * k)))] [] h := by
  obtain ⟨v, h1, h2, k1, ⟨k2, ⟨fm, hm⟩⟩, I2⟩ := P
  obtain ⟨fx, hx⟩ := INV_x I
  refine r_aload_n X 1 dL_law_793 rfl ?_
  refine r_aload_n X 0 dL_law_794 rfl ?_
  refine r_iload_n X 3 dL_law_795 rfl ?_
  refine r_iconst X (nI 1) dL_law_796 (by decide) ?_
  refine r_iaddn X dL_law_797 ?_
  refine r_scr X S (by omega) hL dL_law_798 ?_
  refine r_aload_n X 0 dL_law_799 rfl ?_
  refine r_iload_n X 3 dL_law_800 rfl ?_
  refine r_iconst X (nI 2) dL_law_801 (by decide) ?_
  refine r_iaddn X dL_law_802 ?_
  refine r_scr X S (by omega) hL dL_law_803 ?_
  refine r_invV X (As := [.int (xs (6 * k + 1)), .int (xs (6 * k + 2))]) (st := []) (wG 796 (by decide +kernel) (by decide +kernel)) ki_X7_bound ks_X7_bound kn_RX7 kc_X7_bound kd_X7_bound rfl hn1 (by decide) dL_law_804 rfl (Nat.le_of_ble_eq_true rfl) hx k1 ?_
  refine r_aload_n X 2 dL_law_807 rfl ?_
  refine r_aload_n X 0 dL_law_808 rfl ?_
  refine r_iload_n X 3 dL_law_809 rfl ?_
  refine r_iconst X (nI 1) dL_law_810 (by decide) ?_
  refine r_iaddn X dL_law_811 ?_
  refine r_scr X S (by omega) hL dL_law_812 ?_
  refine r_aload_n X 0 dL_law_813 rfl ?_
  refine r_iload_n X 3 dL_law_814 rfl ?_
  refine r_iconst X (nI 2) dL_law_815 (by decide) ?_
  refine r_iaddn X dL_law_816 ?_
  refine r_scr X S (by omega) hL dL_law_817 ?_
  refine r_invV X (As := [.int (xs (6 * k + 1)), .int (xs (6 * k + 2))]) (st := [.long v]) (wG 1343 (by decide +kernel) (by decide +kernel)) ki_X8_bound ks_X8_bound kn_RX8 kc_X8_bound kd_X8_bound rfl hn2 (by decide) dL_law_818 rfl (Nat.le_of_ble_eq_true rfl) hm k2 ?_
  exact r_lcmp_eq X 1242 dL_law_821 dL_law_822 rfl (fun _ => K h2 I2) (fun q => absurd rfl q)
set_option maxRecDepth 20000 in
set_option maxHeartbeats 4000000 in
theorem lw_c21 {Z : mZ} {t b L x mb k n1 n2 : Nat} {xs : Nat → Int32} {h : mHp} (hn1 : n1 + 1 ≤ 10) (hn2 : n2 + 1 ≤ 10) (hL : L ≤ 3072) (hk : 6 * k + 6 ≤ L) (X : mCx Z RL cL_law 4 10) (T : mCt Z t) (S : mSc Z b L xs) (I : INV h x mb) (P : STP Z.1 x mb n1 n2 mX7_moved mX8_moved [.int (xs (6 * k + 1)), .int (xs (6 * k + 2))] h) (K : ∀ h2, INV h2 x mb → SW Z 1242 [(0, .ref b), (1, .ref x), (2, .ref mb), (3, .int (nI (6 * k)))] [] h2) : SW Z 827 [(0, .ref b), (1, .ref x), (2, .ref mb), (3, .int (nI (6 * k)))] [] h := by
  obtain ⟨v, h1, h2, k1, ⟨k2, ⟨fm, hm⟩⟩, I2⟩ := P
  obtain ⟨fx, hx⟩ := INV_x I
  refine r_aload_n X 1 dL_law_827 rfl ?_
  refine r_aload_n X 0 dL_law_828 rfl ?_
  refine r_iload_n X 3 dL_law_829 rfl ?_
  refine r_iconst X (nI 1) dL_law_830 (by decide) ?_
  refine r_iaddn X dL_law_831 ?_
  refine r_scr X S (by omega) hL dL_law_832 ?_
  refine r_aload_n X 0 dL_law_833 rfl ?_
  refine r_iload_n X 3 dL_law_834 rfl ?_
  refine r_iconst X (nI 2) dL_law_835 (by decide) ?_
  refine r_iaddn X dL_law_836 ?_
  refine r_scr X S (by omega) hL dL_law_837 ?_
  refine r_invV X (As := [.int (xs (6 * k + 1)), .int (xs (6 * k + 2))]) (st := []) (wG 807 (by decide +kernel) (by decide +kernel)) ki_X7_moved ks_X7_moved kn_RX7 kc_X7_moved kd_X7_moved rfl hn1 (by decide) dL_law_838 rfl (Nat.le_of_ble_eq_true rfl) hx k1 ?_
  refine r_aload_n X 2 dL_law_841 rfl ?_
  refine r_aload_n X 0 dL_law_842 rfl ?_
  refine r_iload_n X 3 dL_law_843 rfl ?_
  refine r_iconst X (nI 1) dL_law_844 (by decide) ?_
  refine r_iaddn X dL_law_845 ?_
  refine r_scr X S (by omega) hL dL_law_846 ?_
  refine r_aload_n X 0 dL_law_847 rfl ?_
  refine r_iload_n X 3 dL_law_848 rfl ?_
  refine r_iconst X (nI 2) dL_law_849 (by decide) ?_
  refine r_iaddn X dL_law_850 ?_
  refine r_scr X S (by omega) hL dL_law_851 ?_
  refine r_invV X (As := [.int (xs (6 * k + 1)), .int (xs (6 * k + 2))]) (st := [.int v]) (wG 1352 (by decide +kernel) (by decide +kernel)) ki_X8_moved ks_X8_moved kn_RX8 kc_X8_moved kd_X8_moved rfl hn2 (by decide) dL_law_852 rfl (Nat.le_of_ble_eq_true rfl) hm k2 ?_
  exact r_icmp_eq X 1242 dL_law_855 rfl (fun _ => K h2 I2) (fun q => absurd rfl q)
set_option maxRecDepth 20000 in
set_option maxHeartbeats 4000000 in
theorem lw_c22 {Z : mZ} {t b L x mb k n1 n2 : Nat} {xs : Nat → Int32} {h : mHp} (hn1 : n1 + 1 ≤ 10) (hn2 : n2 + 1 ≤ 10) (hL : L ≤ 3072) (hk : 6 * k + 6 ≤ L) (X : mCx Z RL cL_law 4 10) (T : mCt Z t) (S : mSc Z b L xs) (I : INV h x mb) (P : STP Z.1 x mb n1 n2 mX7_gap mX8_gap [.int (xs (6 * k + 1))] h) (K : ∀ h2, INV h2 x mb → SW Z 1242 [(0, .ref b), (1, .ref x), (2, .ref mb), (3, .int (nI (6 * k)))] [] h2) : SW Z 860 [(0, .ref b), (1, .ref x), (2, .ref mb), (3, .int (nI (6 * k)))] [] h := by
  obtain ⟨v, h1, h2, k1, ⟨k2, ⟨fm, hm⟩⟩, I2⟩ := P
  obtain ⟨fx, hx⟩ := INV_x I
  refine r_aload_n X 1 dL_law_860 rfl ?_
  refine r_aload_n X 0 dL_law_861 rfl ?_
  refine r_iload_n X 3 dL_law_862 rfl ?_
  refine r_iconst X (nI 1) dL_law_863 (by decide) ?_
  refine r_iaddn X dL_law_864 ?_
  refine r_scr X S (by omega) hL dL_law_865 ?_
  refine r_invV X (As := [.int (xs (6 * k + 1))]) (st := []) (wG 822 (by decide +kernel) (by decide +kernel)) ki_X7_gap ks_X7_gap kn_RX7 kc_X7_gap kd_X7_gap rfl hn1 (by decide) dL_law_866 rfl (Nat.le_of_ble_eq_true rfl) hx k1 ?_
  refine r_aload_n X 2 dL_law_869 rfl ?_
  refine r_aload_n X 0 dL_law_870 rfl ?_
  refine r_iload_n X 3 dL_law_871 rfl ?_
  refine r_iconst X (nI 1) dL_law_872 (by decide) ?_
  refine r_iaddn X dL_law_873 ?_
  refine r_scr X S (by omega) hL dL_law_874 ?_
  refine r_invV X (As := [.int (xs (6 * k + 1))]) (st := [.int v]) (wG 1360 (by decide +kernel) (by decide +kernel)) ki_X8_gap ks_X8_gap kn_RX8 kc_X8_gap kd_X8_gap rfl hn2 (by decide) dL_law_875 rfl (Nat.le_of_ble_eq_true rfl) hm k2 ?_
  exact r_icmp_eq X 1242 dL_law_878 rfl (fun _ => K h2 I2) (fun q => absurd rfl q)
set_option maxRecDepth 20000 in
set_option maxHeartbeats 4000000 in
theorem lw_c23 {Z : mZ} {t b L x mb k n1 n2 : Nat} {xs : Nat → Int32} {h : mHp} (hn1 : n1 + 1 ≤ 10) (hn2 : n2 + 1 ≤ 10) (hL : L ≤ 3072) (hk : 6 * k + 6 ≤ L) (X : mCx Z RL cL_law 4 10) (T : mCt Z t) (S : mSc Z b L xs) (I : INV h x mb) (P : STP Z.1 x mb n1 n2 mX7_more mX8_more [.int (xs (6 * k + 1))] h) (K : ∀ h2, INV h2 x mb → SW Z 1242 [(0, .ref b), (1, .ref x), (2, .ref mb), (3, .int (nI (6 * k)))] [] h2) : SW Z 883 [(0, .ref b), (1, .ref x), (2, .ref mb), (3, .int (nI (6 * k)))] [] h := by
  obtain ⟨v, h1, h2, k1, ⟨k2, ⟨fm, hm⟩⟩, I2⟩ := P
  obtain ⟨fx, hx⟩ := INV_x I
  refine r_aload_n X 1 dL_law_883 rfl ?_
  refine r_aload_n X 0 dL_law_884 rfl ?_
  refine r_iload_n X 3 dL_law_885 rfl ?_
  refine r_iconst X (nI 1) dL_law_886 (by decide) ?_
  refine r_iaddn X dL_law_887 ?_
  refine r_scr X S (by omega) hL dL_law_888 ?_
  refine r_invV X (As := [.int (xs (6 * k + 1))]) (st := []) (wG 826 (by decide +kernel) (by decide +kernel)) ki_X7_more ks_X7_more kn_RX7 kc_X7_more kd_X7_more rfl hn1 (by decide) dL_law_889 rfl (Nat.le_of_ble_eq_true rfl) hx k1 ?_
  refine r_aload_n X 2 dL_law_892 rfl ?_
  refine r_aload_n X 0 dL_law_893 rfl ?_
  refine r_iload_n X 3 dL_law_894 rfl ?_
  refine r_iconst X (nI 1) dL_law_895 (by decide) ?_
  refine r_iaddn X dL_law_896 ?_
  refine r_scr X S (by omega) hL dL_law_897 ?_
  refine r_invV X (As := [.int (xs (6 * k + 1))]) (st := [.int v]) (wG 1364 (by decide +kernel) (by decide +kernel)) ki_X8_more ks_X8_more kn_RX8 kc_X8_more kd_X8_more rfl hn2 (by decide) dL_law_898 rfl (Nat.le_of_ble_eq_true rfl) hm k2 ?_
  exact r_icmp_eq X 1242 dL_law_901 rfl (fun _ => K h2 I2) (fun q => absurd rfl q)
set_option maxRecDepth 20000 in
set_option maxHeartbeats 4000000 in
theorem lw_c24 {Z : mZ} {t b L x mb k n1 n2 : Nat} {xs : Nat → Int32} {h : mHp} (hn1 : n1 + 1 ≤ 10) (hn2 : n2 + 1 ≤ 10) (hL : L ≤ 3072) (hk : 6 * k + 6 ≤ L) (X : mCx Z RL cL_law 4 10) (T : mCt Z t) (S : mSc Z b L xs) (I : INV h x mb) (P : STP Z.1 x mb n1 n2 mX7_wanted mX8_wanted [] h) (K : ∀ h2, INV h2 x mb → SW Z 1242 [(0, .ref b), (1, .ref x), (2, .ref mb), (3, .int (nI (6 * k)))] [] h2) : SW Z 906 [(0, .ref b), (1, .ref x), (2, .ref mb), (3, .int (nI (6 * k)))] [] h := by
  obtain ⟨v, h1, h2, k1, ⟨k2, ⟨fm, hm⟩⟩, I2⟩ := P
  obtain ⟨fx, hx⟩ := INV_x I
  refine r_aload_n X 1 dL_law_906 rfl ?_
  refine r_invV X (As := []) (st := []) (wG 830 (by decide +kernel) (by decide +kernel)) ki_X7_wanted ks_X7_wanted kn_RX7 kc_X7_wanted kd_X7_wanted rfl hn1 (by decide) dL_law_907 rfl (Nat.le_of_ble_eq_true rfl) hx k1 ?_
  refine r_aload_n X 2 dL_law_910 rfl ?_
  refine r_invV X (As := []) (st := [.int v]) (wG 1368 (by decide +kernel) (by decide +kernel)) ki_X8_wanted ks_X8_wanted kn_RX8 kc_X8_wanted kd_X8_wanted rfl hn2 (by decide) dL_law_911 rfl (Nat.le_of_ble_eq_true rfl) hm k2 ?_
  exact r_icmp_eq X 1242 dL_law_914 rfl (fun _ => K h2 I2) (fun q => absurd rfl q)
set_option maxRecDepth 20000 in
set_option maxHeartbeats 4000000 in
theorem lw_c25 {Z : mZ} {t b L x mb k n1 n2 : Nat} {xs : Nat → Int32} {h : mHp} (hn1 : n1 + 1 ≤ 10) (hn2 : n2 + 1 ≤ 10) (hL : L ≤ 3072) (hk : 6 * k + 6 ≤ L) (X : mCx Z RL cL_law 4 10) (T : mCt Z t) (S : mSc Z b L xs) (I : INV h x mb) (P : STP Z.1 x mb n1 n2 mX7_who mX8_who [.int (xs (6 * k + 1)), .int (xs (6 * k + 2)), .int (xs (6 * k + 3))] h) (K : ∀ h2, INV h2 x mb → SW Z 1242 [(0, .ref b), (1, .ref x), (2, .ref mb), (3, .int (nI (6 * k)))] [] h2) : SW Z 919 [(0, .ref b), (1, .ref x), (2, .ref mb), (3, .int (nI (6 * k)))] [] h := by
  obtain ⟨v, h1, h2, k1, ⟨k2, ⟨fm, hm⟩⟩, I2⟩ := P
  obtain ⟨fx, hx⟩ := INV_x I
  refine r_aload_n X 1 dL_law_919 rfl ?_
  refine r_aload_n X 0 dL_law_920 rfl ?_
  refine r_iload_n X 3 dL_law_921 rfl ?_
  refine r_iconst X (nI 1) dL_law_922 (by decide) ?_
  refine r_iaddn X dL_law_923 ?_
  refine r_scr X S (by omega) hL dL_law_924 ?_
  refine r_aload_n X 0 dL_law_925 rfl ?_
  refine r_iload_n X 3 dL_law_926 rfl ?_
  refine r_iconst X (nI 2) dL_law_927 (by decide) ?_
  refine r_iaddn X dL_law_928 ?_
  refine r_scr X S (by omega) hL dL_law_929 ?_
  refine r_aload_n X 0 dL_law_930 rfl ?_
  refine r_iload_n X 3 dL_law_931 rfl ?_
  refine r_iconst X (nI 3) dL_law_932 (by decide) ?_
  refine r_iaddn X dL_law_933 ?_
  refine r_scr X S (by omega) hL dL_law_934 ?_
  refine r_invV X (As := [.int (xs (6 * k + 1)), .int (xs (6 * k + 2)), .int (xs (6 * k + 3))]) (st := []) (wG 834 (by decide +kernel) (by decide +kernel)) ki_X7_who ks_X7_who kn_RX7 kc_X7_who kd_X7_who rfl hn1 (by decide) dL_law_935 rfl (Nat.le_of_ble_eq_true rfl) hx k1 ?_
  refine r_aload_n X 2 dL_law_938 rfl ?_
  refine r_aload_n X 0 dL_law_939 rfl ?_
  refine r_iload_n X 3 dL_law_940 rfl ?_
  refine r_iconst X (nI 1) dL_law_941 (by decide) ?_
  refine r_iaddn X dL_law_942 ?_
  refine r_scr X S (by omega) hL dL_law_943 ?_
  refine r_aload_n X 0 dL_law_944 rfl ?_
  refine r_iload_n X 3 dL_law_945 rfl ?_
  refine r_iconst X (nI 2) dL_law_946 (by decide) ?_
  refine r_iaddn X dL_law_947 ?_
  refine r_scr X S (by omega) hL dL_law_948 ?_
  refine r_aload_n X 0 dL_law_949 rfl ?_
  refine r_iload_n X 3 dL_law_950 rfl ?_
  refine r_iconst X (nI 3) dL_law_951 (by decide) ?_
  refine r_iaddn X dL_law_952 ?_
  refine r_scr X S (by omega) hL dL_law_953 ?_
  refine r_invV X (As := [.int (xs (6 * k + 1)), .int (xs (6 * k + 2)), .int (xs (6 * k + 3))]) (st := [.int v]) (wG 1372 (by decide +kernel) (by decide +kernel)) ki_X8_who ks_X8_who kn_RX8 kc_X8_who kd_X8_who rfl hn2 (by decide) dL_law_954 rfl (Nat.le_of_ble_eq_true rfl) hm k2 ?_
  exact r_icmp_eq X 1242 dL_law_957 rfl (fun _ => K h2 I2) (fun q => absurd rfl q)
set_option maxRecDepth 20000 in
set_option maxHeartbeats 4000000 in
theorem lw_c26 {Z : mZ} {t b L x mb k n1 n2 : Nat} {xs : Nat → Int32} {h : mHp} (hn1 : n1 + 1 ≤ 10) (hn2 : n2 + 1 ≤ 10) (hL : L ≤ 3072) (hk : 6 * k + 6 ≤ L) (X : mCx Z RL cL_law 4 10) (T : mCt Z t) (S : mSc Z b L xs) (I : INV h x mb) (P : STP Z.1 x mb n1 n2 mX7_fits mX8_fits [.int (xs (6 * k + 1)), .int (xs (6 * k + 2)), .int (xs (6 * k + 3))] h) (K : ∀ h2, INV h2 x mb → SW Z 1242 [(0, .ref b), (1, .ref x), (2, .ref mb), (3, .int (nI (6 * k)))] [] h2) : SW Z 962 [(0, .ref b), (1, .ref x), (2, .ref mb), (3, .int (nI (6 * k)))] [] h := by
  obtain ⟨v, h1, h2, k1, ⟨k2, ⟨fm, hm⟩⟩, I2⟩ := P
  obtain ⟨fx, hx⟩ := INV_x I
  refine r_aload_n X 1 dL_law_962 rfl ?_
  refine r_aload_n X 0 dL_law_963 rfl ?_
  refine r_iload_n X 3 dL_law_964 rfl ?_
  refine r_iconst X (nI 1) dL_law_965 (by decide) ?_
  refine r_iaddn X dL_law_966 ?_
  refine r_scr X S (by omega) hL dL_law_967 ?_
  refine r_aload_n X 0 dL_law_968 rfl ?_
  refine r_iload_n X 3 dL_law_969 rfl ?_
  refine r_iconst X (nI 2) dL_law_970 (by decide) ?_
  refine r_iaddn X dL_law_971 ?_
  refine r_scr X S (by omega) hL dL_law_972 ?_
  refine r_aload_n X 0 dL_law_973 rfl ?_
  refine r_iload_n X 3 dL_law_974 rfl ?_
  refine r_iconst X (nI 3) dL_law_975 (by decide) ?_
  refine r_iaddn X dL_law_976 ?_
  refine r_scr X S (by omega) hL dL_law_977 ?_
  refine r_invV X (As := [.int (xs (6 * k + 1)), .int (xs (6 * k + 2)), .int (xs (6 * k + 3))]) (st := []) (wG 876 (by decide +kernel) (by decide +kernel)) ki_X7_fits ks_X7_fits kn_RX7 kc_X7_fits kd_X7_fits rfl hn1 (by decide) dL_law_978 rfl (Nat.le_of_ble_eq_true rfl) hx k1 ?_
  refine r_aload_n X 2 dL_law_981 rfl ?_
  refine r_aload_n X 0 dL_law_982 rfl ?_
  refine r_iload_n X 3 dL_law_983 rfl ?_
  refine r_iconst X (nI 1) dL_law_984 (by decide) ?_
  refine r_iaddn X dL_law_985 ?_
  refine r_scr X S (by omega) hL dL_law_986 ?_
  refine r_aload_n X 0 dL_law_987 rfl ?_
  refine r_iload_n X 3 dL_law_988 rfl ?_
  refine r_iconst X (nI 2) dL_law_989 (by decide) ?_
  refine r_iaddn X dL_law_990 ?_
  refine r_scr X S (by omega) hL dL_law_991 ?_
  refine r_aload_n X 0 dL_law_992 rfl ?_
  refine r_iload_n X 3 dL_law_993 rfl ?_
  refine r_iconst X (nI 3) dL_law_994 (by decide) ?_
  refine r_iaddn X dL_law_995 ?_
  refine r_scr X S (by omega) hL dL_law_996 ?_
  refine r_invV X (As := [.int (xs (6 * k + 1)), .int (xs (6 * k + 2)), .int (xs (6 * k + 3))]) (st := [.int v]) (wG 1377 (by decide +kernel) (by decide +kernel)) ki_X8_fits ks_X8_fits kn_RX8 kc_X8_fits kd_X8_fits rfl hn2 (by decide) dL_law_997 rfl (Nat.le_of_ble_eq_true rfl) hm k2 ?_
  exact r_icmp_eq X 1242 dL_law_1000 rfl (fun _ => K h2 I2) (fun q => absurd rfl q)
set_option maxRecDepth 20000 in
set_option maxHeartbeats 4000000 in
theorem lw_c27 {Z : mZ} {t b L x mb k n1 n2 : Nat} {xs : Nat → Int32} {h : mHp} (hn1 : n1 + 1 ≤ 10) (hn2 : n2 + 1 ≤ 10) (hL : L ≤ 3072) (hk : 6 * k + 6 ≤ L) (X : mCx Z RL cL_law 4 10) (T : mCt Z t) (S : mSc Z b L xs) (I : INV h x mb) (P : STP Z.1 x mb n1 n2 mX7_drawn mX8_drawn [.int (xs (6 * k + 1)), .int (xs (6 * k + 2)), .int (xs (6 * k + 3))] h) (K : ∀ h2, INV h2 x mb → SW Z 1242 [(0, .ref b), (1, .ref x), (2, .ref mb), (3, .int (nI (6 * k)))] [] h2) : SW Z 1005 [(0, .ref b), (1, .ref x), (2, .ref mb), (3, .int (nI (6 * k)))] [] h := by
  obtain ⟨v, h1, h2, k1, ⟨k2, ⟨fm, hm⟩⟩, I2⟩ := P
  obtain ⟨fx, hx⟩ := INV_x I
  refine r_aload_n X 1 dL_law_1005 rfl ?_
  refine r_aload_n X 0 dL_law_1006 rfl ?_
  refine r_iload_n X 3 dL_law_1007 rfl ?_
  refine r_iconst X (nI 1) dL_law_1008 (by decide) ?_
  refine r_iaddn X dL_law_1009 ?_
  refine r_scr X S (by omega) hL dL_law_1010 ?_
  refine r_aload_n X 0 dL_law_1011 rfl ?_
  refine r_iload_n X 3 dL_law_1012 rfl ?_
  refine r_iconst X (nI 2) dL_law_1013 (by decide) ?_
  refine r_iaddn X dL_law_1014 ?_
  refine r_scr X S (by omega) hL dL_law_1015 ?_
  refine r_aload_n X 0 dL_law_1016 rfl ?_
  refine r_iload_n X 3 dL_law_1017 rfl ?_
  refine r_iconst X (nI 3) dL_law_1018 (by decide) ?_
  refine r_iaddn X dL_law_1019 ?_
  refine r_scr X S (by omega) hL dL_law_1020 ?_
  refine r_invV X (As := [.int (xs (6 * k + 1)), .int (xs (6 * k + 2)), .int (xs (6 * k + 3))]) (st := []) (wG 887 (by decide +kernel) (by decide +kernel)) ki_X7_drawn ks_X7_drawn kn_RX7 kc_X7_drawn kd_X7_drawn rfl hn1 (by decide) dL_law_1021 rfl (Nat.le_of_ble_eq_true rfl) hx k1 ?_
  refine r_aload_n X 2 dL_law_1024 rfl ?_
  refine r_aload_n X 0 dL_law_1025 rfl ?_
  refine r_iload_n X 3 dL_law_1026 rfl ?_
  refine r_iconst X (nI 1) dL_law_1027 (by decide) ?_
  refine r_iaddn X dL_law_1028 ?_
  refine r_scr X S (by omega) hL dL_law_1029 ?_
  refine r_aload_n X 0 dL_law_1030 rfl ?_
  refine r_iload_n X 3 dL_law_1031 rfl ?_
  refine r_iconst X (nI 2) dL_law_1032 (by decide) ?_
  refine r_iaddn X dL_law_1033 ?_
  refine r_scr X S (by omega) hL dL_law_1034 ?_
  refine r_aload_n X 0 dL_law_1035 rfl ?_
  refine r_iload_n X 3 dL_law_1036 rfl ?_
  refine r_iconst X (nI 3) dL_law_1037 (by decide) ?_
  refine r_iaddn X dL_law_1038 ?_
  refine r_scr X S (by omega) hL dL_law_1039 ?_
  refine r_invV X (As := [.int (xs (6 * k + 1)), .int (xs (6 * k + 2)), .int (xs (6 * k + 3))]) (st := [.int v]) (wG 1381 (by decide +kernel) (by decide +kernel)) ki_X8_drawn ks_X8_drawn kn_RX8 kc_X8_drawn kd_X8_drawn rfl hn2 (by decide) dL_law_1040 rfl (Nat.le_of_ble_eq_true rfl) hm k2 ?_
  exact r_icmp_eq X 1242 dL_law_1043 rfl (fun _ => K h2 I2) (fun q => absurd rfl q)
set_option maxRecDepth 20000 in
set_option maxHeartbeats 4000000 in
theorem lw_c28 {Z : mZ} {t b L x mb k n1 n2 : Nat} {xs : Nat → Int32} {h : mHp} (hn1 : n1 + 1 ≤ 10) (hn2 : n2 + 1 ≤ 10) (hL : L ≤ 3072) (hk : 6 * k + 6 ≤ L) (X : mCx Z RL cL_law 4 10) (T : mCt Z t) (S : mSc Z b L xs) (I : INV h x mb) (P : STP Z.1 x mb n1 n2 mX7_image mX8_image [.int (xs (6 * k + 1))] h) (K : ∀ h2, INV h2 x mb → SW Z 1242 [(0, .ref b), (1, .ref x), (2, .ref mb), (3, .int (nI (6 * k)))] [] h2) : SW Z 1048 [(0, .ref b), (1, .ref x), (2, .ref mb), (3, .int (nI (6 * k)))] [] h := by
  obtain ⟨v, h1, h2, k1, ⟨k2, ⟨fm, hm⟩⟩, I2⟩ := P
  obtain ⟨fx, hx⟩ := INV_x I
  refine r_aload_n X 1 dL_law_1048 rfl ?_
  refine r_aload_n X 0 dL_law_1049 rfl ?_
  refine r_iload_n X 3 dL_law_1050 rfl ?_
  refine r_iconst X (nI 1) dL_law_1051 (by decide) ?_
  refine r_iaddn X dL_law_1052 ?_
  refine r_scr X S (by omega) hL dL_law_1053 ?_
  refine r_invV X (As := [.int (xs (6 * k + 1))]) (st := []) (wG 896 (by decide +kernel) (by decide +kernel)) ki_X7_image ks_X7_image kn_RX7 kc_X7_image kd_X7_image rfl hn1 (by decide) dL_law_1054 rfl (Nat.le_of_ble_eq_true rfl) hx k1 ?_
  refine r_aload_n X 2 dL_law_1057 rfl ?_
  refine r_aload_n X 0 dL_law_1058 rfl ?_
  refine r_iload_n X 3 dL_law_1059 rfl ?_
  refine r_iconst X (nI 1) dL_law_1060 (by decide) ?_
  refine r_iaddn X dL_law_1061 ?_
  refine r_scr X S (by omega) hL dL_law_1062 ?_
  refine r_invV X (As := [.int (xs (6 * k + 1))]) (st := [.int v]) (wG 1390 (by decide +kernel) (by decide +kernel)) ki_X8_image ks_X8_image kn_RX8 kc_X8_image kd_X8_image rfl hn2 (by decide) dL_law_1063 rfl (Nat.le_of_ble_eq_true rfl) hm k2 ?_
  exact r_icmp_eq X 1242 dL_law_1066 rfl (fun _ => K h2 I2) (fun q => absurd rfl q)
set_option maxRecDepth 20000 in
set_option maxHeartbeats 4000000 in
theorem lw_c29 {Z : mZ} {t b L x mb k n1 n2 : Nat} {xs : Nat → Int32} {h : mHp} (hn1 : n1 + 1 ≤ 10) (hn2 : n2 + 1 ≤ 10) (hL : L ≤ 3072) (hk : 6 * k + 6 ≤ L) (X : mCx Z RL cL_law 4 10) (T : mCt Z t) (S : mSc Z b L xs) (I : INV h x mb) (P : STP Z.1 x mb n1 n2 mX7_restore mX8_restore [.int (xs (6 * k + 1))] h) (K : ∀ h2, INV h2 x mb → SW Z 1242 [(0, .ref b), (1, .ref x), (2, .ref mb), (3, .int (nI (6 * k)))] [] h2) : SW Z 1071 [(0, .ref b), (1, .ref x), (2, .ref mb), (3, .int (nI (6 * k)))] [] h := by
  obtain ⟨v, h1, h2, k1, ⟨k2, ⟨fm, hm⟩⟩, I2⟩ := P
  obtain ⟨fx, hx⟩ := INV_x I
  refine r_aload_n X 1 dL_law_1071 rfl ?_
  refine r_aload_n X 0 dL_law_1072 rfl ?_
  refine r_iload_n X 3 dL_law_1073 rfl ?_
  refine r_iconst X (nI 1) dL_law_1074 (by decide) ?_
  refine r_iaddn X dL_law_1075 ?_
  refine r_scr X S (by omega) hL dL_law_1076 ?_
  refine r_invV X (As := [.int (xs (6 * k + 1))]) (st := []) (wG 900 (by decide +kernel) (by decide +kernel)) ki_X7_restore ks_X7_restore kn_RX7 kc_X7_restore kd_X7_restore rfl hn1 (by decide) dL_law_1077 rfl (Nat.le_of_ble_eq_true rfl) hx k1 ?_
  refine r_aload_n X 2 dL_law_1080 rfl ?_
  refine r_aload_n X 0 dL_law_1081 rfl ?_
  refine r_iload_n X 3 dL_law_1082 rfl ?_
  refine r_iconst X (nI 1) dL_law_1083 (by decide) ?_
  refine r_iaddn X dL_law_1084 ?_
  refine r_scr X S (by omega) hL dL_law_1085 ?_
  refine r_invV X (As := [.int (xs (6 * k + 1))]) (st := [.int v]) (wG 1394 (by decide +kernel) (by decide +kernel)) ki_X8_restore ks_X8_restore kn_RX8 kc_X8_restore kd_X8_restore rfl hn2 (by decide) dL_law_1086 rfl (Nat.le_of_ble_eq_true rfl) hm k2 ?_
  exact r_icmp_eq X 1242 dL_law_1089 rfl (fun _ => K h2 I2) (fun q => absurd rfl q)
set_option maxRecDepth 20000 in
set_option maxHeartbeats 4000000 in
theorem lw_c30 {Z : mZ} {t b L x mb k n1 n2 : Nat} {xs : Nat → Int32} {h : mHp} (hn1 : n1 + 1 ≤ 10) (hn2 : n2 + 1 ≤ 10) (hL : L ≤ 3072) (hk : 6 * k + 6 ≤ L) (X : mCx Z RL cL_law 4 10) (T : mCt Z t) (S : mSc Z b L xs) (I : INV h x mb) (P : STP Z.1 x mb n1 n2 mX7_kind mX8_kind [.int (xs (6 * k + 1))] h) (K : ∀ h2, INV h2 x mb → SW Z 1242 [(0, .ref b), (1, .ref x), (2, .ref mb), (3, .int (nI (6 * k)))] [] h2) : SW Z 1094 [(0, .ref b), (1, .ref x), (2, .ref mb), (3, .int (nI (6 * k)))] [] h := by
  obtain ⟨v, h1, h2, k1, ⟨k2, ⟨fm, hm⟩⟩, I2⟩ := P
  obtain ⟨fx, hx⟩ := INV_x I
  refine r_aload_n X 1 dL_law_1094 rfl ?_
  refine r_aload_n X 0 dL_law_1095 rfl ?_
  refine r_iload_n X 3 dL_law_1096 rfl ?_
  refine r_iconst X (nI 1) dL_law_1097 (by decide) ?_
  refine r_iaddn X dL_law_1098 ?_
  refine r_scr X S (by omega) hL dL_law_1099 ?_
  refine r_invV X (As := [.int (xs (6 * k + 1))]) (st := []) (wG 904 (by decide +kernel) (by decide +kernel)) ki_X7_kind ks_X7_kind kn_RX7 kc_X7_kind kd_X7_kind rfl hn1 (by decide) dL_law_1100 rfl (Nat.le_of_ble_eq_true rfl) hx k1 ?_
  refine r_aload_n X 2 dL_law_1103 rfl ?_
  refine r_aload_n X 0 dL_law_1104 rfl ?_
  refine r_iload_n X 3 dL_law_1105 rfl ?_
  refine r_iconst X (nI 1) dL_law_1106 (by decide) ?_
  refine r_iaddn X dL_law_1107 ?_
  refine r_scr X S (by omega) hL dL_law_1108 ?_
  refine r_invV X (As := [.int (xs (6 * k + 1))]) (st := [.int v]) (wG 1398 (by decide +kernel) (by decide +kernel)) ki_X8_kind ks_X8_kind kn_RX8 kc_X8_kind kd_X8_kind rfl hn2 (by decide) dL_law_1109 rfl (Nat.le_of_ble_eq_true rfl) hm k2 ?_
  exact r_icmp_eq X 1242 dL_law_1112 rfl (fun _ => K h2 I2) (fun q => absurd rfl q)
set_option maxRecDepth 20000 in
set_option maxHeartbeats 4000000 in
theorem lw_c31 {Z : mZ} {t b L x mb k n1 n2 : Nat} {xs : Nat → Int32} {h : mHp} (hn1 : n1 + 1 ≤ 10) (hn2 : n2 + 1 ≤ 10) (hL : L ≤ 3072) (hk : 6 * k + 6 ≤ L) (X : mCx Z RL cL_law 4 10) (T : mCt Z t) (S : mSc Z b L xs) (I : INV h x mb) (P : STT Z.1 t x mb n1 n2 mX7_as mX8_as [.int (xs (6 * k + 1)), .int (xs (6 * k + 2))] h) (K : ∀ h2, INV h2 x mb → SW Z 1242 [(0, .ref b), (1, .ref x), (2, .ref mb), (3, .int (nI (6 * k)))] [] h2) : SW Z 1117 [(0, .ref b), (1, .ref x), (2, .ref mb), (3, .int (nI (6 * k)))] [] h := by
  obtain ⟨v, h1, h2, k1, ⟨k2, ⟨fm, hm⟩⟩, I2⟩ := P
  obtain ⟨fx, hx⟩ := INV_x I
  refine r_aload_n X 1 dL_law_1117 rfl ?_
  refine r_aload_n X 0 dL_law_1118 rfl ?_
  refine r_iload_n X 3 dL_law_1119 rfl ?_
  refine r_iconst X (nI 1) dL_law_1120 (by decide) ?_
  refine r_iaddn X dL_law_1121 ?_
  refine r_scr X S (by omega) hL dL_law_1122 ?_
  refine r_aload_n X 0 dL_law_1123 rfl ?_
  refine r_iload_n X 3 dL_law_1124 rfl ?_
  refine r_iconst X (nI 2) dL_law_1125 (by decide) ?_
  refine r_iaddn X dL_law_1126 ?_
  refine r_scr X S (by omega) hL dL_law_1127 ?_
  refine r_invT X T (As := [.int (xs (6 * k + 1)), .int (xs (6 * k + 2))]) (st := []) (wG 908 (by decide +kernel) (by decide +kernel)) ki_X7_as ks_X7_as kn_RX7 kc_X7_as kd_X7_as rfl hn1 (by decide) dL_law_1128 rfl (Nat.le_of_ble_eq_true rfl) hx k1 ?_
  refine r_aload_n X 2 dL_law_1131 rfl ?_
  refine r_aload_n X 0 dL_law_1132 rfl ?_
  refine r_iload_n X 3 dL_law_1133 rfl ?_
  refine r_iconst X (nI 1) dL_law_1134 (by decide) ?_
  refine r_iaddn X dL_law_1135 ?_
  refine r_scr X S (by omega) hL dL_law_1136 ?_
  refine r_aload_n X 0 dL_law_1137 rfl ?_
  refine r_iload_n X 3 dL_law_1138 rfl ?_
  refine r_iconst X (nI 2) dL_law_1139 (by decide) ?_
  refine r_iaddn X dL_law_1140 ?_
  refine r_scr X S (by omega) hL dL_law_1141 ?_
  refine r_invV X (As := [.int (xs (6 * k + 1)), .int (xs (6 * k + 2))]) (st := [.int v]) (wG 1406 (by decide +kernel) (by decide +kernel)) ki_X8_as ks_X8_as kn_RX8 kc_X8_as kd_X8_as rfl hn2 (by decide) dL_law_1142 rfl (Nat.le_of_ble_eq_true rfl) hm k2 ?_
  exact r_icmp_eq X 1242 dL_law_1145 rfl (fun _ => K h2 I2) (fun q => absurd rfl q)
set_option maxRecDepth 20000 in
set_option maxHeartbeats 4000000 in
theorem lw_c32 {Z : mZ} {t b L x mb k n1 n2 : Nat} {xs : Nat → Int32} {h : mHp} (hn1 : n1 + 1 ≤ 10) (hn2 : n2 + 1 ≤ 10) (hL : L ≤ 3072) (hk : 6 * k + 6 ≤ L) (X : mCx Z RL cL_law 4 10) (T : mCt Z t) (S : mSc Z b L xs) (I : INV h x mb) (P : STP Z.1 x mb n1 n2 mX7_ask mX8_ask [.int (xs (6 * k + 1)), .int (xs (6 * k + 2))] h) (K : ∀ h2, INV h2 x mb → SW Z 1242 [(0, .ref b), (1, .ref x), (2, .ref mb), (3, .int (nI (6 * k)))] [] h2) : SW Z 1150 [(0, .ref b), (1, .ref x), (2, .ref mb), (3, .int (nI (6 * k)))] [] h := by
  obtain ⟨v, h1, h2, k1, ⟨k2, ⟨fm, hm⟩⟩, I2⟩ := P
  obtain ⟨fx, hx⟩ := INV_x I
  refine r_aload_n X 1 dL_law_1150 rfl ?_
  refine r_aload_n X 0 dL_law_1151 rfl ?_
  refine r_iload_n X 3 dL_law_1152 rfl ?_
  refine r_iconst X (nI 1) dL_law_1153 (by decide) ?_
  refine r_iaddn X dL_law_1154 ?_
  refine r_scr X S (by omega) hL dL_law_1155 ?_
  refine r_aload_n X 0 dL_law_1156 rfl ?_
  refine r_iload_n X 3 dL_law_1157 rfl ?_
  refine r_iconst X (nI 2) dL_law_1158 (by decide) ?_
  refine r_iaddn X dL_law_1159 ?_
  refine r_scr X S (by omega) hL dL_law_1160 ?_
  refine r_invV X (As := [.int (xs (6 * k + 1)), .int (xs (6 * k + 2))]) (st := []) (wG 914 (by decide +kernel) (by decide +kernel)) ki_X7_ask ks_X7_ask kn_RX7 kc_X7_ask kd_X7_ask rfl hn1 (by decide) dL_law_1161 rfl (Nat.le_of_ble_eq_true rfl) hx k1 ?_
  refine r_aload_n X 2 dL_law_1164 rfl ?_
  refine r_aload_n X 0 dL_law_1165 rfl ?_
  refine r_iload_n X 3 dL_law_1166 rfl ?_
  refine r_iconst X (nI 1) dL_law_1167 (by decide) ?_
  refine r_iaddn X dL_law_1168 ?_
  refine r_scr X S (by omega) hL dL_law_1169 ?_
  refine r_aload_n X 0 dL_law_1170 rfl ?_
  refine r_iload_n X 3 dL_law_1171 rfl ?_
  refine r_iconst X (nI 2) dL_law_1172 (by decide) ?_
  refine r_iaddn X dL_law_1173 ?_
  refine r_scr X S (by omega) hL dL_law_1174 ?_
  refine r_invV X (As := [.int (xs (6 * k + 1)), .int (xs (6 * k + 2))]) (st := [.int v]) (wG 1410 (by decide +kernel) (by decide +kernel)) ki_X8_ask ks_X8_ask kn_RX8 kc_X8_ask kd_X8_ask rfl hn2 (by decide) dL_law_1175 rfl (Nat.le_of_ble_eq_true rfl) hm k2 ?_
  exact r_icmp_eq X 1242 dL_law_1178 rfl (fun _ => K h2 I2) (fun q => absurd rfl q)
set_option maxRecDepth 20000 in
set_option maxHeartbeats 4000000 in
theorem lw_c33 {Z : mZ} {t b L x mb k n1 n2 : Nat} {xs : Nat → Int32} {h : mHp} (hn1 : n1 + 1 ≤ 10) (hn2 : n2 + 1 ≤ 10) (hL : L ≤ 3072) (hk : 6 * k + 6 ≤ L) (X : mCx Z RL cL_law 4 10) (T : mCt Z t) (S : mSc Z b L xs) (I : INV h x mb) (P : STP Z.1 x mb n1 n2 mX7_trace mX8_trace [.int (xs (6 * k + 1))] h) (K : ∀ h2, INV h2 x mb → SW Z 1242 [(0, .ref b), (1, .ref x), (2, .ref mb), (3, .int (nI (6 * k)))] [] h2) : SW Z 1183 [(0, .ref b), (1, .ref x), (2, .ref mb), (3, .int (nI (6 * k)))] [] h := by
  obtain ⟨v, h1, h2, k1, ⟨k2, ⟨fm, hm⟩⟩, I2⟩ := P
  obtain ⟨fx, hx⟩ := INV_x I
  refine r_aload_n X 1 dL_law_1183 rfl ?_
  refine r_aload_n X 0 dL_law_1184 rfl ?_
  refine r_iload_n X 3 dL_law_1185 rfl ?_
  refine r_iconst X (nI 1) dL_law_1186 (by decide) ?_
  refine r_iaddn X dL_law_1187 ?_
  refine r_scr X S (by omega) hL dL_law_1188 ?_
  refine r_invV X (As := [.int (xs (6 * k + 1))]) (st := []) (wG 967 (by decide +kernel) (by decide +kernel)) ki_X7_trace ks_X7_trace kn_RX7 kc_X7_trace kd_X7_trace rfl hn1 (by decide) dL_law_1189 rfl (Nat.le_of_ble_eq_true rfl) hx k1 ?_
  refine r_aload_n X 2 dL_law_1192 rfl ?_
  refine r_aload_n X 0 dL_law_1193 rfl ?_
  refine r_iload_n X 3 dL_law_1194 rfl ?_
  refine r_iconst X (nI 1) dL_law_1195 (by decide) ?_
  refine r_iaddn X dL_law_1196 ?_
  refine r_scr X S (by omega) hL dL_law_1197 ?_
  refine r_invV X (As := [.int (xs (6 * k + 1))]) (st := [.int v]) (wG 1434 (by decide +kernel) (by decide +kernel)) ki_X8_trace ks_X8_trace kn_RX8 kc_X8_trace kd_X8_trace rfl hn2 (by decide) dL_law_1198 rfl (Nat.le_of_ble_eq_true rfl) hm k2 ?_
  exact r_icmp_eq X 1242 dL_law_1201 rfl (fun _ => K h2 I2) (fun q => absurd rfl q)
set_option maxRecDepth 20000 in
set_option maxHeartbeats 4000000 in
theorem lw_c34 {Z : mZ} {t b L x mb k n1 n2 : Nat} {xs : Nat → Int32} {h : mHp} (hn1 : n1 + 1 ≤ 10) (hn2 : n2 + 1 ≤ 10) (hL : L ≤ 3072) (hk : 6 * k + 6 ≤ L) (X : mCx Z RL cL_law 4 10) (T : mCt Z t) (S : mSc Z b L xs) (I : INV h x mb) (P : STP Z.1 x mb n1 n2 mX7_count mX8_count [.int (xs (6 * k + 1))] h) (K : ∀ h2, INV h2 x mb → SW Z 1242 [(0, .ref b), (1, .ref x), (2, .ref mb), (3, .int (nI (6 * k)))] [] h2) : SW Z 1206 [(0, .ref b), (1, .ref x), (2, .ref mb), (3, .int (nI (6 * k)))] [] h := by
  obtain ⟨v, h1, h2, k1, ⟨k2, ⟨fm, hm⟩⟩, I2⟩ := P
  obtain ⟨fx, hx⟩ := INV_x I
  refine r_aload_n X 1 dL_law_1206 rfl ?_
  refine r_aload_n X 0 dL_law_1207 rfl ?_
  refine r_iload_n X 3 dL_law_1208 rfl ?_
  refine r_iconst X (nI 1) dL_law_1209 (by decide) ?_
  refine r_iaddn X dL_law_1210 ?_
  refine r_scr X S (by omega) hL dL_law_1211 ?_
  refine r_invV X (As := [.int (xs (6 * k + 1))]) (st := []) (wG 971 (by decide +kernel) (by decide +kernel)) ki_X7_count ks_X7_count kn_RX7 kc_X7_count kd_X7_count rfl hn1 (by decide) dL_law_1212 rfl (Nat.le_of_ble_eq_true rfl) hx k1 ?_
  refine r_aload_n X 2 dL_law_1215 rfl ?_
  refine r_aload_n X 0 dL_law_1216 rfl ?_
  refine r_iload_n X 3 dL_law_1217 rfl ?_
  refine r_iconst X (nI 1) dL_law_1218 (by decide) ?_
  refine r_iaddn X dL_law_1219 ?_
  refine r_scr X S (by omega) hL dL_law_1220 ?_
  refine r_invV X (As := [.int (xs (6 * k + 1))]) (st := [.int v]) (wG 1438 (by decide +kernel) (by decide +kernel)) ki_X8_count ks_X8_count kn_RX8 kc_X8_count kd_X8_count rfl hn2 (by decide) dL_law_1221 rfl (Nat.le_of_ble_eq_true rfl) hm k2 ?_
  exact r_icmp_eq X 1242 dL_law_1224 rfl (fun _ => K h2 I2) (fun q => absurd rfl q)
set_option maxRecDepth 20000 in
set_option maxHeartbeats 4000000 in
theorem lw_c35 {Z : mZ} {t b L x mb k n1 n2 : Nat} {xs : Nat → Int32} {h : mHp} (hn1 : n1 + 1 ≤ 10) (hn2 : n2 + 1 ≤ 10) (hL : L ≤ 3072) (hk : 6 * k + 6 ≤ L) (X : mCx Z RL cL_law 4 10) (T : mCt Z t) (S : mSc Z b L xs) (I : INV h x mb) (P : STP Z.1 x mb n1 n2 mX7_status mX8_status [] h) (K : ∀ h2, INV h2 x mb → SW Z 1242 [(0, .ref b), (1, .ref x), (2, .ref mb), (3, .int (nI (6 * k)))] [] h2) : SW Z 1229 [(0, .ref b), (1, .ref x), (2, .ref mb), (3, .int (nI (6 * k)))] [] h := by
  obtain ⟨v, h1, h2, k1, ⟨k2, ⟨fm, hm⟩⟩, I2⟩ := P
  obtain ⟨fx, hx⟩ := INV_x I
  refine r_aload_n X 1 dL_law_1229 rfl ?_
  refine r_invV X (As := []) (st := []) (wG 984 (by decide +kernel) (by decide +kernel)) ki_X7_status ks_X7_status kn_RX7 kc_X7_status kd_X7_status rfl hn1 (by decide) dL_law_1230 rfl (Nat.le_of_ble_eq_true rfl) hx k1 ?_
  refine r_aload_n X 2 dL_law_1233 rfl ?_
  refine r_invV X (As := []) (st := [.int v]) (wG 1442 (by decide +kernel) (by decide +kernel)) ki_X8_status ks_X8_status kn_RX8 kc_X8_status kd_X8_status rfl hn2 (by decide) dL_law_1234 rfl (Nat.le_of_ble_eq_true rfl) hm k2 ?_
  exact r_icmp_eq X 1242 dL_law_1237 rfl (fun _ => K h2 I2) (fun q => absurd rfl q)
