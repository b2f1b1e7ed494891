/-! ===== the cases of the law ===== -/
theorem law_c0 {G : GT} {E2 : ET} {ro : Nat → Nat} {d m mB : MI} {i L : Nat} (gd : gD E2 3) (gl : gL E2 435) (gk : gK E2 mB) (hz : E2.sz = 445) (hs : E2.sh 0 = (20, L)) (hL : L ≤ 2048) (hi : i + 3 < L) (hx : ∀ j, i32 (mB 0 j)) (hD : DM d ro m) : ∃ d' ro' m', DM d' ro' m' ∧ ∀ r, sM (xLaw G) 958 (lvL i) [] (eD E2 3 ro') (memL d' m' mB) r → sM (xLaw G) 160 (lvL i) [] (eD E2 3 ro) (memL d m mB) r := by
  obtain ⟨v, d', ro', m', eC, eM, hD'⟩ := addRoad_eq hD (hx (i + 1)) (hx (i + 2)) (hx (i + 3))
  refine ⟨d', ro', m', hD', fun r kk => ?_⟩
  refine sm_aload_n dL_law_160 rfl ?_
  refine law_arg (k := 1) hs hz (by omega) hL dL_law_161 dL_law_162 dL_law_163 dL_law_164 dL_law_165 ?_
  refine law_arg (k := 2) hs hz (by omega) hL dL_law_166 dL_law_167 dL_law_168 dL_law_169 dL_law_170 ?_
  refine law_arg (k := 3) hs hz (by omega) hL dL_law_171 dL_law_172 dL_law_173 dL_law_174 dL_law_175 ?_
  refine sc_callV1 (avs := [.inl (mB 0 (i + 1)), .inl (mB 0 (i + 2)), .inl (mB 0 (i + 3))]) (st := []) lk_RL_13 rfl vf_X9_addRoad (bDesk_addRoad gd eC) ⟨Nat.le_of_ble_eq_true rfl, Nat.le_of_ble_eq_true rfl⟩ ⟨rfl, Nat.le_of_ble_eq_true rfl⟩ gd.2.2.1 (by show 3 < E2.sz; omega) rfl dL_law_176 ?_
  refine sm_aload_n dL_law_179 rfl ?_
  refine law_arg (k := 1) hs hz (by omega) hL dL_law_180 dL_law_181 dL_law_182 dL_law_183 dL_law_184 ?_
  refine law_arg (k := 2) hs hz (by omega) hL dL_law_185 dL_law_186 dL_law_187 dL_law_188 dL_law_189 ?_
  refine law_arg (k := 3) hs hz (by omega) hL dL_law_190 dL_law_191 dL_law_192 dL_law_193 dL_law_194 ?_
  show sM _ _ _ _ _ (sm_gl 3 432 d' (sm_gl 435 10 m mB)) _
  rw [gl_com]
  refine sc_callV1 (avs := [.inl (mB 0 (i + 1)), .inl (mB 0 (i + 2)), .inl (mB 0 (i + 3))]) (st := [.inl v]) lk_RL_17 rfl vf_X10_addRoad (bModel_addRoad (gL_e gl (by omega)) eM) ⟨Nat.le_of_ble_eq_true rfl, Nat.le_of_ble_eq_true rfl⟩ ⟨rfl, Nat.le_of_ble_eq_true rfl⟩ gl.2.2.1 (by show 435 < E2.sz; omega) rfl dL_law_195 ?_
  show sM _ _ _ _ _ (sm_gl 435 10 m' (sm_gl 3 432 d' mB)) _
  rw [← gl_com]
  exact sm_icmp_eq 958 dL_law_198 rfl (fun _ => kk) (fun q => absurd rfl q)
theorem law_c1 {G : GT} {E2 : ET} {ro : Nat → Nat} {d m mB : MI} {i L : Nat} (gd : gD E2 3) (gl : gL E2 435) (gk : gK E2 mB) (hz : E2.sz = 445) (hs : E2.sh 0 = (20, L)) (hL : L ≤ 2048) (hi : i + 3 < L) (hx : ∀ j, i32 (mB 0 j)) (hD : DM d ro m) : ∃ d' ro' m', DM d' ro' m' ∧ ∀ r, sM (xLaw G) 958 (lvL i) [] (eD E2 3 ro') (memL d' m' mB) r → sM (xLaw G) 203 (lvL i) [] (eD E2 3 ro) (memL d m mB) r := by
  obtain ⟨v, d', ro', m', eC, eM, hD'⟩ := addMember_eq hD (hx (i + 1))
  refine ⟨d', ro', m', hD', fun r kk => ?_⟩
  refine sm_aload_n dL_law_203 rfl ?_
  refine law_arg (k := 1) hs hz (by omega) hL dL_law_204 dL_law_205 dL_law_206 dL_law_207 dL_law_208 ?_
  refine sc_callV1 (avs := [.inl (mB 0 (i + 1))]) (st := []) lk_RL_18 rfl vf_X9_addMember (bDesk_addMember gd eC) ⟨Nat.le_of_ble_eq_true rfl, Nat.le_of_ble_eq_true rfl⟩ ⟨rfl, Nat.le_of_ble_eq_true rfl⟩ gd.2.2.1 (by show 3 < E2.sz; omega) rfl dL_law_209 ?_
  refine sm_aload_n dL_law_212 rfl ?_
  refine law_arg (k := 1) hs hz (by omega) hL dL_law_213 dL_law_214 dL_law_215 dL_law_216 dL_law_217 ?_
  show sM _ _ _ _ _ (sm_gl 3 432 d' (sm_gl 435 10 m mB)) _
  rw [gl_com]
  refine sc_callV1 (avs := [.inl (mB 0 (i + 1))]) (st := [.inl v]) lk_RL_22 rfl vf_X10_addMember (bModel_addMember (gL_e gl (by omega)) eM) ⟨Nat.le_of_ble_eq_true rfl, Nat.le_of_ble_eq_true rfl⟩ ⟨rfl, Nat.le_of_ble_eq_true rfl⟩ gl.2.2.1 (by show 435 < E2.sz; omega) rfl dL_law_218 ?_
  show sM _ _ _ _ _ (sm_gl 435 10 m' (sm_gl 3 432 d' mB)) _
  rw [← gl_com]
  exact sm_icmp_eq 958 dL_law_221 rfl (fun _ => kk) (fun q => absurd rfl q)
theorem law_c2 {G : GT} {E2 : ET} {ro : Nat → Nat} {d m mB : MI} {i L : Nat} (gd : gD E2 3) (gl : gL E2 435) (gk : gK E2 mB) (hz : E2.sz = 445) (hs : E2.sh 0 = (20, L)) (hL : L ≤ 2048) (hi : i + 3 < L) (hx : ∀ j, i32 (mB 0 j)) (hD : DM d ro m) : ∃ d' ro' m', DM d' ro' m' ∧ ∀ r, sM (xLaw G) 958 (lvL i) [] (eD E2 3 ro') (memL d' m' mB) r → sM (xLaw G) 226 (lvL i) [] (eD E2 3 ro) (memL d m mB) r := by
  obtain ⟨v, d', ro', m', eC, eM, hD'⟩ := addPatrol_eq hD (hx (i + 1)) (hx (i + 2)) (bz_01 (mB 0 (i + 3)))
  refine ⟨d', ro', m', hD', fun r kk => ?_⟩
  refine sm_aload_n dL_law_226 rfl ?_
  refine law_arg (k := 1) hs hz (by omega) hL dL_law_227 dL_law_228 dL_law_229 dL_law_230 dL_law_231 ?_
  refine law_arg (k := 2) hs hz (by omega) hL dL_law_232 dL_law_233 dL_law_234 dL_law_235 dL_law_236 ?_
  refine law_arg (k := 3) hs hz (by omega) hL dL_law_237 dL_law_238 dL_law_239 dL_law_240 dL_law_241 ?_
  refine law_bool dL_law_242 dL_law_245 dL_law_246 dL_law_249 ?_
  refine sc_callV1 (avs := [.inl (mB 0 (i + 1)), .inl (mB 0 (i + 2)), .inl (bz (mB 0 (i + 3)))]) (st := []) lk_RL_23 rfl vf_X9_addPatrol (bDesk_addPatrol gd eC) ⟨Nat.le_of_ble_eq_true rfl, Nat.le_of_ble_eq_true rfl⟩ ⟨rfl, Nat.le_of_ble_eq_true rfl⟩ gd.2.2.1 (by show 3 < E2.sz; omega) rfl dL_law_250 ?_
  refine sm_aload_n dL_law_253 rfl ?_
  refine law_arg (k := 1) hs hz (by omega) hL dL_law_254 dL_law_255 dL_law_256 dL_law_257 dL_law_258 ?_
  refine law_arg (k := 2) hs hz (by omega) hL dL_law_259 dL_law_260 dL_law_261 dL_law_262 dL_law_263 ?_
  refine law_arg (k := 3) hs hz (by omega) hL dL_law_264 dL_law_265 dL_law_266 dL_law_267 dL_law_268 ?_
  refine law_bool dL_law_269 dL_law_272 dL_law_273 dL_law_276 ?_
  show sM _ _ _ _ _ (sm_gl 3 432 d' (sm_gl 435 10 m mB)) _
  rw [gl_com]
  refine sc_callV1 (avs := [.inl (mB 0 (i + 1)), .inl (mB 0 (i + 2)), .inl (bz (mB 0 (i + 3)))]) (st := [.inl v]) lk_RL_27 rfl vf_X10_addPatrol (bModel_addPatrol (gL_e gl (by omega)) eM) ⟨Nat.le_of_ble_eq_true rfl, Nat.le_of_ble_eq_true rfl⟩ ⟨rfl, Nat.le_of_ble_eq_true rfl⟩ gl.2.2.1 (by show 435 < E2.sz; omega) rfl dL_law_277 ?_
  show sM _ _ _ _ _ (sm_gl 435 10 m' (sm_gl 3 432 d' mB)) _
  rw [← gl_com]
  exact sm_icmp_eq 958 dL_law_280 rfl (fun _ => kk) (fun q => absurd rfl q)
theorem law_c3 {G : GT} {E2 : ET} {ro : Nat → Nat} {d m mB : MI} {i L : Nat} (gd : gD E2 3) (gl : gL E2 435) (gk : gK E2 mB) (hz : E2.sz = 445) (hs : E2.sh 0 = (20, L)) (hL : L ≤ 2048) (hi : i + 3 < L) (hx : ∀ j, i32 (mB 0 j)) (hD : DM d ro m) : ∃ d' ro' m', DM d' ro' m' ∧ ∀ r, sM (xLaw G) 958 (lvL i) [] (eD E2 3 ro') (memL d' m' mB) r → sM (xLaw G) 285 (lvL i) [] (eD E2 3 ro) (memL d m mB) r := by
  obtain ⟨v, d', ro', m', eC, eM, hD'⟩ := addGarage_eq hD (hx (i + 1)) (hx (i + 2))
  refine ⟨d', ro', m', hD', fun r kk => ?_⟩
  refine sm_aload_n dL_law_285 rfl ?_
  refine law_arg (k := 1) hs hz (by omega) hL dL_law_286 dL_law_287 dL_law_288 dL_law_289 dL_law_290 ?_
  refine law_arg (k := 2) hs hz (by omega) hL dL_law_291 dL_law_292 dL_law_293 dL_law_294 dL_law_295 ?_
  refine sc_callV1 (avs := [.inl (mB 0 (i + 1)), .inl (mB 0 (i + 2))]) (st := []) lk_RL_28 rfl vf_X9_addGarage (bDesk_addGarage gd eC) ⟨Nat.le_of_ble_eq_true rfl, Nat.le_of_ble_eq_true rfl⟩ ⟨rfl, Nat.le_of_ble_eq_true rfl⟩ gd.2.2.1 (by show 3 < E2.sz; omega) rfl dL_law_296 ?_
  refine sm_aload_n dL_law_299 rfl ?_
  refine law_arg (k := 1) hs hz (by omega) hL dL_law_300 dL_law_301 dL_law_302 dL_law_303 dL_law_304 ?_
  refine law_arg (k := 2) hs hz (by omega) hL dL_law_305 dL_law_306 dL_law_307 dL_law_308 dL_law_309 ?_
  show sM _ _ _ _ _ (sm_gl 3 432 d' (sm_gl 435 10 m mB)) _
  rw [gl_com]
  refine sc_callV1 (avs := [.inl (mB 0 (i + 1)), .inl (mB 0 (i + 2))]) (st := [.inl v]) lk_RL_32 rfl vf_X10_addGarage (bModel_addGarage (gL_e gl (by omega)) eM) ⟨Nat.le_of_ble_eq_true rfl, Nat.le_of_ble_eq_true rfl⟩ ⟨rfl, Nat.le_of_ble_eq_true rfl⟩ gl.2.2.1 (by show 435 < E2.sz; omega) rfl dL_law_310 ?_
  show sM _ _ _ _ _ (sm_gl 435 10 m' (sm_gl 3 432 d' mB)) _
  rw [← gl_com]
  exact sm_icmp_eq 958 dL_law_313 rfl (fun _ => kk) (fun q => absurd rfl q)
theorem law_c4 {G : GT} {E2 : ET} {ro : Nat → Nat} {d m mB : MI} {i L : Nat} (gd : gD E2 3) (gl : gL E2 435) (gk : gK E2 mB) (hz : E2.sz = 445) (hs : E2.sh 0 = (20, L)) (hL : L ≤ 2048) (hi : i + 3 < L) (hx : ∀ j, i32 (mB 0 j)) (hD : DM d ro m) : ∃ d' ro' m', DM d' ro' m' ∧ ∀ r, sM (xLaw G) 958 (lvL i) [] (eD E2 3 ro') (memL d' m' mB) r → sM (xLaw G) 318 (lvL i) [] (eD E2 3 ro) (memL d m mB) r := by
  obtain ⟨v, d', ro', m', eC, eM, hD'⟩ := setPromise_eq hD (hx (i + 1)) (hx (i + 2))
  refine ⟨d', ro', m', hD', fun r kk => ?_⟩
  refine sm_aload_n dL_law_318 rfl ?_
  refine law_arg (k := 1) hs hz (by omega) hL dL_law_319 dL_law_320 dL_law_321 dL_law_322 dL_law_323 ?_
  refine law_arg (k := 2) hs hz (by omega) hL dL_law_324 dL_law_325 dL_law_326 dL_law_327 dL_law_328 ?_
  refine sc_callV1 (avs := [.inl (mB 0 (i + 1)), .inl (mB 0 (i + 2))]) (st := []) lk_RL_33 rfl vf_X9_setPromise (bDesk_setPromise gd eC) ⟨Nat.le_of_ble_eq_true rfl, Nat.le_of_ble_eq_true rfl⟩ ⟨rfl, Nat.le_of_ble_eq_true rfl⟩ gd.2.2.1 (by show 3 < E2.sz; omega) rfl dL_law_329 ?_
  refine sm_aload_n dL_law_332 rfl ?_
  refine law_arg (k := 1) hs hz (by omega) hL dL_law_333 dL_law_334 dL_law_335 dL_law_336 dL_law_337 ?_
  refine law_arg (k := 2) hs hz (by omega) hL dL_law_338 dL_law_339 dL_law_340 dL_law_341 dL_law_342 ?_
  show sM _ _ _ _ _ (sm_gl 3 432 d' (sm_gl 435 10 m mB)) _
  rw [gl_com]
  refine sc_callV1 (avs := [.inl (mB 0 (i + 1)), .inl (mB 0 (i + 2))]) (st := [.inl v]) lk_RL_36 rfl vf_X10_setPromise (bModel_setPromise (gL_e gl (by omega)) eM) ⟨Nat.le_of_ble_eq_true rfl, Nat.le_of_ble_eq_true rfl⟩ ⟨rfl, Nat.le_of_ble_eq_true rfl⟩ gl.2.2.1 (by show 435 < E2.sz; omega) rfl dL_law_343 ?_
  show sM _ _ _ _ _ (sm_gl 435 10 m' (sm_gl 3 432 d' mB)) _
  rw [← gl_com]
  exact sm_icmp_eq 958 dL_law_346 rfl (fun _ => kk) (fun q => absurd rfl q)
theorem law_c5 {G : GT} {E2 : ET} {ro : Nat → Nat} {d m mB : MI} {i L : Nat} (gd : gD E2 3) (gl : gL E2 435) (gk : gK E2 mB) (hz : E2.sz = 445) (hs : E2.sh 0 = (20, L)) (hL : L ≤ 2048) (hi : i + 3 < L) (hx : ∀ j, i32 (mB 0 j)) (hD : DM d ro m) : ∃ d' ro' m', DM d' ro' m' ∧ ∀ r, sM (xLaw G) 958 (lvL i) [] (eD E2 3 ro') (memL d' m' mB) r → sM (xLaw G) 351 (lvL i) [] (eD E2 3 ro) (memL d m mB) r := by
  obtain ⟨v, d', ro', m', eC, eM, hD'⟩ := setWeather_eq hD (hx (i + 1))
  refine ⟨d', ro', m', hD', fun r kk => ?_⟩
  refine sm_aload_n dL_law_351 rfl ?_
  refine law_arg (k := 1) hs hz (by omega) hL dL_law_352 dL_law_353 dL_law_354 dL_law_355 dL_law_356 ?_
  refine sc_callV1 (avs := [.inl (mB 0 (i + 1))]) (st := []) lk_RL_37 rfl vf_X9_setWeather (bDesk_setWeather gd eC) ⟨Nat.le_of_ble_eq_true rfl, Nat.le_of_ble_eq_true rfl⟩ ⟨rfl, Nat.le_of_ble_eq_true rfl⟩ gd.2.2.1 (by show 3 < E2.sz; omega) rfl dL_law_357 ?_
  refine sm_aload_n dL_law_360 rfl ?_
  refine law_arg (k := 1) hs hz (by omega) hL dL_law_361 dL_law_362 dL_law_363 dL_law_364 dL_law_365 ?_
  show sM _ _ _ _ _ (sm_gl 3 432 d' (sm_gl 435 10 m mB)) _
  rw [gl_com]
  refine sc_callV1 (avs := [.inl (mB 0 (i + 1))]) (st := [.inl v]) lk_RL_40 rfl vf_X10_setWeather (bModel_setWeather (gL_e gl (by omega)) eM) ⟨Nat.le_of_ble_eq_true rfl, Nat.le_of_ble_eq_true rfl⟩ ⟨rfl, Nat.le_of_ble_eq_true rfl⟩ gl.2.2.1 (by show 435 < E2.sz; omega) rfl dL_law_366 ?_
  show sM _ _ _ _ _ (sm_gl 435 10 m' (sm_gl 3 432 d' mB)) _
  rw [← gl_com]
  exact sm_icmp_eq 958 dL_law_369 rfl (fun _ => kk) (fun q => absurd rfl q)
theorem law_c6 {G : GT} {E2 : ET} {ro : Nat → Nat} {d m mB : MI} {i L : Nat} (gd : gD E2 3) (gl : gL E2 435) (gk : gK E2 mB) (hz : E2.sz = 445) (hs : E2.sh 0 = (20, L)) (hL : L ≤ 2048) (hi : i + 3 < L) (hx : ∀ j, i32 (mB 0 j)) (hD : DM d ro m) : ∃ d' ro' m', DM d' ro' m' ∧ ∀ r, sM (xLaw G) 958 (lvL i) [] (eD E2 3 ro') (memL d' m' mB) r → sM (xLaw G) 374 (lvL i) [] (eD E2 3 ro) (memL d m mB) r := by
  obtain ⟨v, d', ro', m', eC, eM, hD'⟩ := call_eq hD (hx (i + 1)) (hx (i + 2)) (hx (i + 3))
  refine ⟨d', ro', m', hD', fun r kk => ?_⟩
  refine sm_aload_n dL_law_374 rfl ?_
  refine law_arg (k := 1) hs hz (by omega) hL dL_law_375 dL_law_376 dL_law_377 dL_law_378 dL_law_379 ?_
  refine law_arg (k := 2) hs hz (by omega) hL dL_law_380 dL_law_381 dL_law_382 dL_law_383 dL_law_384 ?_
  refine law_arg (k := 3) hs hz (by omega) hL dL_law_385 dL_law_386 dL_law_387 dL_law_388 dL_law_389 ?_
  refine sc_callV1 (avs := [.inl (mB 0 (i + 1)), .inl (mB 0 (i + 2)), .inl (mB 0 (i + 3))]) (st := []) lk_RL_41 rfl vf_X9_call (bDesk_call gd eC) ⟨Nat.le_of_ble_eq_true rfl, Nat.le_of_ble_eq_true rfl⟩ ⟨rfl, Nat.le_of_ble_eq_true rfl⟩ gd.2.2.1 (by show 3 < E2.sz; omega) rfl dL_law_390 ?_
  refine sm_aload_n dL_law_393 rfl ?_
  refine law_arg (k := 1) hs hz (by omega) hL dL_law_394 dL_law_395 dL_law_396 dL_law_397 dL_law_398 ?_
  refine law_arg (k := 2) hs hz (by omega) hL dL_law_399 dL_law_400 dL_law_401 dL_law_402 dL_law_403 ?_
  refine law_arg (k := 3) hs hz (by omega) hL dL_law_404 dL_law_405 dL_law_406 dL_law_407 dL_law_408 ?_
  show sM _ _ _ _ _ (sm_gl 3 432 d' (sm_gl 435 10 m mB)) _
  rw [gl_com]
  refine sc_callV1 (avs := [.inl (mB 0 (i + 1)), .inl (mB 0 (i + 2)), .inl (mB 0 (i + 3))]) (st := [.inl v]) lk_RL_44 rfl vf_X10_call (bModel_call (gL_e gl (by omega)) eM) ⟨Nat.le_of_ble_eq_true rfl, Nat.le_of_ble_eq_true rfl⟩ ⟨rfl, Nat.le_of_ble_eq_true rfl⟩ gl.2.2.1 (by show 435 < E2.sz; omega) rfl dL_law_409 ?_
  show sM _ _ _ _ _ (sm_gl 435 10 m' (sm_gl 3 432 d' mB)) _
  rw [← gl_com]
  exact sm_icmp_eq 958 dL_law_412 rfl (fun _ => kk) (fun q => absurd rfl q)
theorem law_c7 {G : GT} {E2 : ET} {ro : Nat → Nat} {d m mB : MI} {i L : Nat} (gd : gD E2 3) (gl : gL E2 435) (gk : gK E2 mB) (hz : E2.sz = 445) (hs : E2.sh 0 = (20, L)) (hL : L ≤ 2048) (hi : i + 3 < L) (hx : ∀ j, i32 (mB 0 j)) (hD : DM d ro m) : ∃ d' ro' m', DM d' ro' m' ∧ ∀ r, sM (xLaw G) 958 (lvL i) [] (eD E2 3 ro') (memL d' m' mB) r → sM (xLaw G) 417 (lvL i) [] (eD E2 3 ro) (memL d m mB) r := by
  obtain ⟨v, d', ro', m', eC, eM, hD'⟩ := cancel_eq hD (hx (i + 1))
  refine ⟨d', ro', m', hD', fun r kk => ?_⟩
  refine sm_aload_n dL_law_417 rfl ?_
  refine law_arg (k := 1) hs hz (by omega) hL dL_law_418 dL_law_419 dL_law_420 dL_law_421 dL_law_422 ?_
  refine sc_callV1 (avs := [.inl (mB 0 (i + 1))]) (st := []) lk_RL_45 rfl vf_X9_cancel (bDesk_cancel gd eC) ⟨Nat.le_of_ble_eq_true rfl, Nat.le_of_ble_eq_true rfl⟩ ⟨rfl, Nat.le_of_ble_eq_true rfl⟩ gd.2.2.1 (by show 3 < E2.sz; omega) rfl dL_law_423 ?_
  refine sm_aload_n dL_law_426 rfl ?_
  refine law_arg (k := 1) hs hz (by omega) hL dL_law_427 dL_law_428 dL_law_429 dL_law_430 dL_law_431 ?_
  show sM _ _ _ _ _ (sm_gl 3 432 d' (sm_gl 435 10 m mB)) _
  rw [gl_com]
  refine sc_callV1 (avs := [.inl (mB 0 (i + 1))]) (st := [.inl v]) lk_RL_48 rfl vf_X10_cancel (bModel_cancel (gL_e gl (by omega)) eM) ⟨Nat.le_of_ble_eq_true rfl, Nat.le_of_ble_eq_true rfl⟩ ⟨rfl, Nat.le_of_ble_eq_true rfl⟩ gl.2.2.1 (by show 435 < E2.sz; omega) rfl dL_law_432 ?_
  show sM _ _ _ _ _ (sm_gl 435 10 m' (sm_gl 3 432 d' mB)) _
  rw [← gl_com]
  exact sm_icmp_eq 958 dL_law_435 rfl (fun _ => kk) (fun q => absurd rfl q)
theorem law_c8 {G : GT} {E2 : ET} {ro : Nat → Nat} {d m mB : MI} {i L : Nat} (gd : gD E2 3) (gl : gL E2 435) (gk : gK E2 mB) (hz : E2.sz = 445) (hs : E2.sh 0 = (20, L)) (hL : L ≤ 2048) (hi : i + 3 < L) (hx : ∀ j, i32 (mB 0 j)) (hD : DM d ro m) : ∃ d' ro' m', DM d' ro' m' ∧ ∀ r, sM (xLaw G) 958 (lvL i) [] (eD E2 3 ro') (memL d' m' mB) r → sM (xLaw G) 440 (lvL i) [] (eD E2 3 ro) (memL d m mB) r := by
  obtain ⟨v, d', ro', m', eC, eM, hD'⟩ := duty_eq hD (hx (i + 1)) (bz_01 (mB 0 (i + 2)))
  refine ⟨d', ro', m', hD', fun r kk => ?_⟩
  refine sm_aload_n dL_law_440 rfl ?_
  refine law_arg (k := 1) hs hz (by omega) hL dL_law_441 dL_law_442 dL_law_443 dL_law_444 dL_law_445 ?_
  refine law_arg (k := 2) hs hz (by omega) hL dL_law_446 dL_law_447 dL_law_448 dL_law_449 dL_law_450 ?_
  refine law_bool dL_law_451 dL_law_454 dL_law_455 dL_law_458 ?_
  refine sc_callV1 (avs := [.inl (mB 0 (i + 1)), .inl (bz (mB 0 (i + 2)))]) (st := []) lk_RL_49 rfl vf_X9_duty (bDesk_duty gd eC) ⟨Nat.le_of_ble_eq_true rfl, Nat.le_of_ble_eq_true rfl⟩ ⟨rfl, Nat.le_of_ble_eq_true rfl⟩ gd.2.2.1 (by show 3 < E2.sz; omega) rfl dL_law_459 ?_
  refine sm_aload_n dL_law_462 rfl ?_
  refine law_arg (k := 1) hs hz (by omega) hL dL_law_463 dL_law_464 dL_law_465 dL_law_466 dL_law_467 ?_
  refine law_arg (k := 2) hs hz (by omega) hL dL_law_468 dL_law_469 dL_law_470 dL_law_471 dL_law_472 ?_
  refine law_bool dL_law_473 dL_law_476 dL_law_477 dL_law_480 ?_
  show sM _ _ _ _ _ (sm_gl 3 432 d' (sm_gl 435 10 m mB)) _
  rw [gl_com]
  refine sc_callV1 (avs := [.inl (mB 0 (i + 1)), .inl (bz (mB 0 (i + 2)))]) (st := [.inl v]) lk_RL_53 rfl vf_X10_duty (bModel_duty (gL_e gl (by omega)) eM) ⟨Nat.le_of_ble_eq_true rfl, Nat.le_of_ble_eq_true rfl⟩ ⟨rfl, Nat.le_of_ble_eq_true rfl⟩ gl.2.2.1 (by show 435 < E2.sz; omega) rfl dL_law_481 ?_
  show sM _ _ _ _ _ (sm_gl 435 10 m' (sm_gl 3 432 d' mB)) _
  rw [← gl_com]
  exact sm_icmp_eq 958 dL_law_484 rfl (fun _ => kk) (fun q => absurd rfl q)
theorem law_c9 {G : GT} {E2 : ET} {ro : Nat → Nat} {d m mB : MI} {i L : Nat} (gd : gD E2 3) (gl : gL E2 435) (gk : gK E2 mB) (hz : E2.sz = 445) (hs : E2.sh 0 = (20, L)) (hL : L ≤ 2048) (hi : i + 3 < L) (hx : ∀ j, i32 (mB 0 j)) (hD : DM d ro m) : ∃ d' ro' m', DM d' ro' m' ∧ ∀ r, sM (xLaw G) 958 (lvL i) [] (eD E2 3 ro') (memL d' m' mB) r → sM (xLaw G) 489 (lvL i) [] (eD E2 3 ro) (memL d m mB) r := by
  obtain ⟨v, d', ro', m', eC, eM, hD'⟩ := goHome_eq hD (hx (i + 1))
  refine ⟨d', ro', m', hD', fun r kk => ?_⟩
  refine sm_aload_n dL_law_489 rfl ?_
  refine law_arg (k := 1) hs hz (by omega) hL dL_law_490 dL_law_491 dL_law_492 dL_law_493 dL_law_494 ?_
  refine sc_callV1 (avs := [.inl (mB 0 (i + 1))]) (st := []) lk_RL_54 rfl vf_X9_goHome (bDesk_goHome gd eC) ⟨Nat.le_of_ble_eq_true rfl, Nat.le_of_ble_eq_true rfl⟩ ⟨rfl, Nat.le_of_ble_eq_true rfl⟩ gd.2.2.1 (by show 3 < E2.sz; omega) rfl dL_law_495 ?_
  refine sm_aload_n dL_law_498 rfl ?_
  refine law_arg (k := 1) hs hz (by omega) hL dL_law_499 dL_law_500 dL_law_501 dL_law_502 dL_law_503 ?_
  show sM _ _ _ _ _ (sm_gl 3 432 d' (sm_gl 435 10 m mB)) _
  rw [gl_com]
  refine sc_callV1 (avs := [.inl (mB 0 (i + 1))]) (st := [.inl v]) lk_RL_57 rfl vf_X10_goHome (bModel_goHome (gL_e gl (by omega)) eM) ⟨Nat.le_of_ble_eq_true rfl, Nat.le_of_ble_eq_true rfl⟩ ⟨rfl, Nat.le_of_ble_eq_true rfl⟩ gl.2.2.1 (by show 435 < E2.sz; omega) rfl dL_law_504 ?_
  show sM _ _ _ _ _ (sm_gl 435 10 m' (sm_gl 3 432 d' mB)) _
  rw [← gl_com]
  exact sm_icmp_eq 958 dL_law_507 rfl (fun _ => kk) (fun q => absurd rfl q)
theorem law_c10 {G : GT} {E2 : ET} {ro : Nat → Nat} {d m mB : MI} {i L : Nat} (gd : gD E2 3) (gl : gL E2 435) (gk : gK E2 mB) (hz : E2.sz = 445) (hs : E2.sh 0 = (20, L)) (hL : L ≤ 2048) (hi : i + 3 < L) (hx : ∀ j, i32 (mB 0 j)) (hD : DM d ro m) : ∃ d' ro' m', DM d' ro' m' ∧ ∀ r, sM (xLaw G) 958 (lvL i) [] (eD E2 3 ro') (memL d' m' mB) r → sM (xLaw G) 512 (lvL i) [] (eD E2 3 ro) (memL d m mB) r := by
  obtain ⟨v, d', ro', m', eC, eM, hD'⟩ := fetch_eq hD (hx (i + 1)) (hx (i + 2))
  refine ⟨d', ro', m', hD', fun r kk => ?_⟩
  refine sm_aload_n dL_law_512 rfl ?_
  refine law_arg (k := 1) hs hz (by omega) hL dL_law_513 dL_law_514 dL_law_515 dL_law_516 dL_law_517 ?_
  refine law_arg (k := 2) hs hz (by omega) hL dL_law_518 dL_law_519 dL_law_520 dL_law_521 dL_law_522 ?_
  refine sc_callV1 (avs := [.inl (mB 0 (i + 1)), .inl (mB 0 (i + 2))]) (st := []) lk_RL_58 rfl vf_X9_fetch (bDesk_fetch gd eC) ⟨Nat.le_of_ble_eq_true rfl, Nat.le_of_ble_eq_true rfl⟩ ⟨rfl, Nat.le_of_ble_eq_true rfl⟩ gd.2.2.1 (by show 3 < E2.sz; omega) rfl dL_law_523 ?_
  refine sm_aload_n dL_law_526 rfl ?_
  refine law_arg (k := 1) hs hz (by omega) hL dL_law_527 dL_law_528 dL_law_529 dL_law_530 dL_law_531 ?_
  refine law_arg (k := 2) hs hz (by omega) hL dL_law_532 dL_law_533 dL_law_534 dL_law_535 dL_law_536 ?_
  show sM _ _ _ _ _ (sm_gl 3 432 d' (sm_gl 435 10 m mB)) _
  rw [gl_com]
  refine sc_callV1 (avs := [.inl (mB 0 (i + 1)), .inl (mB 0 (i + 2))]) (st := [.inl v]) lk_RL_61 rfl vf_X10_fetch (bModel_fetch (gL_e gl (by omega)) eM) ⟨Nat.le_of_ble_eq_true rfl, Nat.le_of_ble_eq_true rfl⟩ ⟨rfl, Nat.le_of_ble_eq_true rfl⟩ gl.2.2.1 (by show 435 < E2.sz; omega) rfl dL_law_537 ?_
  show sM _ _ _ _ _ (sm_gl 435 10 m' (sm_gl 3 432 d' mB)) _
  rw [← gl_com]
  exact sm_icmp_eq 958 dL_law_540 rfl (fun _ => kk) (fun q => absurd rfl q)
theorem law_c11 {G : GT} {E2 : ET} {ro : Nat → Nat} {d m mB : MI} {i L : Nat} (gd : gD E2 3) (gl : gL E2 435) (gk : gK E2 mB) (hz : E2.sz = 445) (hs : E2.sh 0 = (20, L)) (hL : L ≤ 2048) (hi : i + 3 < L) (hx : ∀ j, i32 (mB 0 j)) (hD : DM d ro m) : ∃ d' ro' m', DM d' ro' m' ∧ ∀ r, sM (xLaw G) 958 (lvL i) [] (eD E2 3 ro') (memL d' m' mB) r → sM (xLaw G) 545 (lvL i) [] (eD E2 3 ro) (memL d m mB) r := by
  obtain ⟨v, d', ro', m', eC, eM, hD'⟩ := pass_eq hD (hx (i + 1))
  refine ⟨d', ro', m', hD', fun r kk => ?_⟩
  refine sm_aload_n dL_law_545 rfl ?_
  refine law_arg (k := 1) hs hz (by omega) hL dL_law_546 dL_law_547 dL_law_548 dL_law_549 dL_law_550 ?_
  refine sc_callV1 (avs := [.inl (mB 0 (i + 1))]) (st := []) lk_RL_62 rfl vf_X9_pass (bDesk_pass gd eC) ⟨Nat.le_of_ble_eq_true rfl, Nat.le_of_ble_eq_true rfl⟩ ⟨rfl, Nat.le_of_ble_eq_true rfl⟩ gd.2.2.1 (by show 3 < E2.sz; omega) rfl dL_law_551 ?_
  refine sm_aload_n dL_law_554 rfl ?_
  refine law_arg (k := 1) hs hz (by omega) hL dL_law_555 dL_law_556 dL_law_557 dL_law_558 dL_law_559 ?_
  show sM _ _ _ _ _ (sm_gl 3 432 d' (sm_gl 435 10 m mB)) _
  rw [gl_com]
  refine sc_callV1 (avs := [.inl (mB 0 (i + 1))]) (st := [.inl v]) lk_RL_65 rfl vf_X10_pass (bModel_pass (gL_e gl (by omega)) eM) ⟨Nat.le_of_ble_eq_true rfl, Nat.le_of_ble_eq_true rfl⟩ ⟨rfl, Nat.le_of_ble_eq_true rfl⟩ gl.2.2.1 (by show 435 < E2.sz; omega) rfl dL_law_560 ?_
  show sM _ _ _ _ _ (sm_gl 435 10 m' (sm_gl 3 432 d' mB)) _
  rw [← gl_com]
  exact sm_icmp_eq 958 dL_law_563 rfl (fun _ => kk) (fun q => absurd rfl q)
theorem law_c12 {G : GT} {E2 : ET} {ro : Nat → Nat} {d m mB : MI} {i L : Nat} (gd : gD E2 3) (gl : gL E2 435) (gk : gK E2 mB) (hz : E2.sz = 445) (hs : E2.sh 0 = (20, L)) (hL : L ≤ 2048) (hi : i + 3 < L) (hx : ∀ j, i32 (mB 0 j)) (hD : DM d ro m) : ∃ d' ro' m', DM d' ro' m' ∧ ∀ r, sM (xLaw G) 958 (lvL i) [] (eD E2 3 ro') (memL d' m' mB) r → sM (xLaw G) 568 (lvL i) [] (eD E2 3 ro) (memL d m mB) r := by
  obtain ⟨v, d', m', eC, eM, hD'⟩ := type_eq hD (i2c_b (mB 0 (i + 1)))
  refine ⟨d', ro, m', hD', fun r kk => ?_⟩
  refine sm_aload_n dL_law_568 rfl ?_
  refine law_arg (k := 1) hs hz (by omega) hL dL_law_569 dL_law_570 dL_law_571 dL_law_572 dL_law_573 ?_
  refine sm_i2c_row dL_law_574 ?_
  refine sc_callV1 (avs := [.inl (sm_i2c (mB 0 (i + 1)))]) (st := []) lk_RL_66 rfl vf_X9_type (bDesk_type (gd.e ro) eC) ⟨Nat.le_of_ble_eq_true rfl, Nat.le_of_ble_eq_true rfl⟩ ⟨rfl, Nat.le_of_ble_eq_true rfl⟩ gd.2.2.1 (by show 3 < E2.sz; omega) rfl dL_law_575 ?_
  refine sm_aload_n dL_law_578 rfl ?_
  refine law_arg (k := 1) hs hz (by omega) hL dL_law_579 dL_law_580 dL_law_581 dL_law_582 dL_law_583 ?_
  refine sm_i2c_row dL_law_584 ?_
  show sM _ _ _ _ _ (sm_gl 3 432 d' (sm_gl 435 10 m mB)) _
  rw [gl_com]
  refine sc_callV1 (avs := [.inl (sm_i2c (mB 0 (i + 1)))]) (st := [.inl v]) lk_RL_70 rfl vf_X10_type (bModel_type (gL_e gl (by omega)) eM) ⟨Nat.le_of_ble_eq_true rfl, Nat.le_of_ble_eq_true rfl⟩ ⟨rfl, Nat.le_of_ble_eq_true rfl⟩ gl.2.2.1 (by show 435 < E2.sz; omega) rfl dL_law_585 ?_
  show sM _ _ _ _ _ (sm_gl 435 10 m' (sm_gl 3 432 d' mB)) _
  rw [← gl_com]
  exact sm_icmp_eq 958 dL_law_588 rfl (fun _ => kk) (fun q => absurd rfl q)
theorem law_c13 {G : GT} {E2 : ET} {ro : Nat → Nat} {d m mB : MI} {i L : Nat} (gd : gD E2 3) (gl : gL E2 435) (gk : gK E2 mB) (hz : E2.sz = 445) (hs : E2.sh 0 = (20, L)) (hL : L ≤ 2048) (hi : i + 3 < L) (hx : ∀ j, i32 (mB 0 j)) (hD : DM d ro m) : ∃ d' ro' m', DM d' ro' m' ∧ ∀ r, sM (xLaw G) 958 (lvL i) [] (eD E2 3 ro') (memL d' m' mB) r → sM (xLaw G) 593 (lvL i) [] (eD E2 3 ro) (memL d m mB) r := by
  obtain ⟨v, d', m', eC, eM, hD'⟩ := clearText_eq hD
  refine ⟨d', ro, m', hD', fun r kk => ?_⟩
  refine sm_aload_n dL_law_593 rfl ?_
  refine sc_callV1 (avs := []) (st := []) lk_RL_71 rfl vf_X9_clearText (bDesk_clearText (gd.e ro) eC) ⟨Nat.le_of_ble_eq_true rfl, Nat.le_of_ble_eq_true rfl⟩ ⟨rfl, Nat.le_of_ble_eq_true rfl⟩ gd.2.2.1 (by show 3 < E2.sz; omega) rfl dL_law_594 ?_
  refine sm_aload_n dL_law_597 rfl ?_
  show sM _ _ _ _ _ (sm_gl 3 432 d' (sm_gl 435 10 m mB)) _
  rw [gl_com]
  refine sc_callV1 (avs := []) (st := [.inl v]) lk_RL_75 rfl vf_X10_clearText (bModel_clearText (gL_e gl (by omega)) eM) ⟨Nat.le_of_ble_eq_true rfl, Nat.le_of_ble_eq_true rfl⟩ ⟨rfl, Nat.le_of_ble_eq_true rfl⟩ gl.2.2.1 (by show 435 < E2.sz; omega) rfl dL_law_598 ?_
  show sM _ _ _ _ _ (sm_gl 435 10 m' (sm_gl 3 432 d' mB)) _
  rw [← gl_com]
  exact sm_icmp_eq 958 dL_law_601 rfl (fun _ => kk) (fun q => absurd rfl q)
theorem law_c14 {G : GT} {E2 : ET} {ro : Nat → Nat} {d m mB : MI} {i L : Nat} (gd : gD E2 3) (gl : gL E2 435) (gk : gK E2 mB) (hz : E2.sz = 445) (hs : E2.sh 0 = (20, L)) (hL : L ≤ 2048) (hi : i + 3 < L) (hx : ∀ j, i32 (mB 0 j)) (hD : DM d ro m) : ∃ d' ro' m', DM d' ro' m' ∧ ∀ r, sM (xLaw G) 958 (lvL i) [] (eD E2 3 ro') (memL d' m' mB) r → sM (xLaw G) 606 (lvL i) [] (eD E2 3 ro) (memL d m mB) r := by
  obtain ⟨v, d', ro', m', eC, eM, hD'⟩ := readCalls_eq hD
  refine ⟨d', ro', m', hD', fun r kk => ?_⟩
  refine sm_aload_n dL_law_606 rfl ?_
  refine sc_callV1 (avs := []) (st := []) lk_RL_76 rfl vf_X9_readCalls (bDesk_readCalls gd (gk.gl (by omega)) eC) ⟨Nat.le_of_ble_eq_true rfl, Nat.le_of_ble_eq_true rfl⟩ ⟨rfl, Nat.le_of_ble_eq_true rfl⟩ gd.2.2.1 (by show 3 < E2.sz; omega) rfl dL_law_607 ?_
  refine sm_aload_n dL_law_610 rfl ?_
  show sM _ _ _ _ _ (sm_gl 3 432 d' (sm_gl 435 10 m mB)) _
  rw [gl_com]
  refine sc_callV1 (avs := []) (st := [.inl v]) lk_RL_79 rfl vf_X10_readCalls (bModel_readCalls (gL_e gl (by omega)) eM) ⟨Nat.le_of_ble_eq_true rfl, Nat.le_of_ble_eq_true rfl⟩ ⟨rfl, Nat.le_of_ble_eq_true rfl⟩ gl.2.2.1 (by show 435 < E2.sz; omega) rfl dL_law_611 ?_
  show sM _ _ _ _ _ (sm_gl 435 10 m' (sm_gl 3 432 d' mB)) _
  rw [← gl_com]
  exact sm_icmp_eq 958 dL_law_614 rfl (fun _ => kk) (fun q => absurd rfl q)
theorem law_c15 {G : GT} {E2 : ET} {ro : Nat → Nat} {d m mB : MI} {i L : Nat} (gd : gD E2 3) (gl : gL E2 435) (gk : gK E2 mB) (hz : E2.sz = 445) (hs : E2.sh 0 = (20, L)) (hL : L ≤ 2048) (hi : i + 3 < L) (hx : ∀ j, i32 (mB 0 j)) (hD : DM d ro m) : ∃ d' ro' m', DM d' ro' m' ∧ ∀ r, sM (xLaw G) 958 (lvL i) [] (eD E2 3 ro') (memL d' m' mB) r → sM (xLaw G) 619 (lvL i) [] (eD E2 3 ro) (memL d m mB) r := by
  obtain ⟨v, d', ro', m', eC, eM, hD'⟩ := undo_eq hD
  refine ⟨d', ro', m', hD', fun r kk => ?_⟩
  refine sm_aload_n dL_law_619 rfl ?_
  refine sc_callV1 (avs := []) (st := []) lk_RL_80 rfl vf_X9_undo (bDesk_undo gd eC) ⟨Nat.le_of_ble_eq_true rfl, Nat.le_of_ble_eq_true rfl⟩ ⟨rfl, Nat.le_of_ble_eq_true rfl⟩ gd.2.2.1 (by show 3 < E2.sz; omega) rfl dL_law_620 ?_
  refine sm_aload_n dL_law_623 rfl ?_
  show sM _ _ _ _ _ (sm_gl 3 432 d' (sm_gl 435 10 m mB)) _
  rw [gl_com]
  refine sc_callV1 (avs := []) (st := [.inl v]) lk_RL_83 rfl vf_X10_undo (bModel_undo (gL_e gl (by omega)) eM) ⟨Nat.le_of_ble_eq_true rfl, Nat.le_of_ble_eq_true rfl⟩ ⟨rfl, Nat.le_of_ble_eq_true rfl⟩ gl.2.2.1 (by show 435 < E2.sz; omega) rfl dL_law_624 ?_
  show sM _ _ _ _ _ (sm_gl 435 10 m' (sm_gl 3 432 d' mB)) _
  rw [← gl_com]
  exact sm_icmp_eq 958 dL_law_627 rfl (fun _ => kk) (fun q => absurd rfl q)
theorem law_c16 {G : GT} {E2 : ET} {ro : Nat → Nat} {d m mB : MI} {i L : Nat} (gd : gD E2 3) (gl : gL E2 435) (gk : gK E2 mB) (hz : E2.sz = 445) (hs : E2.sh 0 = (20, L)) (hL : L ≤ 2048) (hi : i + 3 < L) (hx : ∀ j, i32 (mB 0 j)) (hD : DM d ro m) : ∃ d' ro' m', DM d' ro' m' ∧ ∀ r, sM (xLaw G) 958 (lvL i) [] (eD E2 3 ro') (memL d' m' mB) r → sM (xLaw G) 632 (lvL i) [] (eD E2 3 ro) (memL d m mB) r := by
  obtain ⟨v, d', m', eC, eM, hD'⟩ := keep_eq hD
  refine ⟨d', ro, m', hD', fun r kk => ?_⟩
  refine sm_aload_n dL_law_632 rfl ?_
  refine sc_callV1 (avs := []) (st := []) lk_RL_84 rfl vf_X9_keep (bDesk_keep (gd.e ro) eC) ⟨Nat.le_of_ble_eq_true rfl, Nat.le_of_ble_eq_true rfl⟩ ⟨rfl, Nat.le_of_ble_eq_true rfl⟩ gd.2.2.1 (by show 3 < E2.sz; omega) rfl dL_law_633 ?_
  refine sm_aload_n dL_law_636 rfl ?_
  show sM _ _ _ _ _ (sm_gl 3 432 d' (sm_gl 435 10 m mB)) _
  rw [gl_com]
  refine sc_callV1 (avs := []) (st := [.inl v]) lk_RL_87 rfl vf_X10_keep (bModel_keep (gL_e gl (by omega)) eM) ⟨Nat.le_of_ble_eq_true rfl, Nat.le_of_ble_eq_true rfl⟩ ⟨rfl, Nat.le_of_ble_eq_true rfl⟩ gl.2.2.1 (by show 435 < E2.sz; omega) rfl dL_law_637 ?_
  show sM _ _ _ _ _ (sm_gl 435 10 m' (sm_gl 3 432 d' mB)) _
  rw [← gl_com]
  exact sm_icmp_eq 958 dL_law_640 rfl (fun _ => kk) (fun q => absurd rfl q)
theorem law_c17 {G : GT} {E2 : ET} {ro : Nat → Nat} {d m mB : MI} {i L : Nat} (gd : gD E2 3) (gl : gL E2 435) (gk : gK E2 mB) (hz : E2.sz = 445) (hs : E2.sh 0 = (20, L)) (hL : L ≤ 2048) (hi : i + 3 < L) (hx : ∀ j, i32 (mB 0 j)) (hD : DM d ro m) : ∃ d' ro' m', DM d' ro' m' ∧ ∀ r, sM (xLaw G) 958 (lvL i) [] (eD E2 3 ro') (memL d' m' mB) r → sM (xLaw G) 645 (lvL i) [] (eD E2 3 ro) (memL d m mB) r := by
  obtain ⟨v, d', ro', m', eC, eM, hD'⟩ := restore_eq hD
  refine ⟨d', ro', m', hD', fun r kk => ?_⟩
  refine sm_aload_n dL_law_645 rfl ?_
  refine sc_callV1 (avs := []) (st := []) lk_RL_88 rfl vf_X9_restore (bDesk_restore gd eC) ⟨Nat.le_of_ble_eq_true rfl, Nat.le_of_ble_eq_true rfl⟩ ⟨rfl, Nat.le_of_ble_eq_true rfl⟩ gd.2.2.1 (by show 3 < E2.sz; omega) rfl dL_law_646 ?_
  refine sm_aload_n dL_law_649 rfl ?_
  show sM _ _ _ _ _ (sm_gl 3 432 d' (sm_gl 435 10 m mB)) _
  rw [gl_com]
  refine sc_callV1 (avs := []) (st := [.inl v]) lk_RL_91 rfl vf_X10_restore (bModel_restore (gL_e gl (by omega)) eM) ⟨Nat.le_of_ble_eq_true rfl, Nat.le_of_ble_eq_true rfl⟩ ⟨rfl, Nat.le_of_ble_eq_true rfl⟩ gl.2.2.1 (by show 435 < E2.sz; omega) rfl dL_law_650 ?_
  show sM _ _ _ _ _ (sm_gl 435 10 m' (sm_gl 3 432 d' mB)) _
  rw [← gl_com]
  exact sm_icmp_eq 958 dL_law_653 rfl (fun _ => kk) (fun q => absurd rfl q)
theorem law_c18 {G : GT} {E2 : ET} {ro : Nat → Nat} {d m mB : MI} {i L : Nat} (gd : gD E2 3) (gl : gL E2 435) (gk : gK E2 mB) (hz : E2.sz = 445) (hs : E2.sh 0 = (20, L)) (hL : L ≤ 2048) (hi : i + 3 < L) (hx : ∀ j, i32 (mB 0 j)) (hD : DM d ro m) : ∃ d' ro' m', DM d' ro' m' ∧ ∀ r, sM (xLaw G) 958 (lvL i) [] (eD E2 3 ro') (memL d' m' mB) r → sM (xLaw G) 658 (lvL i) [] (eD E2 3 ro) (memL d m mB) r := by
  obtain ⟨v, eC, eM⟩ := distance_eq hD (hx (i + 1)) (hx (i + 2))
  refine ⟨d, ro, m, hD, fun r kk => ?_⟩
  refine sm_aload_n dL_law_658 rfl ?_
  refine law_arg (k := 1) hs hz (by omega) hL dL_law_659 dL_law_660 dL_law_661 dL_law_662 dL_law_663 ?_
  refine law_arg (k := 2) hs hz (by omega) hL dL_law_664 dL_law_665 dL_law_666 dL_law_667 dL_law_668 ?_
  refine sc_callV1 (avs := [.inl (mB 0 (i + 1)), .inl (mB 0 (i + 2))]) (st := []) lk_RL_92 rfl vf_X9_distance (bDesk_distance (gd.e ro) eC) ⟨Nat.le_of_ble_eq_true rfl, Nat.le_of_ble_eq_true rfl⟩ ⟨rfl, Nat.le_of_ble_eq_true rfl⟩ gd.2.2.1 (by show 3 < E2.sz; omega) rfl dL_law_669 ?_
  refine sm_aload_n dL_law_672 rfl ?_
  refine law_arg (k := 1) hs hz (by omega) hL dL_law_673 dL_law_674 dL_law_675 dL_law_676 dL_law_677 ?_
  refine law_arg (k := 2) hs hz (by omega) hL dL_law_678 dL_law_679 dL_law_680 dL_law_681 dL_law_682 ?_
  show sM _ _ _ _ _ (sm_gl 3 432 d (sm_gl 435 10 m mB)) _
  rw [gl_com]
  refine sc_callV1 (avs := [.inl (mB 0 (i + 1)), .inl (mB 0 (i + 2))]) (st := [.inl v]) lk_RL_95 rfl vf_X10_distance (bModel_distance (gL_e gl (by omega)) eM) ⟨Nat.le_of_ble_eq_true rfl, Nat.le_of_ble_eq_true rfl⟩ ⟨rfl, Nat.le_of_ble_eq_true rfl⟩ gl.2.2.1 (by show 435 < E2.sz; omega) rfl dL_law_683 ?_
  show sM _ _ _ _ _ (sm_gl 435 10 m (sm_gl 3 432 d mB)) _
  rw [← gl_com]
  exact sm_icmp_eq 958 dL_law_686 rfl (fun _ => kk) (fun q => absurd rfl q)
theorem law_c19 {G : GT} {E2 : ET} {ro : Nat → Nat} {d m mB : MI} {i L : Nat} (gd : gD E2 3) (gl : gL E2 435) (gk : gK E2 mB) (hz : E2.sz = 445) (hs : E2.sh 0 = (20, L)) (hL : L ≤ 2048) (hi : i + 3 < L) (hx : ∀ j, i32 (mB 0 j)) (hD : DM d ro m) : ∃ d' ro' m', DM d' ro' m' ∧ ∀ r, sM (xLaw G) 958 (lvL i) [] (eD E2 3 ro') (memL d' m' mB) r → sM (xLaw G) 691 (lvL i) [] (eD E2 3 ro) (memL d m mB) r := by
  obtain ⟨v, eC, eM⟩ := wayAt_eq hD (hx (i + 1)) (hx (i + 2)) (hx (i + 3))
  refine ⟨d, ro, m, hD, fun r kk => ?_⟩
  refine sm_aload_n dL_law_691 rfl ?_
  refine law_arg (k := 1) hs hz (by omega) hL dL_law_692 dL_law_693 dL_law_694 dL_law_695 dL_law_696 ?_
  refine law_arg (k := 2) hs hz (by omega) hL dL_law_697 dL_law_698 dL_law_699 dL_law_700 dL_law_701 ?_
  refine law_arg (k := 3) hs hz (by omega) hL dL_law_702 dL_law_703 dL_law_704 dL_law_705 dL_law_706 ?_
  refine sc_callV1 (avs := [.inl (mB 0 (i + 1)), .inl (mB 0 (i + 2)), .inl (mB 0 (i + 3))]) (st := []) lk_RL_96 rfl vf_X9_wayAt (bDesk_wayAt (gd.e ro) eC) ⟨Nat.le_of_ble_eq_true rfl, Nat.le_of_ble_eq_true rfl⟩ ⟨rfl, Nat.le_of_ble_eq_true rfl⟩ gd.2.2.1 (by show 3 < E2.sz; omega) rfl dL_law_707 ?_
  refine sm_aload_n dL_law_710 rfl ?_
  refine law_arg (k := 1) hs hz (by omega) hL dL_law_711 dL_law_712 dL_law_713 dL_law_714 dL_law_715 ?_
  refine law_arg (k := 2) hs hz (by omega) hL dL_law_716 dL_law_717 dL_law_718 dL_law_719 dL_law_720 ?_
  refine law_arg (k := 3) hs hz (by omega) hL dL_law_721 dL_law_722 dL_law_723 dL_law_724 dL_law_725 ?_
  show sM _ _ _ _ _ (sm_gl 3 432 d (sm_gl 435 10 m mB)) _
  rw [gl_com]
  refine sc_callV1 (avs := [.inl (mB 0 (i + 1)), .inl (mB 0 (i + 2)), .inl (mB 0 (i + 3))]) (st := [.inl v]) lk_RL_99 rfl vf_X10_wayAt (bModel_wayAt (gL_e gl (by omega)) eM) ⟨Nat.le_of_ble_eq_true rfl, Nat.le_of_ble_eq_true rfl⟩ ⟨rfl, Nat.le_of_ble_eq_true rfl⟩ gl.2.2.1 (by show 435 < E2.sz; omega) rfl dL_law_726 ?_
  show sM _ _ _ _ _ (sm_gl 435 10 m (sm_gl 3 432 d mB)) _
  rw [← gl_com]
  exact sm_icmp_eq 958 dL_law_729 rfl (fun _ => kk) (fun q => absurd rfl q)
theorem law_c20 {G : GT} {E2 : ET} {ro : Nat → Nat} {d m mB : MI} {i L : Nat} (gd : gD E2 3) (gl : gL E2 435) (gk : gK E2 mB) (hz : E2.sz = 445) (hs : E2.sh 0 = (20, L)) (hL : L ≤ 2048) (hi : i + 3 < L) (hx : ∀ j, i32 (mB 0 j)) (hD : DM d ro m) : ∃ d' ro' m', DM d' ro' m' ∧ ∀ r, sM (xLaw G) 958 (lvL i) [] (eD E2 3 ro') (memL d' m' mB) r → sM (xLaw G) 734 (lvL i) [] (eD E2 3 ro) (memL d m mB) r := by
  obtain ⟨v, eC, eM⟩ := member_eq hD (hx (i + 1)) (hx (i + 2))
  refine ⟨d, ro, m, hD, fun r kk => ?_⟩
  refine sm_aload_n dL_law_734 rfl ?_
  refine law_arg (k := 1) hs hz (by omega) hL dL_law_735 dL_law_736 dL_law_737 dL_law_738 dL_law_739 ?_
  refine law_arg (k := 2) hs hz (by omega) hL dL_law_740 dL_law_741 dL_law_742 dL_law_743 dL_law_744 ?_
  refine sc_callV1 (avs := [.inl (mB 0 (i + 1)), .inl (mB 0 (i + 2))]) (st := []) lk_RL_100 rfl vf_X9_member (bDesk_member (gd.e ro) ((gk.gl (by omega)).e ro) eC) ⟨Nat.le_of_ble_eq_true rfl, Nat.le_of_ble_eq_true rfl⟩ ⟨rfl, Nat.le_of_ble_eq_true rfl⟩ gd.2.2.1 (by show 3 < E2.sz; omega) rfl dL_law_745 ?_
  refine sm_aload_n dL_law_748 rfl ?_
  refine law_arg (k := 1) hs hz (by omega) hL dL_law_749 dL_law_750 dL_law_751 dL_law_752 dL_law_753 ?_
  refine law_arg (k := 2) hs hz (by omega) hL dL_law_754 dL_law_755 dL_law_756 dL_law_757 dL_law_758 ?_
  show sM _ _ _ _ _ (sm_gl 3 432 d (sm_gl 435 10 m mB)) _
  rw [gl_com]
  refine sc_callV1 (avs := [.inl (mB 0 (i + 1)), .inl (mB 0 (i + 2))]) (st := [.inl v]) lk_RL_103 rfl vf_X10_member (bModel_member (gL_e gl (by omega)) eM) ⟨Nat.le_of_ble_eq_true rfl, Nat.le_of_ble_eq_true rfl⟩ ⟨rfl, Nat.le_of_ble_eq_true rfl⟩ gl.2.2.1 (by show 435 < E2.sz; omega) rfl dL_law_759 ?_
  show sM _ _ _ _ _ (sm_gl 435 10 m (sm_gl 3 432 d mB)) _
  rw [← gl_com]
  exact sm_icmp_eq 958 dL_law_762 rfl (fun _ => kk) (fun q => absurd rfl q)
theorem law_c21 {G : GT} {E2 : ET} {ro : Nat → Nat} {d m mB : MI} {i L : Nat} (gd : gD E2 3) (gl : gL E2 435) (gk : gK E2 mB) (hz : E2.sz = 445) (hs : E2.sh 0 = (20, L)) (hL : L ≤ 2048) (hi : i + 3 < L) (hx : ∀ j, i32 (mB 0 j)) (hD : DM d ro m) : ∃ d' ro' m', DM d' ro' m' ∧ ∀ r, sM (xLaw G) 958 (lvL i) [] (eD E2 3 ro') (memL d' m' mB) r → sM (xLaw G) 767 (lvL i) [] (eD E2 3 ro) (memL d m mB) r := by
  obtain ⟨v, eC, eM⟩ := patrol_eq hD (hx (i + 1)) (hx (i + 2))
  refine ⟨d, ro, m, hD, fun r kk => ?_⟩
  refine sm_aload_n dL_law_767 rfl ?_
  refine law_arg (k := 1) hs hz (by omega) hL dL_law_768 dL_law_769 dL_law_770 dL_law_771 dL_law_772 ?_
  refine law_arg (k := 2) hs hz (by omega) hL dL_law_773 dL_law_774 dL_law_775 dL_law_776 dL_law_777 ?_
  refine sc_callV1 (avs := [.inl (mB 0 (i + 1)), .inl (mB 0 (i + 2))]) (st := []) lk_RL_104 rfl vf_X9_patrol (bDesk_patrol (gd.e ro) eC) ⟨Nat.le_of_ble_eq_true rfl, Nat.le_of_ble_eq_true rfl⟩ ⟨rfl, Nat.le_of_ble_eq_true rfl⟩ gd.2.2.1 (by show 3 < E2.sz; omega) rfl dL_law_778 ?_
  refine sm_aload_n dL_law_781 rfl ?_
  refine law_arg (k := 1) hs hz (by omega) hL dL_law_782 dL_law_783 dL_law_784 dL_law_785 dL_law_786 ?_
  refine law_arg (k := 2) hs hz (by omega) hL dL_law_787 dL_law_788 dL_law_789 dL_law_790 dL_law_791 ?_
  show sM _ _ _ _ _ (sm_gl 3 432 d (sm_gl 435 10 m mB)) _
  rw [gl_com]
  refine sc_callV1 (avs := [.inl (mB 0 (i + 1)), .inl (mB 0 (i + 2))]) (st := [.inl v]) lk_RL_107 rfl vf_X10_patrol (bModel_patrol (gL_e gl (by omega)) eM) ⟨Nat.le_of_ble_eq_true rfl, Nat.le_of_ble_eq_true rfl⟩ ⟨rfl, Nat.le_of_ble_eq_true rfl⟩ gl.2.2.1 (by show 435 < E2.sz; omega) rfl dL_law_792 ?_
  show sM _ _ _ _ _ (sm_gl 435 10 m (sm_gl 3 432 d mB)) _
  rw [← gl_com]
  exact sm_icmp_eq 958 dL_law_795 rfl (fun _ => kk) (fun q => absurd rfl q)
theorem law_c22 {G : GT} {E2 : ET} {ro : Nat → Nat} {d m mB : MI} {i L : Nat} (gd : gD E2 3) (gl : gL E2 435) (gk : gK E2 mB) (hz : E2.sz = 445) (hs : E2.sh 0 = (20, L)) (hL : L ≤ 2048) (hi : i + 3 < L) (hx : ∀ j, i32 (mB 0 j)) (hD : DM d ro m) : ∃ d' ro' m', DM d' ro' m' ∧ ∀ r, sM (xLaw G) 958 (lvL i) [] (eD E2 3 ro') (memL d' m' mB) r → sM (xLaw G) 800 (lvL i) [] (eD E2 3 ro) (memL d m mB) r := by
  obtain ⟨v, eC, eM⟩ := garage_q hD (hx (i + 1)) (hx (i + 2))
  refine ⟨d, ro, m, hD, fun r kk => ?_⟩
  refine sm_aload_n dL_law_800 rfl ?_
  refine law_arg (k := 1) hs hz (by omega) hL dL_law_801 dL_law_802 dL_law_803 dL_law_804 dL_law_805 ?_
  refine law_arg (k := 2) hs hz (by omega) hL dL_law_806 dL_law_807 dL_law_808 dL_law_809 dL_law_810 ?_
  refine sc_callV1 (avs := [.inl (mB 0 (i + 1)), .inl (mB 0 (i + 2))]) (st := []) lk_RL_108 rfl vf_X9_garage (bDesk_garage (gd.e ro) eC) ⟨Nat.le_of_ble_eq_true rfl, Nat.le_of_ble_eq_true rfl⟩ ⟨rfl, Nat.le_of_ble_eq_true rfl⟩ gd.2.2.1 (by show 3 < E2.sz; omega) rfl dL_law_811 ?_
  refine sm_aload_n dL_law_814 rfl ?_
  refine law_arg (k := 1) hs hz (by omega) hL dL_law_815 dL_law_816 dL_law_817 dL_law_818 dL_law_819 ?_
  refine law_arg (k := 2) hs hz (by omega) hL dL_law_820 dL_law_821 dL_law_822 dL_law_823 dL_law_824 ?_
  show sM _ _ _ _ _ (sm_gl 3 432 d (sm_gl 435 10 m mB)) _
  rw [gl_com]
  refine sc_callV1 (avs := [.inl (mB 0 (i + 1)), .inl (mB 0 (i + 2))]) (st := [.inl v]) lk_RL_111 rfl vf_X10_garage (bModel_garage (gL_e gl (by omega)) eM) ⟨Nat.le_of_ble_eq_true rfl, Nat.le_of_ble_eq_true rfl⟩ ⟨rfl, Nat.le_of_ble_eq_true rfl⟩ gl.2.2.1 (by show 435 < E2.sz; omega) rfl dL_law_825 ?_
  show sM _ _ _ _ _ (sm_gl 435 10 m (sm_gl 3 432 d mB)) _
  rw [← gl_com]
  exact sm_icmp_eq 958 dL_law_828 rfl (fun _ => kk) (fun q => absurd rfl q)
theorem law_c23 {G : GT} {E2 : ET} {ro : Nat → Nat} {d m mB : MI} {i L : Nat} (gd : gD E2 3) (gl : gL E2 435) (gk : gK E2 mB) (hz : E2.sz = 445) (hs : E2.sh 0 = (20, L)) (hL : L ≤ 2048) (hi : i + 3 < L) (hx : ∀ j, i32 (mB 0 j)) (hD : DM d ro m) : ∃ d' ro' m', DM d' ro' m' ∧ ∀ r, sM (xLaw G) 958 (lvL i) [] (eD E2 3 ro') (memL d' m' mB) r → sM (xLaw G) 833 (lvL i) [] (eD E2 3 ro) (memL d m mB) r := by
  obtain ⟨v, eC, eM⟩ := callOf_eq hD (hx (i + 1)) (hx (i + 2))
  refine ⟨d, ro, m, hD, fun r kk => ?_⟩
  refine sm_aload_n dL_law_833 rfl ?_
  refine law_arg (k := 1) hs hz (by omega) hL dL_law_834 dL_law_835 dL_law_836 dL_law_837 dL_law_838 ?_
  refine law_arg (k := 2) hs hz (by omega) hL dL_law_839 dL_law_840 dL_law_841 dL_law_842 dL_law_843 ?_
  refine sc_callV1 (avs := [.inl (mB 0 (i + 1)), .inl (mB 0 (i + 2))]) (st := []) lk_RL_112 rfl vf_X9_callOf (bDesk_callOf (gd.e ro) eC) ⟨Nat.le_of_ble_eq_true rfl, Nat.le_of_ble_eq_true rfl⟩ ⟨rfl, Nat.le_of_ble_eq_true rfl⟩ gd.2.2.1 (by show 3 < E2.sz; omega) rfl dL_law_844 ?_
  refine sm_aload_n dL_law_847 rfl ?_
  refine law_arg (k := 1) hs hz (by omega) hL dL_law_848 dL_law_849 dL_law_850 dL_law_851 dL_law_852 ?_
  refine law_arg (k := 2) hs hz (by omega) hL dL_law_853 dL_law_854 dL_law_855 dL_law_856 dL_law_857 ?_
  show sM _ _ _ _ _ (sm_gl 3 432 d (sm_gl 435 10 m mB)) _
  rw [gl_com]
  refine sc_callV1 (avs := [.inl (mB 0 (i + 1)), .inl (mB 0 (i + 2))]) (st := [.inl v]) lk_RL_115 rfl vf_X10_callOf (bModel_callOf (gL_e gl (by omega)) eM) ⟨Nat.le_of_ble_eq_true rfl, Nat.le_of_ble_eq_true rfl⟩ ⟨rfl, Nat.le_of_ble_eq_true rfl⟩ gl.2.2.1 (by show 435 < E2.sz; omega) rfl dL_law_858 ?_
  show sM _ _ _ _ _ (sm_gl 435 10 m (sm_gl 3 432 d mB)) _
  rw [← gl_com]
  exact sm_icmp_eq 958 dL_law_861 rfl (fun _ => kk) (fun q => absurd rfl q)
theorem law_c24 {G : GT} {E2 : ET} {ro : Nat → Nat} {d m mB : MI} {i L : Nat} (gd : gD E2 3) (gl : gL E2 435) (gk : gK E2 mB) (hz : E2.sz = 445) (hs : E2.sh 0 = (20, L)) (hL : L ≤ 2048) (hi : i + 3 < L) (hx : ∀ j, i32 (mB 0 j)) (hD : DM d ro m) : ∃ d' ro' m', DM d' ro' m' ∧ ∀ r, sM (xLaw G) 958 (lvL i) [] (eD E2 3 ro') (memL d' m' mB) r → sM (xLaw G) 866 (lvL i) [] (eD E2 3 ro) (memL d m mB) r := by
  obtain ⟨v, d', m', eC, eM, hD'⟩ := waiting_eq hD (hx (i + 1))
  refine ⟨d', ro, m', hD', fun r kk => ?_⟩
  refine sm_aload_n dL_law_866 rfl ?_
  refine law_arg (k := 1) hs hz (by omega) hL dL_law_867 dL_law_868 dL_law_869 dL_law_870 dL_law_871 ?_
  refine sc_callV1 (avs := [.inl (mB 0 (i + 1))]) (st := []) lk_RL_116 rfl vf_X9_waiting (bDesk_waiting (gd.e ro) eC) ⟨Nat.le_of_ble_eq_true rfl, Nat.le_of_ble_eq_true rfl⟩ ⟨rfl, Nat.le_of_ble_eq_true rfl⟩ gd.2.2.1 (by show 3 < E2.sz; omega) rfl dL_law_872 ?_
  refine sm_aload_n dL_law_875 rfl ?_
  refine law_arg (k := 1) hs hz (by omega) hL dL_law_876 dL_law_877 dL_law_878 dL_law_879 dL_law_880 ?_
  show sM _ _ _ _ _ (sm_gl 3 432 d' (sm_gl 435 10 m mB)) _
  rw [gl_com]
  refine sc_callV1 (avs := [.inl (mB 0 (i + 1))]) (st := [.inl v]) lk_RL_119 rfl vf_X10_waiting (bModel_waiting (gL_e gl (by omega)) eM) ⟨Nat.le_of_ble_eq_true rfl, Nat.le_of_ble_eq_true rfl⟩ ⟨rfl, Nat.le_of_ble_eq_true rfl⟩ gl.2.2.1 (by show 435 < E2.sz; omega) rfl dL_law_881 ?_
  show sM _ _ _ _ _ (sm_gl 435 10 m' (sm_gl 3 432 d' mB)) _
  rw [← gl_com]
  exact sm_icmp_eq 958 dL_law_884 rfl (fun _ => kk) (fun q => absurd rfl q)
theorem law_c25 {G : GT} {E2 : ET} {ro : Nat → Nat} {d m mB : MI} {i L : Nat} (gd : gD E2 3) (gl : gL E2 435) (gk : gK E2 mB) (hz : E2.sz = 445) (hs : E2.sh 0 = (20, L)) (hL : L ≤ 2048) (hi : i + 3 < L) (hx : ∀ j, i32 (mB 0 j)) (hD : DM d ro m) : ∃ d' ro' m', DM d' ro' m' ∧ ∀ r, sM (xLaw G) 958 (lvL i) [] (eD E2 3 ro') (memL d' m' mB) r → sM (xLaw G) 889 (lvL i) [] (eD E2 3 ro) (memL d m mB) r := by
  obtain ⟨v, eC, eM⟩ := nearest_eq hD (hx (i + 1))
  refine ⟨d, ro, m, hD, fun r kk => ?_⟩
  refine sm_aload_n dL_law_889 rfl ?_
  refine law_arg (k := 1) hs hz (by omega) hL dL_law_890 dL_law_891 dL_law_892 dL_law_893 dL_law_894 ?_
  refine sc_callV1 (avs := [.inl (mB 0 (i + 1))]) (st := []) lk_RL_120 rfl vf_X9_nearest (bDesk_nearest (gd.e ro) eC) ⟨Nat.le_of_ble_eq_true rfl, Nat.le_of_ble_eq_true rfl⟩ ⟨rfl, Nat.le_of_ble_eq_true rfl⟩ gd.2.2.1 (by show 3 < E2.sz; omega) rfl dL_law_895 ?_
  refine sm_aload_n dL_law_898 rfl ?_
  refine law_arg (k := 1) hs hz (by omega) hL dL_law_899 dL_law_900 dL_law_901 dL_law_902 dL_law_903 ?_
  show sM _ _ _ _ _ (sm_gl 3 432 d (sm_gl 435 10 m mB)) _
  rw [gl_com]
  refine sc_callV1 (avs := [.inl (mB 0 (i + 1))]) (st := [.inl v]) lk_RL_123 rfl vf_X10_nearest (bModel_nearest (gL_e gl (by omega)) eM) ⟨Nat.le_of_ble_eq_true rfl, Nat.le_of_ble_eq_true rfl⟩ ⟨rfl, Nat.le_of_ble_eq_true rfl⟩ gl.2.2.1 (by show 435 < E2.sz; omega) rfl dL_law_904 ?_
  show sM _ _ _ _ _ (sm_gl 435 10 m (sm_gl 3 432 d mB)) _
  rw [← gl_com]
  exact sm_icmp_eq 958 dL_law_907 rfl (fun _ => kk) (fun q => absurd rfl q)
theorem law_c26 {G : GT} {E2 : ET} {ro : Nat → Nat} {d m mB : MI} {i L : Nat} (gd : gD E2 3) (gl : gL E2 435) (gk : gK E2 mB) (hz : E2.sz = 445) (hs : E2.sh 0 = (20, L)) (hL : L ≤ 2048) (hi : i + 3 < L) (hx : ∀ j, i32 (mB 0 j)) (hD : DM d ro m) : ∃ d' ro' m', DM d' ro' m' ∧ ∀ r, sM (xLaw G) 958 (lvL i) [] (eD E2 3 ro') (memL d' m' mB) r → sM (xLaw G) 912 (lvL i) [] (eD E2 3 ro) (memL d m mB) r := by
  obtain ⟨v, d', m', eC, eM, hD'⟩ := waitFor_eq hD (hx (i + 1))
  refine ⟨d', ro, m', hD', fun r kk => ?_⟩
  refine sm_aload_n dL_law_912 rfl ?_
  refine law_arg (k := 1) hs hz (by omega) hL dL_law_913 dL_law_914 dL_law_915 dL_law_916 dL_law_917 ?_
  refine sc_callV1 (avs := [.inl (mB 0 (i + 1))]) (st := []) lk_RL_124 rfl vf_X9_waitFor (bDesk_waitFor (gd.e ro) eC) ⟨Nat.le_of_ble_eq_true rfl, Nat.le_of_ble_eq_true rfl⟩ ⟨rfl, Nat.le_of_ble_eq_true rfl⟩ gd.2.2.1 (by show 3 < E2.sz; omega) rfl dL_law_918 ?_
  refine sm_aload_n dL_law_921 rfl ?_
  refine law_arg (k := 1) hs hz (by omega) hL dL_law_922 dL_law_923 dL_law_924 dL_law_925 dL_law_926 ?_
  show sM _ _ _ _ _ (sm_gl 3 432 d' (sm_gl 435 10 m mB)) _
  rw [gl_com]
  refine sc_callV1 (avs := [.inl (mB 0 (i + 1))]) (st := [.inl v]) lk_RL_127 rfl vf_X10_waitFor (bModel_waitFor (gL_e gl (by omega)) eM) ⟨Nat.le_of_ble_eq_true rfl, Nat.le_of_ble_eq_true rfl⟩ ⟨rfl, Nat.le_of_ble_eq_true rfl⟩ gl.2.2.1 (by show 435 < E2.sz; omega) rfl dL_law_927 ?_
  show sM _ _ _ _ _ (sm_gl 435 10 m' (sm_gl 3 432 d' mB)) _
  rw [← gl_com]
  exact sm_icmp_eq 958 dL_law_930 rfl (fun _ => kk) (fun q => absurd rfl q)
theorem law_c27 {G : GT} {E2 : ET} {ro : Nat → Nat} {d m mB : MI} {i L : Nat} (gd : gD E2 3) (gl : gL E2 435) (gk : gK E2 mB) (hz : E2.sz = 445) (hs : E2.sh 0 = (20, L)) (hL : L ≤ 2048) (hi : i + 3 < L) (hx : ∀ j, i32 (mB 0 j)) (hD : DM d ro m) : ∃ d' ro' m', DM d' ro' m' ∧ ∀ r, sM (xLaw G) 958 (lvL i) [] (eD E2 3 ro') (memL d' m' mB) r → sM (xLaw G) 935 (lvL i) [] (eD E2 3 ro) (memL d m mB) r := by
  obtain ⟨v, eC, eM⟩ := count_eq hD (hx (i + 1))
  refine ⟨d, ro, m, hD, fun r kk => ?_⟩
  refine sm_aload_n dL_law_935 rfl ?_
  refine law_arg (k := 1) hs hz (by omega) hL dL_law_936 dL_law_937 dL_law_938 dL_law_939 dL_law_940 ?_
  refine sc_callV1 (avs := [.inl (mB 0 (i + 1))]) (st := []) lk_RL_128 rfl vf_X9_count (bDesk_count (gd.e ro) ((gk.gl (by omega)).e ro) eC) ⟨Nat.le_of_ble_eq_true rfl, Nat.le_of_ble_eq_true rfl⟩ ⟨rfl, Nat.le_of_ble_eq_true rfl⟩ gd.2.2.1 (by show 3 < E2.sz; omega) rfl dL_law_941 ?_
  refine sm_aload_n dL_law_944 rfl ?_
  refine law_arg (k := 1) hs hz (by omega) hL dL_law_945 dL_law_946 dL_law_947 dL_law_948 dL_law_949 ?_
  show sM _ _ _ _ _ (sm_gl 3 432 d (sm_gl 435 10 m mB)) _
  rw [gl_com]
  refine sc_callV1 (avs := [.inl (mB 0 (i + 1))]) (st := [.inl v]) lk_RL_131 rfl vf_X10_count (bModel_count (gL_e gl (by omega)) eM) ⟨Nat.le_of_ble_eq_true rfl, Nat.le_of_ble_eq_true rfl⟩ ⟨rfl, Nat.le_of_ble_eq_true rfl⟩ gl.2.2.1 (by show 435 < E2.sz; omega) rfl dL_law_950 ?_
  show sM _ _ _ _ _ (sm_gl 435 10 m (sm_gl 3 432 d mB)) _
  rw [← gl_com]
  exact sm_icmp_eq 958 dL_law_953 rfl (fun _ => kk) (fun q => absurd rfl q)
