section JCase
variable {p : Program} {l : Launch} {e : Env} {s : State} {m : MethodId} {args : Array Value} {below : List Frame} {meth : Method} {c : Code} {A : Nat → Prop} {D : va_G} {cy : Nat → ClassId} {cells slots : Nat} {Q : State → Prop} {V M : Vt} {ret : Option FieldType} {ls : Array Slot} 
theorem lg_self (y : Int64) : lg_cmp y y = 0 := by
  unfold lg_cmp
  rw [if_neg (show ¬ y > y from Int64.lt_irrefl), if_pos rfl]
set_option maxHeartbeats 4000000 in
set_option maxRecDepth 100000 in
theorem lc_dale (C : Cx p s m args meth c A D cy RL cL_law 4 ret) {b L i : Nat} {xs : Nat → Int32} (X : LX A b L xs s) (hi : i + 6 ≤ L) {ad tk am : Nat → Nat} {nt : Nat} (hR : RLo tk nt V M) (hl : lv_has ls 4 (lwl b (ad 55) (am 0) i)) (hcs : cells + 5 ≤ room_1.cells ∧ slots + 10 ≤ room_1.slots) (kk : ∀ (ad2 tk2 : Nat → Nat) (nt2 : Nat) (V2 M2 : Vt), ad2 55 = ad 55 → RLo tk2 nt2 V2 M2 → J2 p l e room_1 s m args below meth c A D cy (cells + 5) (slots + 10) Q (xS ad2 tk2 nt2) V2 (mS am) M2 (F0 m 1231 ls [])) : J2 p l e room_1 s m args below meth c A D cy cells slots Q (xS ad tk nt) V (mS am) M (F0 m 180 ls []) := by
  obtain ⟨ng, rr, c_0_, h⟩ := hR
  refine g_aload_n C dL_law_180 rfl (lv_at hl 1 rfl) ?_
  refine g_arg C X hl 1 rfl (by omega) dL_law_181 dL_law_182 dL_law_183 dL_law_184 dL_law_185 ?_
  refine g_arg C X hl 2 rfl (by omega) dL_law_186 dL_law_187 dL_law_188 dL_law_189 dL_law_190 ?_
  refine g_arg C X hl 3 rfl (by omega) dL_law_191 dL_law_192 dL_law_193 dL_law_194 dL_law_195 ?_
  refine g_arg C X hl 4 rfl (by omega) dL_law_196 dL_law_197 dL_law_198 dL_law_199 dL_law_200 ?_
  refine g_callX (k := 55) (ci := 11) C [.int (xs (i + 1)), .int (xs (i + 2)), .int (xs (i + 3)), .int (xs (i + 4))] [] (k_X11_dale l ad tk nt V ng rr c_0_ h.1 (xs (i + 1)) (xs (i + 2)) (xs (i + 3)) (xs (i + 4))) v_RL_13 (xl (by decide)) rfl rfl ⟨rfl, rfl, Nat.le_of_ble_eq_true rfl, Nat.le_of_ble_eq_true rfl⟩ rfl hl.1 rfl (Nat.le_of_ble_eq_true rfl) hcs dL_law_201 ?_
  rintro r σ2 V2 ⟨x, rfl, hx⟩
  refine g_aload_n C dL_law_204 rfl (lv_at hl 2 rfl) ?_
  refine g_arg C X hl 1 rfl (by omega) dL_law_205 dL_law_206 dL_law_207 dL_law_208 dL_law_209 ?_
  refine g_arg C X hl 2 rfl (by omega) dL_law_210 dL_law_211 dL_law_212 dL_law_213 dL_law_214 ?_
  refine g_arg C X hl 3 rfl (by omega) dL_law_215 dL_law_216 dL_law_217 dL_law_218 dL_law_219 ?_
  refine g_arg C X hl 4 rfl (by omega) dL_law_220 dL_law_221 dL_law_222 dL_law_223 dL_law_224 ?_
  refine g_callM (k := 0) (ci := 12) C [.int (xs (i + 1)), .int (xs (i + 2)), .int (xs (i + 3)), .int (xs (i + 4))] [.int x] (k_X12_dale l am M (xs (i + 1)) (xs (i + 2)) (xs (i + 3)) (xs (i + 4)) ng rr nt c_0_ h.2.1 ((up2 V 55 9 0) 43 1) ((up2 V 55 9 0) 44) ((up2 V 55 9 0) 45) ((up2 V 55 9 0) 46) ((up2 V 55 9 0) 47)) v_RL_17 (ml (by decide)) rfl rfl ⟨rfl, rfl, Nat.le_of_ble_eq_true rfl, Nat.le_of_ble_eq_true rfl⟩ rfl hl.1 rfl (Nat.le_of_ble_eq_true rfl) ⟨by have := hcs.1; omega, by have := hcs.2; omega⟩ dL_law_225 ?_
  rintro r τ2 M2 ⟨rfl, y, rfl, hy⟩
  obtain ⟨exy, ad2, tk2, nt2, hA2, hs2, hR2⟩ := r_dale (xs (i + 1)) (xs (i + 2)) (xs (i + 3)) (xs (i + 4)) h hx hy
  subst hs2
  refine g_icmp_eq (tgt := 1231) C dL_law_228 (by decide) (fun _ => ?_) (fun w => absurd exy w)
  exact g_more (kc := cells + 5) (ks := slots + 10) (by omega) (by omega) (kk ad2 tk2 nt2 V2 M2 (hA2 55 (by decide)) hR2)
set_option maxHeartbeats 4000000 in
set_option maxRecDepth 100000 in
theorem lc_ofGirl (C : Cx p s m args meth c A D cy RL cL_law 4 ret) {b L i : Nat} {xs : Nat → Int32} (X : LX A b L xs s) (hi : i + 6 ≤ L) {ad tk am : Nat → Nat} {nt : Nat} (hR : RLo tk nt V M) (hl : lv_has ls 4 (lwl b (ad 55) (am 0) i)) (hcs : cells + 5 ≤ room_1.cells ∧ slots + 10 ≤ room_1.slots) (kk : ∀ (ad2 tk2 : Nat → Nat) (nt2 : Nat) (V2 M2 : Vt), ad2 55 = ad 55 → RLo tk2 nt2 V2 M2 → J2 p l e room_1 s m args below meth c A D cy (cells + 5) (slots + 10) Q (xS ad2 tk2 nt2) V2 (mS am) M2 (F0 m 1231 ls [])) : J2 p l e room_1 s m args below meth c A D cy cells slots Q (xS ad tk nt) V (mS am) M (F0 m 233 ls []) := by
  obtain ⟨ng, rr, c_0_, h⟩ := hR
  refine g_aload_n C dL_law_233 rfl (lv_at hl 1 rfl) ?_
  refine g_arg C X hl 1 rfl (by omega) dL_law_234 dL_law_235 dL_law_236 dL_law_237 dL_law_238 ?_
  refine g_arg C X hl 2 rfl (by omega) dL_law_239 dL_law_240 dL_law_241 dL_law_242 dL_law_243 ?_
  refine g_callX (k := 55) (ci := 11) C [.int (xs (i + 1)), .int (xs (i + 2))] [] (k_X11_ofGirl l ad tk nt V ng rr c_0_ h.1 (xs (i + 1)) (xs (i + 2))) v_RL_18 (xl (by decide)) rfl rfl ⟨rfl, rfl, Nat.le_of_ble_eq_true rfl, Nat.le_of_ble_eq_true rfl⟩ rfl hl.1 rfl (Nat.le_of_ble_eq_true rfl) ⟨by have := hcs.1; omega, by have := hcs.2; omega⟩ dL_law_244 ?_
  rintro r σ2 V2 ⟨rfl, x, rfl, hx⟩
  refine g_aload_n C dL_law_247 rfl (lv_at hl 2 rfl) ?_
  refine g_arg C X hl 1 rfl (by omega) dL_law_248 dL_law_249 dL_law_250 dL_law_251 dL_law_252 ?_
  refine g_arg C X hl 2 rfl (by omega) dL_law_253 dL_law_254 dL_law_255 dL_law_256 dL_law_257 ?_
  refine g_callM (k := 0) (ci := 12) C [.int (xs (i + 1)), .int (xs (i + 2))] [.int x] (k_X12_ofGirl l am M (xs (i + 1)) (xs (i + 2)) ng rr nt c_0_ h.2.1 ) v_RL_22 (ml (by decide)) rfl rfl ⟨rfl, rfl, Nat.le_of_ble_eq_true rfl, Nat.le_of_ble_eq_true rfl⟩ rfl hl.1 rfl (Nat.le_of_ble_eq_true rfl) ⟨by have := hcs.1; omega, by have := hcs.2; omega⟩ dL_law_258 ?_
  rintro r τ2 M2 ⟨rfl, y, rfl, hy⟩
  obtain ⟨exy, hR2⟩ := r_ofGirl (xs (i + 1)) (xs (i + 2)) h hx hy
  refine g_icmp_eq (tgt := 1231) C dL_law_261 (by decide) (fun _ => ?_) (fun w => absurd exy w)
  exact g_more (kc := cells + 5) (ks := slots + 10) (by omega) (by omega) (kk ad tk nt V2 M2 rfl hR2)
set_option maxHeartbeats 4000000 in
set_option maxRecDepth 100000 in
theorem lc_ofThrower (C : Cx p s m args meth c A D cy RL cL_law 4 ret) {b L i : Nat} {xs : Nat → Int32} (X : LX A b L xs s) (hi : i + 6 ≤ L) {ad tk am : Nat → Nat} {nt : Nat} (hR : RLo tk nt V M) (hl : lv_has ls 4 (lwl b (ad 55) (am 0) i)) (hcs : cells + 5 ≤ room_1.cells ∧ slots + 10 ≤ room_1.slots) (kk : ∀ (ad2 tk2 : Nat → Nat) (nt2 : Nat) (V2 M2 : Vt), ad2 55 = ad 55 → RLo tk2 nt2 V2 M2 → J2 p l e room_1 s m args below meth c A D cy (cells + 5) (slots + 10) Q (xS ad2 tk2 nt2) V2 (mS am) M2 (F0 m 1231 ls [])) : J2 p l e room_1 s m args below meth c A D cy cells slots Q (xS ad tk nt) V (mS am) M (F0 m 266 ls []) := by
  obtain ⟨ng, rr, c_0_, h⟩ := hR
  refine g_aload_n C dL_law_266 rfl (lv_at hl 1 rfl) ?_
  refine g_arg C X hl 1 rfl (by omega) dL_law_267 dL_law_268 dL_law_269 dL_law_270 dL_law_271 ?_
  refine g_arg C X hl 2 rfl (by omega) dL_law_272 dL_law_273 dL_law_274 dL_law_275 dL_law_276 ?_
  refine g_callX (k := 55) (ci := 11) C [.int (xs (i + 1)), .int (xs (i + 2))] [] (k_X11_ofThrower l ad tk nt V ng rr c_0_ h.1 (xs (i + 1)) (xs (i + 2))) v_RL_23 (xl (by decide)) rfl rfl ⟨rfl, rfl, Nat.le_of_ble_eq_true rfl, Nat.le_of_ble_eq_true rfl⟩ rfl hl.1 rfl (Nat.le_of_ble_eq_true rfl) ⟨by have := hcs.1; omega, by have := hcs.2; omega⟩ dL_law_277 ?_
  rintro r σ2 V2 ⟨rfl, x, rfl, hx⟩
  refine g_aload_n C dL_law_280 rfl (lv_at hl 2 rfl) ?_
  refine g_arg C X hl 1 rfl (by omega) dL_law_281 dL_law_282 dL_law_283 dL_law_284 dL_law_285 ?_
  refine g_arg C X hl 2 rfl (by omega) dL_law_286 dL_law_287 dL_law_288 dL_law_289 dL_law_290 ?_
  refine g_callM (k := 0) (ci := 12) C [.int (xs (i + 1)), .int (xs (i + 2))] [.int x] (k_X12_ofThrower l am M (xs (i + 1)) (xs (i + 2)) ng rr nt c_0_ h.2.1 ) v_RL_26 (ml (by decide)) rfl rfl ⟨rfl, rfl, Nat.le_of_ble_eq_true rfl, Nat.le_of_ble_eq_true rfl⟩ rfl hl.1 rfl (Nat.le_of_ble_eq_true rfl) ⟨by have := hcs.1; omega, by have := hcs.2; omega⟩ dL_law_291 ?_
  rintro r τ2 M2 ⟨rfl, y, rfl, hy⟩
  obtain ⟨exy, hR2⟩ := r_ofThrower (xs (i + 1)) (xs (i + 2)) h hx hy
  refine g_icmp_eq (tgt := 1231) C dL_law_294 (by decide) (fun _ => ?_) (fun w => absurd exy w)
  exact g_more (kc := cells + 5) (ks := slots + 10) (by omega) (by omega) (kk ad tk nt V2 M2 rfl hR2)
set_option maxHeartbeats 4000000 in
set_option maxRecDepth 100000 in
theorem lc_freeze (C : Cx p s m args meth c A D cy RL cL_law 4 ret) {b L i : Nat} {xs : Nat → Int32} (X : LX A b L xs s) (hi : i + 6 ≤ L) {ad tk am : Nat → Nat} {nt : Nat} (hR : RLo tk nt V M) (hl : lv_has ls 4 (lwl b (ad 55) (am 0) i)) (hcs : cells + 5 ≤ room_1.cells ∧ slots + 10 ≤ room_1.slots) (kk : ∀ (ad2 tk2 : Nat → Nat) (nt2 : Nat) (V2 M2 : Vt), ad2 55 = ad 55 → RLo tk2 nt2 V2 M2 → J2 p l e room_1 s m args below meth c A D cy (cells + 5) (slots + 10) Q (xS ad2 tk2 nt2) V2 (mS am) M2 (F0 m 1231 ls [])) : J2 p l e room_1 s m args below meth c A D cy cells slots Q (xS ad tk nt) V (mS am) M (F0 m 299 ls []) := by
  obtain ⟨ng, rr, c_0_, h⟩ := hR
  refine g_aload_n C dL_law_299 rfl (lv_at hl 1 rfl) ?_
  refine g_arg C X hl 1 rfl (by omega) dL_law_300 dL_law_301 dL_law_302 dL_law_303 dL_law_304 ?_
  refine g_callX (k := 55) (ci := 11) C [.int (xs (i + 1))] [] (k_X11_freeze l ad tk nt V ng rr c_0_ h.1 (xs (i + 1))) v_RL_27 (xl (by decide)) rfl rfl ⟨rfl, rfl, Nat.le_of_ble_eq_true rfl, Nat.le_of_ble_eq_true rfl⟩ rfl hl.1 rfl (Nat.le_of_ble_eq_true rfl) ⟨by have := hcs.1; omega, by have := hcs.2; omega⟩ dL_law_305 ?_
  rintro r σ2 V2 ⟨rfl, x, rfl, hx⟩
  refine g_aload_n C dL_law_308 rfl (lv_at hl 2 rfl) ?_
  refine g_arg C X hl 1 rfl (by omega) dL_law_309 dL_law_310 dL_law_311 dL_law_312 dL_law_313 ?_
  refine g_callM (k := 0) (ci := 12) C [.int (xs (i + 1))] [.int x] (k_X12_freeze l am M (xs (i + 1)) ng rr nt c_0_ h.2.1 ) v_RL_31 (ml (by decide)) rfl rfl ⟨rfl, rfl, Nat.le_of_ble_eq_true rfl, Nat.le_of_ble_eq_true rfl⟩ rfl hl.1 rfl (Nat.le_of_ble_eq_true rfl) ⟨by have := hcs.1; omega, by have := hcs.2; omega⟩ dL_law_314 ?_
  rintro r τ2 M2 ⟨rfl, y, rfl, hy⟩
  obtain ⟨exy, hR2⟩ := r_freeze (xs (i + 1)) h hx hy
  refine g_icmp_eq (tgt := 1231) C dL_law_317 (by decide) (fun _ => ?_) (fun w => absurd exy w)
  exact g_more (kc := cells + 5) (ks := slots + 10) (by omega) (by omega) (kk ad tk nt V2 M2 rfl hR2)
set_option maxHeartbeats 4000000 in
set_option maxRecDepth 100000 in
theorem lc_lean (C : Cx p s m args meth c A D cy RL cL_law 4 ret) {b L i : Nat} {xs : Nat → Int32} (X : LX A b L xs s) (hi : i + 6 ≤ L) {ad tk am : Nat → Nat} {nt : Nat} (hR : RLo tk nt V M) (hl : lv_has ls 4 (lwl b (ad 55) (am 0) i)) (hcs : cells + 5 ≤ room_1.cells ∧ slots + 10 ≤ room_1.slots) (kk : ∀ (ad2 tk2 : Nat → Nat) (nt2 : Nat) (V2 M2 : Vt), ad2 55 = ad 55 → RLo tk2 nt2 V2 M2 → J2 p l e room_1 s m args below meth c A D cy (cells + 5) (slots + 10) Q (xS ad2 tk2 nt2) V2 (mS am) M2 (F0 m 1231 ls [])) : J2 p l e room_1 s m args below meth c A D cy cells slots Q (xS ad tk nt) V (mS am) M (F0 m 322 ls []) := by
  obtain ⟨ng, rr, c_0_, h⟩ := hR
  refine g_aload_n C dL_law_322 rfl (lv_at hl 1 rfl) ?_
  refine g_arg C X hl 1 rfl (by omega) dL_law_323 dL_law_324 dL_law_325 dL_law_326 dL_law_327 ?_
  refine g_arg C X hl 2 rfl (by omega) dL_law_328 dL_law_329 dL_law_330 dL_law_331 dL_law_332 ?_
  refine g_callX (k := 55) (ci := 11) C [.int (xs (i + 1)), .int (xs (i + 2))] [] (k_X11_lean l ad tk nt V ng rr c_0_ h.1 (xs (i + 1)) (xs (i + 2))) v_RL_32 (xl (by decide)) rfl rfl ⟨rfl, rfl, Nat.le_of_ble_eq_true rfl, Nat.le_of_ble_eq_true rfl⟩ rfl hl.1 rfl (Nat.le_of_ble_eq_true rfl) ⟨by have := hcs.1; omega, by have := hcs.2; omega⟩ dL_law_333 ?_
  rintro r σ2 V2 ⟨rfl, x, rfl, hx⟩
  refine g_aload_n C dL_law_336 rfl (lv_at hl 2 rfl) ?_
  refine g_arg C X hl 1 rfl (by omega) dL_law_337 dL_law_338 dL_law_339 dL_law_340 dL_law_341 ?_
  refine g_arg C X hl 2 rfl (by omega) dL_law_342 dL_law_343 dL_law_344 dL_law_345 dL_law_346 ?_
  refine g_callM (k := 0) (ci := 12) C [.int (xs (i + 1)), .int (xs (i + 2))] [.int x] (k_X12_lean l am M (xs (i + 1)) (xs (i + 2)) ng rr nt c_0_ h.2.1 ) v_RL_35 (ml (by decide)) rfl rfl ⟨rfl, rfl, Nat.le_of_ble_eq_true rfl, Nat.le_of_ble_eq_true rfl⟩ rfl hl.1 rfl (Nat.le_of_ble_eq_true rfl) ⟨by have := hcs.1; omega, by have := hcs.2; omega⟩ dL_law_347 ?_
  rintro r τ2 M2 ⟨rfl, y, rfl, hy⟩
  obtain ⟨exy, hR2⟩ := r_lean (xs (i + 1)) (xs (i + 2)) h hx hy
  refine g_icmp_eq (tgt := 1231) C dL_law_350 (by decide) (fun _ => ?_) (fun w => absurd exy w)
  exact g_more (kc := cells + 5) (ks := slots + 10) (by omega) (by omega) (kk ad tk nt V2 M2 rfl hR2)
set_option maxHeartbeats 4000000 in
set_option maxRecDepth 100000 in
theorem lc_place (C : Cx p s m args meth c A D cy RL cL_law 4 ret) {b L i : Nat} {xs : Nat → Int32} (X : LX A b L xs s) (hi : i + 6 ≤ L) {ad tk am : Nat → Nat} {nt : Nat} (hR : RLo tk nt V M) (hl : lv_has ls 4 (lwl b (ad 55) (am 0) i)) (hcs : cells + 5 ≤ room_1.cells ∧ slots + 10 ≤ room_1.slots) (kk : ∀ (ad2 tk2 : Nat → Nat) (nt2 : Nat) (V2 M2 : Vt), ad2 55 = ad 55 → RLo tk2 nt2 V2 M2 → J2 p l e room_1 s m args below meth c A D cy (cells + 5) (slots + 10) Q (xS ad2 tk2 nt2) V2 (mS am) M2 (F0 m 1231 ls [])) : J2 p l e room_1 s m args below meth c A D cy cells slots Q (xS ad tk nt) V (mS am) M (F0 m 355 ls []) := by
  obtain ⟨ng, rr, c_0_, h⟩ := hR
  refine g_aload_n C dL_law_355 rfl (lv_at hl 1 rfl) ?_
  refine g_arg C X hl 1 rfl (by omega) dL_law_356 dL_law_357 dL_law_358 dL_law_359 dL_law_360 ?_
  refine g_arg C X hl 2 rfl (by omega) dL_law_361 dL_law_362 dL_law_363 dL_law_364 dL_law_365 ?_
  refine g_callX (k := 55) (ci := 11) C [.int (xs (i + 1)), .int (xs (i + 2))] [] (k_X11_place l ad tk nt V ng rr c_0_ h.1 (xs (i + 1)) (xs (i + 2))) v_RL_36 (xl (by decide)) rfl rfl ⟨rfl, rfl, Nat.le_of_ble_eq_true rfl, Nat.le_of_ble_eq_true rfl⟩ rfl hl.1 rfl (Nat.le_of_ble_eq_true rfl) ⟨by have := hcs.1; omega, by have := hcs.2; omega⟩ dL_law_366 ?_
  rintro r σ2 V2 ⟨rfl, x, rfl, hx⟩
  refine g_aload_n C dL_law_369 rfl (lv_at hl 2 rfl) ?_
  refine g_arg C X hl 1 rfl (by omega) dL_law_370 dL_law_371 dL_law_372 dL_law_373 dL_law_374 ?_
  refine g_arg C X hl 2 rfl (by omega) dL_law_375 dL_law_376 dL_law_377 dL_law_378 dL_law_379 ?_
  refine g_callM (k := 0) (ci := 12) C [.int (xs (i + 1)), .int (xs (i + 2))] [.int x] (k_X12_place l am M (xs (i + 1)) (xs (i + 2)) ng rr nt c_0_ h.2.1 ) v_RL_39 (ml (by decide)) rfl rfl ⟨rfl, rfl, Nat.le_of_ble_eq_true rfl, Nat.le_of_ble_eq_true rfl⟩ rfl hl.1 rfl (Nat.le_of_ble_eq_true rfl) ⟨by have := hcs.1; omega, by have := hcs.2; omega⟩ dL_law_380 ?_
  rintro r τ2 M2 ⟨rfl, y, rfl, hy⟩
  obtain ⟨exy, hR2⟩ := r_place (xs (i + 1)) (xs (i + 2)) h hx hy
  refine g_icmp_eq (tgt := 1231) C dL_law_383 (by decide) (fun _ => ?_) (fun w => absurd exy w)
  exact g_more (kc := cells + 5) (ks := slots + 10) (by omega) (by omega) (kk ad tk nt V2 M2 rfl hR2)
set_option maxHeartbeats 4000000 in
set_option maxRecDepth 100000 in
theorem lc_train (C : Cx p s m args meth c A D cy RL cL_law 4 ret) {b L i : Nat} {xs : Nat → Int32} (X : LX A b L xs s) (hi : i + 6 ≤ L) {ad tk am : Nat → Nat} {nt : Nat} (hR : RLo tk nt V M) (hl : lv_has ls 4 (lwl b (ad 55) (am 0) i)) (hcs : cells + 5 ≤ room_1.cells ∧ slots + 10 ≤ room_1.slots) (kk : ∀ (ad2 tk2 : Nat → Nat) (nt2 : Nat) (V2 M2 : Vt), ad2 55 = ad 55 → RLo tk2 nt2 V2 M2 → J2 p l e room_1 s m args below meth c A D cy (cells + 5) (slots + 10) Q (xS ad2 tk2 nt2) V2 (mS am) M2 (F0 m 1231 ls [])) : J2 p l e room_1 s m args below meth c A D cy cells slots Q (xS ad tk nt) V (mS am) M (F0 m 388 ls []) := by
  obtain ⟨ng, rr, c_0_, h⟩ := hR
  refine g_aload_n C dL_law_388 rfl (lv_at hl 1 rfl) ?_
  refine g_arg C X hl 1 rfl (by omega) dL_law_389 dL_law_390 dL_law_391 dL_law_392 dL_law_393 ?_
  refine g_arg C X hl 2 rfl (by omega) dL_law_394 dL_law_395 dL_law_396 dL_law_397 dL_law_398 ?_
  refine g_callX (k := 55) (ci := 11) C [.int (xs (i + 1)), .int (xs (i + 2))] [] (k_X11_train l ad tk nt V ng rr c_0_ h.1 (xs (i + 1)) (xs (i + 2))) v_RL_40 (xl (by decide)) rfl rfl ⟨rfl, rfl, Nat.le_of_ble_eq_true rfl, Nat.le_of_ble_eq_true rfl⟩ rfl hl.1 rfl (Nat.le_of_ble_eq_true rfl) ⟨by have := hcs.1; omega, by have := hcs.2; omega⟩ dL_law_399 ?_
  rintro r σ2 V2 ⟨rfl, x, rfl, hx⟩
  refine g_aload_n C dL_law_402 rfl (lv_at hl 2 rfl) ?_
  refine g_arg C X hl 1 rfl (by omega) dL_law_403 dL_law_404 dL_law_405 dL_law_406 dL_law_407 ?_
  refine g_arg C X hl 2 rfl (by omega) dL_law_408 dL_law_409 dL_law_410 dL_law_411 dL_law_412 ?_
  refine g_callM (k := 0) (ci := 12) C [.int (xs (i + 1)), .int (xs (i + 2))] [.int x] (k_X12_train l am M (xs (i + 1)) (xs (i + 2)) ng rr nt c_0_ h.2.1 ) v_RL_43 (ml (by decide)) rfl rfl ⟨rfl, rfl, Nat.le_of_ble_eq_true rfl, Nat.le_of_ble_eq_true rfl⟩ rfl hl.1 rfl (Nat.le_of_ble_eq_true rfl) ⟨by have := hcs.1; omega, by have := hcs.2; omega⟩ dL_law_413 ?_
  rintro r τ2 M2 ⟨rfl, y, rfl, hy⟩
  obtain ⟨exy, hR2⟩ := r_train (xs (i + 1)) (xs (i + 2)) h hx hy
  refine g_icmp_eq (tgt := 1231) C dL_law_416 (by decide) (fun _ => ?_) (fun w => absurd exy w)
  exact g_more (kc := cells + 5) (ks := slots + 10) (by omega) (by omega) (kk ad tk nt V2 M2 rfl hR2)
set_option maxHeartbeats 4000000 in
set_option maxRecDepth 100000 in
theorem lc_measure (C : Cx p s m args meth c A D cy RL cL_law 4 ret) {b L i : Nat} {xs : Nat → Int32} (X : LX A b L xs s) (hi : i + 6 ≤ L) {ad tk am : Nat → Nat} {nt : Nat} (hR : RLo tk nt V M) (hl : lv_has ls 4 (lwl b (ad 55) (am 0) i)) (hcs : cells + 5 ≤ room_1.cells ∧ slots + 10 ≤ room_1.slots) (kk : ∀ (ad2 tk2 : Nat → Nat) (nt2 : Nat) (V2 M2 : Vt), ad2 55 = ad 55 → RLo tk2 nt2 V2 M2 → J2 p l e room_1 s m args below meth c A D cy (cells + 5) (slots + 10) Q (xS ad2 tk2 nt2) V2 (mS am) M2 (F0 m 1231 ls [])) : J2 p l e room_1 s m args below meth c A D cy cells slots Q (xS ad tk nt) V (mS am) M (F0 m 421 ls []) := by
  obtain ⟨ng, rr, c_0_, h⟩ := hR
  refine g_aload_n C dL_law_421 rfl (lv_at hl 1 rfl) ?_
  refine g_arg C X hl 1 rfl (by omega) dL_law_422 dL_law_423 dL_law_424 dL_law_425 dL_law_426 ?_
  refine g_arg C X hl 2 rfl (by omega) dL_law_427 dL_law_428 dL_law_429 dL_law_430 dL_law_431 ?_
  refine g_callX (k := 55) (ci := 11) C [.int (xs (i + 1)), .int (xs (i + 2))] [] (k_X11_measure l ad tk nt V ng rr c_0_ h.1 (xs (i + 1)) (xs (i + 2))) v_RL_44 (xl (by decide)) rfl rfl ⟨rfl, rfl, Nat.le_of_ble_eq_true rfl, Nat.le_of_ble_eq_true rfl⟩ rfl hl.1 rfl (Nat.le_of_ble_eq_true rfl) ⟨by have := hcs.1; omega, by have := hcs.2; omega⟩ dL_law_432 ?_
  rintro r σ2 V2 ⟨rfl, x, rfl, hx⟩
  refine g_aload_n C dL_law_435 rfl (lv_at hl 2 rfl) ?_
  refine g_arg C X hl 1 rfl (by omega) dL_law_436 dL_law_437 dL_law_438 dL_law_439 dL_law_440 ?_
  refine g_arg C X hl 2 rfl (by omega) dL_law_441 dL_law_442 dL_law_443 dL_law_444 dL_law_445 ?_
  refine g_callM (k := 0) (ci := 12) C [.int (xs (i + 1)), .int (xs (i + 2))] [.int x] (k_X12_measure l am M (xs (i + 1)) (xs (i + 2)) ng rr nt c_0_ h.2.1 ) v_RL_47 (ml (by decide)) rfl rfl ⟨rfl, rfl, Nat.le_of_ble_eq_true rfl, Nat.le_of_ble_eq_true rfl⟩ rfl hl.1 rfl (Nat.le_of_ble_eq_true rfl) ⟨by have := hcs.1; omega, by have := hcs.2; omega⟩ dL_law_446 ?_
  rintro r τ2 M2 ⟨rfl, y, rfl, hy⟩
  obtain ⟨exy, hR2⟩ := r_measure (xs (i + 1)) (xs (i + 2)) h hx hy
  refine g_icmp_eq (tgt := 1231) C dL_law_449 (by decide) (fun _ => ?_) (fun w => absurd exy w)
  exact g_more (kc := cells + 5) (ks := slots + 10) (by omega) (by omega) (kk ad tk nt V2 M2 rfl hR2)
set_option maxHeartbeats 4000000 in
set_option maxRecDepth 100000 in
theorem lc_hurl (C : Cx p s m args meth c A D cy RL cL_law 4 ret) {b L i : Nat} {xs : Nat → Int32} (X : LX A b L xs s) (hi : i + 6 ≤ L) {ad tk am : Nat → Nat} {nt : Nat} (hR : RLo tk nt V M) (hl : lv_has ls 4 (lwl b (ad 55) (am 0) i)) (hcs : cells + 5 ≤ room_1.cells ∧ slots + 10 ≤ room_1.slots) (kk : ∀ (ad2 tk2 : Nat → Nat) (nt2 : Nat) (V2 M2 : Vt), ad2 55 = ad 55 → RLo tk2 nt2 V2 M2 → J2 p l e room_1 s m args below meth c A D cy (cells + 5) (slots + 10) Q (xS ad2 tk2 nt2) V2 (mS am) M2 (F0 m 1231 ls [])) : J2 p l e room_1 s m args below meth c A D cy cells slots Q (xS ad tk nt) V (mS am) M (F0 m 454 ls []) := by
  obtain ⟨ng, rr, c_0_, h⟩ := hR
  refine g_aload_n C dL_law_454 rfl (lv_at hl 1 rfl) ?_
  refine g_arg C X hl 1 rfl (by omega) dL_law_455 dL_law_456 dL_law_457 dL_law_458 dL_law_459 ?_
  refine g_arg C X hl 2 rfl (by omega) dL_law_460 dL_law_461 dL_law_462 dL_law_463 dL_law_464 ?_
  refine g_callX (k := 55) (ci := 11) C [.int (xs (i + 1)), .int (xs (i + 2))] [] (k_X11_hurl l ad tk nt V ng rr c_0_ h.1 (xs (i + 1)) (xs (i + 2))) v_RL_48 (xl (by decide)) rfl rfl ⟨rfl, rfl, Nat.le_of_ble_eq_true rfl, Nat.le_of_ble_eq_true rfl⟩ rfl hl.1 rfl (Nat.le_of_ble_eq_true rfl) ⟨by have := hcs.1; omega, by have := hcs.2; omega⟩ dL_law_465 ?_
  rintro r σ2 V2 ⟨rfl, x, rfl, hx⟩
  refine g_aload_n C dL_law_468 rfl (lv_at hl 2 rfl) ?_
  refine g_arg C X hl 1 rfl (by omega) dL_law_469 dL_law_470 dL_law_471 dL_law_472 dL_law_473 ?_
  refine g_arg C X hl 2 rfl (by omega) dL_law_474 dL_law_475 dL_law_476 dL_law_477 dL_law_478 ?_
  refine g_callM (k := 0) (ci := 12) C [.int (xs (i + 1)), .int (xs (i + 2))] [.int x] (k_X12_hurl l am M (xs (i + 1)) (xs (i + 2)) ng rr nt c_0_ h.2.1 ) v_RL_51 (ml (by decide)) rfl rfl ⟨rfl, rfl, Nat.le_of_ble_eq_true rfl, Nat.le_of_ble_eq_true rfl⟩ rfl hl.1 rfl (Nat.le_of_ble_eq_true rfl) ⟨by have := hcs.1; omega, by have := hcs.2; omega⟩ dL_law_479 ?_
  rintro r τ2 M2 ⟨rfl, y, rfl, hy⟩
  obtain ⟨exy, hR2⟩ := r_hurl (xs (i + 1)) (xs (i + 2)) h hx hy
  refine g_icmp_eq (tgt := 1231) C dL_law_482 (by decide) (fun _ => ?_) (fun w => absurd exy w)
  exact g_more (kc := cells + 5) (ks := slots + 10) (by omega) (by omega) (kk ad tk nt V2 M2 rfl hR2)
set_option maxHeartbeats 4000000 in
set_option maxRecDepth 100000 in
theorem lc_lift (C : Cx p s m args meth c A D cy RL cL_law 4 ret) {b L i : Nat} {xs : Nat → Int32} (X : LX A b L xs s) (hi : i + 6 ≤ L) {ad tk am : Nat → Nat} {nt : Nat} (hR : RLo tk nt V M) (hl : lv_has ls 4 (lwl b (ad 55) (am 0) i)) (hcs : cells + 5 ≤ room_1.cells ∧ slots + 10 ≤ room_1.slots) (kk : ∀ (ad2 tk2 : Nat → Nat) (nt2 : Nat) (V2 M2 : Vt), ad2 55 = ad 55 → RLo tk2 nt2 V2 M2 → J2 p l e room_1 s m args below meth c A D cy (cells + 5) (slots + 10) Q (xS ad2 tk2 nt2) V2 (mS am) M2 (F0 m 1231 ls [])) : J2 p l e room_1 s m args below meth c A D cy cells slots Q (xS ad tk nt) V (mS am) M (F0 m 487 ls []) := by
  obtain ⟨ng, rr, c_0_, h⟩ := hR
  refine g_aload_n C dL_law_487 rfl (lv_at hl 1 rfl) ?_
  refine g_arg C X hl 1 rfl (by omega) dL_law_488 dL_law_489 dL_law_490 dL_law_491 dL_law_492 ?_
  refine g_callX (k := 55) (ci := 11) C [.int (xs (i + 1))] [] (k_X11_lift l ad tk nt V ng rr c_0_ h.1 (xs (i + 1))) v_RL_52 (xl (by decide)) rfl rfl ⟨rfl, rfl, Nat.le_of_ble_eq_true rfl, Nat.le_of_ble_eq_true rfl⟩ rfl hl.1 rfl (Nat.le_of_ble_eq_true rfl) ⟨by have := hcs.1; omega, by have := hcs.2; omega⟩ dL_law_493 ?_
  rintro r σ2 V2 ⟨rfl, x, rfl, hx⟩
  refine g_aload_n C dL_law_496 rfl (lv_at hl 2 rfl) ?_
  refine g_arg C X hl 1 rfl (by omega) dL_law_497 dL_law_498 dL_law_499 dL_law_500 dL_law_501 ?_
  refine g_callM (k := 0) (ci := 12) C [.int (xs (i + 1))] [.int x] (k_X12_lift l am M (xs (i + 1)) ng rr nt c_0_ h.2.1 ) v_RL_55 (ml (by decide)) rfl rfl ⟨rfl, rfl, Nat.le_of_ble_eq_true rfl, Nat.le_of_ble_eq_true rfl⟩ rfl hl.1 rfl (Nat.le_of_ble_eq_true rfl) ⟨by have := hcs.1; omega, by have := hcs.2; omega⟩ dL_law_502 ?_
  rintro r τ2 M2 ⟨rfl, y, rfl, hy⟩
  obtain ⟨exy, hR2⟩ := r_lift (xs (i + 1)) h hx hy
  refine g_icmp_eq (tgt := 1231) C dL_law_505 (by decide) (fun _ => ?_) (fun w => absurd exy w)
  exact g_more (kc := cells + 5) (ks := slots + 10) (by omega) (by omega) (kk ad tk nt V2 M2 rfl hR2)
set_option maxHeartbeats 4000000 in
set_option maxRecDepth 100000 in
theorem lc_clear (C : Cx p s m args meth c A D cy RL cL_law 4 ret) {b L i : Nat} {xs : Nat → Int32} (X : LX A b L xs s) (hi : i + 6 ≤ L) {ad tk am : Nat → Nat} {nt : Nat} (hR : RLo tk nt V M) (hl : lv_has ls 4 (lwl b (ad 55) (am 0) i)) (hcs : cells + 5 ≤ room_1.cells ∧ slots + 10 ≤ room_1.slots) (kk : ∀ (ad2 tk2 : Nat → Nat) (nt2 : Nat) (V2 M2 : Vt), ad2 55 = ad 55 → RLo tk2 nt2 V2 M2 → J2 p l e room_1 s m args below meth c A D cy (cells + 5) (slots + 10) Q (xS ad2 tk2 nt2) V2 (mS am) M2 (F0 m 1231 ls [])) : J2 p l e room_1 s m args below meth c A D cy cells slots Q (xS ad tk nt) V (mS am) M (F0 m 510 ls []) := by
  obtain ⟨ng, rr, c_0_, h⟩ := hR
  refine g_aload_n C dL_law_510 rfl (lv_at hl 1 rfl) ?_
  refine g_arg C X hl 1 rfl (by omega) dL_law_511 dL_law_512 dL_law_513 dL_law_514 dL_law_515 ?_
  refine g_callX (k := 55) (ci := 11) C [.int (xs (i + 1))] [] (k_X11_clear l ad tk nt V ng rr c_0_ h.1 (xs (i + 1))) v_RL_56 (xl (by decide)) rfl rfl ⟨rfl, rfl, Nat.le_of_ble_eq_true rfl, Nat.le_of_ble_eq_true rfl⟩ rfl hl.1 rfl (Nat.le_of_ble_eq_true rfl) ⟨by have := hcs.1; omega, by have := hcs.2; omega⟩ dL_law_516 ?_
  rintro r σ2 V2 ⟨rfl, x, rfl, hx⟩
  refine g_aload_n C dL_law_519 rfl (lv_at hl 2 rfl) ?_
  refine g_arg C X hl 1 rfl (by omega) dL_law_520 dL_law_521 dL_law_522 dL_law_523 dL_law_524 ?_
  refine g_callM (k := 0) (ci := 12) C [.int (xs (i + 1))] [.int x] (k_X12_clear l am M (xs (i + 1)) ng rr nt c_0_ h.2.1 ) v_RL_59 (ml (by decide)) rfl rfl ⟨rfl, rfl, Nat.le_of_ble_eq_true rfl, Nat.le_of_ble_eq_true rfl⟩ rfl hl.1 rfl (Nat.le_of_ble_eq_true rfl) ⟨by have := hcs.1; omega, by have := hcs.2; omega⟩ dL_law_525 ?_
  rintro r τ2 M2 ⟨rfl, y, rfl, hy⟩
  obtain ⟨exy, hR2⟩ := r_clear (xs (i + 1)) h hx hy
  refine g_icmp_eq (tgt := 1231) C dL_law_528 (by decide) (fun _ => ?_) (fun w => absurd exy w)
  exact g_more (kc := cells + 5) (ks := slots + 10) (by omega) (by omega) (kk ad tk nt V2 M2 rfl hR2)
set_option maxHeartbeats 4000000 in
set_option maxRecDepth 100000 in
theorem lc_feast (C : Cx p s m args meth c A D cy RL cL_law 4 ret) {b L i : Nat} {xs : Nat → Int32} (X : LX A b L xs s) (hi : i + 6 ≤ L) {ad tk am : Nat → Nat} {nt : Nat} (hR : RLo tk nt V M) (hl : lv_has ls 4 (lwl b (ad 55) (am 0) i)) (hcs : cells + 5 ≤ room_1.cells ∧ slots + 10 ≤ room_1.slots) (kk : ∀ (ad2 tk2 : Nat → Nat) (nt2 : Nat) (V2 M2 : Vt), ad2 55 = ad 55 → RLo tk2 nt2 V2 M2 → J2 p l e room_1 s m args below meth c A D cy (cells + 5) (slots + 10) Q (xS ad2 tk2 nt2) V2 (mS am) M2 (F0 m 1231 ls [])) : J2 p l e room_1 s m args below meth c A D cy cells slots Q (xS ad tk nt) V (mS am) M (F0 m 533 ls []) := by
  obtain ⟨ng, rr, c_0_, h⟩ := hR
  refine g_aload_n C dL_law_533 rfl (lv_at hl 1 rfl) ?_
  refine g_arg C X hl 1 rfl (by omega) dL_law_534 dL_law_535 dL_law_536 dL_law_537 dL_law_538 ?_
  refine g_arg C X hl 2 rfl (by omega) dL_law_539 dL_law_540 dL_law_541 dL_law_542 dL_law_543 ?_
  refine g_arg C X hl 3 rfl (by omega) dL_law_544 dL_law_545 dL_law_546 dL_law_547 dL_law_548 ?_
  refine g_arg C X hl 4 rfl (by omega) dL_law_549 dL_law_550 dL_law_551 dL_law_552 dL_law_553 ?_
  refine g_arg C X hl 5 rfl (by omega) dL_law_554 dL_law_555 dL_law_556 dL_law_557 dL_law_558 ?_
  refine g_callX (k := 55) (ci := 11) C [.int (xs (i + 1)), .int (xs (i + 2)), .int (xs (i + 3)), .int (xs (i + 4)), .int (xs (i + 5))] [] (k_X11_feast l ad tk nt V ng rr c_0_ h.1 (rl_wh h) (xs (i + 1)) (xs (i + 2)) (xs (i + 3)) (xs (i + 4)) (xs (i + 5))) v_RL_60 (xl (by decide)) rfl rfl ⟨rfl, rfl, Nat.le_of_ble_eq_true rfl, Nat.le_of_ble_eq_true rfl⟩ rfl hl.1 rfl (Nat.le_of_ble_eq_true rfl) ⟨by have := hcs.1; omega, by have := hcs.2; omega⟩ dL_law_559 ?_
  rintro r σ2 V2 ⟨rfl, x, rfl, hx⟩
  refine g_aload_n C dL_law_562 rfl (lv_at hl 2 rfl) ?_
  refine g_arg C X hl 1 rfl (by omega) dL_law_563 dL_law_564 dL_law_565 dL_law_566 dL_law_567 ?_
  refine g_arg C X hl 2 rfl (by omega) dL_law_568 dL_law_569 dL_law_570 dL_law_571 dL_law_572 ?_
  refine g_arg C X hl 3 rfl (by omega) dL_law_573 dL_law_574 dL_law_575 dL_law_576 dL_law_577 ?_
  refine g_arg C X hl 4 rfl (by omega) dL_law_578 dL_law_579 dL_law_580 dL_law_581 dL_law_582 ?_
  refine g_arg C X hl 5 rfl (by omega) dL_law_583 dL_law_584 dL_law_585 dL_law_586 dL_law_587 ?_
  refine g_callM (k := 0) (ci := 12) C [.int (xs (i + 1)), .int (xs (i + 2)), .int (xs (i + 3)), .int (xs (i + 4)), .int (xs (i + 5))] [.int x] (k_X12_feast l am M (xs (i + 1)) (xs (i + 2)) (xs (i + 3)) (xs (i + 4)) (xs (i + 5)) ng rr nt c_0_ h.2.1 (rcX tk (up2 V 55 9 0)) (yS (up2 V 55 9 0)) (lS (up2 V 55 9 0)) (fe0 (up2 V 55 9 0) rr) (rl_fe h (fun a ha => up2_k _ _ ha)) rfl rfl) v_RL_64 (ml (by decide)) rfl rfl ⟨rfl, rfl, Nat.le_of_ble_eq_true rfl, Nat.le_of_ble_eq_true rfl⟩ rfl hl.1 rfl (Nat.le_of_ble_eq_true rfl) ⟨by have := hcs.1; omega, by have := hcs.2; omega⟩ dL_law_588 ?_
  rintro r τ2 M2 ⟨rfl, y, rfl, hy⟩
  obtain ⟨exy, hR2⟩ := r_feast (xs (i + 1)) (xs (i + 2)) (xs (i + 3)) (xs (i + 4)) (xs (i + 5)) h hx hy
  refine g_icmp_eq (tgt := 1231) C dL_law_591 (by decide) (fun _ => ?_) (fun w => absurd exy w)
  exact g_more (kc := cells + 5) (ks := slots + 10) (by omega) (by omega) (kk ad tk nt V2 M2 rfl hR2)
set_option maxHeartbeats 4000000 in
set_option maxRecDepth 100000 in
theorem lc_wins (C : Cx p s m args meth c A D cy RL cL_law 4 ret) {b L i : Nat} {xs : Nat → Int32} (X : LX A b L xs s) (hi : i + 6 ≤ L) {ad tk am : Nat → Nat} {nt : Nat} (hR : RLo tk nt V M) (hl : lv_has ls 4 (lwl b (ad 55) (am 0) i)) (hcs : cells + 5 ≤ room_1.cells ∧ slots + 10 ≤ room_1.slots) (kk : ∀ (ad2 tk2 : Nat → Nat) (nt2 : Nat) (V2 M2 : Vt), ad2 55 = ad 55 → RLo tk2 nt2 V2 M2 → J2 p l e room_1 s m args below meth c A D cy (cells + 5) (slots + 10) Q (xS ad2 tk2 nt2) V2 (mS am) M2 (F0 m 1231 ls [])) : J2 p l e room_1 s m args below meth c A D cy cells slots Q (xS ad tk nt) V (mS am) M (F0 m 596 ls []) := by
  obtain ⟨ng, rr, c_0_, h⟩ := hR
  refine g_aload_n C dL_law_596 rfl (lv_at hl 1 rfl) ?_
  refine g_arg C X hl 1 rfl (by omega) dL_law_597 dL_law_598 dL_law_599 dL_law_600 dL_law_601 ?_
  refine g_callX (k := 55) (ci := 11) C [.int (xs (i + 1))] [] (k_X11_wins l ad tk nt V ng rr c_0_ h.1 (xs (i + 1))) v_RL_65 (xl (by decide)) rfl rfl ⟨rfl, rfl, Nat.le_of_ble_eq_true rfl, Nat.le_of_ble_eq_true rfl⟩ rfl hl.1 rfl (Nat.le_of_ble_eq_true rfl) ⟨by have := hcs.1; omega, by have := hcs.2; omega⟩ dL_law_602 ?_
  rintro r σ2 V2 ⟨rfl, x, rfl, hx⟩
  refine g_aload_n C dL_law_605 rfl (lv_at hl 2 rfl) ?_
  refine g_arg C X hl 1 rfl (by omega) dL_law_606 dL_law_607 dL_law_608 dL_law_609 dL_law_610 ?_
  refine g_callM (k := 0) (ci := 12) C [.int (xs (i + 1))] [.int x] (k_X12_wins l am M (xs (i + 1)) ng rr nt c_0_ h.2.1 ) v_RL_68 (ml (by decide)) rfl rfl ⟨rfl, rfl, Nat.le_of_ble_eq_true rfl, Nat.le_of_ble_eq_true rfl⟩ rfl hl.1 rfl (Nat.le_of_ble_eq_true rfl) ⟨by have := hcs.1; omega, by have := hcs.2; omega⟩ dL_law_611 ?_
  rintro r τ2 M2 ⟨rfl, y, rfl, hy⟩
  obtain ⟨exy, hR2⟩ := r_wins (xs (i + 1)) h hx hy
  refine g_icmp_eq (tgt := 1231) C dL_law_614 (by decide) (fun _ => ?_) (fun w => absurd exy w)
  exact g_more (kc := cells + 5) (ks := slots + 10) (by omega) (by omega) (kk ad tk nt V2 M2 rfl hR2)
set_option maxHeartbeats 4000000 in
set_option maxRecDepth 100000 in
theorem lc_match (C : Cx p s m args meth c A D cy RL cL_law 4 ret) {b L i : Nat} {xs : Nat → Int32} (X : LX A b L xs s) (hi : i + 6 ≤ L) {ad tk am : Nat → Nat} {nt : Nat} (hR : RLo tk nt V M) (hl : lv_has ls 4 (lwl b (ad 55) (am 0) i)) (hcs : cells + 5 ≤ room_1.cells ∧ slots + 10 ≤ room_1.slots) (kk : ∀ (ad2 tk2 : Nat → Nat) (nt2 : Nat) (V2 M2 : Vt), ad2 55 = ad 55 → RLo tk2 nt2 V2 M2 → J2 p l e room_1 s m args below meth c A D cy (cells + 5) (slots + 10) Q (xS ad2 tk2 nt2) V2 (mS am) M2 (F0 m 1231 ls [])) : J2 p l e room_1 s m args below meth c A D cy cells slots Q (xS ad tk nt) V (mS am) M (F0 m 619 ls []) := by
  obtain ⟨ng, rr, c_0_, h⟩ := hR
  obtain ⟨nn, hn⟩ := rl_nn h
  refine g_aload_n C dL_law_619 rfl (lv_at hl 1 rfl) ?_
  refine g_arg C X hl 1 rfl (by omega) dL_law_620 dL_law_621 dL_law_622 dL_law_623 dL_law_624 ?_
  refine g_callX (k := 55) (ci := 11) C [.int (xs (i + 1))] [] (k_X11_match l ad tk nt V ng rr c_0_ h.1 (xs (i + 1))) v_RL_69 (xl (by decide)) rfl rfl ⟨rfl, rfl, Nat.le_of_ble_eq_true rfl, Nat.le_of_ble_eq_true rfl⟩ rfl hl.1 rfl (Nat.le_of_ble_eq_true rfl) ⟨by have := hcs.1; omega, by have := hcs.2; omega⟩ dL_law_625 ?_
  rintro r σ2 V2 ⟨rfl, x, rfl, hx⟩
  refine g_aload_n C dL_law_628 rfl (lv_at hl 2 rfl) ?_
  refine g_arg C X hl 1 rfl (by omega) dL_law_629 dL_law_630 dL_law_631 dL_law_632 dL_law_633 ?_
  refine g_callM (k := 0) (ci := 12) C [.int (xs (i + 1))] [.int x] (k_X12_match l am M (xs (i + 1)) ng rr nt c_0_ h.2.1 nn hn) v_RL_72 (ml (by decide)) rfl rfl ⟨rfl, rfl, Nat.le_of_ble_eq_true rfl, Nat.le_of_ble_eq_true rfl⟩ rfl hl.1 rfl (Nat.le_of_ble_eq_true rfl) ⟨by have := hcs.1; omega, by have := hcs.2; omega⟩ dL_law_634 ?_
  rintro r τ2 M2 ⟨rfl, y, rfl, hy⟩
  obtain ⟨exy, hR2⟩ := r_match (xs (i + 1)) h nn hn hx hy
  refine g_icmp_eq (tgt := 1231) C dL_law_637 (by decide) (fun _ => ?_) (fun w => absurd exy w)
  exact g_more (kc := cells + 5) (ks := slots + 10) (by omega) (by omega) (kk ad tk nt V2 M2 rfl hR2)
set_option maxHeartbeats 4000000 in
set_option maxRecDepth 100000 in
theorem lc_weds (C : Cx p s m args meth c A D cy RL cL_law 4 ret) {b L i : Nat} {xs : Nat → Int32} (X : LX A b L xs s) (hi : i + 6 ≤ L) {ad tk am : Nat → Nat} {nt : Nat} (hR : RLo tk nt V M) (hl : lv_has ls 4 (lwl b (ad 55) (am 0) i)) (hcs : cells + 5 ≤ room_1.cells ∧ slots + 10 ≤ room_1.slots) (kk : ∀ (ad2 tk2 : Nat → Nat) (nt2 : Nat) (V2 M2 : Vt), ad2 55 = ad 55 → RLo tk2 nt2 V2 M2 → J2 p l e room_1 s m args below meth c A D cy (cells + 5) (slots + 10) Q (xS ad2 tk2 nt2) V2 (mS am) M2 (F0 m 1231 ls [])) : J2 p l e room_1 s m args below meth c A D cy cells slots Q (xS ad tk nt) V (mS am) M (F0 m 642 ls []) := by
  obtain ⟨ng, rr, c_0_, h⟩ := hR
  refine g_aload_n C dL_law_642 rfl (lv_at hl 1 rfl) ?_
  refine g_arg C X hl 1 rfl (by omega) dL_law_643 dL_law_644 dL_law_645 dL_law_646 dL_law_647 ?_
  refine g_callX (k := 55) (ci := 11) C [.int (xs (i + 1))] [] (k_X11_weds l ad tk nt V ng rr c_0_ h.1 (wPh (nrM M) nt ng) (wPh_kp h.1.1.2.1) (fun U hU => wPh_0 h.1.1.2.1 (fun t g ht hg => ((hU.2.2.2.1 t ht).2 g hg).trans (rl_nr h ht hg)) (fun t ht => (hU.2.2.2.2 t (by have := h.1.2.2.1; omega)).1)) (xs (i + 1))) v_RL_73 (xl (by decide)) rfl rfl ⟨rfl, rfl, Nat.le_of_ble_eq_true rfl, Nat.le_of_ble_eq_true rfl⟩ rfl hl.1 rfl (Nat.le_of_ble_eq_true rfl) ⟨by have := hcs.1; omega, by have := hcs.2; omega⟩ dL_law_648 ?_
  rintro r σ2 V2 ⟨rfl, x, rfl, hx⟩
  refine g_aload_n C dL_law_651 rfl (lv_at hl 2 rfl) ?_
  refine g_arg C X hl 1 rfl (by omega) dL_law_652 dL_law_653 dL_law_654 dL_law_655 dL_law_656 ?_
  refine g_callM (k := 0) (ci := 12) C [.int (xs (i + 1))] [.int x] (k_X12_weds l am M (xs (i + 1)) ng rr nt c_0_ h.2.1 ) v_RL_76 (ml (by decide)) rfl rfl ⟨rfl, rfl, Nat.le_of_ble_eq_true rfl, Nat.le_of_ble_eq_true rfl⟩ rfl hl.1 rfl (Nat.le_of_ble_eq_true rfl) ⟨by have := hcs.1; omega, by have := hcs.2; omega⟩ dL_law_657 ?_
  rintro r τ2 M2 ⟨rfl, y, rfl, hy⟩
  obtain ⟨exy, hR2⟩ := r_weds (xs (i + 1)) h hx hy
  refine g_icmp_eq (tgt := 1231) C dL_law_660 (by decide) (fun _ => ?_) (fun w => absurd exy w)
  exact g_more (kc := cells + 5) (ks := slots + 10) (by omega) (by omega) (kk ad tk nt V2 M2 rfl hR2)
set_option maxHeartbeats 4000000 in
set_option maxRecDepth 100000 in
theorem lc_even (C : Cx p s m args meth c A D cy RL cL_law 4 ret) {b L i : Nat} {xs : Nat → Int32} (X : LX A b L xs s) (hi : i + 6 ≤ L) {ad tk am : Nat → Nat} {nt : Nat} (hR : RLo tk nt V M) (hl : lv_has ls 4 (lwl b (ad 55) (am 0) i)) (hcs : cells + 5 ≤ room_1.cells ∧ slots + 10 ≤ room_1.slots) (kk : ∀ (ad2 tk2 : Nat → Nat) (nt2 : Nat) (V2 M2 : Vt), ad2 55 = ad 55 → RLo tk2 nt2 V2 M2 → J2 p l e room_1 s m args below meth c A D cy (cells + 5) (slots + 10) Q (xS ad2 tk2 nt2) V2 (mS am) M2 (F0 m 1231 ls [])) : J2 p l e room_1 s m args below meth c A D cy cells slots Q (xS ad tk nt) V (mS am) M (F0 m 665 ls []) := by
  obtain ⟨ng, rr, c_0_, h⟩ := hR
  refine g_aload_n C dL_law_665 rfl (lv_at hl 1 rfl) ?_
  refine g_arg C X hl 1 rfl (by omega) dL_law_666 dL_law_667 dL_law_668 dL_law_669 dL_law_670 ?_
  refine g_arg C X hl 2 rfl (by omega) dL_law_671 dL_law_672 dL_law_673 dL_law_674 dL_law_675 ?_
  refine g_arg C X hl 3 rfl (by omega) dL_law_676 dL_law_677 dL_law_678 dL_law_679 dL_law_680 ?_
  refine g_callX (k := 55) (ci := 11) C [.int (xs (i + 1)), .int (xs (i + 2)), .int (xs (i + 3))] [] (k_X11_even l ad tk nt V ng rr c_0_ h.1 (xs (i + 1)) (xs (i + 2)) (xs (i + 3))) v_RL_77 (xl (by decide)) rfl rfl ⟨rfl, rfl, Nat.le_of_ble_eq_true rfl, Nat.le_of_ble_eq_true rfl⟩ rfl hl.1 rfl (Nat.le_of_ble_eq_true rfl) ⟨by have := hcs.1; omega, by have := hcs.2; omega⟩ dL_law_681 ?_
  rintro r σ2 V2 ⟨rfl, x, rfl, hx⟩
  refine g_aload_n C dL_law_684 rfl (lv_at hl 2 rfl) ?_
  refine g_arg C X hl 1 rfl (by omega) dL_law_685 dL_law_686 dL_law_687 dL_law_688 dL_law_689 ?_
  refine g_arg C X hl 2 rfl (by omega) dL_law_690 dL_law_691 dL_law_692 dL_law_693 dL_law_694 ?_
  refine g_arg C X hl 3 rfl (by omega) dL_law_695 dL_law_696 dL_law_697 dL_law_698 dL_law_699 ?_
  refine g_callM (k := 0) (ci := 12) C [.int (xs (i + 1)), .int (xs (i + 2)), .int (xs (i + 3))] [.int x] (k_X12_even l am M (xs (i + 1)) (xs (i + 2)) (xs (i + 3)) ng rr nt c_0_ h.2.1 ) v_RL_81 (ml (by decide)) rfl rfl ⟨rfl, rfl, Nat.le_of_ble_eq_true rfl, Nat.le_of_ble_eq_true rfl⟩ rfl hl.1 rfl (Nat.le_of_ble_eq_true rfl) ⟨by have := hcs.1; omega, by have := hcs.2; omega⟩ dL_law_700 ?_
  rintro r τ2 M2 ⟨rfl, y, rfl, hy⟩
  obtain ⟨exy, hR2⟩ := r_even (xs (i + 1)) (xs (i + 2)) (xs (i + 3)) h hx hy
  refine g_icmp_eq (tgt := 1231) C dL_law_703 (by decide) (fun _ => ?_) (fun w => absurd exy w)
  exact g_more (kc := cells + 5) (ks := slots + 10) (by omega) (by omega) (kk ad tk nt V2 M2 rfl hR2)
set_option maxHeartbeats 4000000 in
set_option maxRecDepth 100000 in
theorem lc_reading (C : Cx p s m args meth c A D cy RL cL_law 4 ret) {b L i : Nat} {xs : Nat → Int32} (X : LX A b L xs s) (hi : i + 6 ≤ L) {ad tk am : Nat → Nat} {nt : Nat} (hR : RLo tk nt V M) (hl : lv_has ls 4 (lwl b (ad 55) (am 0) i)) (hcs : cells + 5 ≤ room_1.cells ∧ slots + 10 ≤ room_1.slots) (kk : ∀ (ad2 tk2 : Nat → Nat) (nt2 : Nat) (V2 M2 : Vt), ad2 55 = ad 55 → RLo tk2 nt2 V2 M2 → J2 p l e room_1 s m args below meth c A D cy (cells + 5) (slots + 10) Q (xS ad2 tk2 nt2) V2 (mS am) M2 (F0 m 1231 ls [])) : J2 p l e room_1 s m args below meth c A D cy cells slots Q (xS ad tk nt) V (mS am) M (F0 m 708 ls []) := by
  obtain ⟨ng, rr, c_0_, h⟩ := hR
  refine g_aload_n C dL_law_708 rfl (lv_at hl 1 rfl) ?_
  refine g_arg C X hl 1 rfl (by omega) dL_law_709 dL_law_710 dL_law_711 dL_law_712 dL_law_713 ?_
  refine g_arg C X hl 2 rfl (by omega) dL_law_714 dL_law_715 dL_law_716 dL_law_717 dL_law_718 ?_
  refine g_arg C X hl 3 rfl (by omega) dL_law_719 dL_law_720 dL_law_721 dL_law_722 dL_law_723 ?_
  refine g_callX (k := 55) (ci := 11) C [.int (xs (i + 1)), .int (xs (i + 2)), .int (xs (i + 3))] [] (k_X11_reading l ad tk nt V ng rr c_0_ h.1 (xs (i + 1)) (xs (i + 2)) (xs (i + 3))) v_RL_82 (xl (by decide)) rfl rfl ⟨rfl, rfl, Nat.le_of_ble_eq_true rfl, Nat.le_of_ble_eq_true rfl⟩ rfl hl.1 rfl (Nat.le_of_ble_eq_true rfl) ⟨by have := hcs.1; omega, by have := hcs.2; omega⟩ dL_law_724 ?_
  rintro r σ2 V2 ⟨rfl, x, rfl, hx⟩
  refine g_aload_n C dL_law_727 rfl (lv_at hl 2 rfl) ?_
  refine g_arg C X hl 1 rfl (by omega) dL_law_728 dL_law_729 dL_law_730 dL_law_731 dL_law_732 ?_
  refine g_arg C X hl 2 rfl (by omega) dL_law_733 dL_law_734 dL_law_735 dL_law_736 dL_law_737 ?_
  refine g_arg C X hl 3 rfl (by omega) dL_law_738 dL_law_739 dL_law_740 dL_law_741 dL_law_742 ?_
  refine g_callM (k := 0) (ci := 12) C [.int (xs (i + 1)), .int (xs (i + 2)), .int (xs (i + 3))] [.int x] (k_X12_reading l am M (xs (i + 1)) (xs (i + 2)) (xs (i + 3)) ng rr nt c_0_ h.2.1 ) v_RL_85 (ml (by decide)) rfl rfl ⟨rfl, rfl, Nat.le_of_ble_eq_true rfl, Nat.le_of_ble_eq_true rfl⟩ rfl hl.1 rfl (Nat.le_of_ble_eq_true rfl) ⟨by have := hcs.1; omega, by have := hcs.2; omega⟩ dL_law_743 ?_
  rintro r τ2 M2 ⟨rfl, y, rfl, hy⟩
  obtain ⟨exy, hR2⟩ := r_reading (xs (i + 1)) (xs (i + 2)) (xs (i + 3)) h hx hy
  refine g_icmp_eq (tgt := 1231) C dL_law_746 (by decide) (fun _ => ?_) (fun w => absurd exy w)
  exact g_more (kc := cells + 5) (ks := slots + 10) (by omega) (by omega) (kk ad tk nt V2 M2 rfl hR2)
set_option maxHeartbeats 4000000 in
set_option maxRecDepth 100000 in
theorem lc_back (C : Cx p s m args meth c A D cy RL cL_law 4 ret) {b L i : Nat} {xs : Nat → Int32} (X : LX A b L xs s) (hi : i + 6 ≤ L) {ad tk am : Nat → Nat} {nt : Nat} (hR : RLo tk nt V M) (hl : lv_has ls 4 (lwl b (ad 55) (am 0) i)) (hcs : cells + 5 ≤ room_1.cells ∧ slots + 10 ≤ room_1.slots) (kk : ∀ (ad2 tk2 : Nat → Nat) (nt2 : Nat) (V2 M2 : Vt), ad2 55 = ad 55 → RLo tk2 nt2 V2 M2 → J2 p l e room_1 s m args below meth c A D cy (cells + 5) (slots + 10) Q (xS ad2 tk2 nt2) V2 (mS am) M2 (F0 m 1231 ls [])) : J2 p l e room_1 s m args below meth c A D cy cells slots Q (xS ad tk nt) V (mS am) M (F0 m 751 ls []) := by
  obtain ⟨ng, rr, c_0_, h⟩ := hR
  refine g_aload_n C dL_law_751 rfl (lv_at hl 1 rfl) ?_
  refine g_arg C X hl 1 rfl (by omega) dL_law_752 dL_law_753 dL_law_754 dL_law_755 dL_law_756 ?_
  refine g_callX (k := 55) (ci := 11) C [.int (xs (i + 1))] [] (k_X11_back l ad tk nt V ng rr c_0_ h.1 (xs (i + 1))) v_RL_86 (xl (by decide)) rfl rfl ⟨rfl, rfl, Nat.le_of_ble_eq_true rfl, Nat.le_of_ble_eq_true rfl⟩ rfl hl.1 rfl (Nat.le_of_ble_eq_true rfl) ⟨by have := hcs.1; omega, by have := hcs.2; omega⟩ dL_law_757 ?_
  rintro r σ2 V2 ⟨rfl, x, rfl, hx⟩
  refine g_aload_n C dL_law_760 rfl (lv_at hl 2 rfl) ?_
  refine g_arg C X hl 1 rfl (by omega) dL_law_761 dL_law_762 dL_law_763 dL_law_764 dL_law_765 ?_
  refine g_callM (k := 0) (ci := 12) C [.int (xs (i + 1))] [.int x] (k_X12_back l am M (xs (i + 1)) ng rr nt c_0_ h.2.1 ) v_RL_89 (ml (by decide)) rfl rfl ⟨rfl, rfl, Nat.le_of_ble_eq_true rfl, Nat.le_of_ble_eq_true rfl⟩ rfl hl.1 rfl (Nat.le_of_ble_eq_true rfl) ⟨by have := hcs.1; omega, by have := hcs.2; omega⟩ dL_law_766 ?_
  rintro r τ2 M2 ⟨rfl, y, rfl, hy⟩
  obtain ⟨exy, hR2⟩ := r_back (xs (i + 1)) h hx hy
  refine g_icmp_eq (tgt := 1231) C dL_law_769 (by decide) (fun _ => ?_) (fun w => absurd exy w)
  exact g_more (kc := cells + 5) (ks := slots + 10) (by omega) (by omega) (kk ad tk nt V2 M2 rfl hR2)
set_option maxHeartbeats 4000000 in
set_option maxRecDepth 100000 in
theorem lc_leans (C : Cx p s m args meth c A D cy RL cL_law 4 ret) {b L i : Nat} {xs : Nat → Int32} (X : LX A b L xs s) (hi : i + 6 ≤ L) {ad tk am : Nat → Nat} {nt : Nat} (hR : RLo tk nt V M) (hl : lv_has ls 4 (lwl b (ad 55) (am 0) i)) (hcs : cells + 5 ≤ room_1.cells ∧ slots + 10 ≤ room_1.slots) (kk : ∀ (ad2 tk2 : Nat → Nat) (nt2 : Nat) (V2 M2 : Vt), ad2 55 = ad 55 → RLo tk2 nt2 V2 M2 → J2 p l e room_1 s m args below meth c A D cy (cells + 5) (slots + 10) Q (xS ad2 tk2 nt2) V2 (mS am) M2 (F0 m 1231 ls [])) : J2 p l e room_1 s m args below meth c A D cy cells slots Q (xS ad tk nt) V (mS am) M (F0 m 774 ls []) := by
  obtain ⟨ng, rr, c_0_, h⟩ := hR
  refine g_aload_n C dL_law_774 rfl (lv_at hl 1 rfl) ?_
  refine g_arg C X hl 1 rfl (by omega) dL_law_775 dL_law_776 dL_law_777 dL_law_778 dL_law_779 ?_
  refine g_callX (k := 55) (ci := 11) C [.int (xs (i + 1))] [] (k_X11_leans l ad tk nt V ng rr c_0_ h.1 (xs (i + 1))) v_RL_90 (xl (by decide)) rfl rfl ⟨rfl, rfl, Nat.le_of_ble_eq_true rfl, Nat.le_of_ble_eq_true rfl⟩ rfl hl.1 rfl (Nat.le_of_ble_eq_true rfl) ⟨by have := hcs.1; omega, by have := hcs.2; omega⟩ dL_law_780 ?_
  rintro r σ2 V2 ⟨rfl, x, rfl, hx⟩
  refine g_aload_n C dL_law_783 rfl (lv_at hl 2 rfl) ?_
  refine g_arg C X hl 1 rfl (by omega) dL_law_784 dL_law_785 dL_law_786 dL_law_787 dL_law_788 ?_
  refine g_callM (k := 0) (ci := 12) C [.int (xs (i + 1))] [.int x] (k_X12_leans l am M (xs (i + 1)) ng rr nt c_0_ h.2.1 ) v_RL_93 (ml (by decide)) rfl rfl ⟨rfl, rfl, Nat.le_of_ble_eq_true rfl, Nat.le_of_ble_eq_true rfl⟩ rfl hl.1 rfl (Nat.le_of_ble_eq_true rfl) ⟨by have := hcs.1; omega, by have := hcs.2; omega⟩ dL_law_789 ?_
  rintro r τ2 M2 ⟨rfl, y, rfl, hy⟩
  obtain ⟨exy, hR2⟩ := r_leans (xs (i + 1)) h hx hy
  refine g_icmp_eq (tgt := 1231) C dL_law_792 (by decide) (fun _ => ?_) (fun w => absurd exy w)
  exact g_more (kc := cells + 5) (ks := slots + 10) (by omega) (by omega) (kk ad tk nt V2 M2 rfl hR2)
set_option maxHeartbeats 4000000 in
set_option maxRecDepth 100000 in
theorem lc_arms (C : Cx p s m args meth c A D cy RL cL_law 4 ret) {b L i : Nat} {xs : Nat → Int32} (X : LX A b L xs s) (hi : i + 6 ≤ L) {ad tk am : Nat → Nat} {nt : Nat} (hR : RLo tk nt V M) (hl : lv_has ls 4 (lwl b (ad 55) (am 0) i)) (hcs : cells + 5 ≤ room_1.cells ∧ slots + 10 ≤ room_1.slots) (kk : ∀ (ad2 tk2 : Nat → Nat) (nt2 : Nat) (V2 M2 : Vt), ad2 55 = ad 55 → RLo tk2 nt2 V2 M2 → J2 p l e room_1 s m args below meth c A D cy (cells + 5) (slots + 10) Q (xS ad2 tk2 nt2) V2 (mS am) M2 (F0 m 1231 ls [])) : J2 p l e room_1 s m args below meth c A D cy cells slots Q (xS ad tk nt) V (mS am) M (F0 m 797 ls []) := by
  obtain ⟨ng, rr, c_0_, h⟩ := hR
  refine g_aload_n C dL_law_797 rfl (lv_at hl 1 rfl) ?_
  refine g_arg C X hl 1 rfl (by omega) dL_law_798 dL_law_799 dL_law_800 dL_law_801 dL_law_802 ?_
  refine g_callX (k := 55) (ci := 11) C [.int (xs (i + 1))] [] (k_X11_arms l ad tk nt V ng rr c_0_ h.1 (xs (i + 1))) v_RL_94 (xl (by decide)) rfl rfl ⟨rfl, rfl, Nat.le_of_ble_eq_true rfl, Nat.le_of_ble_eq_true rfl⟩ rfl hl.1 rfl (Nat.le_of_ble_eq_true rfl) ⟨by have := hcs.1; omega, by have := hcs.2; omega⟩ dL_law_803 ?_
  rintro r σ2 V2 ⟨rfl, x, rfl, hx⟩
  refine g_aload_n C dL_law_806 rfl (lv_at hl 2 rfl) ?_
  refine g_arg C X hl 1 rfl (by omega) dL_law_807 dL_law_808 dL_law_809 dL_law_810 dL_law_811 ?_
  refine g_callM (k := 0) (ci := 12) C [.int (xs (i + 1))] [.int x] (k_X12_arms l am M (xs (i + 1)) ng rr nt c_0_ h.2.1 ) v_RL_97 (ml (by decide)) rfl rfl ⟨rfl, rfl, Nat.le_of_ble_eq_true rfl, Nat.le_of_ble_eq_true rfl⟩ rfl hl.1 rfl (Nat.le_of_ble_eq_true rfl) ⟨by have := hcs.1; omega, by have := hcs.2; omega⟩ dL_law_812 ?_
  rintro r τ2 M2 ⟨rfl, y, rfl, hy⟩
  obtain ⟨exy, hR2⟩ := r_arms (xs (i + 1)) h hx hy
  refine g_icmp_eq (tgt := 1231) C dL_law_815 (by decide) (fun _ => ?_) (fun w => absurd exy w)
  exact g_more (kc := cells + 5) (ks := slots + 10) (by omega) (by omega) (kk ad tk nt V2 M2 rfl hR2)
set_option maxHeartbeats 4000000 in
set_option maxRecDepth 100000 in
theorem lc_kinds (C : Cx p s m args meth c A D cy RL cL_law 4 ret) {b L i : Nat} {xs : Nat → Int32} (X : LX A b L xs s) (hi : i + 6 ≤ L) {ad tk am : Nat → Nat} {nt : Nat} (hR : RLo tk nt V M) (hl : lv_has ls 4 (lwl b (ad 55) (am 0) i)) (hcs : cells + 5 ≤ room_1.cells ∧ slots + 10 ≤ room_1.slots) (kk : ∀ (ad2 tk2 : Nat → Nat) (nt2 : Nat) (V2 M2 : Vt), ad2 55 = ad 55 → RLo tk2 nt2 V2 M2 → J2 p l e room_1 s m args below meth c A D cy (cells + 5) (slots + 10) Q (xS ad2 tk2 nt2) V2 (mS am) M2 (F0 m 1231 ls [])) : J2 p l e room_1 s m args below meth c A D cy cells slots Q (xS ad tk nt) V (mS am) M (F0 m 820 ls []) := by
  obtain ⟨ng, rr, c_0_, h⟩ := hR
  refine g_aload_n C dL_law_820 rfl (lv_at hl 1 rfl) ?_
  refine g_arg C X hl 1 rfl (by omega) dL_law_821 dL_law_822 dL_law_823 dL_law_824 dL_law_825 ?_
  refine g_callX (k := 55) (ci := 11) C [.int (xs (i + 1))] [] (k_X11_kinds l ad tk nt V ng rr c_0_ h.1 (xs (i + 1))) v_RL_98 (xl (by decide)) rfl rfl ⟨rfl, rfl, Nat.le_of_ble_eq_true rfl, Nat.le_of_ble_eq_true rfl⟩ rfl hl.1 rfl (Nat.le_of_ble_eq_true rfl) ⟨by have := hcs.1; omega, by have := hcs.2; omega⟩ dL_law_826 ?_
  rintro r σ2 V2 ⟨rfl, x, rfl, hx⟩
  refine g_aload_n C dL_law_829 rfl (lv_at hl 2 rfl) ?_
  refine g_arg C X hl 1 rfl (by omega) dL_law_830 dL_law_831 dL_law_832 dL_law_833 dL_law_834 ?_
  refine g_callM (k := 0) (ci := 12) C [.int (xs (i + 1))] [.int x] (k_X12_kinds l am M (xs (i + 1)) ng rr nt c_0_ h.2.1 ) v_RL_101 (ml (by decide)) rfl rfl ⟨rfl, rfl, Nat.le_of_ble_eq_true rfl, Nat.le_of_ble_eq_true rfl⟩ rfl hl.1 rfl (Nat.le_of_ble_eq_true rfl) ⟨by have := hcs.1; omega, by have := hcs.2; omega⟩ dL_law_835 ?_
  rintro r τ2 M2 ⟨rfl, y, rfl, hy⟩
  obtain ⟨exy, hR2⟩ := r_kinds (xs (i + 1)) h hx hy
  refine g_icmp_eq (tgt := 1231) C dL_law_838 (by decide) (fun _ => ?_) (fun w => absurd exy w)
  exact g_more (kc := cells + 5) (ks := slots + 10) (by omega) (by omega) (kk ad tk nt V2 M2 rfl hR2)
set_option maxHeartbeats 4000000 in
set_option maxRecDepth 100000 in
theorem lc_odds (C : Cx p s m args meth c A D cy RL cL_law 4 ret) {b L i : Nat} {xs : Nat → Int32} (X : LX A b L xs s) (hi : i + 6 ≤ L) {ad tk am : Nat → Nat} {nt : Nat} (hR : RLo tk nt V M) (hl : lv_has ls 4 (lwl b (ad 55) (am 0) i)) (hcs : cells + 5 ≤ room_1.cells ∧ slots + 10 ≤ room_1.slots) (kk : ∀ (ad2 tk2 : Nat → Nat) (nt2 : Nat) (V2 M2 : Vt), ad2 55 = ad 55 → RLo tk2 nt2 V2 M2 → J2 p l e room_1 s m args below meth c A D cy (cells + 5) (slots + 10) Q (xS ad2 tk2 nt2) V2 (mS am) M2 (F0 m 1231 ls [])) : J2 p l e room_1 s m args below meth c A D cy cells slots Q (xS ad tk nt) V (mS am) M (F0 m 843 ls []) := by
  obtain ⟨ng, rr, c_0_, h⟩ := hR
  refine g_aload_n C dL_law_843 rfl (lv_at hl 1 rfl) ?_
  refine g_arg C X hl 1 rfl (by omega) dL_law_844 dL_law_845 dL_law_846 dL_law_847 dL_law_848 ?_
  refine g_arg C X hl 2 rfl (by omega) dL_law_849 dL_law_850 dL_law_851 dL_law_852 dL_law_853 ?_
  refine g_arg C X hl 3 rfl (by omega) dL_law_854 dL_law_855 dL_law_856 dL_law_857 dL_law_858 ?_
  refine g_callX (k := 55) (ci := 11) C [.int (xs (i + 1)), .int (xs (i + 2)), .int (xs (i + 3))] [] (k_X11_odds l ad tk nt V ng rr c_0_ h.1 (xs (i + 1)) (xs (i + 2)) (xs (i + 3))) v_RL_102 (xl (by decide)) rfl rfl ⟨rfl, rfl, Nat.le_of_ble_eq_true rfl, Nat.le_of_ble_eq_true rfl⟩ rfl hl.1 rfl (Nat.le_of_ble_eq_true rfl) ⟨by have := hcs.1; omega, by have := hcs.2; omega⟩ dL_law_859 ?_
  rintro r σ2 V2 ⟨rfl, x, rfl, hx⟩
  refine g_aload_n C dL_law_862 rfl (lv_at hl 2 rfl) ?_
  refine g_arg C X hl 1 rfl (by omega) dL_law_863 dL_law_864 dL_law_865 dL_law_866 dL_law_867 ?_
  refine g_arg C X hl 2 rfl (by omega) dL_law_868 dL_law_869 dL_law_870 dL_law_871 dL_law_872 ?_
  refine g_arg C X hl 3 rfl (by omega) dL_law_873 dL_law_874 dL_law_875 dL_law_876 dL_law_877 ?_
  refine g_callM (k := 0) (ci := 12) C [.int (xs (i + 1)), .int (xs (i + 2)), .int (xs (i + 3))] [.long x] (k_X12_odds l am M (xs (i + 1)) (xs (i + 2)) (xs (i + 3)) ng rr nt c_0_ h.2.1 ) v_RL_106 (ml (by decide)) rfl rfl ⟨rfl, rfl, Nat.le_of_ble_eq_true rfl, Nat.le_of_ble_eq_true rfl⟩ rfl hl.1 rfl (Nat.le_of_ble_eq_true rfl) ⟨by have := hcs.1; omega, by have := hcs.2; omega⟩ dL_law_878 ?_
  rintro r τ2 M2 ⟨rfl, y, rfl, hy⟩
  obtain ⟨exy, hR2⟩ := r_odds (xs (i + 1)) (xs (i + 2)) (xs (i + 3)) h hx hy
  refine g_lcmp C dL_law_881 ?_
  refine g_if_eq (tgt := 1231) C dL_law_882 (by decide) (fun _ => ?_) (fun w => absurd (by rw [exy]; exact lg_self y) w)
  exact g_more (kc := cells + 5) (ks := slots + 10) (by omega) (by omega) (kk ad tk nt V2 M2 rfl hR2)
set_option maxHeartbeats 4000000 in
set_option maxRecDepth 100000 in
theorem lc_sheet (C : Cx p s m args meth c A D cy RL cL_law 4 ret) {b L i : Nat} {xs : Nat → Int32} (X : LX A b L xs s) (hi : i + 6 ≤ L) {ad tk am : Nat → Nat} {nt : Nat} (hR : RLo tk nt V M) (hl : lv_has ls 4 (lwl b (ad 55) (am 0) i)) (hcs : cells + 5 ≤ room_1.cells ∧ slots + 10 ≤ room_1.slots) (kk : ∀ (ad2 tk2 : Nat → Nat) (nt2 : Nat) (V2 M2 : Vt), ad2 55 = ad 55 → RLo tk2 nt2 V2 M2 → J2 p l e room_1 s m args below meth c A D cy (cells + 5) (slots + 10) Q (xS ad2 tk2 nt2) V2 (mS am) M2 (F0 m 1231 ls [])) : J2 p l e room_1 s m args below meth c A D cy cells slots Q (xS ad tk nt) V (mS am) M (F0 m 887 ls []) := by
  obtain ⟨ng, rr, c_0_, h⟩ := hR
  refine g_aload_n C dL_law_887 rfl (lv_at hl 1 rfl) ?_
  refine g_arg C X hl 1 rfl (by omega) dL_law_888 dL_law_889 dL_law_890 dL_law_891 dL_law_892 ?_
  refine g_arg C X hl 2 rfl (by omega) dL_law_893 dL_law_894 dL_law_895 dL_law_896 dL_law_897 ?_
  refine g_arg C X hl 3 rfl (by omega) dL_law_898 dL_law_899 dL_law_900 dL_law_901 dL_law_902 ?_
  refine g_callX (k := 55) (ci := 11) C [.int (xs (i + 1)), .int (xs (i + 2)), .int (xs (i + 3))] [] (k_X11_sheet l ad tk nt V ng rr c_0_ h.1 (xs (i + 1)) (xs (i + 2)) (xs (i + 3))) v_RL_107 (xl (by decide)) rfl rfl ⟨rfl, rfl, Nat.le_of_ble_eq_true rfl, Nat.le_of_ble_eq_true rfl⟩ rfl hl.1 rfl (Nat.le_of_ble_eq_true rfl) ⟨by have := hcs.1; omega, by have := hcs.2; omega⟩ dL_law_903 ?_
  rintro r σ2 V2 ⟨rfl, x, rfl, hx⟩
  refine g_aload_n C dL_law_906 rfl (lv_at hl 2 rfl) ?_
  refine g_arg C X hl 1 rfl (by omega) dL_law_907 dL_law_908 dL_law_909 dL_law_910 dL_law_911 ?_
  refine g_arg C X hl 2 rfl (by omega) dL_law_912 dL_law_913 dL_law_914 dL_law_915 dL_law_916 ?_
  refine g_arg C X hl 3 rfl (by omega) dL_law_917 dL_law_918 dL_law_919 dL_law_920 dL_law_921 ?_
  refine g_callM (k := 0) (ci := 12) C [.int (xs (i + 1)), .int (xs (i + 2)), .int (xs (i + 3))] [.int x] (k_X12_sheet l am M (xs (i + 1)) (xs (i + 2)) (xs (i + 3)) ng rr nt c_0_ h.2.1 ) v_RL_110 (ml (by decide)) rfl rfl ⟨rfl, rfl, Nat.le_of_ble_eq_true rfl, Nat.le_of_ble_eq_true rfl⟩ rfl hl.1 rfl (Nat.le_of_ble_eq_true rfl) ⟨by have := hcs.1; omega, by have := hcs.2; omega⟩ dL_law_922 ?_
  rintro r τ2 M2 ⟨rfl, y, rfl, hy⟩
  obtain ⟨exy, hR2⟩ := r_sheet (xs (i + 1)) (xs (i + 2)) (xs (i + 3)) h hx hy
  refine g_icmp_eq (tgt := 1231) C dL_law_925 (by decide) (fun _ => ?_) (fun w => absurd exy w)
  exact g_more (kc := cells + 5) (ks := slots + 10) (by omega) (by omega) (kk ad tk nt V2 M2 rfl hR2)
set_option maxHeartbeats 4000000 in
set_option maxRecDepth 100000 in
theorem lc_lose (C : Cx p s m args meth c A D cy RL cL_law 4 ret) {b L i : Nat} {xs : Nat → Int32} (X : LX A b L xs s) (hi : i + 6 ≤ L) {ad tk am : Nat → Nat} {nt : Nat} (hR : RLo tk nt V M) (hl : lv_has ls 4 (lwl b (ad 55) (am 0) i)) (hcs : cells + 5 ≤ room_1.cells ∧ slots + 10 ≤ room_1.slots) (kk : ∀ (ad2 tk2 : Nat → Nat) (nt2 : Nat) (V2 M2 : Vt), ad2 55 = ad 55 → RLo tk2 nt2 V2 M2 → J2 p l e room_1 s m args below meth c A D cy (cells + 5) (slots + 10) Q (xS ad2 tk2 nt2) V2 (mS am) M2 (F0 m 1231 ls [])) : J2 p l e room_1 s m args below meth c A D cy cells slots Q (xS ad tk nt) V (mS am) M (F0 m 930 ls []) := by
  obtain ⟨ng, rr, c_0_, h⟩ := hR
  refine g_aload_n C dL_law_930 rfl (lv_at hl 1 rfl) ?_
  refine g_arg C X hl 1 rfl (by omega) dL_law_931 dL_law_932 dL_law_933 dL_law_934 dL_law_935 ?_
  refine g_callX (k := 55) (ci := 11) C [.int (xs (i + 1))] [] (k_X11_lose l ad tk nt V ng rr c_0_ h.1 (xs (i + 1))) v_RL_111 (xl (by decide)) rfl rfl ⟨rfl, rfl, Nat.le_of_ble_eq_true rfl, Nat.le_of_ble_eq_true rfl⟩ rfl hl.1 rfl (Nat.le_of_ble_eq_true rfl) ⟨by have := hcs.1; omega, by have := hcs.2; omega⟩ dL_law_936 ?_
  rintro r σ2 V2 ⟨rfl, x, rfl, hx⟩
  refine g_aload_n C dL_law_939 rfl (lv_at hl 2 rfl) ?_
  refine g_arg C X hl 1 rfl (by omega) dL_law_940 dL_law_941 dL_law_942 dL_law_943 dL_law_944 ?_
  refine g_callM (k := 0) (ci := 12) C [.int (xs (i + 1))] [.int x] (k_X12_lose l am M (xs (i + 1)) ng rr nt c_0_ h.2.1 ) v_RL_114 (ml (by decide)) rfl rfl ⟨rfl, rfl, Nat.le_of_ble_eq_true rfl, Nat.le_of_ble_eq_true rfl⟩ rfl hl.1 rfl (Nat.le_of_ble_eq_true rfl) ⟨by have := hcs.1; omega, by have := hcs.2; omega⟩ dL_law_945 ?_
  rintro r τ2 M2 ⟨rfl, y, rfl, hy⟩
  obtain ⟨exy, hR2⟩ := r_lose (xs (i + 1)) h hx hy
  refine g_icmp_eq (tgt := 1231) C dL_law_948 (by decide) (fun _ => ?_) (fun w => absurd exy w)
  exact g_more (kc := cells + 5) (ks := slots + 10) (by omega) (by omega) (kk ad tk nt V2 M2 rfl hR2)
set_option maxHeartbeats 4000000 in
set_option maxRecDepth 100000 in
theorem lc_put (C : Cx p s m args meth c A D cy RL cL_law 4 ret) {b L i : Nat} {xs : Nat → Int32} (X : LX A b L xs s) (hi : i + 6 ≤ L) {ad tk am : Nat → Nat} {nt : Nat} (hR : RLo tk nt V M) (hl : lv_has ls 4 (lwl b (ad 55) (am 0) i)) (hcs : cells + 5 ≤ room_1.cells ∧ slots + 10 ≤ room_1.slots) (kk : ∀ (ad2 tk2 : Nat → Nat) (nt2 : Nat) (V2 M2 : Vt), ad2 55 = ad 55 → RLo tk2 nt2 V2 M2 → J2 p l e room_1 s m args below meth c A D cy (cells + 5) (slots + 10) Q (xS ad2 tk2 nt2) V2 (mS am) M2 (F0 m 1231 ls [])) : J2 p l e room_1 s m args below meth c A D cy cells slots Q (xS ad tk nt) V (mS am) M (F0 m 953 ls []) := by
  obtain ⟨ng, rr, c_0_, h⟩ := hR
  refine g_aload_n C dL_law_953 rfl (lv_at hl 1 rfl) ?_
  refine g_arg C X hl 1 rfl (by omega) dL_law_954 dL_law_955 dL_law_956 dL_law_957 dL_law_958 ?_
  refine g_arg C X hl 2 rfl (by omega) dL_law_959 dL_law_960 dL_law_961 dL_law_962 dL_law_963 ?_
  refine g_arg C X hl 3 rfl (by omega) dL_law_964 dL_law_965 dL_law_966 dL_law_967 dL_law_968 ?_
  refine g_callX (k := 55) (ci := 11) C [.int (xs (i + 1)), .int (xs (i + 2)), .int (xs (i + 3))] [] (k_X11_put l ad tk nt V ng rr c_0_ h.1 (xs (i + 1)) (xs (i + 2)) (xs (i + 3))) v_RL_115 (xl (by decide)) rfl rfl ⟨rfl, rfl, Nat.le_of_ble_eq_true rfl, Nat.le_of_ble_eq_true rfl⟩ rfl hl.1 rfl (Nat.le_of_ble_eq_true rfl) ⟨by have := hcs.1; omega, by have := hcs.2; omega⟩ dL_law_969 ?_
  rintro r σ2 V2 ⟨rfl, x, rfl, hx⟩
  refine g_aload_n C dL_law_972 rfl (lv_at hl 2 rfl) ?_
  refine g_arg C X hl 1 rfl (by omega) dL_law_973 dL_law_974 dL_law_975 dL_law_976 dL_law_977 ?_
  refine g_arg C X hl 2 rfl (by omega) dL_law_978 dL_law_979 dL_law_980 dL_law_981 dL_law_982 ?_
  refine g_arg C X hl 3 rfl (by omega) dL_law_983 dL_law_984 dL_law_985 dL_law_986 dL_law_987 ?_
  refine g_callM (k := 0) (ci := 12) C [.int (xs (i + 1)), .int (xs (i + 2)), .int (xs (i + 3))] [.int x] (k_X12_put l am M (xs (i + 1)) (xs (i + 2)) (xs (i + 3)) ng rr nt c_0_ h.2.1 ) v_RL_118 (ml (by decide)) rfl rfl ⟨rfl, rfl, Nat.le_of_ble_eq_true rfl, Nat.le_of_ble_eq_true rfl⟩ rfl hl.1 rfl (Nat.le_of_ble_eq_true rfl) ⟨by have := hcs.1; omega, by have := hcs.2; omega⟩ dL_law_988 ?_
  rintro r τ2 M2 ⟨rfl, y, rfl, hy⟩
  obtain ⟨exy, hR2⟩ := r_put (xs (i + 1)) (xs (i + 2)) (xs (i + 3)) h hx hy
  refine g_icmp_eq (tgt := 1231) C dL_law_991 (by decide) (fun _ => ?_) (fun w => absurd exy w)
  exact g_more (kc := cells + 5) (ks := slots + 10) (by omega) (by omega) (kk ad tk nt V2 M2 rfl hR2)
set_option maxHeartbeats 4000000 in
set_option maxRecDepth 100000 in
theorem lc_cell (C : Cx p s m args meth c A D cy RL cL_law 4 ret) {b L i : Nat} {xs : Nat → Int32} (X : LX A b L xs s) (hi : i + 6 ≤ L) {ad tk am : Nat → Nat} {nt : Nat} (hR : RLo tk nt V M) (hl : lv_has ls 4 (lwl b (ad 55) (am 0) i)) (hcs : cells + 5 ≤ room_1.cells ∧ slots + 10 ≤ room_1.slots) (kk : ∀ (ad2 tk2 : Nat → Nat) (nt2 : Nat) (V2 M2 : Vt), ad2 55 = ad 55 → RLo tk2 nt2 V2 M2 → J2 p l e room_1 s m args below meth c A D cy (cells + 5) (slots + 10) Q (xS ad2 tk2 nt2) V2 (mS am) M2 (F0 m 1231 ls [])) : J2 p l e room_1 s m args below meth c A D cy cells slots Q (xS ad tk nt) V (mS am) M (F0 m 996 ls []) := by
  obtain ⟨ng, rr, c_0_, h⟩ := hR
  refine g_aload_n C dL_law_996 rfl (lv_at hl 1 rfl) ?_
  refine g_arg C X hl 1 rfl (by omega) dL_law_997 dL_law_998 dL_law_999 dL_law_1000 dL_law_1001 ?_
  refine g_arg C X hl 2 rfl (by omega) dL_law_1002 dL_law_1003 dL_law_1004 dL_law_1005 dL_law_1006 ?_
  refine g_arg C X hl 3 rfl (by omega) dL_law_1007 dL_law_1008 dL_law_1009 dL_law_1010 dL_law_1011 ?_
  refine g_callX (k := 55) (ci := 11) C [.int (xs (i + 1)), .int (xs (i + 2)), .int (xs (i + 3))] [] (k_X11_cell l ad tk nt V ng rr c_0_ h.1 (xs (i + 1)) (xs (i + 2)) (xs (i + 3))) v_RL_119 (xl (by decide)) rfl rfl ⟨rfl, rfl, Nat.le_of_ble_eq_true rfl, Nat.le_of_ble_eq_true rfl⟩ rfl hl.1 rfl (Nat.le_of_ble_eq_true rfl) ⟨by have := hcs.1; omega, by have := hcs.2; omega⟩ dL_law_1012 ?_
  rintro r σ2 V2 ⟨rfl, x, rfl, hx⟩
  refine g_aload_n C dL_law_1015 rfl (lv_at hl 2 rfl) ?_
  refine g_arg C X hl 1 rfl (by omega) dL_law_1016 dL_law_1017 dL_law_1018 dL_law_1019 dL_law_1020 ?_
  refine g_arg C X hl 2 rfl (by omega) dL_law_1021 dL_law_1022 dL_law_1023 dL_law_1024 dL_law_1025 ?_
  refine g_arg C X hl 3 rfl (by omega) dL_law_1026 dL_law_1027 dL_law_1028 dL_law_1029 dL_law_1030 ?_
  refine g_callM (k := 0) (ci := 12) C [.int (xs (i + 1)), .int (xs (i + 2)), .int (xs (i + 3))] [.long x] (k_X12_cell l am M (xs (i + 1)) (xs (i + 2)) (xs (i + 3)) ng rr nt c_0_ h.2.1 ) v_RL_122 (ml (by decide)) rfl rfl ⟨rfl, rfl, Nat.le_of_ble_eq_true rfl, Nat.le_of_ble_eq_true rfl⟩ rfl hl.1 rfl (Nat.le_of_ble_eq_true rfl) ⟨by have := hcs.1; omega, by have := hcs.2; omega⟩ dL_law_1031 ?_
  rintro r τ2 M2 ⟨rfl, y, rfl, hy⟩
  obtain ⟨exy, hR2⟩ := r_cell (xs (i + 1)) (xs (i + 2)) (xs (i + 3)) h hx hy
  refine g_lcmp C dL_law_1034 ?_
  refine g_if_eq (tgt := 1231) C dL_law_1035 (by decide) (fun _ => ?_) (fun w => absurd (by rw [exy]; exact lg_self y) w)
  exact g_more (kc := cells + 5) (ks := slots + 10) (by omega) (by omega) (kk ad tk nt V2 M2 rfl hR2)
set_option maxHeartbeats 4000000 in
set_option maxRecDepth 100000 in
theorem lc_copy (C : Cx p s m args meth c A D cy RL cL_law 4 ret) {b L i : Nat} {xs : Nat → Int32} (X : LX A b L xs s) (hi : i + 6 ≤ L) {ad tk am : Nat → Nat} {nt : Nat} (hR : RLo tk nt V M) (hl : lv_has ls 4 (lwl b (ad 55) (am 0) i)) (hcs : cells + 5 ≤ room_1.cells ∧ slots + 10 ≤ room_1.slots) (kk : ∀ (ad2 tk2 : Nat → Nat) (nt2 : Nat) (V2 M2 : Vt), ad2 55 = ad 55 → RLo tk2 nt2 V2 M2 → J2 p l e room_1 s m args below meth c A D cy (cells + 5) (slots + 10) Q (xS ad2 tk2 nt2) V2 (mS am) M2 (F0 m 1231 ls [])) : J2 p l e room_1 s m args below meth c A D cy cells slots Q (xS ad tk nt) V (mS am) M (F0 m 1040 ls []) := by
  obtain ⟨ng, rr, c_0_, h⟩ := hR
  refine g_aload_n C dL_law_1040 rfl (lv_at hl 1 rfl) ?_
  refine g_arg C X hl 1 rfl (by omega) dL_law_1041 dL_law_1042 dL_law_1043 dL_law_1044 dL_law_1045 ?_
  refine g_arg C X hl 2 rfl (by omega) dL_law_1046 dL_law_1047 dL_law_1048 dL_law_1049 dL_law_1050 ?_
  refine g_arg C X hl 3 rfl (by omega) dL_law_1051 dL_law_1052 dL_law_1053 dL_law_1054 dL_law_1055 ?_
  refine g_arg C X hl 4 rfl (by omega) dL_law_1056 dL_law_1057 dL_law_1058 dL_law_1059 dL_law_1060 ?_
  refine g_arg C X hl 5 rfl (by omega) dL_law_1061 dL_law_1062 dL_law_1063 dL_law_1064 dL_law_1065 ?_
  refine g_callX (k := 55) (ci := 11) C [.int (xs (i + 1)), .int (xs (i + 2)), .int (xs (i + 3)), .int (xs (i + 4)), .int (xs (i + 5))] [] (k_X11_copy l ad tk nt V ng rr c_0_ h.1 (xs (i + 1)) (xs (i + 2)) (xs (i + 3)) (xs (i + 4)) (xs (i + 5))) v_RL_123 (xl (by decide)) rfl rfl ⟨rfl, rfl, Nat.le_of_ble_eq_true rfl, Nat.le_of_ble_eq_true rfl⟩ rfl hl.1 rfl (Nat.le_of_ble_eq_true rfl) ⟨by have := hcs.1; omega, by have := hcs.2; omega⟩ dL_law_1066 ?_
  rintro r σ2 V2 ⟨rfl, x, rfl, hx⟩
  refine g_aload_n C dL_law_1069 rfl (lv_at hl 2 rfl) ?_
  refine g_arg C X hl 1 rfl (by omega) dL_law_1070 dL_law_1071 dL_law_1072 dL_law_1073 dL_law_1074 ?_
  refine g_arg C X hl 2 rfl (by omega) dL_law_1075 dL_law_1076 dL_law_1077 dL_law_1078 dL_law_1079 ?_
  refine g_arg C X hl 3 rfl (by omega) dL_law_1080 dL_law_1081 dL_law_1082 dL_law_1083 dL_law_1084 ?_
  refine g_arg C X hl 4 rfl (by omega) dL_law_1085 dL_law_1086 dL_law_1087 dL_law_1088 dL_law_1089 ?_
  refine g_arg C X hl 5 rfl (by omega) dL_law_1090 dL_law_1091 dL_law_1092 dL_law_1093 dL_law_1094 ?_
  refine g_callM (k := 0) (ci := 12) C [.int (xs (i + 1)), .int (xs (i + 2)), .int (xs (i + 3)), .int (xs (i + 4)), .int (xs (i + 5))] [.int x] (k_X12_copy l am M (xs (i + 1)) (xs (i + 2)) (xs (i + 3)) (xs (i + 4)) (xs (i + 5)) ng rr nt c_0_ h.2.1 ) v_RL_126 (ml (by decide)) rfl rfl ⟨rfl, rfl, Nat.le_of_ble_eq_true rfl, Nat.le_of_ble_eq_true rfl⟩ rfl hl.1 rfl (Nat.le_of_ble_eq_true rfl) ⟨by have := hcs.1; omega, by have := hcs.2; omega⟩ dL_law_1095 ?_
  rintro r τ2 M2 ⟨rfl, y, rfl, hy⟩
  obtain ⟨exy, hR2⟩ := r_copy (xs (i + 1)) (xs (i + 2)) (xs (i + 3)) (xs (i + 4)) (xs (i + 5)) h hx hy
  refine g_icmp_eq (tgt := 1231) C dL_law_1098 (by decide) (fun _ => ?_) (fun w => absurd exy w)
  exact g_more (kc := cells + 5) (ks := slots + 10) (by omega) (by omega) (kk ad tk nt V2 M2 rfl hR2)
set_option maxHeartbeats 4000000 in
set_option maxRecDepth 100000 in
theorem lc_tell (C : Cx p s m args meth c A D cy RL cL_law 4 ret) {b L i : Nat} {xs : Nat → Int32} (X : LX A b L xs s) (hi : i + 6 ≤ L) {ad tk am : Nat → Nat} {nt : Nat} (hR : RLo tk nt V M) (hl : lv_has ls 4 (lwl b (ad 55) (am 0) i)) (hcs : cells + 5 ≤ room_1.cells ∧ slots + 10 ≤ room_1.slots) (kk : ∀ (ad2 tk2 : Nat → Nat) (nt2 : Nat) (V2 M2 : Vt), ad2 55 = ad 55 → RLo tk2 nt2 V2 M2 → J2 p l e room_1 s m args below meth c A D cy (cells + 5) (slots + 10) Q (xS ad2 tk2 nt2) V2 (mS am) M2 (F0 m 1231 ls [])) : J2 p l e room_1 s m args below meth c A D cy cells slots Q (xS ad tk nt) V (mS am) M (F0 m 1103 ls []) := by
  obtain ⟨ng, rr, c_0_, h⟩ := hR
  refine g_aload_n C dL_law_1103 rfl (lv_at hl 1 rfl) ?_
  refine g_arg C X hl 1 rfl (by omega) dL_law_1104 dL_law_1105 dL_law_1106 dL_law_1107 dL_law_1108 ?_
  refine g_callX (k := 55) (ci := 11) C [.int (xs (i + 1))] [] (k_X11_tell l ad tk nt V ng rr c_0_ h.1 (xs (i + 1))) v_RL_127 (xl (by decide)) rfl rfl ⟨rfl, rfl, Nat.le_of_ble_eq_true rfl, Nat.le_of_ble_eq_true rfl⟩ rfl hl.1 rfl (Nat.le_of_ble_eq_true rfl) ⟨by have := hcs.1; omega, by have := hcs.2; omega⟩ dL_law_1109 ?_
  rintro r σ2 V2 ⟨rfl, x, rfl, hx⟩
  refine g_aload_n C dL_law_1112 rfl (lv_at hl 2 rfl) ?_
  refine g_arg C X hl 1 rfl (by omega) dL_law_1113 dL_law_1114 dL_law_1115 dL_law_1116 dL_law_1117 ?_
  refine g_callM (k := 0) (ci := 12) C [.int (xs (i + 1))] [.int x] (k_X12_tell l am M (xs (i + 1)) ng rr nt c_0_ h.2.1 ) v_RL_130 (ml (by decide)) rfl rfl ⟨rfl, rfl, Nat.le_of_ble_eq_true rfl, Nat.le_of_ble_eq_true rfl⟩ rfl hl.1 rfl (Nat.le_of_ble_eq_true rfl) ⟨by have := hcs.1; omega, by have := hcs.2; omega⟩ dL_law_1118 ?_
  rintro r τ2 M2 ⟨rfl, y, rfl, hy⟩
  obtain ⟨exy, hR2⟩ := r_tell (xs (i + 1)) h hx hy
  refine g_icmp_eq (tgt := 1231) C dL_law_1121 (by decide) (fun _ => ?_) (fun w => absurd exy w)
  exact g_more (kc := cells + 5) (ks := slots + 10) (by omega) (by omega) (kk ad tk nt V2 M2 rfl hR2)
set_option maxHeartbeats 4000000 in
set_option maxRecDepth 100000 in
theorem lc_cheer (C : Cx p s m args meth c A D cy RL cL_law 4 ret) {b L i : Nat} {xs : Nat → Int32} (X : LX A b L xs s) (hi : i + 6 ≤ L) {ad tk am : Nat → Nat} {nt : Nat} (hR : RLo tk nt V M) (hl : lv_has ls 4 (lwl b (ad 55) (am 0) i)) (hcs : cells + 5 ≤ room_1.cells ∧ slots + 10 ≤ room_1.slots) (kk : ∀ (ad2 tk2 : Nat → Nat) (nt2 : Nat) (V2 M2 : Vt), ad2 55 = ad 55 → RLo tk2 nt2 V2 M2 → J2 p l e room_1 s m args below meth c A D cy (cells + 5) (slots + 10) Q (xS ad2 tk2 nt2) V2 (mS am) M2 (F0 m 1231 ls [])) : J2 p l e room_1 s m args below meth c A D cy cells slots Q (xS ad tk nt) V (mS am) M (F0 m 1126 ls []) := by
  obtain ⟨ng, rr, c_0_, h⟩ := hR
  refine g_aload_n C dL_law_1126 rfl (lv_at hl 1 rfl) ?_
  refine g_arg C X hl 1 rfl (by omega) dL_law_1127 dL_law_1128 dL_law_1129 dL_law_1130 dL_law_1131 ?_
  refine g_callX (k := 55) (ci := 11) C [.int (xs (i + 1))] [] (k_X11_cheer l ad tk nt V ng rr c_0_ h.1 (xs (i + 1))) v_RL_131 (xl (by decide)) rfl rfl ⟨rfl, rfl, Nat.le_of_ble_eq_true rfl, Nat.le_of_ble_eq_true rfl⟩ rfl hl.1 rfl (Nat.le_of_ble_eq_true rfl) ⟨by have := hcs.1; omega, by have := hcs.2; omega⟩ dL_law_1132 ?_
  rintro r σ2 V2 ⟨rfl, x, rfl, hx⟩
  refine g_aload_n C dL_law_1135 rfl (lv_at hl 2 rfl) ?_
  refine g_arg C X hl 1 rfl (by omega) dL_law_1136 dL_law_1137 dL_law_1138 dL_law_1139 dL_law_1140 ?_
  refine g_callM (k := 0) (ci := 12) C [.int (xs (i + 1))] [.int x] (k_X12_cheer l am M (xs (i + 1)) ng rr nt c_0_ h.2.1 ) v_RL_134 (ml (by decide)) rfl rfl ⟨rfl, rfl, Nat.le_of_ble_eq_true rfl, Nat.le_of_ble_eq_true rfl⟩ rfl hl.1 rfl (Nat.le_of_ble_eq_true rfl) ⟨by have := hcs.1; omega, by have := hcs.2; omega⟩ dL_law_1141 ?_
  rintro r τ2 M2 ⟨rfl, y, rfl, hy⟩
  obtain ⟨exy, hR2⟩ := r_cheer (xs (i + 1)) h hx hy
  refine g_icmp_eq (tgt := 1231) C dL_law_1144 (by decide) (fun _ => ?_) (fun w => absurd exy w)
  exact g_more (kc := cells + 5) (ks := slots + 10) (by omega) (by omega) (kk ad tk nt V2 M2 rfl hR2)
set_option maxHeartbeats 4000000 in
set_option maxRecDepth 100000 in
theorem lc_as (C : Cx p s m args meth c A D cy RL cL_law 4 ret) {b L i : Nat} {xs : Nat → Int32} (X : LX A b L xs s) (hi : i + 6 ≤ L) {ad tk am : Nat → Nat} {nt : Nat} (hR : RLo tk nt V M) (hl : lv_has ls 4 (lwl b (ad 55) (am 0) i)) (hcs : cells + 5 ≤ room_1.cells ∧ slots + 10 ≤ room_1.slots) (kk : ∀ (ad2 tk2 : Nat → Nat) (nt2 : Nat) (V2 M2 : Vt), ad2 55 = ad 55 → RLo tk2 nt2 V2 M2 → J2 p l e room_1 s m args below meth c A D cy (cells + 5) (slots + 10) Q (xS ad2 tk2 nt2) V2 (mS am) M2 (F0 m 1231 ls [])) : J2 p l e room_1 s m args below meth c A D cy cells slots Q (xS ad tk nt) V (mS am) M (F0 m 1149 ls []) := by
  obtain ⟨ng, rr, c_0_, h⟩ := hR
  refine g_aload_n C dL_law_1149 rfl (lv_at hl 1 rfl) ?_
  refine g_arg C X hl 1 rfl (by omega) dL_law_1150 dL_law_1151 dL_law_1152 dL_law_1153 dL_law_1154 ?_
  refine g_arg C X hl 2 rfl (by omega) dL_law_1155 dL_law_1156 dL_law_1157 dL_law_1158 dL_law_1159 ?_
  refine g_callX (k := 55) (ci := 11) C [.int (xs (i + 1)), .int (xs (i + 2))] [] (k_X11_as l ad tk nt V ng rr c_0_ h.1 (xs (i + 1)) (xs (i + 2))) v_RL_135 (xl (by decide)) rfl rfl ⟨rfl, rfl, Nat.le_of_ble_eq_true rfl, Nat.le_of_ble_eq_true rfl⟩ rfl hl.1 rfl (Nat.le_of_ble_eq_true rfl) ⟨by have := hcs.1; omega, by have := hcs.2; omega⟩ dL_law_1160 ?_
  rintro r σ2 V2 ⟨rfl, x, rfl, hx⟩
  refine g_aload_n C dL_law_1163 rfl (lv_at hl 2 rfl) ?_
  refine g_arg C X hl 1 rfl (by omega) dL_law_1164 dL_law_1165 dL_law_1166 dL_law_1167 dL_law_1168 ?_
  refine g_arg C X hl 2 rfl (by omega) dL_law_1169 dL_law_1170 dL_law_1171 dL_law_1172 dL_law_1173 ?_
  refine g_callM (k := 0) (ci := 12) C [.int (xs (i + 1)), .int (xs (i + 2))] [.int x] (k_X12_as l am M (xs (i + 1)) (xs (i + 2)) ng rr nt c_0_ h.2.1 ) v_RL_138 (ml (by decide)) rfl rfl ⟨rfl, rfl, Nat.le_of_ble_eq_true rfl, Nat.le_of_ble_eq_true rfl⟩ rfl hl.1 rfl (Nat.le_of_ble_eq_true rfl) ⟨by have := hcs.1; omega, by have := hcs.2; omega⟩ dL_law_1174 ?_
  rintro r τ2 M2 ⟨rfl, y, rfl, hy⟩
  obtain ⟨exy, hR2⟩ := r_as (xs (i + 1)) (xs (i + 2)) h hx hy
  refine g_icmp_eq (tgt := 1231) C dL_law_1177 (by decide) (fun _ => ?_) (fun w => absurd exy w)
  exact g_more (kc := cells + 5) (ks := slots + 10) (by omega) (by omega) (kk ad tk nt V2 M2 rfl hR2)
set_option maxHeartbeats 4000000 in
set_option maxRecDepth 100000 in
theorem lc_trace (C : Cx p s m args meth c A D cy RL cL_law 4 ret) {b L i : Nat} {xs : Nat → Int32} (X : LX A b L xs s) (hi : i + 6 ≤ L) {ad tk am : Nat → Nat} {nt : Nat} (hR : RLo tk nt V M) (hl : lv_has ls 4 (lwl b (ad 55) (am 0) i)) (hcs : cells + 5 ≤ room_1.cells ∧ slots + 10 ≤ room_1.slots) (kk : ∀ (ad2 tk2 : Nat → Nat) (nt2 : Nat) (V2 M2 : Vt), ad2 55 = ad 55 → RLo tk2 nt2 V2 M2 → J2 p l e room_1 s m args below meth c A D cy (cells + 5) (slots + 10) Q (xS ad2 tk2 nt2) V2 (mS am) M2 (F0 m 1231 ls [])) : J2 p l e room_1 s m args below meth c A D cy cells slots Q (xS ad tk nt) V (mS am) M (F0 m 1182 ls []) := by
  obtain ⟨ng, rr, c_0_, h⟩ := hR
  refine g_aload_n C dL_law_1182 rfl (lv_at hl 1 rfl) ?_
  refine g_callX (k := 55) (ci := 11) C [] [] (k_X11_trace l ad tk nt V ) v_RL_139 (xl (by decide)) rfl rfl ⟨rfl, rfl, Nat.le_of_ble_eq_true rfl, Nat.le_of_ble_eq_true rfl⟩ rfl hl.1 rfl (Nat.le_of_ble_eq_true rfl) ⟨by have := hcs.1; omega, by have := hcs.2; omega⟩ dL_law_1183 ?_
  rintro r σ2 V2 ⟨rfl, x, rfl, hx⟩
  refine g_aload_n C dL_law_1186 rfl (lv_at hl 2 rfl) ?_
  refine g_callM (k := 0) (ci := 12) C [] [.int x] (k_X12_trace l am M ) v_RL_143 (ml (by decide)) rfl rfl ⟨rfl, rfl, Nat.le_of_ble_eq_true rfl, Nat.le_of_ble_eq_true rfl⟩ rfl hl.1 rfl (Nat.le_of_ble_eq_true rfl) ⟨by have := hcs.1; omega, by have := hcs.2; omega⟩ dL_law_1187 ?_
  rintro r τ2 M2 ⟨rfl, y, rfl, hy⟩
  obtain ⟨exy, hR2⟩ := r_trace  h hx hy
  refine g_icmp_eq (tgt := 1231) C dL_law_1190 (by decide) (fun _ => ?_) (fun w => absurd exy w)
  exact g_more (kc := cells + 5) (ks := slots + 10) (by omega) (by omega) (kk ad tk nt V2 M2 rfl hR2)
set_option maxHeartbeats 4000000 in
set_option maxRecDepth 100000 in
theorem lc_fault (C : Cx p s m args meth c A D cy RL cL_law 4 ret) {b L i : Nat} {xs : Nat → Int32} (X : LX A b L xs s) (hi : i + 6 ≤ L) {ad tk am : Nat → Nat} {nt : Nat} (hR : RLo tk nt V M) (hl : lv_has ls 4 (lwl b (ad 55) (am 0) i)) (hcs : cells + 5 ≤ room_1.cells ∧ slots + 10 ≤ room_1.slots) (kk : ∀ (ad2 tk2 : Nat → Nat) (nt2 : Nat) (V2 M2 : Vt), ad2 55 = ad 55 → RLo tk2 nt2 V2 M2 → J2 p l e room_1 s m args below meth c A D cy (cells + 5) (slots + 10) Q (xS ad2 tk2 nt2) V2 (mS am) M2 (F0 m 1231 ls [])) : J2 p l e room_1 s m args below meth c A D cy cells slots Q (xS ad tk nt) V (mS am) M (F0 m 1195 ls []) := by
  obtain ⟨ng, rr, c_0_, h⟩ := hR
  refine g_aload_n C dL_law_1195 rfl (lv_at hl 1 rfl) ?_
  refine g_callX (k := 55) (ci := 11) C [] [] (k_X11_fault l ad tk nt V ) v_RL_144 (xl (by decide)) rfl rfl ⟨rfl, rfl, Nat.le_of_ble_eq_true rfl, Nat.le_of_ble_eq_true rfl⟩ rfl hl.1 rfl (Nat.le_of_ble_eq_true rfl) ⟨by have := hcs.1; omega, by have := hcs.2; omega⟩ dL_law_1196 ?_
  rintro r σ2 V2 ⟨rfl, x, rfl, hx⟩
  refine g_aload_n C dL_law_1199 rfl (lv_at hl 2 rfl) ?_
  refine g_callM (k := 0) (ci := 12) C [] [.int x] (k_X12_fault l am M ) v_RL_147 (ml (by decide)) rfl rfl ⟨rfl, rfl, Nat.le_of_ble_eq_true rfl, Nat.le_of_ble_eq_true rfl⟩ rfl hl.1 rfl (Nat.le_of_ble_eq_true rfl) ⟨by have := hcs.1; omega, by have := hcs.2; omega⟩ dL_law_1200 ?_
  rintro r τ2 M2 ⟨rfl, y, rfl, hy⟩
  obtain ⟨exy, hR2⟩ := r_fault  h hx hy
  refine g_icmp_eq (tgt := 1231) C dL_law_1203 (by decide) (fun _ => ?_) (fun w => absurd exy w)
  exact g_more (kc := cells + 5) (ks := slots + 10) (by omega) (by omega) (kk ad tk nt V2 M2 rfl hR2)
set_option maxHeartbeats 4000000 in
set_option maxRecDepth 100000 in
theorem lc_many (C : Cx p s m args meth c A D cy RL cL_law 4 ret) {b L i : Nat} {xs : Nat → Int32} (X : LX A b L xs s) (hi : i + 6 ≤ L) {ad tk am : Nat → Nat} {nt : Nat} (hR : RLo tk nt V M) (hl : lv_has ls 4 (lwl b (ad 55) (am 0) i)) (hcs : cells + 5 ≤ room_1.cells ∧ slots + 10 ≤ room_1.slots) (kk : ∀ (ad2 tk2 : Nat → Nat) (nt2 : Nat) (V2 M2 : Vt), ad2 55 = ad 55 → RLo tk2 nt2 V2 M2 → J2 p l e room_1 s m args below meth c A D cy (cells + 5) (slots + 10) Q (xS ad2 tk2 nt2) V2 (mS am) M2 (F0 m 1231 ls [])) : J2 p l e room_1 s m args below meth c A D cy cells slots Q (xS ad tk nt) V (mS am) M (F0 m 1208 ls []) := by
  obtain ⟨ng, rr, c_0_, h⟩ := hR
  refine g_aload_n C dL_law_1208 rfl (lv_at hl 1 rfl) ?_
  refine g_arg C X hl 1 rfl (by omega) dL_law_1209 dL_law_1210 dL_law_1211 dL_law_1212 dL_law_1213 ?_
  refine g_callX (k := 55) (ci := 11) C [.int (xs (i + 1))] [] (k_X11_many l ad tk nt V ng rr c_0_ h.1 (xs (i + 1))) v_RL_148 (xl (by decide)) rfl rfl ⟨rfl, rfl, Nat.le_of_ble_eq_true rfl, Nat.le_of_ble_eq_true rfl⟩ rfl hl.1 rfl (Nat.le_of_ble_eq_true rfl) ⟨by have := hcs.1; omega, by have := hcs.2; omega⟩ dL_law_1214 ?_
  rintro r σ2 V2 ⟨rfl, x, rfl, hx⟩
  refine g_aload_n C dL_law_1217 rfl (lv_at hl 2 rfl) ?_
  refine g_arg C X hl 1 rfl (by omega) dL_law_1218 dL_law_1219 dL_law_1220 dL_law_1221 dL_law_1222 ?_
  refine g_callM (k := 0) (ci := 12) C [.int (xs (i + 1))] [.int x] (k_X12_many l am M (xs (i + 1)) ng rr nt c_0_ h.2.1 ) v_RL_151 (ml (by decide)) rfl rfl ⟨rfl, rfl, Nat.le_of_ble_eq_true rfl, Nat.le_of_ble_eq_true rfl⟩ rfl hl.1 rfl (Nat.le_of_ble_eq_true rfl) ⟨by have := hcs.1; omega, by have := hcs.2; omega⟩ dL_law_1223 ?_
  rintro r τ2 M2 ⟨rfl, y, rfl, hy⟩
  obtain ⟨exy, hR2⟩ := r_many (xs (i + 1)) h hx hy
  refine g_icmp_eq (tgt := 1231) C dL_law_1226 (by decide) (fun _ => ?_) (fun w => absurd exy w)
  exact g_more (kc := cells + 5) (ks := slots + 10) (by omega) (by omega) (kk ad tk nt V2 M2 rfl hR2)
end JCase
