set_option maxRecDepth 100000 in
set_option maxHeartbeats 4000000 in
theorem law_case_0 {Ln : Nat} {xs : Nat → Int32} {ck sk : Nat} {C : aSc} {M : aMm} {x3 : Int32} (hR : Rel C M) (hi1 : vp_in (x3 + (1 : Int32)) Ln) (hi2 : vp_in (x3 + (2 : Int32)) Ln) (hi3 : vp_in (x3 + (3 : Int32)) Ln) (hi4 : vp_in (x3 + (4 : Int32)) Ln) (hi5 : vp_in (x3 + (5 : Int32)) Ln) (hck : ck + 2 ≤ 600000) (hsk : sk + 21504 ≤ 7302250) (K : ∀ (C' : aSc) (M' : aMm), Rel C' M' → JL Ln xs (ck + 2) (sk + 21504) 1314 [(0, .ref 300), (1, .ref 0), (2, .ref 94), (3, .int x3)] [] (C', M')) : JL Ln xs ck sk 184 [(0, .ref 300), (1, .ref 0), (2, .ref 94), (3, .int x3)] [] (C, M) := by
  refine L_aload_n dL_law_184 rfl 1 rfl ?_
  refine L_aload_n dL_law_185 rfl 0 rfl ?_
  refine L_iload_n dL_law_186 rfl 3 rfl ?_
  refine L_iconst 1 dL_law_187 rfl ?_
  refine L_iadd dL_law_188 ?_
  refine L_sld hi1 dL_law_189 ?_
  refine L_aload_n dL_law_190 rfl 0 rfl ?_
  refine L_iload_n dL_law_191 rfl 3 rfl ?_
  refine L_iconst 2 dL_law_192 rfl ?_
  refine L_iadd dL_law_193 ?_
  refine L_sld hi2 dL_law_194 ?_
  refine L_i2l dL_law_195 ?_
  refine L_bipush 32 dL_law_196 rfl ?_
  refine L_lshl dL_law_198 ?_
  refine L_aload_n dL_law_199 rfl 0 rfl ?_
  refine L_iload_n dL_law_200 rfl 3 rfl ?_
  refine L_iconst 3 dL_law_201 rfl ?_
  refine L_iadd dL_law_202 ?_
  refine L_sld hi3 dL_law_203 ?_
  refine L_i2l dL_law_204 ?_
  refine L_ldc2 (4294967295) dL_law_205 kL_l13 ?_
  refine L_land dL_law_208 ?_
  refine L_lor dL_law_209 ?_
  obtain ⟨v, C', M', hX, hY, hR'⟩ := pr_feed ((xs (x3 + (1 : Int32)).toNatClampNeg)) (((((xs (x3 + (2 : Int32)).toNatClampNeg) : Int32).toInt64 <<< (((32 : Int32)).toInt64 &&& 63)) ||| (((xs (x3 + (3 : Int32)).toNatClampNeg) : Int32).toInt64 &&& (4294967295 : Int64))))  hR
  refine L_call (mj := mi_X7_feed) (as := [.int ((xs (x3 + (1 : Int32)).toNatClampNeg)), .long (((((xs (x3 + (2 : Int32)).toNatClampNeg) : Int32).toInt64 <<< (((32 : Int32)).toInt64 &&& 63)) ||| (((xs (x3 + (3 : Int32)).toNatClampNeg) : Int32).toInt64 &&& (4294967295 : Int64))))]) (rest := []) (ct_X7_feed (M := M) hX) rfl rfl (by decide) rfl (L_goodV (own := R_law) kmL_15 kin_X7_feed ks_X7_feed ki_X7 kd_X7_feed) hd_X7_feed rfl ⟨(Nat.le_of_ble_eq_true rfl), (Nat.le_of_ble_eq_true rfl)⟩ (Nat.le_of_ble_eq_true rfl) ⟨by show ck + 0 ≤ 600000; omega, by show sk + 0 ≤ 7302250; omega⟩ (fun _ => by simp) rfl (by simp) dL_law_210 ?_
  refine L_aload_n dL_law_213 rfl 2 rfl ?_
  refine L_aload_n dL_law_214 rfl 0 rfl ?_
  refine L_iload_n dL_law_215 rfl 3 rfl ?_
  refine L_iconst 1 dL_law_216 rfl ?_
  refine L_iadd dL_law_217 ?_
  refine L_sld hi1 dL_law_218 ?_
  refine L_aload_n dL_law_219 rfl 0 rfl ?_
  refine L_iload_n dL_law_220 rfl 3 rfl ?_
  refine L_iconst 2 dL_law_221 rfl ?_
  refine L_iadd dL_law_222 ?_
  refine L_sld hi2 dL_law_223 ?_
  refine L_i2l dL_law_224 ?_
  refine L_bipush 32 dL_law_225 rfl ?_
  refine L_lshl dL_law_227 ?_
  refine L_aload_n dL_law_228 rfl 0 rfl ?_
  refine L_iload_n dL_law_229 rfl 3 rfl ?_
  refine L_iconst 3 dL_law_230 rfl ?_
  refine L_iadd dL_law_231 ?_
  refine L_sld hi3 dL_law_232 ?_
  refine L_i2l dL_law_233 ?_
  refine L_ldc2 (4294967295) dL_law_234 kL_l13 ?_
  refine L_land dL_law_237 ?_
  refine L_lor dL_law_238 ?_
  refine L_call (mj := mi_X8_feed) (as := [.int ((xs (x3 + (1 : Int32)).toNatClampNeg)), .long (((((xs (x3 + (2 : Int32)).toNatClampNeg) : Int32).toInt64 <<< (((32 : Int32)).toInt64 &&& 63)) ||| (((xs (x3 + (3 : Int32)).toNatClampNeg) : Int32).toInt64 &&& (4294967295 : Int64))))]) (rest := [.int v]) (ct_X8_feed (C := C') hY) rfl rfl (by decide) rfl (L_goodV (own := R_law) kmL_19 kin_X8_feed ks_X8_feed ki_X8 kd_X8_feed) hd_X8_feed rfl ⟨(Nat.le_of_ble_eq_true rfl), (Nat.le_of_ble_eq_true rfl)⟩ (Nat.le_of_ble_eq_true rfl) ⟨by show ck + 0 + 0 ≤ 600000; omega, by show sk + 0 + 0 ≤ 7302250; omega⟩ (fun _ => by simp) rfl (by simp) dL_law_239 ?_
  refine L_cmpT 1314 dL_law_242 (by decide) ?_
  exact L_wide (by show ck + 0 + 0 ≤ ck + 2; omega) (by show sk + 0 + 0 ≤ sk + 21504; omega) (K C' M' hR')
set_option maxRecDepth 100000 in
set_option maxHeartbeats 4000000 in
theorem law_case_1 {Ln : Nat} {xs : Nat → Int32} {ck sk : Nat} {C : aSc} {M : aMm} {x3 : Int32} (hR : Rel C M) (hi1 : vp_in (x3 + (1 : Int32)) Ln) (hi2 : vp_in (x3 + (2 : Int32)) Ln) (hi3 : vp_in (x3 + (3 : Int32)) Ln) (hi4 : vp_in (x3 + (4 : Int32)) Ln) (hi5 : vp_in (x3 + (5 : Int32)) Ln) (hck : ck + 2 ≤ 600000) (hsk : sk + 21504 ≤ 7302250) (K : ∀ (C' : aSc) (M' : aMm), Rel C' M' → JL Ln xs (ck + 2) (sk + 21504) 1314 [(0, .ref 300), (1, .ref 0), (2, .ref 94), (3, .int x3)] [] (C', M')) : JL Ln xs ck sk 247 [(0, .ref 300), (1, .ref 0), (2, .ref 94), (3, .int x3)] [] (C, M) := by
  refine L_aload_n dL_law_247 rfl 1 rfl ?_
  refine L_aload_n dL_law_248 rfl 0 rfl ?_
  refine L_iload_n dL_law_249 rfl 3 rfl ?_
  refine L_iconst 1 dL_law_250 rfl ?_
  refine L_iadd dL_law_251 ?_
  refine L_sld hi1 dL_law_252 ?_
  refine L_aload_n dL_law_253 rfl 0 rfl ?_
  refine L_iload_n dL_law_254 rfl 3 rfl ?_
  refine L_iconst 2 dL_law_255 rfl ?_
  refine L_iadd dL_law_256 ?_
  refine L_sld hi2 dL_law_257 ?_
  refine L_aload_n dL_law_258 rfl 0 rfl ?_
  refine L_iload_n dL_law_259 rfl 3 rfl ?_
  refine L_iconst 3 dL_law_260 rfl ?_
  refine L_iadd dL_law_261 ?_
  refine L_sld hi3 dL_law_262 ?_
  obtain ⟨v, C', M', hX, hY, hR'⟩ := pr_light ((xs (x3 + (1 : Int32)).toNatClampNeg)) ((xs (x3 + (2 : Int32)).toNatClampNeg)) ((xs (x3 + (3 : Int32)).toNatClampNeg))  hR
  refine L_call (mj := mi_X7_light) (as := [.int ((xs (x3 + (1 : Int32)).toNatClampNeg)), .int ((xs (x3 + (2 : Int32)).toNatClampNeg)), .int ((xs (x3 + (3 : Int32)).toNatClampNeg))]) (rest := []) (ct_X7_light (M := M) hX) rfl rfl (by decide) rfl (L_goodV (own := R_law) kmL_20 kin_X7_light ks_X7_light ki_X7 kd_X7_light) hd_X7_light rfl ⟨(Nat.le_of_ble_eq_true rfl), (Nat.le_of_ble_eq_true rfl)⟩ (Nat.le_of_ble_eq_true rfl) ⟨by show ck + 0 ≤ 600000; omega, by show sk + 0 ≤ 7302250; omega⟩ (fun _ => by simp) rfl (by simp) dL_law_263 ?_
  refine L_aload_n dL_law_266 rfl 2 rfl ?_
  refine L_aload_n dL_law_267 rfl 0 rfl ?_
  refine L_iload_n dL_law_268 rfl 3 rfl ?_
  refine L_iconst 1 dL_law_269 rfl ?_
  refine L_iadd dL_law_270 ?_
  refine L_sld hi1 dL_law_271 ?_
  refine L_aload_n dL_law_272 rfl 0 rfl ?_
  refine L_iload_n dL_law_273 rfl 3 rfl ?_
  refine L_iconst 2 dL_law_274 rfl ?_
  refine L_iadd dL_law_275 ?_
  refine L_sld hi2 dL_law_276 ?_
  refine L_aload_n dL_law_277 rfl 0 rfl ?_
  refine L_iload_n dL_law_278 rfl 3 rfl ?_
  refine L_iconst 3 dL_law_279 rfl ?_
  refine L_iadd dL_law_280 ?_
  refine L_sld hi3 dL_law_281 ?_
  refine L_call (mj := mi_X8_light) (as := [.int ((xs (x3 + (1 : Int32)).toNatClampNeg)), .int ((xs (x3 + (2 : Int32)).toNatClampNeg)), .int ((xs (x3 + (3 : Int32)).toNatClampNeg))]) (rest := [.int v]) (ct_X8_light (C := C') hY) rfl rfl (by decide) rfl (L_goodV (own := R_law) kmL_24 kin_X8_light ks_X8_light ki_X8 kd_X8_light) hd_X8_light rfl ⟨(Nat.le_of_ble_eq_true rfl), (Nat.le_of_ble_eq_true rfl)⟩ (Nat.le_of_ble_eq_true rfl) ⟨by show ck + 0 + 0 ≤ 600000; omega, by show sk + 0 + 0 ≤ 7302250; omega⟩ (fun _ => by simp) rfl (by simp) dL_law_282 ?_
  refine L_cmpT 1314 dL_law_285 (by decide) ?_
  exact L_wide (by show ck + 0 + 0 ≤ ck + 2; omega) (by show sk + 0 + 0 ≤ sk + 21504; omega) (K C' M' hR')
set_option maxRecDepth 100000 in
set_option maxHeartbeats 4000000 in
theorem law_case_2 {Ln : Nat} {xs : Nat → Int32} {ck sk : Nat} {C : aSc} {M : aMm} {x3 : Int32} (hR : Rel C M) (hi1 : vp_in (x3 + (1 : Int32)) Ln) (hi2 : vp_in (x3 + (2 : Int32)) Ln) (hi3 : vp_in (x3 + (3 : Int32)) Ln) (hi4 : vp_in (x3 + (4 : Int32)) Ln) (hi5 : vp_in (x3 + (5 : Int32)) Ln) (hck : ck + 2 ≤ 600000) (hsk : sk + 21504 ≤ 7302250) (K : ∀ (C' : aSc) (M' : aMm), Rel C' M' → JL Ln xs (ck + 2) (sk + 21504) 1314 [(0, .ref 300), (1, .ref 0), (2, .ref 94), (3, .int x3)] [] (C', M')) : JL Ln xs ck sk 290 [(0, .ref 300), (1, .ref 0), (2, .ref 94), (3, .int x3)] [] (C, M) := by
  refine L_aload_n dL_law_290 rfl 1 rfl ?_
  refine L_aload_n dL_law_291 rfl 0 rfl ?_
  refine L_iload_n dL_law_292 rfl 3 rfl ?_
  refine L_iconst 1 dL_law_293 rfl ?_
  refine L_iadd dL_law_294 ?_
  refine L_sld hi1 dL_law_295 ?_
  refine L_aload_n dL_law_296 rfl 0 rfl ?_
  refine L_iload_n dL_law_297 rfl 3 rfl ?_
  refine L_iconst 2 dL_law_298 rfl ?_
  refine L_iadd dL_law_299 ?_
  refine L_sld hi2 dL_law_300 ?_
  obtain ⟨v, C', M', hX, hY, hR'⟩ := pr_as ((xs (x3 + (1 : Int32)).toNatClampNeg)) ((xs (x3 + (2 : Int32)).toNatClampNeg))  hR
  refine L_call (mj := mi_X7_as) (as := [.int ((xs (x3 + (1 : Int32)).toNatClampNeg)), .int ((xs (x3 + (2 : Int32)).toNatClampNeg))]) (rest := []) (ct_X7_as (M := M) hX) rfl rfl (by decide) rfl (L_goodV (own := R_law) kmL_25 kin_X7_as ks_X7_as ki_X7 kd_X7_as) hd_X7_as rfl ⟨(Nat.le_of_ble_eq_true rfl), (Nat.le_of_ble_eq_true rfl)⟩ (Nat.le_of_ble_eq_true rfl) ⟨by show ck + 0 ≤ 600000; omega, by show sk + 0 ≤ 7302250; omega⟩ (fun _ => by simp) rfl (by simp) dL_law_301 ?_
  refine L_aload_n dL_law_304 rfl 2 rfl ?_
  refine L_aload_n dL_law_305 rfl 0 rfl ?_
  refine L_iload_n dL_law_306 rfl 3 rfl ?_
  refine L_iconst 1 dL_law_307 rfl ?_
  refine L_iadd dL_law_308 ?_
  refine L_sld hi1 dL_law_309 ?_
  refine L_aload_n dL_law_310 rfl 0 rfl ?_
  refine L_iload_n dL_law_311 rfl 3 rfl ?_
  refine L_iconst 2 dL_law_312 rfl ?_
  refine L_iadd dL_law_313 ?_
  refine L_sld hi2 dL_law_314 ?_
  refine L_call (mj := mi_X8_as) (as := [.int ((xs (x3 + (1 : Int32)).toNatClampNeg)), .int ((xs (x3 + (2 : Int32)).toNatClampNeg))]) (rest := [.int v]) (ct_X8_as (C := C') hY) rfl rfl (by decide) rfl (L_goodV (own := R_law) kmL_29 kin_X8_as ks_X8_as ki_X8 kd_X8_as) hd_X8_as rfl ⟨(Nat.le_of_ble_eq_true rfl), (Nat.le_of_ble_eq_true rfl)⟩ (Nat.le_of_ble_eq_true rfl) ⟨by show ck + 0 + 0 ≤ 600000; omega, by show sk + 0 + 0 ≤ 7302250; omega⟩ (fun _ => by simp) rfl (by simp) dL_law_315 ?_
  refine L_cmpT 1314 dL_law_318 (by decide) ?_
  exact L_wide (by show ck + 0 + 0 ≤ ck + 2; omega) (by show sk + 0 + 0 ≤ sk + 21504; omega) (K C' M' hR')
set_option maxRecDepth 100000 in
set_option maxHeartbeats 4000000 in
theorem law_case_3 {Ln : Nat} {xs : Nat → Int32} {ck sk : Nat} {C : aSc} {M : aMm} {x3 : Int32} (hR : Rel C M) (hi1 : vp_in (x3 + (1 : Int32)) Ln) (hi2 : vp_in (x3 + (2 : Int32)) Ln) (hi3 : vp_in (x3 + (3 : Int32)) Ln) (hi4 : vp_in (x3 + (4 : Int32)) Ln) (hi5 : vp_in (x3 + (5 : Int32)) Ln) (hck : ck + 2 ≤ 600000) (hsk : sk + 21504 ≤ 7302250) (K : ∀ (C' : aSc) (M' : aMm), Rel C' M' → JL Ln xs (ck + 2) (sk + 21504) 1314 [(0, .ref 300), (1, .ref 0), (2, .ref 94), (3, .int x3)] [] (C', M')) : JL Ln xs ck sk 323 [(0, .ref 300), (1, .ref 0), (2, .ref 94), (3, .int x3)] [] (C, M) := by
  refine L_aload_n dL_law_323 rfl 1 rfl ?_
  refine L_aload_n dL_law_324 rfl 0 rfl ?_
  refine L_iload_n dL_law_325 rfl 3 rfl ?_
  refine L_iconst 1 dL_law_326 rfl ?_
  refine L_iadd dL_law_327 ?_
  refine L_sld hi1 dL_law_328 ?_
  refine L_aload_n dL_law_329 rfl 0 rfl ?_
  refine L_iload_n dL_law_330 rfl 3 rfl ?_
  refine L_iconst 2 dL_law_331 rfl ?_
  refine L_iadd dL_law_332 ?_
  refine L_sld hi2 dL_law_333 ?_
  obtain ⟨v, C', M', hX, hY, hR'⟩ := pr_lightIs ((xs (x3 + (1 : Int32)).toNatClampNeg)) ((xs (x3 + (2 : Int32)).toNatClampNeg))  hR
  refine L_call (mj := mi_X7_lightIs) (as := [.int ((xs (x3 + (1 : Int32)).toNatClampNeg)), .int ((xs (x3 + (2 : Int32)).toNatClampNeg))]) (rest := []) (ct_X7_lightIs (M := M) hX) rfl rfl (by decide) rfl (L_goodV (own := R_law) kmL_30 kin_X7_lightIs ks_X7_lightIs ki_X7 kd_X7_lightIs) hd_X7_lightIs rfl ⟨(Nat.le_of_ble_eq_true rfl), (Nat.le_of_ble_eq_true rfl)⟩ (Nat.le_of_ble_eq_true rfl) ⟨by show ck + 0 ≤ 600000; omega, by show sk + 0 ≤ 7302250; omega⟩ (fun _ => by simp) rfl (by simp) dL_law_334 ?_
  refine L_aload_n dL_law_337 rfl 2 rfl ?_
  refine L_aload_n dL_law_338 rfl 0 rfl ?_
  refine L_iload_n dL_law_339 rfl 3 rfl ?_
  refine L_iconst 1 dL_law_340 rfl ?_
  refine L_iadd dL_law_341 ?_
  refine L_sld hi1 dL_law_342 ?_
  refine L_aload_n dL_law_343 rfl 0 rfl ?_
  refine L_iload_n dL_law_344 rfl 3 rfl ?_
  refine L_iconst 2 dL_law_345 rfl ?_
  refine L_iadd dL_law_346 ?_
  refine L_sld hi2 dL_law_347 ?_
  refine L_call (mj := mi_X8_lightIs) (as := [.int ((xs (x3 + (1 : Int32)).toNatClampNeg)), .int ((xs (x3 + (2 : Int32)).toNatClampNeg))]) (rest := [.int v]) (ct_X8_lightIs (C := C') hY) rfl rfl (by decide) rfl (L_goodV (own := R_law) kmL_33 kin_X8_lightIs ks_X8_lightIs ki_X8 kd_X8_lightIs) hd_X8_lightIs rfl ⟨(Nat.le_of_ble_eq_true rfl), (Nat.le_of_ble_eq_true rfl)⟩ (Nat.le_of_ble_eq_true rfl) ⟨by show ck + 0 + 0 ≤ 600000; omega, by show sk + 0 + 0 ≤ 7302250; omega⟩ (fun _ => by simp) rfl (by simp) dL_law_348 ?_
  refine L_cmpT 1314 dL_law_351 (by decide) ?_
  exact L_wide (by show ck + 0 + 0 ≤ ck + 2; omega) (by show sk + 0 + 0 ≤ sk + 21504; omega) (K C' M' hR')
set_option maxRecDepth 100000 in
set_option maxHeartbeats 4000000 in
theorem law_case_4 {Ln : Nat} {xs : Nat → Int32} {ck sk : Nat} {C : aSc} {M : aMm} {x3 : Int32} (hR : Rel C M) (hi1 : vp_in (x3 + (1 : Int32)) Ln) (hi2 : vp_in (x3 + (2 : Int32)) Ln) (hi3 : vp_in (x3 + (3 : Int32)) Ln) (hi4 : vp_in (x3 + (4 : Int32)) Ln) (hi5 : vp_in (x3 + (5 : Int32)) Ln) (hck : ck + 2 ≤ 600000) (hsk : sk + 21504 ≤ 7302250) (K : ∀ (C' : aSc) (M' : aMm), Rel C' M' → JL Ln xs (ck + 2) (sk + 21504) 1314 [(0, .ref 300), (1, .ref 0), (2, .ref 94), (3, .int x3)] [] (C', M')) : JL Ln xs ck sk 356 [(0, .ref 300), (1, .ref 0), (2, .ref 94), (3, .int x3)] [] (C, M) := by
  refine L_aload_n dL_law_356 rfl 1 rfl ?_
  refine L_aload_n dL_law_357 rfl 0 rfl ?_
  refine L_iload_n dL_law_358 rfl 3 rfl ?_
  refine L_iconst 1 dL_law_359 rfl ?_
  refine L_iadd dL_law_360 ?_
  refine L_sld hi1 dL_law_361 ?_
  refine L_aload_n dL_law_362 rfl 0 rfl ?_
  refine L_iload_n dL_law_363 rfl 3 rfl ?_
  refine L_iconst 2 dL_law_364 rfl ?_
  refine L_iadd dL_law_365 ?_
  refine L_sld hi2 dL_law_366 ?_
  obtain ⟨v, C', M', hX, hY, hR'⟩ := pr_at ((xs (x3 + (1 : Int32)).toNatClampNeg)) ((xs (x3 + (2 : Int32)).toNatClampNeg))  hR
  refine L_call (mj := mi_X7_at) (as := [.int ((xs (x3 + (1 : Int32)).toNatClampNeg)), .int ((xs (x3 + (2 : Int32)).toNatClampNeg))]) (rest := []) (ct_X7_at (M := M) hX) rfl rfl (by decide) rfl (L_goodV (own := R_law) kmL_34 kin_X7_at ks_X7_at ki_X7 kd_X7_at) hd_X7_at rfl ⟨(Nat.le_of_ble_eq_true rfl), (Nat.le_of_ble_eq_true rfl)⟩ (Nat.le_of_ble_eq_true rfl) ⟨by show ck + 0 ≤ 600000; omega, by show sk + 0 ≤ 7302250; omega⟩ (fun _ => by simp) rfl (by simp) dL_law_367 ?_
  refine L_aload_n dL_law_370 rfl 2 rfl ?_
  refine L_aload_n dL_law_371 rfl 0 rfl ?_
  refine L_iload_n dL_law_372 rfl 3 rfl ?_
  refine L_iconst 1 dL_law_373 rfl ?_
  refine L_iadd dL_law_374 ?_
  refine L_sld hi1 dL_law_375 ?_
  refine L_aload_n dL_law_376 rfl 0 rfl ?_
  refine L_iload_n dL_law_377 rfl 3 rfl ?_
  refine L_iconst 2 dL_law_378 rfl ?_
  refine L_iadd dL_law_379 ?_
  refine L_sld hi2 dL_law_380 ?_
  refine L_call (mj := mi_X8_at) (as := [.int ((xs (x3 + (1 : Int32)).toNatClampNeg)), .int ((xs (x3 + (2 : Int32)).toNatClampNeg))]) (rest := [.int v]) (ct_X8_at (C := C') hY) rfl rfl (by decide) rfl (L_goodV (own := R_law) kmL_37 kin_X8_at ks_X8_at ki_X8 kd_X8_at) hd_X8_at rfl ⟨(Nat.le_of_ble_eq_true rfl), (Nat.le_of_ble_eq_true rfl)⟩ (Nat.le_of_ble_eq_true rfl) ⟨by show ck + 0 + 0 ≤ 600000; omega, by show sk + 0 + 0 ≤ 7302250; omega⟩ (fun _ => by simp) rfl (by simp) dL_law_381 ?_
  refine L_cmpT 1314 dL_law_384 (by decide) ?_
  exact L_wide (by show ck + 0 + 0 ≤ ck + 2; omega) (by show sk + 0 + 0 ≤ sk + 21504; omega) (K C' M' hR')
set_option maxRecDepth 100000 in
set_option maxHeartbeats 4000000 in
theorem law_case_5 {Ln : Nat} {xs : Nat → Int32} {ck sk : Nat} {C : aSc} {M : aMm} {x3 : Int32} (hR : Rel C M) (hi1 : vp_in (x3 + (1 : Int32)) Ln) (hi2 : vp_in (x3 + (2 : Int32)) Ln) (hi3 : vp_in (x3 + (3 : Int32)) Ln) (hi4 : vp_in (x3 + (4 : Int32)) Ln) (hi5 : vp_in (x3 + (5 : Int32)) Ln) (hck : ck + 2 ≤ 600000) (hsk : sk + 21504 ≤ 7302250) (K : ∀ (C' : aSc) (M' : aMm), Rel C' M' → JL Ln xs (ck + 2) (sk + 21504) 1314 [(0, .ref 300), (1, .ref 0), (2, .ref 94), (3, .int x3)] [] (C', M')) : JL Ln xs ck sk 389 [(0, .ref 300), (1, .ref 0), (2, .ref 94), (3, .int x3)] [] (C, M) := by
  refine L_aload_n dL_law_389 rfl 1 rfl ?_
  refine L_aload_n dL_law_390 rfl 0 rfl ?_
  refine L_iload_n dL_law_391 rfl 3 rfl ?_
  refine L_iconst 1 dL_law_392 rfl ?_
  refine L_iadd dL_law_393 ?_
  refine L_sld hi1 dL_law_394 ?_
  refine L_aload_n dL_law_395 rfl 0 rfl ?_
  refine L_iload_n dL_law_396 rfl 3 rfl ?_
  refine L_iconst 2 dL_law_397 rfl ?_
  refine L_iadd dL_law_398 ?_
  refine L_sld hi2 dL_law_399 ?_
  refine L_aload_n dL_law_400 rfl 0 rfl ?_
  refine L_iload_n dL_law_401 rfl 3 rfl ?_
  refine L_iconst 3 dL_law_402 rfl ?_
  refine L_iadd dL_law_403 ?_
  refine L_sld hi3 dL_law_404 ?_
  refine L_aload_n dL_law_405 rfl 0 rfl ?_
  refine L_iload_n dL_law_406 rfl 3 rfl ?_
  refine L_iconst 4 dL_law_407 rfl ?_
  refine L_iadd dL_law_408 ?_
  refine L_sld hi4 dL_law_409 ?_
  obtain ⟨v, C', M', hX, hY, hR'⟩ := pr_sector ((xs (x3 + (1 : Int32)).toNatClampNeg)) ((xs (x3 + (2 : Int32)).toNatClampNeg)) ((xs (x3 + (3 : Int32)).toNatClampNeg)) ((xs (x3 + (4 : Int32)).toNatClampNeg))  hR
  refine L_call (mj := mi_X7_sector) (as := [.int ((xs (x3 + (1 : Int32)).toNatClampNeg)), .int ((xs (x3 + (2 : Int32)).toNatClampNeg)), .int ((xs (x3 + (3 : Int32)).toNatClampNeg)), .int ((xs (x3 + (4 : Int32)).toNatClampNeg))]) (rest := []) (ct_X7_sector (M := M) hX) rfl rfl (by decide) rfl (L_goodV (own := R_law) kmL_38 kin_X7_sector ks_X7_sector ki_X7 kd_X7_sector) hd_X7_sector rfl ⟨(Nat.le_of_ble_eq_true rfl), (Nat.le_of_ble_eq_true rfl)⟩ (Nat.le_of_ble_eq_true rfl) ⟨by show ck + 0 ≤ 600000; omega, by show sk + 0 ≤ 7302250; omega⟩ (fun _ => by simp) rfl (by simp) dL_law_410 ?_
  refine L_aload_n dL_law_413 rfl 2 rfl ?_
  refine L_aload_n dL_law_414 rfl 0 rfl ?_
  refine L_iload_n dL_law_415 rfl 3 rfl ?_
  refine L_iconst 1 dL_law_416 rfl ?_
  refine L_iadd dL_law_417 ?_
  refine L_sld hi1 dL_law_418 ?_
  refine L_aload_n dL_law_419 rfl 0 rfl ?_
  refine L_iload_n dL_law_420 rfl 3 rfl ?_
  refine L_iconst 2 dL_law_421 rfl ?_
  refine L_iadd dL_law_422 ?_
  refine L_sld hi2 dL_law_423 ?_
  refine L_aload_n dL_law_424 rfl 0 rfl ?_
  refine L_iload_n dL_law_425 rfl 3 rfl ?_
  refine L_iconst 3 dL_law_426 rfl ?_
  refine L_iadd dL_law_427 ?_
  refine L_sld hi3 dL_law_428 ?_
  refine L_aload_n dL_law_429 rfl 0 rfl ?_
  refine L_iload_n dL_law_430 rfl 3 rfl ?_
  refine L_iconst 4 dL_law_431 rfl ?_
  refine L_iadd dL_law_432 ?_
  refine L_sld hi4 dL_law_433 ?_
  refine L_call (mj := mi_X8_sector) (as := [.int ((xs (x3 + (1 : Int32)).toNatClampNeg)), .int ((xs (x3 + (2 : Int32)).toNatClampNeg)), .int ((xs (x3 + (3 : Int32)).toNatClampNeg)), .int ((xs (x3 + (4 : Int32)).toNatClampNeg))]) (rest := [.int v]) (ct_X8_sector (C := C') hY) rfl rfl (by decide) rfl (L_goodV (own := R_law) kmL_42 kin_X8_sector ks_X8_sector ki_X8 kd_X8_sector) hd_X8_sector rfl ⟨(Nat.le_of_ble_eq_true rfl), (Nat.le_of_ble_eq_true rfl)⟩ (Nat.le_of_ble_eq_true rfl) ⟨by show ck + 0 + 0 ≤ 600000; omega, by show sk + 0 + 0 ≤ 7302250; omega⟩ (fun _ => by simp) rfl (by simp) dL_law_434 ?_
  refine L_cmpT 1314 dL_law_437 (by decide) ?_
  exact L_wide (by show ck + 0 + 0 ≤ ck + 2; omega) (by show sk + 0 + 0 ≤ sk + 21504; omega) (K C' M' hR')
set_option maxRecDepth 100000 in
set_option maxHeartbeats 4000000 in
theorem law_case_6 {Ln : Nat} {xs : Nat → Int32} {ck sk : Nat} {C : aSc} {M : aMm} {x3 : Int32} (hR : Rel C M) (hi1 : vp_in (x3 + (1 : Int32)) Ln) (hi2 : vp_in (x3 + (2 : Int32)) Ln) (hi3 : vp_in (x3 + (3 : Int32)) Ln) (hi4 : vp_in (x3 + (4 : Int32)) Ln) (hi5 : vp_in (x3 + (5 : Int32)) Ln) (hck : ck + 2 ≤ 600000) (hsk : sk + 21504 ≤ 7302250) (K : ∀ (C' : aSc) (M' : aMm), Rel C' M' → JL Ln xs (ck + 2) (sk + 21504) 1314 [(0, .ref 300), (1, .ref 0), (2, .ref 94), (3, .int x3)] [] (C', M')) : JL Ln xs ck sk 442 [(0, .ref 300), (1, .ref 0), (2, .ref 94), (3, .int x3)] [] (C, M) := by
  refine L_aload_n dL_law_442 rfl 1 rfl ?_
  refine L_aload_n dL_law_443 rfl 0 rfl ?_
  refine L_iload_n dL_law_444 rfl 3 rfl ?_
  refine L_iconst 1 dL_law_445 rfl ?_
  refine L_iadd dL_law_446 ?_
  refine L_sld hi1 dL_law_447 ?_
  refine L_aload_n dL_law_448 rfl 0 rfl ?_
  refine L_iload_n dL_law_449 rfl 3 rfl ?_
  refine L_iconst 2 dL_law_450 rfl ?_
  refine L_iadd dL_law_451 ?_
  refine L_sld hi2 dL_law_452 ?_
  obtain ⟨v, C', M', hX, hY, hR'⟩ := pr_doubt ((xs (x3 + (1 : Int32)).toNatClampNeg)) ((xs (x3 + (2 : Int32)).toNatClampNeg))  hR
  refine L_call (mj := mi_X7_doubt) (as := [.int ((xs (x3 + (1 : Int32)).toNatClampNeg)), .int ((xs (x3 + (2 : Int32)).toNatClampNeg))]) (rest := []) (ct_X7_doubt (M := M) hX) rfl rfl (by decide) rfl (L_goodV (own := R_law) kmL_43 kin_X7_doubt ks_X7_doubt ki_X7 kd_X7_doubt) hd_X7_doubt rfl ⟨(Nat.le_of_ble_eq_true rfl), (Nat.le_of_ble_eq_true rfl)⟩ (Nat.le_of_ble_eq_true rfl) ⟨by show ck + 0 ≤ 600000; omega, by show sk + 0 ≤ 7302250; omega⟩ (fun _ => by simp) rfl (by simp) dL_law_453 ?_
  refine L_aload_n dL_law_456 rfl 2 rfl ?_
  refine L_aload_n dL_law_457 rfl 0 rfl ?_
  refine L_iload_n dL_law_458 rfl 3 rfl ?_
  refine L_iconst 1 dL_law_459 rfl ?_
  refine L_iadd dL_law_460 ?_
  refine L_sld hi1 dL_law_461 ?_
  refine L_aload_n dL_law_462 rfl 0 rfl ?_
  refine L_iload_n dL_law_463 rfl 3 rfl ?_
  refine L_iconst 2 dL_law_464 rfl ?_
  refine L_iadd dL_law_465 ?_
  refine L_sld hi2 dL_law_466 ?_
  refine L_call (mj := mi_X8_doubt) (as := [.int ((xs (x3 + (1 : Int32)).toNatClampNeg)), .int ((xs (x3 + (2 : Int32)).toNatClampNeg))]) (rest := [.int v]) (ct_X8_doubt (C := C') hY) rfl rfl (by decide) rfl (L_goodV (own := R_law) kmL_46 kin_X8_doubt ks_X8_doubt ki_X8 kd_X8_doubt) hd_X8_doubt rfl ⟨(Nat.le_of_ble_eq_true rfl), (Nat.le_of_ble_eq_true rfl)⟩ (Nat.le_of_ble_eq_true rfl) ⟨by show ck + 0 + 0 ≤ 600000; omega, by show sk + 0 + 0 ≤ 7302250; omega⟩ (fun _ => by simp) rfl (by simp) dL_law_467 ?_
  refine L_cmpT 1314 dL_law_470 (by decide) ?_
  exact L_wide (by show ck + 0 + 0 ≤ ck + 2; omega) (by show sk + 0 + 0 ≤ sk + 21504; omega) (K C' M' hR')
set_option maxRecDepth 100000 in
set_option maxHeartbeats 4000000 in
theorem law_case_7 {Ln : Nat} {xs : Nat → Int32} {ck sk : Nat} {C : aSc} {M : aMm} {x3 : Int32} (hR : Rel C M) (hi1 : vp_in (x3 + (1 : Int32)) Ln) (hi2 : vp_in (x3 + (2 : Int32)) Ln) (hi3 : vp_in (x3 + (3 : Int32)) Ln) (hi4 : vp_in (x3 + (4 : Int32)) Ln) (hi5 : vp_in (x3 + (5 : Int32)) Ln) (hck : ck + 2 ≤ 600000) (hsk : sk + 21504 ≤ 7302250) (K : ∀ (C' : aSc) (M' : aMm), Rel C' M' → JL Ln xs (ck + 2) (sk + 21504) 1314 [(0, .ref 300), (1, .ref 0), (2, .ref 94), (3, .int x3)] [] (C', M')) : JL Ln xs ck sk 475 [(0, .ref 300), (1, .ref 0), (2, .ref 94), (3, .int x3)] [] (C, M) := by
  refine L_aload_n dL_law_475 rfl 1 rfl ?_
  refine L_aload_n dL_law_476 rfl 0 rfl ?_
  refine L_iload_n dL_law_477 rfl 3 rfl ?_
  refine L_iconst 1 dL_law_478 rfl ?_
  refine L_iadd dL_law_479 ?_
  refine L_sld hi1 dL_law_480 ?_
  refine L_aload_n dL_law_481 rfl 0 rfl ?_
  refine L_iload_n dL_law_482 rfl 3 rfl ?_
  refine L_iconst 2 dL_law_483 rfl ?_
  refine L_iadd dL_law_484 ?_
  refine L_sld hi2 dL_law_485 ?_
  obtain ⟨v, C', M', hX, hY, hR'⟩ := pr_direction ((xs (x3 + (1 : Int32)).toNatClampNeg)) ((xs (x3 + (2 : Int32)).toNatClampNeg))  hR
  refine L_call (mj := mi_X7_direction) (as := [.int ((xs (x3 + (1 : Int32)).toNatClampNeg)), .int ((xs (x3 + (2 : Int32)).toNatClampNeg))]) (rest := []) (ct_X7_direction (M := M) hX) rfl rfl (by decide) rfl (L_goodV (own := R_law) kmL_47 kin_X7_direction ks_X7_direction ki_X7 kd_X7_direction) hd_X7_direction rfl ⟨(Nat.le_of_ble_eq_true rfl), (Nat.le_of_ble_eq_true rfl)⟩ (Nat.le_of_ble_eq_true rfl) ⟨by show ck + 0 ≤ 600000; omega, by show sk + 0 ≤ 7302250; omega⟩ (fun _ => by simp) rfl (by simp) dL_law_486 ?_
  refine L_aload_n dL_law_489 rfl 2 rfl ?_
  refine L_aload_n dL_law_490 rfl 0 rfl ?_
  refine L_iload_n dL_law_491 rfl 3 rfl ?_
  refine L_iconst 1 dL_law_492 rfl ?_
  refine L_iadd dL_law_493 ?_
  refine L_sld hi1 dL_law_494 ?_
  refine L_aload_n dL_law_495 rfl 0 rfl ?_
  refine L_iload_n dL_law_496 rfl 3 rfl ?_
  refine L_iconst 2 dL_law_497 rfl ?_
  refine L_iadd dL_law_498 ?_
  refine L_sld hi2 dL_law_499 ?_
  refine L_call (mj := mi_X8_direction) (as := [.int ((xs (x3 + (1 : Int32)).toNatClampNeg)), .int ((xs (x3 + (2 : Int32)).toNatClampNeg))]) (rest := [.int v]) (ct_X8_direction (C := C') hY) rfl rfl (by decide) rfl (L_goodV (own := R_law) kmL_50 kin_X8_direction ks_X8_direction ki_X8 kd_X8_direction) hd_X8_direction rfl ⟨(Nat.le_of_ble_eq_true rfl), (Nat.le_of_ble_eq_true rfl)⟩ (Nat.le_of_ble_eq_true rfl) ⟨by show ck + 0 + 0 ≤ 600000; omega, by show sk + 0 + 0 ≤ 7302250; omega⟩ (fun _ => by simp) rfl (by simp) dL_law_500 ?_
  refine L_cmpT 1314 dL_law_503 (by decide) ?_
  exact L_wide (by show ck + 0 + 0 ≤ ck + 2; omega) (by show sk + 0 + 0 ≤ sk + 21504; omega) (K C' M' hR')
set_option maxRecDepth 100000 in
set_option maxHeartbeats 4000000 in
theorem law_case_8 {Ln : Nat} {xs : Nat → Int32} {ck sk : Nat} {C : aSc} {M : aMm} {x3 : Int32} (hR : Rel C M) (hi1 : vp_in (x3 + (1 : Int32)) Ln) (hi2 : vp_in (x3 + (2 : Int32)) Ln) (hi3 : vp_in (x3 + (3 : Int32)) Ln) (hi4 : vp_in (x3 + (4 : Int32)) Ln) (hi5 : vp_in (x3 + (5 : Int32)) Ln) (hck : ck + 2 ≤ 600000) (hsk : sk + 21504 ≤ 7302250) (K : ∀ (C' : aSc) (M' : aMm), Rel C' M' → JL Ln xs (ck + 2) (sk + 21504) 1314 [(0, .ref 300), (1, .ref 0), (2, .ref 94), (3, .int x3)] [] (C', M')) : JL Ln xs ck sk 508 [(0, .ref 300), (1, .ref 0), (2, .ref 94), (3, .int x3)] [] (C, M) := by
  refine L_aload_n dL_law_508 rfl 1 rfl ?_
  refine L_aload_n dL_law_509 rfl 0 rfl ?_
  refine L_iload_n dL_law_510 rfl 3 rfl ?_
  refine L_iconst 1 dL_law_511 rfl ?_
  refine L_iadd dL_law_512 ?_
  refine L_sld hi1 dL_law_513 ?_
  refine L_aload_n dL_law_514 rfl 0 rfl ?_
  refine L_iload_n dL_law_515 rfl 3 rfl ?_
  refine L_iconst 2 dL_law_516 rfl ?_
  refine L_iadd dL_law_517 ?_
  refine L_sld hi2 dL_law_518 ?_
  obtain ⟨v, C', M', hX, hY, hR'⟩ := pr_colour ((xs (x3 + (1 : Int32)).toNatClampNeg)) ((xs (x3 + (2 : Int32)).toNatClampNeg))  hR
  refine L_call (mj := mi_X7_colour) (as := [.int ((xs (x3 + (1 : Int32)).toNatClampNeg)), .int ((xs (x3 + (2 : Int32)).toNatClampNeg))]) (rest := []) (ct_X7_colour (M := M) hX) rfl rfl (by decide) rfl (L_goodV (own := R_law) kmL_51 kin_X7_colour ks_X7_colour ki_X7 kd_X7_colour) hd_X7_colour rfl ⟨(Nat.le_of_ble_eq_true rfl), (Nat.le_of_ble_eq_true rfl)⟩ (Nat.le_of_ble_eq_true rfl) ⟨by show ck + 0 ≤ 600000; omega, by show sk + 0 ≤ 7302250; omega⟩ (fun _ => by simp) rfl (by simp) dL_law_519 ?_
  refine L_aload_n dL_law_522 rfl 2 rfl ?_
  refine L_aload_n dL_law_523 rfl 0 rfl ?_
  refine L_iload_n dL_law_524 rfl 3 rfl ?_
  refine L_iconst 1 dL_law_525 rfl ?_
  refine L_iadd dL_law_526 ?_
  refine L_sld hi1 dL_law_527 ?_
  refine L_aload_n dL_law_528 rfl 0 rfl ?_
  refine L_iload_n dL_law_529 rfl 3 rfl ?_
  refine L_iconst 2 dL_law_530 rfl ?_
  refine L_iadd dL_law_531 ?_
  refine L_sld hi2 dL_law_532 ?_
  refine L_call (mj := mi_X8_colour) (as := [.int ((xs (x3 + (1 : Int32)).toNatClampNeg)), .int ((xs (x3 + (2 : Int32)).toNatClampNeg))]) (rest := [.int v]) (ct_X8_colour (C := C') hY) rfl rfl (by decide) rfl (L_goodV (own := R_law) kmL_54 kin_X8_colour ks_X8_colour ki_X8 kd_X8_colour) hd_X8_colour rfl ⟨(Nat.le_of_ble_eq_true rfl), (Nat.le_of_ble_eq_true rfl)⟩ (Nat.le_of_ble_eq_true rfl) ⟨by show ck + 0 + 0 ≤ 600000; omega, by show sk + 0 + 0 ≤ 7302250; omega⟩ (fun _ => by simp) rfl (by simp) dL_law_533 ?_
  refine L_cmpT 1314 dL_law_536 (by decide) ?_
  exact L_wide (by show ck + 0 + 0 ≤ ck + 2; omega) (by show sk + 0 + 0 ≤ sk + 21504; omega) (K C' M' hR')
set_option maxRecDepth 100000 in
set_option maxHeartbeats 4000000 in
theorem law_case_9 {Ln : Nat} {xs : Nat → Int32} {ck sk : Nat} {C : aSc} {M : aMm} {x3 : Int32} (hR : Rel C M) (hi1 : vp_in (x3 + (1 : Int32)) Ln) (hi2 : vp_in (x3 + (2 : Int32)) Ln) (hi3 : vp_in (x3 + (3 : Int32)) Ln) (hi4 : vp_in (x3 + (4 : Int32)) Ln) (hi5 : vp_in (x3 + (5 : Int32)) Ln) (hck : ck + 2 ≤ 600000) (hsk : sk + 21504 ≤ 7302250) (K : ∀ (C' : aSc) (M' : aMm), Rel C' M' → JL Ln xs (ck + 2) (sk + 21504) 1314 [(0, .ref 300), (1, .ref 0), (2, .ref 94), (3, .int x3)] [] (C', M')) : JL Ln xs ck sk 541 [(0, .ref 300), (1, .ref 0), (2, .ref 94), (3, .int x3)] [] (C, M) := by
  refine L_aload_n dL_law_541 rfl 1 rfl ?_
  refine L_aload_n dL_law_542 rfl 0 rfl ?_
  refine L_iload_n dL_law_543 rfl 3 rfl ?_
  refine L_iconst 1 dL_law_544 rfl ?_
  refine L_iadd dL_law_545 ?_
  refine L_sld hi1 dL_law_546 ?_
  obtain ⟨v, C', M', hX, hY, hR'⟩ := pr_seen ((xs (x3 + (1 : Int32)).toNatClampNeg))  hR
  refine L_call (mj := mi_X7_seen) (as := [.int ((xs (x3 + (1 : Int32)).toNatClampNeg))]) (rest := []) (ct_X7_seen (M := M) hX) rfl rfl (by decide) rfl (L_goodV (own := R_law) kmL_55 kin_X7_seen ks_X7_seen ki_X7 kd_X7_seen) hd_X7_seen rfl ⟨(Nat.le_of_ble_eq_true rfl), (Nat.le_of_ble_eq_true rfl)⟩ (Nat.le_of_ble_eq_true rfl) ⟨by show ck + 0 ≤ 600000; omega, by show sk + 0 ≤ 7302250; omega⟩ (fun _ => by simp) rfl (by simp) dL_law_547 ?_
  refine L_aload_n dL_law_550 rfl 2 rfl ?_
  refine L_aload_n dL_law_551 rfl 0 rfl ?_
  refine L_iload_n dL_law_552 rfl 3 rfl ?_
  refine L_iconst 1 dL_law_553 rfl ?_
  refine L_iadd dL_law_554 ?_
  refine L_sld hi1 dL_law_555 ?_
  refine L_call (mj := mi_X8_seen) (as := [.int ((xs (x3 + (1 : Int32)).toNatClampNeg))]) (rest := [.int v]) (ct_X8_seen (C := C') hY) rfl rfl (by decide) rfl (L_goodV (own := R_law) kmL_59 kin_X8_seen ks_X8_seen ki_X8 kd_X8_seen) hd_X8_seen rfl ⟨(Nat.le_of_ble_eq_true rfl), (Nat.le_of_ble_eq_true rfl)⟩ (Nat.le_of_ble_eq_true rfl) ⟨by show ck + 0 + 0 ≤ 600000; omega, by show sk + 0 + 0 ≤ 7302250; omega⟩ (fun _ => by simp) rfl (by simp) dL_law_556 ?_
  refine L_cmpT 1314 dL_law_559 (by decide) ?_
  exact L_wide (by show ck + 0 + 0 ≤ ck + 2; omega) (by show sk + 0 + 0 ≤ sk + 21504; omega) (K C' M' hR')
set_option maxRecDepth 100000 in
set_option maxHeartbeats 4000000 in
theorem law_case_10 {Ln : Nat} {xs : Nat → Int32} {ck sk : Nat} {C : aSc} {M : aMm} {x3 : Int32} (hR : Rel C M) (hi1 : vp_in (x3 + (1 : Int32)) Ln) (hi2 : vp_in (x3 + (2 : Int32)) Ln) (hi3 : vp_in (x3 + (3 : Int32)) Ln) (hi4 : vp_in (x3 + (4 : Int32)) Ln) (hi5 : vp_in (x3 + (5 : Int32)) Ln) (hck : ck + 2 ≤ 600000) (hsk : sk + 21504 ≤ 7302250) (K : ∀ (C' : aSc) (M' : aMm), Rel C' M' → JL Ln xs (ck + 2) (sk + 21504) 1314 [(0, .ref 300), (1, .ref 0), (2, .ref 94), (3, .int x3)] [] (C', M')) : JL Ln xs ck sk 564 [(0, .ref 300), (1, .ref 0), (2, .ref 94), (3, .int x3)] [] (C, M) := by
  refine L_aload_n dL_law_564 rfl 1 rfl ?_
  refine L_aload_n dL_law_565 rfl 0 rfl ?_
  refine L_iload_n dL_law_566 rfl 3 rfl ?_
  refine L_iconst 1 dL_law_567 rfl ?_
  refine L_iadd dL_law_568 ?_
  refine L_sld hi1 dL_law_569 ?_
  obtain ⟨v, C', M', hX, hY, hR'⟩ := pr_haze ((xs (x3 + (1 : Int32)).toNatClampNeg))  hR
  refine L_call (mj := mi_X7_haze) (as := [.int ((xs (x3 + (1 : Int32)).toNatClampNeg))]) (rest := []) (ct_X7_haze (M := M) hX) rfl rfl (by decide) rfl (L_goodV (own := R_law) kmL_60 kin_X7_haze ks_X7_haze ki_X7 kd_X7_haze) hd_X7_haze rfl ⟨(Nat.le_of_ble_eq_true rfl), (Nat.le_of_ble_eq_true rfl)⟩ (Nat.le_of_ble_eq_true rfl) ⟨by show ck + 0 ≤ 600000; omega, by show sk + 0 ≤ 7302250; omega⟩ (fun _ => by simp) rfl (by simp) dL_law_570 ?_
  refine L_aload_n dL_law_573 rfl 2 rfl ?_
  refine L_aload_n dL_law_574 rfl 0 rfl ?_
  refine L_iload_n dL_law_575 rfl 3 rfl ?_
  refine L_iconst 1 dL_law_576 rfl ?_
  refine L_iadd dL_law_577 ?_
  refine L_sld hi1 dL_law_578 ?_
  refine L_call (mj := mi_X8_haze) (as := [.int ((xs (x3 + (1 : Int32)).toNatClampNeg))]) (rest := [.int v]) (ct_X8_haze (C := C') hY) rfl rfl (by decide) rfl (L_goodV (own := R_law) kmL_63 kin_X8_haze ks_X8_haze ki_X8 kd_X8_haze) hd_X8_haze rfl ⟨(Nat.le_of_ble_eq_true rfl), (Nat.le_of_ble_eq_true rfl)⟩ (Nat.le_of_ble_eq_true rfl) ⟨by show ck + 0 + 0 ≤ 600000; omega, by show sk + 0 + 0 ≤ 7302250; omega⟩ (fun _ => by simp) rfl (by simp) dL_law_579 ?_
  refine L_cmpT 1314 dL_law_582 (by decide) ?_
  exact L_wide (by show ck + 0 + 0 ≤ ck + 2; omega) (by show sk + 0 + 0 ≤ sk + 21504; omega) (K C' M' hR')
set_option maxRecDepth 100000 in
set_option maxHeartbeats 4000000 in
theorem law_case_11 {Ln : Nat} {xs : Nat → Int32} {ck sk : Nat} {C : aSc} {M : aMm} {x3 : Int32} (hR : Rel C M) (hi1 : vp_in (x3 + (1 : Int32)) Ln) (hi2 : vp_in (x3 + (2 : Int32)) Ln) (hi3 : vp_in (x3 + (3 : Int32)) Ln) (hi4 : vp_in (x3 + (4 : Int32)) Ln) (hi5 : vp_in (x3 + (5 : Int32)) Ln) (hck : ck + 2 ≤ 600000) (hsk : sk + 21504 ≤ 7302250) (K : ∀ (C' : aSc) (M' : aMm), Rel C' M' → JL Ln xs (ck + 2) (sk + 21504) 1314 [(0, .ref 300), (1, .ref 0), (2, .ref 94), (3, .int x3)] [] (C', M')) : JL Ln xs ck sk 587 [(0, .ref 300), (1, .ref 0), (2, .ref 94), (3, .int x3)] [] (C, M) := by
  refine L_aload_n dL_law_587 rfl 1 rfl ?_
  refine L_aload_n dL_law_588 rfl 0 rfl ?_
  refine L_iload_n dL_law_589 rfl 3 rfl ?_
  refine L_iconst 1 dL_law_590 rfl ?_
  refine L_iadd dL_law_591 ?_
  refine L_sld hi1 dL_law_592 ?_
  obtain ⟨v, C', M', hX, hY, hR'⟩ := pr_day ((xs (x3 + (1 : Int32)).toNatClampNeg))  hR
  refine L_call (mj := mi_X7_day) (as := [.int ((xs (x3 + (1 : Int32)).toNatClampNeg))]) (rest := []) (ct_X7_day (M := M) hX) rfl rfl (by decide) rfl (L_goodV (own := R_law) kmL_64 kin_X7_day ks_X7_day ki_X7 kd_X7_day) hd_X7_day rfl ⟨(Nat.le_of_ble_eq_true rfl), (Nat.le_of_ble_eq_true rfl)⟩ (Nat.le_of_ble_eq_true rfl) ⟨by show ck + 0 ≤ 600000; omega, by show sk + 0 ≤ 7302250; omega⟩ (fun _ => by simp) rfl (by simp) dL_law_593 ?_
  refine L_aload_n dL_law_596 rfl 2 rfl ?_
  refine L_aload_n dL_law_597 rfl 0 rfl ?_
  refine L_iload_n dL_law_598 rfl 3 rfl ?_
  refine L_iconst 1 dL_law_599 rfl ?_
  refine L_iadd dL_law_600 ?_
  refine L_sld hi1 dL_law_601 ?_
  refine L_call (mj := mi_X8_day) (as := [.int ((xs (x3 + (1 : Int32)).toNatClampNeg))]) (rest := [.int v]) (ct_X8_day (C := C') hY) rfl rfl (by decide) rfl (L_goodV (own := R_law) kmL_67 kin_X8_day ks_X8_day ki_X8 kd_X8_day) hd_X8_day rfl ⟨(Nat.le_of_ble_eq_true rfl), (Nat.le_of_ble_eq_true rfl)⟩ (Nat.le_of_ble_eq_true rfl) ⟨by show ck + 0 + 0 ≤ 600000; omega, by show sk + 0 + 0 ≤ 7302250; omega⟩ (fun _ => by simp) rfl (by simp) dL_law_602 ?_
  refine L_cmpT 1314 dL_law_605 (by decide) ?_
  exact L_wide (by show ck + 0 + 0 ≤ ck + 2; omega) (by show sk + 0 + 0 ≤ sk + 21504; omega) (K C' M' hR')
set_option maxRecDepth 100000 in
set_option maxHeartbeats 4000000 in
theorem law_case_12 {Ln : Nat} {xs : Nat → Int32} {ck sk : Nat} {C : aSc} {M : aMm} {x3 : Int32} (hR : Rel C M) (hi1 : vp_in (x3 + (1 : Int32)) Ln) (hi2 : vp_in (x3 + (2 : Int32)) Ln) (hi3 : vp_in (x3 + (3 : Int32)) Ln) (hi4 : vp_in (x3 + (4 : Int32)) Ln) (hi5 : vp_in (x3 + (5 : Int32)) Ln) (hck : ck + 2 ≤ 600000) (hsk : sk + 21504 ≤ 7302250) (K : ∀ (C' : aSc) (M' : aMm), Rel C' M' → JL Ln xs (ck + 2) (sk + 21504) 1314 [(0, .ref 300), (1, .ref 0), (2, .ref 94), (3, .int x3)] [] (C', M')) : JL Ln xs ck sk 610 [(0, .ref 300), (1, .ref 0), (2, .ref 94), (3, .int x3)] [] (C, M) := by
  refine L_aload_n dL_law_610 rfl 1 rfl ?_
  refine L_aload_n dL_law_611 rfl 0 rfl ?_
  refine L_iload_n dL_law_612 rfl 3 rfl ?_
  refine L_iconst 1 dL_law_613 rfl ?_
  refine L_iadd dL_law_614 ?_
  refine L_sld hi1 dL_law_615 ?_
  refine L_aload_n dL_law_616 rfl 0 rfl ?_
  refine L_iload_n dL_law_617 rfl 3 rfl ?_
  refine L_iconst 2 dL_law_618 rfl ?_
  refine L_iadd dL_law_619 ?_
  refine L_sld hi2 dL_law_620 ?_
  obtain ⟨v, C', M', hX, hY, hR'⟩ := pr_apart ((xs (x3 + (1 : Int32)).toNatClampNeg)) ((xs (x3 + (2 : Int32)).toNatClampNeg))  hR
  refine L_call (mj := mi_X7_apart) (as := [.int ((xs (x3 + (1 : Int32)).toNatClampNeg)), .int ((xs (x3 + (2 : Int32)).toNatClampNeg))]) (rest := []) (ct_X7_apart (M := M) hX) rfl rfl (by decide) rfl (L_goodV (own := R_law) kmL_68 kin_X7_apart ks_X7_apart ki_X7 kd_X7_apart) hd_X7_apart rfl ⟨(Nat.le_of_ble_eq_true rfl), (Nat.le_of_ble_eq_true rfl)⟩ (Nat.le_of_ble_eq_true rfl) ⟨by show ck + 0 ≤ 600000; omega, by show sk + 0 ≤ 7302250; omega⟩ (fun _ => by simp) rfl (by simp) dL_law_621 ?_
  refine L_aload_n dL_law_624 rfl 2 rfl ?_
  refine L_aload_n dL_law_625 rfl 0 rfl ?_
  refine L_iload_n dL_law_626 rfl 3 rfl ?_
  refine L_iconst 1 dL_law_627 rfl ?_
  refine L_iadd dL_law_628 ?_
  refine L_sld hi1 dL_law_629 ?_
  refine L_aload_n dL_law_630 rfl 0 rfl ?_
  refine L_iload_n dL_law_631 rfl 3 rfl ?_
  refine L_iconst 2 dL_law_632 rfl ?_
  refine L_iadd dL_law_633 ?_
  refine L_sld hi2 dL_law_634 ?_
  refine L_call (mj := mi_X8_apart) (as := [.int ((xs (x3 + (1 : Int32)).toNatClampNeg)), .int ((xs (x3 + (2 : Int32)).toNatClampNeg))]) (rest := [.int v]) (ct_X8_apart (C := C') hY) rfl rfl (by decide) rfl (L_goodV (own := R_law) kmL_71 kin_X8_apart ks_X8_apart ki_X8 kd_X8_apart) hd_X8_apart rfl ⟨(Nat.le_of_ble_eq_true rfl), (Nat.le_of_ble_eq_true rfl)⟩ (Nat.le_of_ble_eq_true rfl) ⟨by show ck + 0 + 0 ≤ 600000; omega, by show sk + 0 + 0 ≤ 7302250; omega⟩ (fun _ => by simp) rfl (by simp) dL_law_635 ?_
  refine L_cmpT 1314 dL_law_638 (by decide) ?_
  exact L_wide (by show ck + 0 + 0 ≤ ck + 2; omega) (by show sk + 0 + 0 ≤ sk + 21504; omega) (K C' M' hR')
set_option maxRecDepth 100000 in
set_option maxHeartbeats 4000000 in
theorem law_case_13 {Ln : Nat} {xs : Nat → Int32} {ck sk : Nat} {C : aSc} {M : aMm} {x3 : Int32} (hR : Rel C M) (hi1 : vp_in (x3 + (1 : Int32)) Ln) (hi2 : vp_in (x3 + (2 : Int32)) Ln) (hi3 : vp_in (x3 + (3 : Int32)) Ln) (hi4 : vp_in (x3 + (4 : Int32)) Ln) (hi5 : vp_in (x3 + (5 : Int32)) Ln) (hck : ck + 2 ≤ 600000) (hsk : sk + 21504 ≤ 7302250) (K : ∀ (C' : aSc) (M' : aMm), Rel C' M' → JL Ln xs (ck + 2) (sk + 21504) 1314 [(0, .ref 300), (1, .ref 0), (2, .ref 94), (3, .int x3)] [] (C', M')) : JL Ln xs ck sk 643 [(0, .ref 300), (1, .ref 0), (2, .ref 94), (3, .int x3)] [] (C, M) := by
  refine L_aload_n dL_law_643 rfl 1 rfl ?_
  refine L_aload_n dL_law_644 rfl 0 rfl ?_
  refine L_iload_n dL_law_645 rfl 3 rfl ?_
  refine L_iconst 1 dL_law_646 rfl ?_
  refine L_iadd dL_law_647 ?_
  refine L_sld hi1 dL_law_648 ?_
  obtain ⟨v, C', M', hX, hY, hR'⟩ := pr_allApart ((xs (x3 + (1 : Int32)).toNatClampNeg))  hR
  refine L_call (mj := mi_X7_allApart) (as := [.int ((xs (x3 + (1 : Int32)).toNatClampNeg))]) (rest := []) (ct_X7_allApart (M := M) hX) rfl rfl (by decide) rfl (L_goodV (own := R_law) kmL_72 kin_X7_allApart ks_X7_allApart ki_X7 kd_X7_allApart) hd_X7_allApart rfl ⟨(Nat.le_of_ble_eq_true rfl), (Nat.le_of_ble_eq_true rfl)⟩ (Nat.le_of_ble_eq_true rfl) ⟨by show ck + 0 ≤ 600000; omega, by show sk + 0 ≤ 7302250; omega⟩ (fun _ => by simp) rfl (by simp) dL_law_649 ?_
  refine L_aload_n dL_law_652 rfl 2 rfl ?_
  refine L_aload_n dL_law_653 rfl 0 rfl ?_
  refine L_iload_n dL_law_654 rfl 3 rfl ?_
  refine L_iconst 1 dL_law_655 rfl ?_
  refine L_iadd dL_law_656 ?_
  refine L_sld hi1 dL_law_657 ?_
  refine L_call (mj := mi_X8_allApart) (as := [.int ((xs (x3 + (1 : Int32)).toNatClampNeg))]) (rest := [.int v]) (ct_X8_allApart (C := C') hY) rfl rfl (by decide) rfl (L_goodV (own := R_law) kmL_75 kin_X8_allApart ks_X8_allApart ki_X8 kd_X8_allApart) hd_X8_allApart rfl ⟨(Nat.le_of_ble_eq_true rfl), (Nat.le_of_ble_eq_true rfl)⟩ (Nat.le_of_ble_eq_true rfl) ⟨by show ck + 0 + 0 ≤ 600000; omega, by show sk + 0 + 0 ≤ 7302250; omega⟩ (fun _ => by simp) rfl (by simp) dL_law_658 ?_
  refine L_cmpT 1314 dL_law_661 (by decide) ?_
  exact L_wide (by show ck + 0 + 0 ≤ ck + 2; omega) (by show sk + 0 + 0 ≤ sk + 21504; omega) (K C' M' hR')
set_option maxRecDepth 100000 in
set_option maxHeartbeats 4000000 in
theorem law_case_14 {Ln : Nat} {xs : Nat → Int32} {ck sk : Nat} {C : aSc} {M : aMm} {x3 : Int32} (hR : Rel C M) (hi1 : vp_in (x3 + (1 : Int32)) Ln) (hi2 : vp_in (x3 + (2 : Int32)) Ln) (hi3 : vp_in (x3 + (3 : Int32)) Ln) (hi4 : vp_in (x3 + (4 : Int32)) Ln) (hi5 : vp_in (x3 + (5 : Int32)) Ln) (hck : ck + 2 ≤ 600000) (hsk : sk + 21504 ≤ 7302250) (K : ∀ (C' : aSc) (M' : aMm), Rel C' M' → JL Ln xs (ck + 2) (sk + 21504) 1314 [(0, .ref 300), (1, .ref 0), (2, .ref 94), (3, .int x3)] [] (C', M')) : JL Ln xs ck sk 666 [(0, .ref 300), (1, .ref 0), (2, .ref 94), (3, .int x3)] [] (C, M) := by
  refine L_aload_n dL_law_666 rfl 1 rfl ?_
  refine L_aload_n dL_law_667 rfl 0 rfl ?_
  refine L_iload_n dL_law_668 rfl 3 rfl ?_
  refine L_iconst 1 dL_law_669 rfl ?_
  refine L_iadd dL_law_670 ?_
  refine L_sld hi1 dL_law_671 ?_
  obtain ⟨v, C', M', hX, hY, hR'⟩ := pr_fits ((xs (x3 + (1 : Int32)).toNatClampNeg))  hR
  refine L_call (mj := mi_X7_fits) (as := [.int ((xs (x3 + (1 : Int32)).toNatClampNeg))]) (rest := []) (ct_X7_fits (M := M) hX) rfl rfl (by decide) rfl (L_goodV (own := R_law) kmL_76 kin_X7_fits ks_X7_fits ki_X7 kd_X7_fits) hd_X7_fits rfl ⟨(Nat.le_of_ble_eq_true rfl), (Nat.le_of_ble_eq_true rfl)⟩ (Nat.le_of_ble_eq_true rfl) ⟨by show ck + 0 ≤ 600000; omega, by show sk + 0 ≤ 7302250; omega⟩ (fun _ => by simp) rfl (by simp) dL_law_672 ?_
  refine L_aload_n dL_law_675 rfl 2 rfl ?_
  refine L_aload_n dL_law_676 rfl 0 rfl ?_
  refine L_iload_n dL_law_677 rfl 3 rfl ?_
  refine L_iconst 1 dL_law_678 rfl ?_
  refine L_iadd dL_law_679 ?_
  refine L_sld hi1 dL_law_680 ?_
  refine L_call (mj := mi_X8_fits) (as := [.int ((xs (x3 + (1 : Int32)).toNatClampNeg))]) (rest := [.int v]) (ct_X8_fits (C := C') hY) rfl rfl (by decide) rfl (L_goodV (own := R_law) kmL_79 kin_X8_fits ks_X8_fits ki_X8 kd_X8_fits) hd_X8_fits rfl ⟨(Nat.le_of_ble_eq_true rfl), (Nat.le_of_ble_eq_true rfl)⟩ (Nat.le_of_ble_eq_true rfl) ⟨by show ck + 0 + 0 ≤ 600000; omega, by show sk + 0 + 0 ≤ 7302250; omega⟩ (fun _ => by simp) rfl (by simp) dL_law_681 ?_
  refine L_cmpT 1314 dL_law_684 (by decide) ?_
  exact L_wide (by show ck + 0 + 0 ≤ ck + 2; omega) (by show sk + 0 + 0 ≤ sk + 21504; omega) (K C' M' hR')
set_option maxRecDepth 100000 in
set_option maxHeartbeats 4000000 in
theorem law_case_15 {Ln : Nat} {xs : Nat → Int32} {ck sk : Nat} {C : aSc} {M : aMm} {x3 : Int32} (hR : Rel C M) (hi1 : vp_in (x3 + (1 : Int32)) Ln) (hi2 : vp_in (x3 + (2 : Int32)) Ln) (hi3 : vp_in (x3 + (3 : Int32)) Ln) (hi4 : vp_in (x3 + (4 : Int32)) Ln) (hi5 : vp_in (x3 + (5 : Int32)) Ln) (hck : ck + 2 ≤ 600000) (hsk : sk + 21504 ≤ 7302250) (K : ∀ (C' : aSc) (M' : aMm), Rel C' M' → JL Ln xs (ck + 2) (sk + 21504) 1314 [(0, .ref 300), (1, .ref 0), (2, .ref 94), (3, .int x3)] [] (C', M')) : JL Ln xs ck sk 689 [(0, .ref 300), (1, .ref 0), (2, .ref 94), (3, .int x3)] [] (C, M) := by
  refine L_aload_n dL_law_689 rfl 1 rfl ?_
  refine L_aload_n dL_law_690 rfl 0 rfl ?_
  refine L_iload_n dL_law_691 rfl 3 rfl ?_
  refine L_iconst 1 dL_law_692 rfl ?_
  refine L_iadd dL_law_693 ?_
  refine L_sld hi1 dL_law_694 ?_
  refine L_aload_n dL_law_695 rfl 0 rfl ?_
  refine L_iload_n dL_law_696 rfl 3 rfl ?_
  refine L_iconst 2 dL_law_697 rfl ?_
  refine L_iadd dL_law_698 ?_
  refine L_sld hi2 dL_law_699 ?_
  refine L_aload_n dL_law_700 rfl 0 rfl ?_
  refine L_iload_n dL_law_701 rfl 3 rfl ?_
  refine L_iconst 3 dL_law_702 rfl ?_
  refine L_iadd dL_law_703 ?_
  refine L_sld hi3 dL_law_704 ?_
  obtain ⟨v, C', M', hX, hY, hR'⟩ := pr_bearing ((xs (x3 + (1 : Int32)).toNatClampNeg)) ((xs (x3 + (2 : Int32)).toNatClampNeg)) ((xs (x3 + (3 : Int32)).toNatClampNeg))  hR
  refine L_call (mj := mi_X7_bearing) (as := [.int ((xs (x3 + (1 : Int32)).toNatClampNeg)), .int ((xs (x3 + (2 : Int32)).toNatClampNeg)), .int ((xs (x3 + (3 : Int32)).toNatClampNeg))]) (rest := []) (ct_X7_bearing (M := M) hX) rfl rfl (by decide) rfl (L_goodV (own := R_law) kmL_80 kin_X7_bearing ks_X7_bearing ki_X7 kd_X7_bearing) hd_X7_bearing rfl ⟨(Nat.le_of_ble_eq_true rfl), (Nat.le_of_ble_eq_true rfl)⟩ (Nat.le_of_ble_eq_true rfl) ⟨by show ck + 0 ≤ 600000; omega, by show sk + 0 ≤ 7302250; omega⟩ (fun _ => by simp) rfl (by simp) dL_law_705 ?_
  refine L_aload_n dL_law_708 rfl 2 rfl ?_
  refine L_aload_n dL_law_709 rfl 0 rfl ?_
  refine L_iload_n dL_law_710 rfl 3 rfl ?_
  refine L_iconst 1 dL_law_711 rfl ?_
  refine L_iadd dL_law_712 ?_
  refine L_sld hi1 dL_law_713 ?_
  refine L_aload_n dL_law_714 rfl 0 rfl ?_
  refine L_iload_n dL_law_715 rfl 3 rfl ?_
  refine L_iconst 2 dL_law_716 rfl ?_
  refine L_iadd dL_law_717 ?_
  refine L_sld hi2 dL_law_718 ?_
  refine L_aload_n dL_law_719 rfl 0 rfl ?_
  refine L_iload_n dL_law_720 rfl 3 rfl ?_
  refine L_iconst 3 dL_law_721 rfl ?_
  refine L_iadd dL_law_722 ?_
  refine L_sld hi3 dL_law_723 ?_
  refine L_call (mj := mi_X8_bearing) (as := [.int ((xs (x3 + (1 : Int32)).toNatClampNeg)), .int ((xs (x3 + (2 : Int32)).toNatClampNeg)), .int ((xs (x3 + (3 : Int32)).toNatClampNeg))]) (rest := [.int v]) (ct_X8_bearing (C := C') hY) rfl rfl (by decide) rfl (L_goodV (own := R_law) kmL_83 kin_X8_bearing ks_X8_bearing ki_X8 kd_X8_bearing) hd_X8_bearing rfl ⟨(Nat.le_of_ble_eq_true rfl), (Nat.le_of_ble_eq_true rfl)⟩ (Nat.le_of_ble_eq_true rfl) ⟨by show ck + 0 + 0 ≤ 600000; omega, by show sk + 0 + 0 ≤ 7302250; omega⟩ (fun _ => by simp) rfl (by simp) dL_law_724 ?_
  refine L_cmpT 1314 dL_law_727 (by decide) ?_
  exact L_wide (by show ck + 0 + 0 ≤ ck + 2; omega) (by show sk + 0 + 0 ≤ sk + 21504; omega) (K C' M' hR')
set_option maxRecDepth 100000 in
set_option maxHeartbeats 4000000 in
theorem law_case_16 {Ln : Nat} {xs : Nat → Int32} {ck sk : Nat} {C : aSc} {M : aMm} {x3 : Int32} (hR : Rel C M) (hi1 : vp_in (x3 + (1 : Int32)) Ln) (hi2 : vp_in (x3 + (2 : Int32)) Ln) (hi3 : vp_in (x3 + (3 : Int32)) Ln) (hi4 : vp_in (x3 + (4 : Int32)) Ln) (hi5 : vp_in (x3 + (5 : Int32)) Ln) (hck : ck + 2 ≤ 600000) (hsk : sk + 21504 ≤ 7302250) (K : ∀ (C' : aSc) (M' : aMm), Rel C' M' → JL Ln xs (ck + 2) (sk + 21504) 1314 [(0, .ref 300), (1, .ref 0), (2, .ref 94), (3, .int x3)] [] (C', M')) : JL Ln xs ck sk 732 [(0, .ref 300), (1, .ref 0), (2, .ref 94), (3, .int x3)] [] (C, M) := by
  refine L_aload_n dL_law_732 rfl 1 rfl ?_
  obtain ⟨v, C', M', hX, hY, hR'⟩ := pr_clear   hR
  refine L_call (mj := mi_X7_clear) (as := []) (rest := []) (ct_X7_clear (M := M) hX) rfl rfl (by decide) rfl (L_goodV (own := R_law) kmL_84 kin_X7_clear ks_X7_clear ki_X7 kd_X7_clear) hd_X7_clear rfl ⟨(Nat.le_of_ble_eq_true rfl), (Nat.le_of_ble_eq_true rfl)⟩ (Nat.le_of_ble_eq_true rfl) ⟨by show ck + 0 ≤ 600000; omega, by show sk + 0 ≤ 7302250; omega⟩ (fun _ => by simp) rfl (by simp) dL_law_733 ?_
  refine L_aload_n dL_law_736 rfl 2 rfl ?_
  refine L_call (mj := mi_X8_clear) (as := []) (rest := [.int v]) (ct_X8_clear (C := C') hY) rfl rfl (by decide) rfl (L_goodV (own := R_law) kmL_88 kin_X8_clear ks_X8_clear ki_X8 kd_X8_clear) hd_X8_clear rfl ⟨(Nat.le_of_ble_eq_true rfl), (Nat.le_of_ble_eq_true rfl)⟩ (Nat.le_of_ble_eq_true rfl) ⟨by show ck + 0 + 0 ≤ 600000; omega, by show sk + 0 + 0 ≤ 7302250; omega⟩ (fun _ => by simp) rfl (by simp) dL_law_737 ?_
  refine L_cmpT 1314 dL_law_740 (by decide) ?_
  exact L_wide (by show ck + 0 + 0 ≤ ck + 2; omega) (by show sk + 0 + 0 ≤ sk + 21504; omega) (K C' M' hR')
set_option maxRecDepth 100000 in
set_option maxHeartbeats 4000000 in
theorem law_case_17 {Ln : Nat} {xs : Nat → Int32} {ck sk : Nat} {C : aSc} {M : aMm} {x3 : Int32} (hR : Rel C M) (hi1 : vp_in (x3 + (1 : Int32)) Ln) (hi2 : vp_in (x3 + (2 : Int32)) Ln) (hi3 : vp_in (x3 + (3 : Int32)) Ln) (hi4 : vp_in (x3 + (4 : Int32)) Ln) (hi5 : vp_in (x3 + (5 : Int32)) Ln) (hck : ck + 2 ≤ 600000) (hsk : sk + 21504 ≤ 7302250) (K : ∀ (C' : aSc) (M' : aMm), Rel C' M' → JL Ln xs (ck + 2) (sk + 21504) 1314 [(0, .ref 300), (1, .ref 0), (2, .ref 94), (3, .int x3)] [] (C', M')) : JL Ln xs ck sk 745 [(0, .ref 300), (1, .ref 0), (2, .ref 94), (3, .int x3)] [] (C, M) := by
  refine L_aload_n dL_law_745 rfl 1 rfl ?_
  refine L_aload_n dL_law_746 rfl 0 rfl ?_
  refine L_iload_n dL_law_747 rfl 3 rfl ?_
  refine L_iconst 1 dL_law_748 rfl ?_
  refine L_iadd dL_law_749 ?_
  refine L_sld hi1 dL_law_750 ?_
  by_cases hb0 : (xs (x3 + (1 : Int32)).toNatClampNeg) = 0
  · refine L_eqT 758 dL_law_751 (by decide) hb0 ?_
    refine L_iconst 0 dL_law_758 rfl ?_
    obtain ⟨v, C', M', hX, hY, hR'⟩ := pr_fix ((0 : Int32)) (Or.inl rfl) hR
    refine L_call (mj := mi_X7_fix) (as := [.int ((0 : Int32))]) (rest := []) (ct_X7_fix (M := M) hX) rfl rfl (by decide) rfl (L_goodV (own := R_law) kmL_89 kin_X7_fix ks_X7_fix ki_X7 kd_X7_fix) hd_X7_fix rfl ⟨(Nat.le_of_ble_eq_true rfl), (Nat.le_of_ble_eq_true rfl)⟩ (Nat.le_of_ble_eq_true rfl) ⟨by show ck + 0 ≤ 600000; omega, by show sk + 0 ≤ 7302250; omega⟩ (fun _ => by simp) rfl (by simp) dL_law_759 ?_
    refine L_aload_n dL_law_762 rfl 2 rfl ?_
    refine L_aload_n dL_law_763 rfl 0 rfl ?_
    refine L_iload_n dL_law_764 rfl 3 rfl ?_
    refine L_iconst 1 dL_law_765 rfl ?_
    refine L_iadd dL_law_766 ?_
    refine L_sld hi1 dL_law_767 ?_
    refine L_eqT 775 dL_law_768 (by decide) hb0 ?_
    refine L_iconst 0 dL_law_775 rfl ?_
    refine L_call (mj := mi_X8_fix) (as := [.int ((0 : Int32))]) (rest := [.int v]) (ct_X8_fix (C := C') hY) rfl rfl (by decide) rfl (L_goodV (own := R_law) kmL_93 kin_X8_fix ks_X8_fix ki_X8 kd_X8_fix) hd_X8_fix rfl ⟨(Nat.le_of_ble_eq_true rfl), (Nat.le_of_ble_eq_true rfl)⟩ (Nat.le_of_ble_eq_true rfl) ⟨by show ck + 0 + 0 ≤ 600000; omega, by show sk + 0 + 0 ≤ 7302250; omega⟩ (fun _ => by simp) rfl (by simp) dL_law_776 ?_
    refine L_cmpT 1314 dL_law_779 (by decide) ?_
    exact L_wide (by show ck + 0 + 0 ≤ ck + 2; omega) (by show sk + 0 + 0 ≤ sk + 21504; omega) (K C' M' hR')
  · refine L_eqF 758 dL_law_751 (by decide) hb0 ?_
    refine L_iconst 1 dL_law_754 rfl ?_
    refine L_goto 759 dL_law_755 (by decide) ?_
    obtain ⟨v, C', M', hX, hY, hR'⟩ := pr_fix ((1 : Int32)) (Or.inr rfl) hR
    refine L_call (mj := mi_X7_fix) (as := [.int ((1 : Int32))]) (rest := []) (ct_X7_fix (M := M) hX) rfl rfl (by decide) rfl (L_goodV (own := R_law) kmL_89 kin_X7_fix ks_X7_fix ki_X7 kd_X7_fix) hd_X7_fix rfl ⟨(Nat.le_of_ble_eq_true rfl), (Nat.le_of_ble_eq_true rfl)⟩ (Nat.le_of_ble_eq_true rfl) ⟨by show ck + 0 ≤ 600000; omega, by show sk + 0 ≤ 7302250; omega⟩ (fun _ => by simp) rfl (by simp) dL_law_759 ?_
    refine L_aload_n dL_law_762 rfl 2 rfl ?_
    refine L_aload_n dL_law_763 rfl 0 rfl ?_
    refine L_iload_n dL_law_764 rfl 3 rfl ?_
    refine L_iconst 1 dL_law_765 rfl ?_
    refine L_iadd dL_law_766 ?_
    refine L_sld hi1 dL_law_767 ?_
    refine L_eqF 775 dL_law_768 (by decide) hb0 ?_
    refine L_iconst 1 dL_law_771 rfl ?_
    refine L_goto 776 dL_law_772 (by decide) ?_
    refine L_call (mj := mi_X8_fix) (as := [.int ((1 : Int32))]) (rest := [.int v]) (ct_X8_fix (C := C') hY) rfl rfl (by decide) rfl (L_goodV (own := R_law) kmL_93 kin_X8_fix ks_X8_fix ki_X8 kd_X8_fix) hd_X8_fix rfl ⟨(Nat.le_of_ble_eq_true rfl), (Nat.le_of_ble_eq_true rfl)⟩ (Nat.le_of_ble_eq_true rfl) ⟨by show ck + 0 + 0 ≤ 600000; omega, by show sk + 0 + 0 ≤ 7302250; omega⟩ (fun _ => by simp) rfl (by simp) dL_law_776 ?_
    refine L_cmpT 1314 dL_law_779 (by decide) ?_
    exact L_wide (by show ck + 0 + 0 ≤ ck + 2; omega) (by show sk + 0 + 0 ≤ sk + 21504; omega) (K C' M' hR')
set_option maxRecDepth 100000 in
set_option maxHeartbeats 4000000 in
theorem law_case_18 {Ln : Nat} {xs : Nat → Int32} {ck sk : Nat} {C : aSc} {M : aMm} {x3 : Int32} (hR : Rel C M) (hi1 : vp_in (x3 + (1 : Int32)) Ln) (hi2 : vp_in (x3 + (2 : Int32)) Ln) (hi3 : vp_in (x3 + (3 : Int32)) Ln) (hi4 : vp_in (x3 + (4 : Int32)) Ln) (hi5 : vp_in (x3 + (5 : Int32)) Ln) (hck : ck + 2 ≤ 600000) (hsk : sk + 21504 ≤ 7302250) (K : ∀ (C' : aSc) (M' : aMm), Rel C' M' → JL Ln xs (ck + 2) (sk + 21504) 1314 [(0, .ref 300), (1, .ref 0), (2, .ref 94), (3, .int x3)] [] (C', M')) : JL Ln xs ck sk 784 [(0, .ref 300), (1, .ref 0), (2, .ref 94), (3, .int x3)] [] (C, M) := by
  refine L_aload_n dL_law_784 rfl 1 rfl ?_
  refine L_aload_n dL_law_785 rfl 0 rfl ?_
  refine L_iload_n dL_law_786 rfl 3 rfl ?_
  refine L_iconst 1 dL_law_787 rfl ?_
  refine L_iadd dL_law_788 ?_
  refine L_sld hi1 dL_law_789 ?_
  obtain ⟨v, C', M', hX, hY, hR'⟩ := pr_may ((xs (x3 + (1 : Int32)).toNatClampNeg))  hR
  refine L_call (mj := mi_X7_may) (as := [.int ((xs (x3 + (1 : Int32)).toNatClampNeg))]) (rest := []) (ct_X7_may (M := M) hX) rfl rfl (by decide) rfl (L_goodV (own := R_law) kmL_94 kin_X7_may ks_X7_may ki_X7 kd_X7_may) hd_X7_may rfl ⟨(Nat.le_of_ble_eq_true rfl), (Nat.le_of_ble_eq_true rfl)⟩ (Nat.le_of_ble_eq_true rfl) ⟨by show ck + 0 ≤ 600000; omega, by show sk + 0 ≤ 7302250; omega⟩ (fun _ => by simp) rfl (by simp) dL_law_790 ?_
  refine L_aload_n dL_law_793 rfl 2 rfl ?_
  refine L_aload_n dL_law_794 rfl 0 rfl ?_
  refine L_iload_n dL_law_795 rfl 3 rfl ?_
  refine L_iconst 1 dL_law_796 rfl ?_
  refine L_iadd dL_law_797 ?_
  refine L_sld hi1 dL_law_798 ?_
  refine L_call (mj := mi_X8_may) (as := [.int ((xs (x3 + (1 : Int32)).toNatClampNeg))]) (rest := [.int v]) (ct_X8_may (C := C') hY) rfl rfl (by decide) rfl (L_goodV (own := R_law) kmL_97 kin_X8_may ks_X8_may ki_X8 kd_X8_may) hd_X8_may rfl ⟨(Nat.le_of_ble_eq_true rfl), (Nat.le_of_ble_eq_true rfl)⟩ (Nat.le_of_ble_eq_true rfl) ⟨by show ck + 0 + 0 ≤ 600000; omega, by show sk + 0 + 0 ≤ 7302250; omega⟩ (fun _ => by simp) rfl (by simp) dL_law_799 ?_
  refine L_cmpT 1314 dL_law_802 (by decide) ?_
  exact L_wide (by show ck + 0 + 0 ≤ ck + 2; omega) (by show sk + 0 + 0 ≤ sk + 21504; omega) (K C' M' hR')
set_option maxRecDepth 100000 in
set_option maxHeartbeats 4000000 in
theorem law_case_19 {Ln : Nat} {xs : Nat → Int32} {ck sk : Nat} {C : aSc} {M : aMm} {x3 : Int32} (hR : Rel C M) (hi1 : vp_in (x3 + (1 : Int32)) Ln) (hi2 : vp_in (x3 + (2 : Int32)) Ln) (hi3 : vp_in (x3 + (3 : Int32)) Ln) (hi4 : vp_in (x3 + (4 : Int32)) Ln) (hi5 : vp_in (x3 + (5 : Int32)) Ln) (hck : ck + 2 ≤ 600000) (hsk : sk + 21504 ≤ 7302250) (K : ∀ (C' : aSc) (M' : aMm), Rel C' M' → JL Ln xs (ck + 2) (sk + 21504) 1314 [(0, .ref 300), (1, .ref 0), (2, .ref 94), (3, .int x3)] [] (C', M')) : JL Ln xs ck sk 807 [(0, .ref 300), (1, .ref 0), (2, .ref 94), (3, .int x3)] [] (C, M) := by
  refine L_aload_n dL_law_807 rfl 1 rfl ?_
  refine L_aload_n dL_law_808 rfl 0 rfl ?_
  refine L_iload_n dL_law_809 rfl 3 rfl ?_
  refine L_iconst 1 dL_law_810 rfl ?_
  refine L_iadd dL_law_811 ?_
  refine L_sld hi1 dL_law_812 ?_
  refine L_aload_n dL_law_813 rfl 0 rfl ?_
  refine L_iload_n dL_law_814 rfl 3 rfl ?_
  refine L_iconst 2 dL_law_815 rfl ?_
  refine L_iadd dL_law_816 ?_
  refine L_sld hi2 dL_law_817 ?_
  by_cases hb0 : (xs (x3 + (2 : Int32)).toNatClampNeg) = 0
  · refine L_eqT 825 dL_law_818 (by decide) hb0 ?_
    refine L_iconst 0 dL_law_825 rfl ?_
    obtain ⟨v, C', M', hX, hY, hR'⟩ := pr_fairway ((xs (x3 + (1 : Int32)).toNatClampNeg)) ((0 : Int32)) (Or.inl rfl) hR
    refine L_call (mj := mi_X7_fairway) (as := [.int ((xs (x3 + (1 : Int32)).toNatClampNeg)), .int ((0 : Int32))]) (rest := []) (ct_X7_fairway (M := M) hX) rfl rfl (by decide) rfl (L_goodV (own := R_law) kmL_98 kin_X7_fairway ks_X7_fairway ki_X7 kd_X7_fairway) hd_X7_fairway rfl ⟨(Nat.le_of_ble_eq_true rfl), (Nat.le_of_ble_eq_true rfl)⟩ (Nat.le_of_ble_eq_true rfl) ⟨by show ck + 0 ≤ 600000; omega, by show sk + 0 ≤ 7302250; omega⟩ (fun _ => by simp) rfl (by simp) dL_law_826 ?_
    refine L_aload_n dL_law_829 rfl 2 rfl ?_
    refine L_aload_n dL_law_830 rfl 0 rfl ?_
    refine L_iload_n dL_law_831 rfl 3 rfl ?_
    refine L_iconst 1 dL_law_832 rfl ?_
    refine L_iadd dL_law_833 ?_
    refine L_sld hi1 dL_law_834 ?_
    refine L_aload_n dL_law_835 rfl 0 rfl ?_
    refine L_iload_n dL_law_836 rfl 3 rfl ?_
    refine L_iconst 2 dL_law_837 rfl ?_
    refine L_iadd dL_law_838 ?_
    refine L_sld hi2 dL_law_839 ?_
    refine L_eqT 847 dL_law_840 (by decide) hb0 ?_
    refine L_iconst 0 dL_law_847 rfl ?_
    refine L_call (mj := mi_X8_fairway) (as := [.int ((xs (x3 + (1 : Int32)).toNatClampNeg)), .int ((0 : Int32))]) (rest := [.int v]) (ct_X8_fairway (C := C') hY) rfl rfl (by decide) rfl (L_goodV (own := R_law) kmL_102 kin_X8_fairway ks_X8_fairway ki_X8 kd_X8_fairway) hd_X8_fairway rfl ⟨(Nat.le_of_ble_eq_true rfl), (Nat.le_of_ble_eq_true rfl)⟩ (Nat.le_of_ble_eq_true rfl) ⟨by show ck + 0 + 0 ≤ 600000; omega, by show sk + 0 + 0 ≤ 7302250; omega⟩ (fun _ => by simp) rfl (by simp) dL_law_848 ?_
    refine L_cmpT 1314 dL_law_851 (by decide) ?_
    exact L_wide (by show ck + 0 + 0 ≤ ck + 2; omega) (by show sk + 0 + 0 ≤ sk + 21504; omega) (K C' M' hR')
  · refine L_eqF 825 dL_law_818 (by decide) hb0 ?_
    refine L_iconst 1 dL_law_821 rfl ?_
    refine L_goto 826 dL_law_822 (by decide) ?_
    obtain ⟨v, C', M', hX, hY, hR'⟩ := pr_fairway ((xs (x3 + (1 : Int32)).toNatClampNeg)) ((1 : Int32)) (Or.inr rfl) hR
    refine L_call (mj := mi_X7_fairway) (as := [.int ((xs (x3 + (1 : Int32)).toNatClampNeg)), .int ((1 : Int32))]) (rest := []) (ct_X7_fairway (M := M) hX) rfl rfl (by decide) rfl (L_goodV (own := R_law) kmL_98 kin_X7_fairway ks_X7_fairway ki_X7 kd_X7_fairway) hd_X7_fairway rfl ⟨(Nat.le_of_ble_eq_true rfl), (Nat.le_of_ble_eq_true rfl)⟩ (Nat.le_of_ble_eq_true rfl) ⟨by show ck + 0 ≤ 600000; omega, by show sk + 0 ≤ 7302250; omega⟩ (fun _ => by simp) rfl (by simp) dL_law_826 ?_
    refine L_aload_n dL_law_829 rfl 2 rfl ?_
    refine L_aload_n dL_law_830 rfl 0 rfl ?_
    refine L_iload_n dL_law_831 rfl 3 rfl ?_
    refine L_iconst 1 dL_law_832 rfl ?_
    refine L_iadd dL_law_833 ?_
    refine L_sld hi1 dL_law_834 ?_
    refine L_aload_n dL_law_835 rfl 0 rfl ?_
    refine L_iload_n dL_law_836 rfl 3 rfl ?_
    refine L_iconst 2 dL_law_837 rfl ?_
    refine L_iadd dL_law_838 ?_
    refine L_sld hi2 dL_law_839 ?_
    refine L_eqF 847 dL_law_840 (by decide) hb0 ?_
    refine L_iconst 1 dL_law_843 rfl ?_
    refine L_goto 848 dL_law_844 (by decide) ?_
    refine L_call (mj := mi_X8_fairway) (as := [.int ((xs (x3 + (1 : Int32)).toNatClampNeg)), .int ((1 : Int32))]) (rest := [.int v]) (ct_X8_fairway (C := C') hY) rfl rfl (by decide) rfl (L_goodV (own := R_law) kmL_102 kin_X8_fairway ks_X8_fairway ki_X8 kd_X8_fairway) hd_X8_fairway rfl ⟨(Nat.le_of_ble_eq_true rfl), (Nat.le_of_ble_eq_true rfl)⟩ (Nat.le_of_ble_eq_true rfl) ⟨by show ck + 0 + 0 ≤ 600000; omega, by show sk + 0 + 0 ≤ 7302250; omega⟩ (fun _ => by simp) rfl (by simp) dL_law_848 ?_
    refine L_cmpT 1314 dL_law_851 (by decide) ?_
    exact L_wide (by show ck + 0 + 0 ≤ ck + 2; omega) (by show sk + 0 + 0 ≤ sk + 21504; omega) (K C' M' hR')
set_option maxRecDepth 100000 in
set_option maxHeartbeats 4000000 in
theorem law_case_20 {Ln : Nat} {xs : Nat → Int32} {ck sk : Nat} {C : aSc} {M : aMm} {x3 : Int32} (hR : Rel C M) (hi1 : vp_in (x3 + (1 : Int32)) Ln) (hi2 : vp_in (x3 + (2 : Int32)) Ln) (hi3 : vp_in (x3 + (3 : Int32)) Ln) (hi4 : vp_in (x3 + (4 : Int32)) Ln) (hi5 : vp_in (x3 + (5 : Int32)) Ln) (hck : ck + 2 ≤ 600000) (hsk : sk + 21504 ≤ 7302250) (K : ∀ (C' : aSc) (M' : aMm), Rel C' M' → JL Ln xs (ck + 2) (sk + 21504) 1314 [(0, .ref 300), (1, .ref 0), (2, .ref 94), (3, .int x3)] [] (C', M')) : JL Ln xs ck sk 856 [(0, .ref 300), (1, .ref 0), (2, .ref 94), (3, .int x3)] [] (C, M) := by
  refine L_aload_n dL_law_856 rfl 1 rfl ?_
  obtain ⟨v, C', M', hX, hY, hR'⟩ := pr_kept   hR
  refine L_call (mj := mi_X7_kept) (as := []) (rest := []) (ct_X7_kept (M := M) hX) rfl rfl (by decide) rfl (L_goodV (own := R_law) kmL_103 kin_X7_kept ks_X7_kept ki_X7 kd_X7_kept) hd_X7_kept rfl ⟨(Nat.le_of_ble_eq_true rfl), (Nat.le_of_ble_eq_true rfl)⟩ (Nat.le_of_ble_eq_true rfl) ⟨by show ck + 0 ≤ 600000; omega, by show sk + 0 ≤ 7302250; omega⟩ (fun _ => by simp) rfl (by simp) dL_law_857 ?_
  refine L_aload_n dL_law_860 rfl 2 rfl ?_
  refine L_call (mj := mi_X8_kept) (as := []) (rest := [.int v]) (ct_X8_kept (C := C') hY) rfl rfl (by decide) rfl (L_goodV (own := R_law) kmL_106 kin_X8_kept ks_X8_kept ki_X8 kd_X8_kept) hd_X8_kept rfl ⟨(Nat.le_of_ble_eq_true rfl), (Nat.le_of_ble_eq_true rfl)⟩ (Nat.le_of_ble_eq_true rfl) ⟨by show ck + 0 + 0 ≤ 600000; omega, by show sk + 0 + 0 ≤ 7302250; omega⟩ (fun _ => by simp) rfl (by simp) dL_law_861 ?_
  refine L_cmpT 1314 dL_law_864 (by decide) ?_
  exact L_wide (by show ck + 0 + 0 ≤ ck + 2; omega) (by show sk + 0 + 0 ≤ sk + 21504; omega) (K C' M' hR')
set_option maxRecDepth 100000 in
set_option maxHeartbeats 4000000 in
theorem law_case_21 {Ln : Nat} {xs : Nat → Int32} {ck sk : Nat} {C : aSc} {M : aMm} {x3 : Int32} (hR : Rel C M) (hi1 : vp_in (x3 + (1 : Int32)) Ln) (hi2 : vp_in (x3 + (2 : Int32)) Ln) (hi3 : vp_in (x3 + (3 : Int32)) Ln) (hi4 : vp_in (x3 + (4 : Int32)) Ln) (hi5 : vp_in (x3 + (5 : Int32)) Ln) (hck : ck + 2 ≤ 600000) (hsk : sk + 21504 ≤ 7302250) (K : ∀ (C' : aSc) (M' : aMm), Rel C' M' → JL Ln xs (ck + 2) (sk + 21504) 1314 [(0, .ref 300), (1, .ref 0), (2, .ref 94), (3, .int x3)] [] (C', M')) : JL Ln xs ck sk 869 [(0, .ref 300), (1, .ref 0), (2, .ref 94), (3, .int x3)] [] (C, M) := by
  refine L_aload_n dL_law_869 rfl 1 rfl ?_
  refine L_aload_n dL_law_870 rfl 0 rfl ?_
  refine L_iload_n dL_law_871 rfl 3 rfl ?_
  refine L_iconst 1 dL_law_872 rfl ?_
  refine L_iadd dL_law_873 ?_
  refine L_sld hi1 dL_law_874 ?_
  refine L_aload_n dL_law_875 rfl 0 rfl ?_
  refine L_iload_n dL_law_876 rfl 3 rfl ?_
  refine L_iconst 2 dL_law_877 rfl ?_
  refine L_iadd dL_law_878 ?_
  refine L_sld hi2 dL_law_879 ?_
  refine L_aload_n dL_law_880 rfl 0 rfl ?_
  refine L_iload_n dL_law_881 rfl 3 rfl ?_
  refine L_iconst 3 dL_law_882 rfl ?_
  refine L_iadd dL_law_883 ?_
  refine L_sld hi3 dL_law_884 ?_
  refine L_aload_n dL_law_885 rfl 0 rfl ?_
  refine L_iload_n dL_law_886 rfl 3 rfl ?_
  refine L_iconst 4 dL_law_887 rfl ?_
  refine L_iadd dL_law_888 ?_
  refine L_sld hi4 dL_law_889 ?_
  by_cases hb0 : (xs (x3 + (4 : Int32)).toNatClampNeg) = 0
  · refine L_eqT 897 dL_law_890 (by decide) hb0 ?_
    refine L_iconst 0 dL_law_897 rfl ?_
    obtain ⟨v, C', M', hX, hY, hR'⟩ := pr_word ((xs (x3 + (1 : Int32)).toNatClampNeg)) ((xs (x3 + (2 : Int32)).toNatClampNeg)) ((xs (x3 + (3 : Int32)).toNatClampNeg)) ((0 : Int32)) (Or.inl rfl) hR
    refine L_call (mj := mi_X7_word) (as := [.int ((xs (x3 + (1 : Int32)).toNatClampNeg)), .int ((xs (x3 + (2 : Int32)).toNatClampNeg)), .int ((xs (x3 + (3 : Int32)).toNatClampNeg)), .int ((0 : Int32))]) (rest := []) (ct_X7_word (M := M) hX) rfl rfl (by decide) rfl (L_goodV (own := R_law) kmL_107 kin_X7_word ks_X7_word ki_X7 kd_X7_word) hd_X7_word rfl ⟨(Nat.le_of_ble_eq_true rfl), (Nat.le_of_ble_eq_true rfl)⟩ (Nat.le_of_ble_eq_true rfl) ⟨by show ck + 0 ≤ 600000; omega, by show sk + 0 ≤ 7302250; omega⟩ (fun _ => by simp) rfl (by simp) dL_law_898 ?_
    refine L_aload_n dL_law_901 rfl 2 rfl ?_
    refine L_aload_n dL_law_902 rfl 0 rfl ?_
    refine L_iload_n dL_law_903 rfl 3 rfl ?_
    refine L_iconst 1 dL_law_904 rfl ?_
    refine L_iadd dL_law_905 ?_
    refine L_sld hi1 dL_law_906 ?_
    refine L_aload_n dL_law_907 rfl 0 rfl ?_
    refine L_iload_n dL_law_908 rfl 3 rfl ?_
    refine L_iconst 2 dL_law_909 rfl ?_
    refine L_iadd dL_law_910 ?_
    refine L_sld hi2 dL_law_911 ?_
    refine L_aload_n dL_law_912 rfl 0 rfl ?_
    refine L_iload_n dL_law_913 rfl 3 rfl ?_
    refine L_iconst 3 dL_law_914 rfl ?_
    refine L_iadd dL_law_915 ?_
    refine L_sld hi3 dL_law_916 ?_
    refine L_aload_n dL_law_917 rfl 0 rfl ?_
    refine L_iload_n dL_law_918 rfl 3 rfl ?_
    refine L_iconst 4 dL_law_919 rfl ?_
    refine L_iadd dL_law_920 ?_
    refine L_sld hi4 dL_law_921 ?_
    refine L_eqT 929 dL_law_922 (by decide) hb0 ?_
    refine L_iconst 0 dL_law_929 rfl ?_
    refine L_call (mj := mi_X8_word) (as := [.int ((xs (x3 + (1 : Int32)).toNatClampNeg)), .int ((xs (x3 + (2 : Int32)).toNatClampNeg)), .int ((xs (x3 + (3 : Int32)).toNatClampNeg)), .int ((0 : Int32))]) (rest := [.int v]) (ct_X8_word (C := C') hY) rfl rfl (by decide) rfl (L_goodV (own := R_law) kmL_111 kin_X8_word ks_X8_word ki_X8 kd_X8_word) hd_X8_word rfl ⟨(Nat.le_of_ble_eq_true rfl), (Nat.le_of_ble_eq_true rfl)⟩ (Nat.le_of_ble_eq_true rfl) ⟨by show ck + 0 + 0 ≤ 600000; omega, by show sk + 0 + 0 ≤ 7302250; omega⟩ (fun _ => by simp) rfl (by simp) dL_law_930 ?_
    refine L_cmpT 1314 dL_law_933 (by decide) ?_
    exact L_wide (by show ck + 0 + 0 ≤ ck + 2; omega) (by show sk + 0 + 0 ≤ sk + 21504; omega) (K C' M' hR')
  · refine L_eqF 897 dL_law_890 (by decide) hb0 ?_
    refine L_iconst 1 dL_law_893 rfl ?_
    refine L_goto 898 dL_law_894 (by decide) ?_
    obtain ⟨v, C', M', hX, hY, hR'⟩ := pr_word ((xs (x3 + (1 : Int32)).toNatClampNeg)) ((xs (x3 + (2 : Int32)).toNatClampNeg)) ((xs (x3 + (3 : Int32)).toNatClampNeg)) ((1 : Int32)) (Or.inr rfl) hR
    refine L_call (mj := mi_X7_word) (as := [.int ((xs (x3 + (1 : Int32)).toNatClampNeg)), .int ((xs (x3 + (2 : Int32)).toNatClampNeg)), .int ((xs (x3 + (3 : Int32)).toNatClampNeg)), .int ((1 : Int32))]) (rest := []) (ct_X7_word (M := M) hX) rfl rfl (by decide) rfl (L_goodV (own := R_law) kmL_107 kin_X7_word ks_X7_word ki_X7 kd_X7_word) hd_X7_word rfl ⟨(Nat.le_of_ble_eq_true rfl), (Nat.le_of_ble_eq_true rfl)⟩ (Nat.le_of_ble_eq_true rfl) ⟨by show ck + 0 ≤ 600000; omega, by show sk + 0 ≤ 7302250; omega⟩ (fun _ => by simp) rfl (by simp) dL_law_898 ?_
    refine L_aload_n dL_law_901 rfl 2 rfl ?_
    refine L_aload_n dL_law_902 rfl 0 rfl ?_
    refine L_iload_n dL_law_903 rfl 3 rfl ?_
    refine L_iconst 1 dL_law_904 rfl ?_
    refine L_iadd dL_law_905 ?_
    refine L_sld hi1 dL_law_906 ?_
    refine L_aload_n dL_law_907 rfl 0 rfl ?_
    refine L_iload_n dL_law_908 rfl 3 rfl ?_
    refine L_iconst 2 dL_law_909 rfl ?_
    refine L_iadd dL_law_910 ?_
    refine L_sld hi2 dL_law_911 ?_
    refine L_aload_n dL_law_912 rfl 0 rfl ?_
    refine L_iload_n dL_law_913 rfl 3 rfl ?_
    refine L_iconst 3 dL_law_914 rfl ?_
    refine L_iadd dL_law_915 ?_
    refine L_sld hi3 dL_law_916 ?_
    refine L_aload_n dL_law_917 rfl 0 rfl ?_
    refine L_iload_n dL_law_918 rfl 3 rfl ?_
    refine L_iconst 4 dL_law_919 rfl ?_
    refine L_iadd dL_law_920 ?_
    refine L_sld hi4 dL_law_921 ?_
    refine L_eqF 929 dL_law_922 (by decide) hb0 ?_
    refine L_iconst 1 dL_law_925 rfl ?_
    refine L_goto 930 dL_law_926 (by decide) ?_
    refine L_call (mj := mi_X8_word) (as := [.int ((xs (x3 + (1 : Int32)).toNatClampNeg)), .int ((xs (x3 + (2 : Int32)).toNatClampNeg)), .int ((xs (x3 + (3 : Int32)).toNatClampNeg)), .int ((1 : Int32))]) (rest := [.int v]) (ct_X8_word (C := C') hY) rfl rfl (by decide) rfl (L_goodV (own := R_law) kmL_111 kin_X8_word ks_X8_word ki_X8 kd_X8_word) hd_X8_word rfl ⟨(Nat.le_of_ble_eq_true rfl), (Nat.le_of_ble_eq_true rfl)⟩ (Nat.le_of_ble_eq_true rfl) ⟨by show ck + 0 + 0 ≤ 600000; omega, by show sk + 0 + 0 ≤ 7302250; omega⟩ (fun _ => by simp) rfl (by simp) dL_law_930 ?_
    refine L_cmpT 1314 dL_law_933 (by decide) ?_
    exact L_wide (by show ck + 0 + 0 ≤ ck + 2; omega) (by show sk + 0 + 0 ≤ sk + 21504; omega) (K C' M' hR')
set_option maxRecDepth 100000 in
set_option maxHeartbeats 4000000 in
theorem law_case_22 {Ln : Nat} {xs : Nat → Int32} {ck sk : Nat} {C : aSc} {M : aMm} {x3 : Int32} (hR : Rel C M) (hi1 : vp_in (x3 + (1 : Int32)) Ln) (hi2 : vp_in (x3 + (2 : Int32)) Ln) (hi3 : vp_in (x3 + (3 : Int32)) Ln) (hi4 : vp_in (x3 + (4 : Int32)) Ln) (hi5 : vp_in (x3 + (5 : Int32)) Ln) (hck : ck + 2 ≤ 600000) (hsk : sk + 21504 ≤ 7302250) (K : ∀ (C' : aSc) (M' : aMm), Rel C' M' → JL Ln xs (ck + 2) (sk + 21504) 1314 [(0, .ref 300), (1, .ref 0), (2, .ref 94), (3, .int x3)] [] (C', M')) : JL Ln xs ck sk 938 [(0, .ref 300), (1, .ref 0), (2, .ref 94), (3, .int x3)] [] (C, M) := by
  refine L_aload_n dL_law_938 rfl 1 rfl ?_
  refine L_aload_n dL_law_939 rfl 0 rfl ?_
  refine L_iload_n dL_law_940 rfl 3 rfl ?_
  refine L_iconst 1 dL_law_941 rfl ?_
  refine L_iadd dL_law_942 ?_
  refine L_sld hi1 dL_law_943 ?_
  refine L_aload_n dL_law_944 rfl 0 rfl ?_
  refine L_iload_n dL_law_945 rfl 3 rfl ?_
  refine L_iconst 2 dL_law_946 rfl ?_
  refine L_iadd dL_law_947 ?_
  refine L_sld hi2 dL_law_948 ?_
  refine L_aload_n dL_law_949 rfl 0 rfl ?_
  refine L_iload_n dL_law_950 rfl 3 rfl ?_
  refine L_iconst 3 dL_law_951 rfl ?_
  refine L_iadd dL_law_952 ?_
  refine L_sld hi3 dL_law_953 ?_
  obtain ⟨v, C', M', hX, hY, hR'⟩ := pr_out ((xs (x3 + (1 : Int32)).toNatClampNeg)) ((xs (x3 + (2 : Int32)).toNatClampNeg)) ((xs (x3 + (3 : Int32)).toNatClampNeg))  hR
  refine L_call (mj := mi_X7_out) (as := [.int ((xs (x3 + (1 : Int32)).toNatClampNeg)), .int ((xs (x3 + (2 : Int32)).toNatClampNeg)), .int ((xs (x3 + (3 : Int32)).toNatClampNeg))]) (rest := []) (ct_X7_out (M := M) hX) rfl rfl (by decide) rfl (L_goodV (own := R_law) kmL_112 kin_X7_out ks_X7_out ki_X7 kd_X7_out) hd_X7_out rfl ⟨(Nat.le_of_ble_eq_true rfl), (Nat.le_of_ble_eq_true rfl)⟩ (Nat.le_of_ble_eq_true rfl) ⟨by show ck + 0 ≤ 600000; omega, by show sk + 0 ≤ 7302250; omega⟩ (fun _ => by simp) rfl (by simp) dL_law_954 ?_
  refine L_aload_n dL_law_957 rfl 2 rfl ?_
  refine L_aload_n dL_law_958 rfl 0 rfl ?_
  refine L_iload_n dL_law_959 rfl 3 rfl ?_
  refine L_iconst 1 dL_law_960 rfl ?_
  refine L_iadd dL_law_961 ?_
  refine L_sld hi1 dL_law_962 ?_
  refine L_aload_n dL_law_963 rfl 0 rfl ?_
  refine L_iload_n dL_law_964 rfl 3 rfl ?_
  refine L_iconst 2 dL_law_965 rfl ?_
  refine L_iadd dL_law_966 ?_
  refine L_sld hi2 dL_law_967 ?_
  refine L_aload_n dL_law_968 rfl 0 rfl ?_
  refine L_iload_n dL_law_969 rfl 3 rfl ?_
  refine L_iconst 3 dL_law_970 rfl ?_
  refine L_iadd dL_law_971 ?_
  refine L_sld hi3 dL_law_972 ?_
  refine L_call (mj := mi_X8_out) (as := [.int ((xs (x3 + (1 : Int32)).toNatClampNeg)), .int ((xs (x3 + (2 : Int32)).toNatClampNeg)), .int ((xs (x3 + (3 : Int32)).toNatClampNeg))]) (rest := [.int v]) (ct_X8_out (C := C') hY) rfl rfl (by decide) rfl (L_goodV (own := R_law) kmL_115 kin_X8_out ks_X8_out ki_X8 kd_X8_out) hd_X8_out rfl ⟨(Nat.le_of_ble_eq_true rfl), (Nat.le_of_ble_eq_true rfl)⟩ (Nat.le_of_ble_eq_true rfl) ⟨by show ck + 0 + 0 ≤ 600000; omega, by show sk + 0 + 0 ≤ 7302250; omega⟩ (fun _ => by simp) rfl (by simp) dL_law_973 ?_
  refine L_cmpT 1314 dL_law_976 (by decide) ?_
  exact L_wide (by show ck + 0 + 0 ≤ ck + 2; omega) (by show sk + 0 + 0 ≤ sk + 21504; omega) (K C' M' hR')
set_option maxRecDepth 100000 in
set_option maxHeartbeats 4000000 in
theorem law_case_23 {Ln : Nat} {xs : Nat → Int32} {ck sk : Nat} {C : aSc} {M : aMm} {x3 : Int32} (hR : Rel C M) (hi1 : vp_in (x3 + (1 : Int32)) Ln) (hi2 : vp_in (x3 + (2 : Int32)) Ln) (hi3 : vp_in (x3 + (3 : Int32)) Ln) (hi4 : vp_in (x3 + (4 : Int32)) Ln) (hi5 : vp_in (x3 + (5 : Int32)) Ln) (hck : ck + 2 ≤ 600000) (hsk : sk + 21504 ≤ 7302250) (K : ∀ (C' : aSc) (M' : aMm), Rel C' M' → JL Ln xs (ck + 2) (sk + 21504) 1314 [(0, .ref 300), (1, .ref 0), (2, .ref 94), (3, .int x3)] [] (C', M')) : JL Ln xs ck sk 981 [(0, .ref 300), (1, .ref 0), (2, .ref 94), (3, .int x3)] [] (C, M) := by
  refine L_aload_n dL_law_981 rfl 1 rfl ?_
  refine L_aload_n dL_law_982 rfl 0 rfl ?_
  refine L_iload_n dL_law_983 rfl 3 rfl ?_
  refine L_iconst 1 dL_law_984 rfl ?_
  refine L_iadd dL_law_985 ?_
  refine L_sld hi1 dL_law_986 ?_
  refine L_aload_n dL_law_987 rfl 0 rfl ?_
  refine L_iload_n dL_law_988 rfl 3 rfl ?_
  refine L_iconst 2 dL_law_989 rfl ?_
  refine L_iadd dL_law_990 ?_
  refine L_sld hi2 dL_law_991 ?_
  obtain ⟨v, C', M', hX, hY, hR'⟩ := pr_keeper ((xs (x3 + (1 : Int32)).toNatClampNeg)) ((xs (x3 + (2 : Int32)).toNatClampNeg))  hR
  refine L_call (mj := mi_X7_keeper) (as := [.int ((xs (x3 + (1 : Int32)).toNatClampNeg)), .int ((xs (x3 + (2 : Int32)).toNatClampNeg))]) (rest := []) (ct_X7_keeper (M := M) hX) rfl rfl (by decide) rfl (L_goodV (own := R_law) kmL_116 kin_X7_keeper ks_X7_keeper ki_X7 kd_X7_keeper) hd_X7_keeper rfl ⟨(Nat.le_of_ble_eq_true rfl), (Nat.le_of_ble_eq_true rfl)⟩ (Nat.le_of_ble_eq_true rfl) ⟨by show ck + 0 ≤ 600000; omega, by show sk + 0 ≤ 7302250; omega⟩ (fun _ => by simp) rfl (by simp) dL_law_992 ?_
  refine L_aload_n dL_law_995 rfl 2 rfl ?_
  refine L_aload_n dL_law_996 rfl 0 rfl ?_
  refine L_iload_n dL_law_997 rfl 3 rfl ?_
  refine L_iconst 1 dL_law_998 rfl ?_
  refine L_iadd dL_law_999 ?_
  refine L_sld hi1 dL_law_1000 ?_
  refine L_aload_n dL_law_1001 rfl 0 rfl ?_
  refine L_iload_n dL_law_1002 rfl 3 rfl ?_
  refine L_iconst 2 dL_law_1003 rfl ?_
  refine L_iadd dL_law_1004 ?_
  refine L_sld hi2 dL_law_1005 ?_
  refine L_call (mj := mi_X8_keeper) (as := [.int ((xs (x3 + (1 : Int32)).toNatClampNeg)), .int ((xs (x3 + (2 : Int32)).toNatClampNeg))]) (rest := [.int v]) (ct_X8_keeper (C := C') hY) rfl rfl (by decide) rfl (L_goodV (own := R_law) kmL_119 kin_X8_keeper ks_X8_keeper ki_X8 kd_X8_keeper) hd_X8_keeper rfl ⟨(Nat.le_of_ble_eq_true rfl), (Nat.le_of_ble_eq_true rfl)⟩ (Nat.le_of_ble_eq_true rfl) ⟨by show ck + 0 + 0 ≤ 600000; omega, by show sk + 0 + 0 ≤ 7302250; omega⟩ (fun _ => by simp) rfl (by simp) dL_law_1006 ?_
  refine L_cmpT 1314 dL_law_1009 (by decide) ?_
  exact L_wide (by show ck + 0 + 0 ≤ ck + 2; omega) (by show sk + 0 + 0 ≤ sk + 21504; omega) (K C' M' hR')
set_option maxRecDepth 100000 in
set_option maxHeartbeats 4000000 in
theorem law_case_24 {Ln : Nat} {xs : Nat → Int32} {ck sk : Nat} {C : aSc} {M : aMm} {x3 : Int32} (hR : Rel C M) (hi1 : vp_in (x3 + (1 : Int32)) Ln) (hi2 : vp_in (x3 + (2 : Int32)) Ln) (hi3 : vp_in (x3 + (3 : Int32)) Ln) (hi4 : vp_in (x3 + (4 : Int32)) Ln) (hi5 : vp_in (x3 + (5 : Int32)) Ln) (hck : ck + 2 ≤ 600000) (hsk : sk + 21504 ≤ 7302250) (K : ∀ (C' : aSc) (M' : aMm), Rel C' M' → JL Ln xs (ck + 2) (sk + 21504) 1314 [(0, .ref 300), (1, .ref 0), (2, .ref 94), (3, .int x3)] [] (C', M')) : JL Ln xs ck sk 1014 [(0, .ref 300), (1, .ref 0), (2, .ref 94), (3, .int x3)] [] (C, M) := by
  refine L_aload_n dL_law_1014 rfl 1 rfl ?_
  refine L_aload_n dL_law_1015 rfl 0 rfl ?_
  refine L_iload_n dL_law_1016 rfl 3 rfl ?_
  refine L_iconst 1 dL_law_1017 rfl ?_
  refine L_iadd dL_law_1018 ?_
  refine L_sld hi1 dL_law_1019 ?_
  refine L_aload_n dL_law_1020 rfl 0 rfl ?_
  refine L_iload_n dL_law_1021 rfl 3 rfl ?_
  refine L_iconst 2 dL_law_1022 rfl ?_
  refine L_iadd dL_law_1023 ?_
  refine L_sld hi2 dL_law_1024 ?_
  obtain ⟨v, C', M', hX, hY, hR'⟩ := pr_limit ((xs (x3 + (1 : Int32)).toNatClampNeg)) ((xs (x3 + (2 : Int32)).toNatClampNeg))  hR
  refine L_call (mj := mi_X7_limit) (as := [.int ((xs (x3 + (1 : Int32)).toNatClampNeg)), .int ((xs (x3 + (2 : Int32)).toNatClampNeg))]) (rest := []) (ct_X7_limit (M := M) hX) rfl rfl (by decide) rfl (L_goodV (own := R_law) kmL_120 kin_X7_limit ks_X7_limit ki_X7 kd_X7_limit) hd_X7_limit rfl ⟨(Nat.le_of_ble_eq_true rfl), (Nat.le_of_ble_eq_true rfl)⟩ (Nat.le_of_ble_eq_true rfl) ⟨by show ck + 0 ≤ 600000; omega, by show sk + 0 ≤ 7302250; omega⟩ (fun _ => by simp) rfl (by simp) dL_law_1025 ?_
  refine L_aload_n dL_law_1028 rfl 2 rfl ?_
  refine L_aload_n dL_law_1029 rfl 0 rfl ?_
  refine L_iload_n dL_law_1030 rfl 3 rfl ?_
  refine L_iconst 1 dL_law_1031 rfl ?_
  refine L_iadd dL_law_1032 ?_
  refine L_sld hi1 dL_law_1033 ?_
  refine L_aload_n dL_law_1034 rfl 0 rfl ?_
  refine L_iload_n dL_law_1035 rfl 3 rfl ?_
  refine L_iconst 2 dL_law_1036 rfl ?_
  refine L_iadd dL_law_1037 ?_
  refine L_sld hi2 dL_law_1038 ?_
  refine L_call (mj := mi_X8_limit) (as := [.int ((xs (x3 + (1 : Int32)).toNatClampNeg)), .int ((xs (x3 + (2 : Int32)).toNatClampNeg))]) (rest := [.int v]) (ct_X8_limit (C := C') hY) rfl rfl (by decide) rfl (L_goodV (own := R_law) kmL_123 kin_X8_limit ks_X8_limit ki_X8 kd_X8_limit) hd_X8_limit rfl ⟨(Nat.le_of_ble_eq_true rfl), (Nat.le_of_ble_eq_true rfl)⟩ (Nat.le_of_ble_eq_true rfl) ⟨by show ck + 0 + 0 ≤ 600000; omega, by show sk + 0 + 0 ≤ 7302250; omega⟩ (fun _ => by simp) rfl (by simp) dL_law_1039 ?_
  refine L_cmpT 1314 dL_law_1042 (by decide) ?_
  exact L_wide (by show ck + 0 + 0 ≤ ck + 2; omega) (by show sk + 0 + 0 ≤ sk + 21504; omega) (K C' M' hR')
set_option maxRecDepth 100000 in
set_option maxHeartbeats 4000000 in
theorem law_case_25 {Ln : Nat} {xs : Nat → Int32} {ck sk : Nat} {C : aSc} {M : aMm} {x3 : Int32} (hR : Rel C M) (hi1 : vp_in (x3 + (1 : Int32)) Ln) (hi2 : vp_in (x3 + (2 : Int32)) Ln) (hi3 : vp_in (x3 + (3 : Int32)) Ln) (hi4 : vp_in (x3 + (4 : Int32)) Ln) (hi5 : vp_in (x3 + (5 : Int32)) Ln) (hck : ck + 2 ≤ 600000) (hsk : sk + 21504 ≤ 7302250) (K : ∀ (C' : aSc) (M' : aMm), Rel C' M' → JL Ln xs (ck + 2) (sk + 21504) 1314 [(0, .ref 300), (1, .ref 0), (2, .ref 94), (3, .int x3)] [] (C', M')) : JL Ln xs ck sk 1047 [(0, .ref 300), (1, .ref 0), (2, .ref 94), (3, .int x3)] [] (C, M) := by
  refine L_aload_n dL_law_1047 rfl 1 rfl ?_
  refine L_aload_n dL_law_1048 rfl 0 rfl ?_
  refine L_iload_n dL_law_1049 rfl 3 rfl ?_
  refine L_iconst 1 dL_law_1050 rfl ?_
  refine L_iadd dL_law_1051 ?_
  refine L_sld hi1 dL_law_1052 ?_
  obtain ⟨v, C', M', hX, hY, hR'⟩ := pr_seas ((xs (x3 + (1 : Int32)).toNatClampNeg))  hR
  refine L_call (mj := mi_X7_seas) (as := [.int ((xs (x3 + (1 : Int32)).toNatClampNeg))]) (rest := []) (ct_X7_seas (M := M) hX) rfl rfl (by decide) rfl (L_goodV (own := R_law) kmL_124 kin_X7_seas ks_X7_seas ki_X7 kd_X7_seas) hd_X7_seas rfl ⟨(Nat.le_of_ble_eq_true rfl), (Nat.le_of_ble_eq_true rfl)⟩ (Nat.le_of_ble_eq_true rfl) ⟨by show ck + 0 ≤ 600000; omega, by show sk + 0 ≤ 7302250; omega⟩ (fun _ => by simp) rfl (by simp) dL_law_1053 ?_
  refine L_aload_n dL_law_1056 rfl 2 rfl ?_
  refine L_aload_n dL_law_1057 rfl 0 rfl ?_
  refine L_iload_n dL_law_1058 rfl 3 rfl ?_
  refine L_iconst 1 dL_law_1059 rfl ?_
  refine L_iadd dL_law_1060 ?_
  refine L_sld hi1 dL_law_1061 ?_
  refine L_call (mj := mi_X8_seas) (as := [.int ((xs (x3 + (1 : Int32)).toNatClampNeg))]) (rest := [.int v]) (ct_X8_seas (C := C') hY) rfl rfl (by decide) rfl (L_goodV (own := R_law) kmL_127 kin_X8_seas ks_X8_seas ki_X8 kd_X8_seas) hd_X8_seas rfl ⟨(Nat.le_of_ble_eq_true rfl), (Nat.le_of_ble_eq_true rfl)⟩ (Nat.le_of_ble_eq_true rfl) ⟨by show ck + 0 + 0 ≤ 600000; omega, by show sk + 0 + 0 ≤ 7302250; omega⟩ (fun _ => by simp) rfl (by simp) dL_law_1062 ?_
  refine L_cmpT 1314 dL_law_1065 (by decide) ?_
  exact L_wide (by show ck + 0 + 0 ≤ ck + 2; omega) (by show sk + 0 + 0 ≤ sk + 21504; omega) (K C' M' hR')
set_option maxRecDepth 100000 in
set_option maxHeartbeats 4000000 in
theorem law_case_26 {Ln : Nat} {xs : Nat → Int32} {ck sk : Nat} {C : aSc} {M : aMm} {x3 : Int32} (hR : Rel C M) (hi1 : vp_in (x3 + (1 : Int32)) Ln) (hi2 : vp_in (x3 + (2 : Int32)) Ln) (hi3 : vp_in (x3 + (3 : Int32)) Ln) (hi4 : vp_in (x3 + (4 : Int32)) Ln) (hi5 : vp_in (x3 + (5 : Int32)) Ln) (hck : ck + 2 ≤ 600000) (hsk : sk + 21504 ≤ 7302250) (K : ∀ (C' : aSc) (M' : aMm), Rel C' M' → JL Ln xs (ck + 2) (sk + 21504) 1314 [(0, .ref 300), (1, .ref 0), (2, .ref 94), (3, .int x3)] [] (C', M')) : JL Ln xs ck sk 1070 [(0, .ref 300), (1, .ref 0), (2, .ref 94), (3, .int x3)] [] (C, M) := by
  refine L_aload_n dL_law_1070 rfl 1 rfl ?_
  obtain ⟨v, C', M', hX, hY, hR'⟩ := pr_overdue   hR
  refine L_call (mj := mi_X7_overdue) (as := []) (rest := []) (ct_X7_overdue (M := M) hX) rfl rfl (by decide) rfl (L_goodV (own := R_law) kmL_128 kin_X7_overdue ks_X7_overdue ki_X7 kd_X7_overdue) hd_X7_overdue rfl ⟨(Nat.le_of_ble_eq_true rfl), (Nat.le_of_ble_eq_true rfl)⟩ (Nat.le_of_ble_eq_true rfl) ⟨by show ck + 2 ≤ 600000; omega, by show sk + 21504 ≤ 7302250; omega⟩ (fun _ => by simp) rfl (by simp) dL_law_1071 ?_
  refine L_aload_n dL_law_1074 rfl 2 rfl ?_
  refine L_call (mj := mi_X8_overdue) (as := []) (rest := [.int v]) (ct_X8_overdue (C := C') hY) rfl rfl (by decide) rfl (L_goodV (own := R_law) kmL_131 kin_X8_overdue ks_X8_overdue ki_X8 kd_X8_overdue) hd_X8_overdue rfl ⟨(Nat.le_of_ble_eq_true rfl), (Nat.le_of_ble_eq_true rfl)⟩ (Nat.le_of_ble_eq_true rfl) ⟨by show ck + 2 + 0 ≤ 600000; omega, by show sk + 21504 + 0 ≤ 7302250; omega⟩ (fun _ => by simp) rfl (by simp) dL_law_1075 ?_
  refine L_cmpT 1314 dL_law_1078 (by decide) ?_
  exact L_wide (by show ck + 2 + 0 ≤ ck + 2; omega) (by show sk + 21504 + 0 ≤ sk + 21504; omega) (K C' M' hR')
set_option maxRecDepth 100000 in
set_option maxHeartbeats 4000000 in
theorem law_case_27 {Ln : Nat} {xs : Nat → Int32} {ck sk : Nat} {C : aSc} {M : aMm} {x3 : Int32} (hR : Rel C M) (hi1 : vp_in (x3 + (1 : Int32)) Ln) (hi2 : vp_in (x3 + (2 : Int32)) Ln) (hi3 : vp_in (x3 + (3 : Int32)) Ln) (hi4 : vp_in (x3 + (4 : Int32)) Ln) (hi5 : vp_in (x3 + (5 : Int32)) Ln) (hck : ck + 2 ≤ 600000) (hsk : sk + 21504 ≤ 7302250) (K : ∀ (C' : aSc) (M' : aMm), Rel C' M' → JL Ln xs (ck + 2) (sk + 21504) 1314 [(0, .ref 300), (1, .ref 0), (2, .ref 94), (3, .int x3)] [] (C', M')) : JL Ln xs ck sk 1083 [(0, .ref 300), (1, .ref 0), (2, .ref 94), (3, .int x3)] [] (C, M) := by
  refine L_aload_n dL_law_1083 rfl 1 rfl ?_
  refine L_aload_n dL_law_1084 rfl 0 rfl ?_
  refine L_iload_n dL_law_1085 rfl 3 rfl ?_
  refine L_iconst 1 dL_law_1086 rfl ?_
  refine L_iadd dL_law_1087 ?_
  refine L_sld hi1 dL_law_1088 ?_
  obtain ⟨v, C', M', hX, hY, hR'⟩ := pr_landing ((xs (x3 + (1 : Int32)).toNatClampNeg))  hR
  refine L_call (mj := mi_X7_landing) (as := [.int ((xs (x3 + (1 : Int32)).toNatClampNeg))]) (rest := []) (ct_X7_landing (M := M) hX) rfl rfl (by decide) rfl (L_goodV (own := R_law) kmL_132 kin_X7_landing ks_X7_landing ki_X7 kd_X7_landing) hd_X7_landing rfl ⟨(Nat.le_of_ble_eq_true rfl), (Nat.le_of_ble_eq_true rfl)⟩ (Nat.le_of_ble_eq_true rfl) ⟨by show ck + 2 ≤ 600000; omega, by show sk + 21504 ≤ 7302250; omega⟩ (fun _ => by simp) rfl (by simp) dL_law_1089 ?_
  refine L_aload_n dL_law_1092 rfl 2 rfl ?_
  refine L_aload_n dL_law_1093 rfl 0 rfl ?_
  refine L_iload_n dL_law_1094 rfl 3 rfl ?_
  refine L_iconst 1 dL_law_1095 rfl ?_
  refine L_iadd dL_law_1096 ?_
  refine L_sld hi1 dL_law_1097 ?_
  refine L_call (mj := mi_X8_landing) (as := [.int ((xs (x3 + (1 : Int32)).toNatClampNeg))]) (rest := [.int v]) (ct_X8_landing (C := C') hY) rfl rfl (by decide) rfl (L_goodV (own := R_law) kmL_135 kin_X8_landing ks_X8_landing ki_X8 kd_X8_landing) hd_X8_landing rfl ⟨(Nat.le_of_ble_eq_true rfl), (Nat.le_of_ble_eq_true rfl)⟩ (Nat.le_of_ble_eq_true rfl) ⟨by show ck + 2 + 0 ≤ 600000; omega, by show sk + 21504 + 0 ≤ 7302250; omega⟩ (fun _ => by simp) rfl (by simp) dL_law_1098 ?_
  refine L_cmpT 1314 dL_law_1101 (by decide) ?_
  exact L_wide (by show ck + 2 + 0 ≤ ck + 2; omega) (by show sk + 21504 + 0 ≤ sk + 21504; omega) (K C' M' hR')
set_option maxRecDepth 100000 in
set_option maxHeartbeats 4000000 in
theorem law_case_28 {Ln : Nat} {xs : Nat → Int32} {ck sk : Nat} {C : aSc} {M : aMm} {x3 : Int32} (hR : Rel C M) (hi1 : vp_in (x3 + (1 : Int32)) Ln) (hi2 : vp_in (x3 + (2 : Int32)) Ln) (hi3 : vp_in (x3 + (3 : Int32)) Ln) (hi4 : vp_in (x3 + (4 : Int32)) Ln) (hi5 : vp_in (x3 + (5 : Int32)) Ln) (hck : ck + 2 ≤ 600000) (hsk : sk + 21504 ≤ 7302250) (K : ∀ (C' : aSc) (M' : aMm), Rel C' M' → JL Ln xs (ck + 2) (sk + 21504) 1314 [(0, .ref 300), (1, .ref 0), (2, .ref 94), (3, .int x3)] [] (C', M')) : JL Ln xs ck sk 1106 [(0, .ref 300), (1, .ref 0), (2, .ref 94), (3, .int x3)] [] (C, M) := by
  refine L_aload_n dL_law_1106 rfl 1 rfl ?_
  refine L_aload_n dL_law_1107 rfl 0 rfl ?_
  refine L_iload_n dL_law_1108 rfl 3 rfl ?_
  refine L_iconst 1 dL_law_1109 rfl ?_
  refine L_iadd dL_law_1110 ?_
  refine L_sld hi1 dL_law_1111 ?_
  obtain ⟨v, C', M', hX, hY, hR'⟩ := pr_proves ((xs (x3 + (1 : Int32)).toNatClampNeg))  hR
  refine L_call (mj := mi_X7_proves) (as := [.int ((xs (x3 + (1 : Int32)).toNatClampNeg))]) (rest := []) (ct_X7_proves (M := M) hX) rfl rfl (by decide) rfl (L_goodV (own := R_law) kmL_136 kin_X7_proves ks_X7_proves ki_X7 kd_X7_proves) hd_X7_proves rfl ⟨(Nat.le_of_ble_eq_true rfl), (Nat.le_of_ble_eq_true rfl)⟩ (Nat.le_of_ble_eq_true rfl) ⟨by show ck + 2 ≤ 600000; omega, by show sk + 21504 ≤ 7302250; omega⟩ (fun _ => by simp) rfl (by simp) dL_law_1112 ?_
  refine L_aload_n dL_law_1115 rfl 2 rfl ?_
  refine L_aload_n dL_law_1116 rfl 0 rfl ?_
  refine L_iload_n dL_law_1117 rfl 3 rfl ?_
  refine L_iconst 1 dL_law_1118 rfl ?_
  refine L_iadd dL_law_1119 ?_
  refine L_sld hi1 dL_law_1120 ?_
  refine L_call (mj := mi_X8_proves) (as := [.int ((xs (x3 + (1 : Int32)).toNatClampNeg))]) (rest := [.int v]) (ct_X8_proves (C := C') hY) rfl rfl (by decide) rfl (L_goodV (own := R_law) kmL_139 kin_X8_proves ks_X8_proves ki_X8 kd_X8_proves) hd_X8_proves rfl ⟨(Nat.le_of_ble_eq_true rfl), (Nat.le_of_ble_eq_true rfl)⟩ (Nat.le_of_ble_eq_true rfl) ⟨by show ck + 2 + 0 ≤ 600000; omega, by show sk + 21504 + 0 ≤ 7302250; omega⟩ (fun _ => by simp) rfl (by simp) dL_law_1121 ?_
  refine L_cmpT 1314 dL_law_1124 (by decide) ?_
  exact L_wide (by show ck + 2 + 0 ≤ ck + 2; omega) (by show sk + 21504 + 0 ≤ sk + 21504; omega) (K C' M' hR')
set_option maxRecDepth 100000 in
set_option maxHeartbeats 4000000 in
theorem law_case_29 {Ln : Nat} {xs : Nat → Int32} {ck sk : Nat} {C : aSc} {M : aMm} {x3 : Int32} (hR : Rel C M) (hi1 : vp_in (x3 + (1 : Int32)) Ln) (hi2 : vp_in (x3 + (2 : Int32)) Ln) (hi3 : vp_in (x3 + (3 : Int32)) Ln) (hi4 : vp_in (x3 + (4 : Int32)) Ln) (hi5 : vp_in (x3 + (5 : Int32)) Ln) (hck : ck + 2 ≤ 600000) (hsk : sk + 21504 ≤ 7302250) (K : ∀ (C' : aSc) (M' : aMm), Rel C' M' → JL Ln xs (ck + 2) (sk + 21504) 1314 [(0, .ref 300), (1, .ref 0), (2, .ref 94), (3, .int x3)] [] (C', M')) : JL Ln xs ck sk 1129 [(0, .ref 300), (1, .ref 0), (2, .ref 94), (3, .int x3)] [] (C, M) := by
  refine L_aload_n dL_law_1129 rfl 1 rfl ?_
  refine L_aload_n dL_law_1130 rfl 0 rfl ?_
  refine L_iload_n dL_law_1131 rfl 3 rfl ?_
  refine L_iconst 1 dL_law_1132 rfl ?_
  refine L_iadd dL_law_1133 ?_
  refine L_sld hi1 dL_law_1134 ?_
  refine L_aload_n dL_law_1135 rfl 0 rfl ?_
  refine L_iload_n dL_law_1136 rfl 3 rfl ?_
  refine L_iconst 2 dL_law_1137 rfl ?_
  refine L_iadd dL_law_1138 ?_
  refine L_sld hi2 dL_law_1139 ?_
  refine L_aload_n dL_law_1140 rfl 0 rfl ?_
  refine L_iload_n dL_law_1141 rfl 3 rfl ?_
  refine L_iconst 3 dL_law_1142 rfl ?_
  refine L_iadd dL_law_1143 ?_
  refine L_sld hi3 dL_law_1144 ?_
  obtain ⟨v, C', M', hX, hY, hR'⟩ := pr_sheet ((xs (x3 + (1 : Int32)).toNatClampNeg)) ((xs (x3 + (2 : Int32)).toNatClampNeg)) ((xs (x3 + (3 : Int32)).toNatClampNeg))  hR
  refine L_call (mj := mi_X7_sheet) (as := [.int ((xs (x3 + (1 : Int32)).toNatClampNeg)), .int ((xs (x3 + (2 : Int32)).toNatClampNeg)), .int ((xs (x3 + (3 : Int32)).toNatClampNeg))]) (rest := []) (ct_X7_sheet (M := M) hX) rfl rfl (by decide) rfl (L_goodV (own := R_law) kmL_140 kin_X7_sheet ks_X7_sheet ki_X7 kd_X7_sheet) hd_X7_sheet rfl ⟨(Nat.le_of_ble_eq_true rfl), (Nat.le_of_ble_eq_true rfl)⟩ (Nat.le_of_ble_eq_true rfl) ⟨by show ck + 0 ≤ 600000; omega, by show sk + 0 ≤ 7302250; omega⟩ (fun _ => by simp) rfl (by simp) dL_law_1145 ?_
  refine L_aload_n dL_law_1148 rfl 2 rfl ?_
  refine L_aload_n dL_law_1149 rfl 0 rfl ?_
  refine L_iload_n dL_law_1150 rfl 3 rfl ?_
  refine L_iconst 1 dL_law_1151 rfl ?_
  refine L_iadd dL_law_1152 ?_
  refine L_sld hi1 dL_law_1153 ?_
  refine L_aload_n dL_law_1154 rfl 0 rfl ?_
  refine L_iload_n dL_law_1155 rfl 3 rfl ?_
  refine L_iconst 2 dL_law_1156 rfl ?_
  refine L_iadd dL_law_1157 ?_
  refine L_sld hi2 dL_law_1158 ?_
  refine L_aload_n dL_law_1159 rfl 0 rfl ?_
  refine L_iload_n dL_law_1160 rfl 3 rfl ?_
  refine L_iconst 3 dL_law_1161 rfl ?_
  refine L_iadd dL_law_1162 ?_
  refine L_sld hi3 dL_law_1163 ?_
  refine L_call (mj := mi_X8_sheet) (as := [.int ((xs (x3 + (1 : Int32)).toNatClampNeg)), .int ((xs (x3 + (2 : Int32)).toNatClampNeg)), .int ((xs (x3 + (3 : Int32)).toNatClampNeg))]) (rest := [.int v]) (ct_X8_sheet (C := C') hY) rfl rfl (by decide) rfl (L_goodV (own := R_law) kmL_143 kin_X8_sheet ks_X8_sheet ki_X8 kd_X8_sheet) hd_X8_sheet rfl ⟨(Nat.le_of_ble_eq_true rfl), (Nat.le_of_ble_eq_true rfl)⟩ (Nat.le_of_ble_eq_true rfl) ⟨by show ck + 0 + 0 ≤ 600000; omega, by show sk + 0 + 0 ≤ 7302250; omega⟩ (fun _ => by simp) rfl (by simp) dL_law_1164 ?_
  refine L_cmpT 1314 dL_law_1167 (by decide) ?_
  exact L_wide (by show ck + 0 + 0 ≤ ck + 2; omega) (by show sk + 0 + 0 ≤ sk + 21504; omega) (K C' M' hR')
set_option maxRecDepth 100000 in
set_option maxHeartbeats 4000000 in
theorem law_case_30 {Ln : Nat} {xs : Nat → Int32} {ck sk : Nat} {C : aSc} {M : aMm} {x3 : Int32} (hR : Rel C M) (hi1 : vp_in (x3 + (1 : Int32)) Ln) (hi2 : vp_in (x3 + (2 : Int32)) Ln) (hi3 : vp_in (x3 + (3 : Int32)) Ln) (hi4 : vp_in (x3 + (4 : Int32)) Ln) (hi5 : vp_in (x3 + (5 : Int32)) Ln) (hck : ck + 2 ≤ 600000) (hsk : sk + 21504 ≤ 7302250) (K : ∀ (C' : aSc) (M' : aMm), Rel C' M' → JL Ln xs (ck + 2) (sk + 21504) 1314 [(0, .ref 300), (1, .ref 0), (2, .ref 94), (3, .int x3)] [] (C', M')) : JL Ln xs ck sk 1172 [(0, .ref 300), (1, .ref 0), (2, .ref 94), (3, .int x3)] [] (C, M) := by
  refine L_aload_n dL_law_1172 rfl 1 rfl ?_
  refine L_aload_n dL_law_1173 rfl 0 rfl ?_
  refine L_iload_n dL_law_1174 rfl 3 rfl ?_
  refine L_iconst 1 dL_law_1175 rfl ?_
  refine L_iadd dL_law_1176 ?_
  refine L_sld hi1 dL_law_1177 ?_
  refine L_aload_n dL_law_1178 rfl 0 rfl ?_
  refine L_iload_n dL_law_1179 rfl 3 rfl ?_
  refine L_iconst 2 dL_law_1180 rfl ?_
  refine L_iadd dL_law_1181 ?_
  refine L_sld hi2 dL_law_1182 ?_
  refine L_aload_n dL_law_1183 rfl 0 rfl ?_
  refine L_iload_n dL_law_1184 rfl 3 rfl ?_
  refine L_iconst 3 dL_law_1185 rfl ?_
  refine L_iadd dL_law_1186 ?_
  refine L_sld hi3 dL_law_1187 ?_
  obtain ⟨v, C', M', hX, hY, hR'⟩ := pr_put ((xs (x3 + (1 : Int32)).toNatClampNeg)) ((xs (x3 + (2 : Int32)).toNatClampNeg)) ((xs (x3 + (3 : Int32)).toNatClampNeg))  hR
  refine L_call (mj := mi_X7_put) (as := [.int ((xs (x3 + (1 : Int32)).toNatClampNeg)), .int ((xs (x3 + (2 : Int32)).toNatClampNeg)), .int ((xs (x3 + (3 : Int32)).toNatClampNeg))]) (rest := []) (ct_X7_put (M := M) hX) rfl rfl (by decide) rfl (L_goodV (own := R_law) kmL_144 kin_X7_put ks_X7_put ki_X7 kd_X7_put) hd_X7_put rfl ⟨(Nat.le_of_ble_eq_true rfl), (Nat.le_of_ble_eq_true rfl)⟩ (Nat.le_of_ble_eq_true rfl) ⟨by show ck + 0 ≤ 600000; omega, by show sk + 0 ≤ 7302250; omega⟩ (fun _ => by simp) rfl (by simp) dL_law_1188 ?_
  refine L_aload_n dL_law_1191 rfl 2 rfl ?_
  refine L_aload_n dL_law_1192 rfl 0 rfl ?_
  refine L_iload_n dL_law_1193 rfl 3 rfl ?_
  refine L_iconst 1 dL_law_1194 rfl ?_
  refine L_iadd dL_law_1195 ?_
  refine L_sld hi1 dL_law_1196 ?_
  refine L_aload_n dL_law_1197 rfl 0 rfl ?_
  refine L_iload_n dL_law_1198 rfl 3 rfl ?_
  refine L_iconst 2 dL_law_1199 rfl ?_
  refine L_iadd dL_law_1200 ?_
  refine L_sld hi2 dL_law_1201 ?_
  refine L_aload_n dL_law_1202 rfl 0 rfl ?_
  refine L_iload_n dL_law_1203 rfl 3 rfl ?_
  refine L_iconst 3 dL_law_1204 rfl ?_
  refine L_iadd dL_law_1205 ?_
  refine L_sld hi3 dL_law_1206 ?_
  refine L_call (mj := mi_X8_put) (as := [.int ((xs (x3 + (1 : Int32)).toNatClampNeg)), .int ((xs (x3 + (2 : Int32)).toNatClampNeg)), .int ((xs (x3 + (3 : Int32)).toNatClampNeg))]) (rest := [.int v]) (ct_X8_put (C := C') hY) rfl rfl (by decide) rfl (L_goodV (own := R_law) kmL_147 kin_X8_put ks_X8_put ki_X8 kd_X8_put) hd_X8_put rfl ⟨(Nat.le_of_ble_eq_true rfl), (Nat.le_of_ble_eq_true rfl)⟩ (Nat.le_of_ble_eq_true rfl) ⟨by show ck + 0 + 0 ≤ 600000; omega, by show sk + 0 + 0 ≤ 7302250; omega⟩ (fun _ => by simp) rfl (by simp) dL_law_1207 ?_
  refine L_cmpT 1314 dL_law_1210 (by decide) ?_
  exact L_wide (by show ck + 0 + 0 ≤ ck + 2; omega) (by show sk + 0 + 0 ≤ sk + 21504; omega) (K C' M' hR')
set_option maxRecDepth 100000 in
set_option maxHeartbeats 4000000 in
theorem law_case_31 {Ln : Nat} {xs : Nat → Int32} {ck sk : Nat} {C : aSc} {M : aMm} {x3 : Int32} (hR : Rel C M) (hi1 : vp_in (x3 + (1 : Int32)) Ln) (hi2 : vp_in (x3 + (2 : Int32)) Ln) (hi3 : vp_in (x3 + (3 : Int32)) Ln) (hi4 : vp_in (x3 + (4 : Int32)) Ln) (hi5 : vp_in (x3 + (5 : Int32)) Ln) (hck : ck + 2 ≤ 600000) (hsk : sk + 21504 ≤ 7302250) (K : ∀ (C' : aSc) (M' : aMm), Rel C' M' → JL Ln xs (ck + 2) (sk + 21504) 1314 [(0, .ref 300), (1, .ref 0), (2, .ref 94), (3, .int x3)] [] (C', M')) : JL Ln xs ck sk 1215 [(0, .ref 300), (1, .ref 0), (2, .ref 94), (3, .int x3)] [] (C, M) := by
  refine L_aload_n dL_law_1215 rfl 1 rfl ?_
  refine L_aload_n dL_law_1216 rfl 0 rfl ?_
  refine L_iload_n dL_law_1217 rfl 3 rfl ?_
  refine L_iconst 1 dL_law_1218 rfl ?_
  refine L_iadd dL_law_1219 ?_
  refine L_sld hi1 dL_law_1220 ?_
  refine L_aload_n dL_law_1221 rfl 0 rfl ?_
  refine L_iload_n dL_law_1222 rfl 3 rfl ?_
  refine L_iconst 2 dL_law_1223 rfl ?_
  refine L_iadd dL_law_1224 ?_
  refine L_sld hi2 dL_law_1225 ?_
  refine L_aload_n dL_law_1226 rfl 0 rfl ?_
  refine L_iload_n dL_law_1227 rfl 3 rfl ?_
  refine L_iconst 3 dL_law_1228 rfl ?_
  refine L_iadd dL_law_1229 ?_
  refine L_sld hi3 dL_law_1230 ?_
  refine L_aload_n dL_law_1231 rfl 0 rfl ?_
  refine L_iload_n dL_law_1232 rfl 3 rfl ?_
  refine L_iconst 4 dL_law_1233 rfl ?_
  refine L_iadd dL_law_1234 ?_
  refine L_sld hi4 dL_law_1235 ?_
  refine L_aload_n dL_law_1236 rfl 0 rfl ?_
  refine L_iload_n dL_law_1237 rfl 3 rfl ?_
  refine L_iconst 5 dL_law_1238 rfl ?_
  refine L_iadd dL_law_1239 ?_
  refine L_sld hi5 dL_law_1240 ?_
  obtain ⟨v, C', M', hX, hY, hR'⟩ := pr_copy ((xs (x3 + (1 : Int32)).toNatClampNeg)) ((xs (x3 + (2 : Int32)).toNatClampNeg)) ((xs (x3 + (3 : Int32)).toNatClampNeg)) ((xs (x3 + (4 : Int32)).toNatClampNeg)) ((xs (x3 + (5 : Int32)).toNatClampNeg))  hR
  refine L_call (mj := mi_X7_copy) (as := [.int ((xs (x3 + (1 : Int32)).toNatClampNeg)), .int ((xs (x3 + (2 : Int32)).toNatClampNeg)), .int ((xs (x3 + (3 : Int32)).toNatClampNeg)), .int ((xs (x3 + (4 : Int32)).toNatClampNeg)), .int ((xs (x3 + (5 : Int32)).toNatClampNeg))]) (rest := []) (ct_X7_copy (M := M) hX) rfl rfl (by decide) rfl (L_goodV (own := R_law) kmL_148 kin_X7_copy ks_X7_copy ki_X7 kd_X7_copy) hd_X7_copy rfl ⟨(Nat.le_of_ble_eq_true rfl), (Nat.le_of_ble_eq_true rfl)⟩ (Nat.le_of_ble_eq_true rfl) ⟨by show ck + 0 ≤ 600000; omega, by show sk + 0 ≤ 7302250; omega⟩ (fun _ => by simp) rfl (by simp) dL_law_1241 ?_
  refine L_aload_n dL_law_1244 rfl 2 rfl ?_
  refine L_aload_n dL_law_1245 rfl 0 rfl ?_
  refine L_iload_n dL_law_1246 rfl 3 rfl ?_
  refine L_iconst 1 dL_law_1247 rfl ?_
  refine L_iadd dL_law_1248 ?_
  refine L_sld hi1 dL_law_1249 ?_
  refine L_aload_n dL_law_1250 rfl 0 rfl ?_
  refine L_iload_n dL_law_1251 rfl 3 rfl ?_
  refine L_iconst 2 dL_law_1252 rfl ?_
  refine L_iadd dL_law_1253 ?_
  refine L_sld hi2 dL_law_1254 ?_
  refine L_aload_n dL_law_1255 rfl 0 rfl ?_
  refine L_iload_n dL_law_1256 rfl 3 rfl ?_
  refine L_iconst 3 dL_law_1257 rfl ?_
  refine L_iadd dL_law_1258 ?_
  refine L_sld hi3 dL_law_1259 ?_
  refine L_aload_n dL_law_1260 rfl 0 rfl ?_
  refine L_iload_n dL_law_1261 rfl 3 rfl ?_
  refine L_iconst 4 dL_law_1262 rfl ?_
  refine L_iadd dL_law_1263 ?_
  refine L_sld hi4 dL_law_1264 ?_
  refine L_aload_n dL_law_1265 rfl 0 rfl ?_
  refine L_iload_n dL_law_1266 rfl 3 rfl ?_
  refine L_iconst 5 dL_law_1267 rfl ?_
  refine L_iadd dL_law_1268 ?_
  refine L_sld hi5 dL_law_1269 ?_
  refine L_call (mj := mi_X8_copy) (as := [.int ((xs (x3 + (1 : Int32)).toNatClampNeg)), .int ((xs (x3 + (2 : Int32)).toNatClampNeg)), .int ((xs (x3 + (3 : Int32)).toNatClampNeg)), .int ((xs (x3 + (4 : Int32)).toNatClampNeg)), .int ((xs (x3 + (5 : Int32)).toNatClampNeg))]) (rest := [.int v]) (ct_X8_copy (C := C') hY) rfl rfl (by decide) rfl (L_goodV (own := R_law) kmL_152 kin_X8_copy ks_X8_copy ki_X8 kd_X8_copy) hd_X8_copy rfl ⟨(Nat.le_of_ble_eq_true rfl), (Nat.le_of_ble_eq_true rfl)⟩ (Nat.le_of_ble_eq_true rfl) ⟨by show ck + 0 + 0 ≤ 600000; omega, by show sk + 0 + 0 ≤ 7302250; omega⟩ (fun _ => by simp) rfl (by simp) dL_law_1270 ?_
  refine L_cmpT 1314 dL_law_1273 (by decide) ?_
  exact L_wide (by show ck + 0 + 0 ≤ ck + 2; omega) (by show sk + 0 + 0 ≤ sk + 21504; omega) (K C' M' hR')
set_option maxRecDepth 100000 in
set_option maxHeartbeats 4000000 in
theorem law_case_32 {Ln : Nat} {xs : Nat → Int32} {ck sk : Nat} {C : aSc} {M : aMm} {x3 : Int32} (hR : Rel C M) (hi1 : vp_in (x3 + (1 : Int32)) Ln) (hi2 : vp_in (x3 + (2 : Int32)) Ln) (hi3 : vp_in (x3 + (3 : Int32)) Ln) (hi4 : vp_in (x3 + (4 : Int32)) Ln) (hi5 : vp_in (x3 + (5 : Int32)) Ln) (hck : ck + 2 ≤ 600000) (hsk : sk + 21504 ≤ 7302250) (K : ∀ (C' : aSc) (M' : aMm), Rel C' M' → JL Ln xs (ck + 2) (sk + 21504) 1314 [(0, .ref 300), (1, .ref 0), (2, .ref 94), (3, .int x3)] [] (C', M')) : JL Ln xs ck sk 1278 [(0, .ref 300), (1, .ref 0), (2, .ref 94), (3, .int x3)] [] (C, M) := by
  refine L_aload_n dL_law_1278 rfl 1 rfl ?_
  obtain ⟨v, C', M', hX, hY, hR'⟩ := pr_undo   hR
  refine L_call (mj := mi_X7_undo) (as := []) (rest := []) (ct_X7_undo (M := M) hX) rfl rfl (by decide) rfl (L_goodV (own := R_law) kmL_153 kin_X7_undo ks_X7_undo ki_X7 kd_X7_undo) hd_X7_undo rfl ⟨(Nat.le_of_ble_eq_true rfl), (Nat.le_of_ble_eq_true rfl)⟩ (Nat.le_of_ble_eq_true rfl) ⟨by show ck + 0 ≤ 600000; omega, by show sk + 0 ≤ 7302250; omega⟩ (fun _ => by simp) rfl (by simp) dL_law_1279 ?_
  refine L_aload_n dL_law_1282 rfl 2 rfl ?_
  refine L_call (mj := mi_X8_undo) (as := []) (rest := [.int v]) (ct_X8_undo (C := C') hY) rfl rfl (by decide) rfl (L_goodV (own := R_law) kmL_156 kin_X8_undo ks_X8_undo ki_X8 kd_X8_undo) hd_X8_undo rfl ⟨(Nat.le_of_ble_eq_true rfl), (Nat.le_of_ble_eq_true rfl)⟩ (Nat.le_of_ble_eq_true rfl) ⟨by show ck + 0 + 0 ≤ 600000; omega, by show sk + 0 + 0 ≤ 7302250; omega⟩ (fun _ => by simp) rfl (by simp) dL_law_1283 ?_
  refine L_cmpT 1314 dL_law_1286 (by decide) ?_
  exact L_wide (by show ck + 0 + 0 ≤ ck + 2; omega) (by show sk + 0 + 0 ≤ sk + 21504; omega) (K C' M' hR')
set_option maxRecDepth 100000 in
set_option maxHeartbeats 4000000 in
theorem law_case_33 {Ln : Nat} {xs : Nat → Int32} {ck sk : Nat} {C : aSc} {M : aMm} {x3 : Int32} (hR : Rel C M) (hi1 : vp_in (x3 + (1 : Int32)) Ln) (hi2 : vp_in (x3 + (2 : Int32)) Ln) (hi3 : vp_in (x3 + (3 : Int32)) Ln) (hi4 : vp_in (x3 + (4 : Int32)) Ln) (hi5 : vp_in (x3 + (5 : Int32)) Ln) (hck : ck + 2 ≤ 600000) (hsk : sk + 21504 ≤ 7302250) (K : ∀ (C' : aSc) (M' : aMm), Rel C' M' → JL Ln xs (ck + 2) (sk + 21504) 1314 [(0, .ref 300), (1, .ref 0), (2, .ref 94), (3, .int x3)] [] (C', M')) : JL Ln xs ck sk 1291 [(0, .ref 300), (1, .ref 0), (2, .ref 94), (3, .int x3)] [] (C, M) := by
  refine L_aload_n dL_law_1291 rfl 1 rfl ?_
  refine L_aload_n dL_law_1292 rfl 0 rfl ?_
  refine L_iload_n dL_law_1293 rfl 3 rfl ?_
  refine L_iconst 1 dL_law_1294 rfl ?_
  refine L_iadd dL_law_1295 ?_
  refine L_sld hi1 dL_law_1296 ?_
  obtain ⟨v, C', M', hX, hY, hR'⟩ := pr_all ((xs (x3 + (1 : Int32)).toNatClampNeg))  hR
  refine L_call (mj := mi_X7_all) (as := [.int ((xs (x3 + (1 : Int32)).toNatClampNeg))]) (rest := []) (ct_X7_all (M := M) hX) rfl rfl (by decide) rfl (L_goodV (own := R_law) kmL_157 kin_X7_all ks_X7_all ki_X7 kd_X7_all) hd_X7_all rfl ⟨(Nat.le_of_ble_eq_true rfl), (Nat.le_of_ble_eq_true rfl)⟩ (Nat.le_of_ble_eq_true rfl) ⟨by show ck + 0 ≤ 600000; omega, by show sk + 0 ≤ 7302250; omega⟩ (fun _ => by simp) rfl (by simp) dL_law_1297 ?_
  refine L_aload_n dL_law_1300 rfl 2 rfl ?_
  refine L_aload_n dL_law_1301 rfl 0 rfl ?_
  refine L_iload_n dL_law_1302 rfl 3 rfl ?_
  refine L_iconst 1 dL_law_1303 rfl ?_
  refine L_iadd dL_law_1304 ?_
  refine L_sld hi1 dL_law_1305 ?_
  refine L_call (mj := mi_X8_all) (as := [.int ((xs (x3 + (1 : Int32)).toNatClampNeg))]) (rest := [.int v]) (ct_X8_all (C := C') hY) rfl rfl (by decide) rfl (L_goodV (own := R_law) kmL_160 kin_X8_all ks_X8_all ki_X8 kd_X8_all) hd_X8_all rfl ⟨(Nat.le_of_ble_eq_true rfl), (Nat.le_of_ble_eq_true rfl)⟩ (Nat.le_of_ble_eq_true rfl) ⟨by show ck + 0 + 0 ≤ 600000; omega, by show sk + 0 + 0 ≤ 7302250; omega⟩ (fun _ => by simp) rfl (by simp) dL_law_1306 ?_
  refine L_cmpT 1314 dL_law_1309 (by decide) ?_
  exact L_wide (by show ck + 0 + 0 ≤ ck + 2; omega) (by show sk + 0 + 0 ≤ sk + 21504; omega) (K C' M' hR')
