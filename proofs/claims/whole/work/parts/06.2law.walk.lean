set_option maxHeartbeats 4000000 in
set_option maxRecDepth 100000 in
theorem mL_law (G : Gw) (l : Launch) (b L : Nat) (xs : Nat → Int32) (M : Mem) (h : fL_law xs L M = some ()) : V G l RL cL_law 4 ret room_1 174 3783 (FnL G b L xs) 16 [(2, .ref (adr G 151)), (1, .ref (adr G 0)), (0, .ref b)] [] M := by
  refine (?_ : T G l RL cL_law 4 ret room_1 174 3783 (FnL G b L xs) (fun _ => True) 16 [(2, .ref (adr G 151)), (1, .ref (adr G 0)), (0, .ref b)] [] M (fL_law xs L M)) () h trivial
  clear h
  unfold fL_law
  refine T_iconst (v := 0) dL_law_16 (by decide) ?_
  refine T_istore_n (lv' := [(3, .int (0 : Int32)), (2, .ref (adr G 151)), (1, .ref (adr G 0)), (0, .ref b)]) dL_law_17 rfl (by decide) rfl ?_
  refine T_loop (fun s1 => [(3, .int s1.1), (2, .ref (adr G 151)), (1, .ref (adr G 0)), (0, .ref b)]) (fun s1 => s1.2) (fun s1 => ?_) ((0 : Int32), M)
  unfold wL_law_18
  refine T_iload_n (q := 0) dL_law_18 rfl rfl ?_
  refine T_aload_n (q := 3) dL_law_19 rfl rfl ?_
  refine T_slen dL_law_20 ?_
  refine T_bipush (v := 6) dL_law_21 (by decide) ?_
  refine T_isub dL_law_23 ?_
  refine T_icmp_gt (tgt := 1380) dL_law_24 (by decide) (fun hc2 => ?_) (fun hc2 => ?_)
  · refine T_iconst (v := 1) dL_law_1380 (by decide) ?_
    exact T_end (fun _ => V_lawend dL_law_1381)
  · refine T_aload_n (q := 3) dL_law_27 rfl rfl ?_
    refine T_iload_n (q := 0) dL_law_28 rfl rfl ?_
    refine T_sld dL_law_29 ?_
    refine T_bipush (v := 31) dL_law_30 (by decide) ?_
    refine T_iand dL_law_32 ?_
    refine T_split (fun hs3 => ?_) (fun hs3 => ?_)
    · refine T_tswIn (off := 135) (tgt := 168) dL_law_33 (by rw [hs3]; decide) (by rw [hs3]; decide) (by rw [hs3]; rfl) (by decide) ?_
      refine T_aload_n (q := 2) dL_law_168 rfl rfl ?_
      refine T_aload_n (q := 3) dL_law_169 rfl rfl ?_
      refine T_iload_n (q := 0) dL_law_170 rfl rfl ?_
      refine T_iconst (v := 1) dL_law_171 (by decide) ?_
      refine T_iadd dL_law_172 ?_
      refine T_sld dL_law_173 ?_
      refine T_callVlw (As := [.int (xs (s1.1 + (1 : Int32)).toNatClampNeg)]) (st := []) mv_L_13 (by decide) dL_law_174 sh0 (fun b hb => mX7_unit G l 0 sh0 (xs (s1.1 + (1 : Int32)).toNatClampNeg) s1.2 b hb) rfl rfl (Nat.le_of_ble_eq_true rfl) (fun b33 => ?_)
      refine T_aload_n (q := 1) dL_law_177 rfl rfl ?_
      refine T_aload_n (q := 3) dL_law_178 rfl rfl ?_
      refine T_iload_n (q := 0) dL_law_179 rfl rfl ?_
      refine T_iconst (v := 1) dL_law_180 (by decide) ?_
      refine T_iadd dL_law_181 ?_
      refine T_sld dL_law_182 ?_
      refine T_callVlw (As := [.int (xs (s1.1 + (1 : Int32)).toNatClampNeg)]) (st := [.long b33.1]) mv_L_17 (by decide) dL_law_183 sh151 (fun b hb => mX8_unit G l 151 sh151 (xs (s1.1 + (1 : Int32)).toNatClampNeg) b33.2 b hb) rfl rfl (Nat.le_of_ble_eq_true rfl) (fun b34 => ?_)
      refine T_lcmp dL_law_186 ?_
      refine T_if_eq (tgt := 1374) dL_law_187 (by decide) (fun hc35 => ?_) (fun hc35 => ?_)
      · refine T_iinc_G (q := 0) (y := s1.1 + 6) (lv' := fun v36 => [(3, .int v36), (2, .ref (adr G 151)), (1, .ref (adr G 0)), (0, .ref b)]) dL_law_1374 rfl rfl (by decide) (fun _ => rfl) (fun v36 => ?_)
        refine T_goto (tgt := 18) dL_law_1377 (by decide) ?_
        exact T_end (fun h => V_sub [0, 1, 2, 3] rfl h)
      · refine T_iconst (v := 0) dL_law_190 (by decide) ?_
        exact T_none
    · skip
      refine T_split (fun hs4 => ?_) (fun hs4 => ?_)
      · refine T_tswIn (off := 159) (tgt := 192) dL_law_33 (by rw [hs4]; decide) (by rw [hs4]; decide) (by rw [hs4]; rfl) (by decide) ?_
        refine T_aload_n (q := 2) dL_law_192 rfl rfl ?_
        refine T_aload_n (q := 3) dL_law_193 rfl rfl ?_
        refine T_iload_n (q := 0) dL_law_194 rfl rfl ?_
        refine T_iconst (v := 1) dL_law_195 (by decide) ?_
        refine T_iadd dL_law_196 ?_
        refine T_sld dL_law_197 ?_
        refine T_aload_n (q := 3) dL_law_198 rfl rfl ?_
        refine T_iload_n (q := 0) dL_law_199 rfl rfl ?_
        refine T_iconst (v := 2) dL_law_200 (by decide) ?_
        refine T_iadd dL_law_201 ?_
        refine T_sld dL_law_202 ?_
        refine T_callVlw (As := [.int (xs (s1.1 + (1 : Int32)).toNatClampNeg), .int (xs (s1.1 + (2 : Int32)).toNatClampNeg)]) (st := []) mv_L_18 (by decide) dL_law_203 sh0 (fun b hb => mX7_as G l 0 sh0 (xs (s1.1 + (1 : Int32)).toNatClampNeg) (xs (s1.1 + (2 : Int32)).toNatClampNeg) s1.2 b hb) rfl rfl (Nat.le_of_ble_eq_true rfl) (fun b37 => ?_)
        refine T_aload_n (q := 1) dL_law_206 rfl rfl ?_
        refine T_aload_n (q := 3) dL_law_207 rfl rfl ?_
        refine T_iload_n (q := 0) dL_law_208 rfl rfl ?_
        refine T_iconst (v := 1) dL_law_209 (by decide) ?_
        refine T_iadd dL_law_210 ?_
        refine T_sld dL_law_211 ?_
        refine T_aload_n (q := 3) dL_law_212 rfl rfl ?_
        refine T_iload_n (q := 0) dL_law_213 rfl rfl ?_
        refine T_iconst (v := 2) dL_law_214 (by decide) ?_
        refine T_iadd dL_law_215 ?_
        refine T_sld dL_law_216 ?_
        refine T_callVlw (As := [.int (xs (s1.1 + (1 : Int32)).toNatClampNeg), .int (xs (s1.1 + (2 : Int32)).toNatClampNeg)]) (st := [.long b37.1]) mv_L_22 (by decide) dL_law_217 sh151 (fun b hb => mX8_as G l 151 sh151 (xs (s1.1 + (1 : Int32)).toNatClampNeg) (xs (s1.1 + (2 : Int32)).toNatClampNeg) b37.2 b hb) rfl rfl (Nat.le_of_ble_eq_true rfl) (fun b38 => ?_)
        refine T_lcmp dL_law_220 ?_
        refine T_if_eq (tgt := 1374) dL_law_221 (by decide) (fun hc39 => ?_) (fun hc39 => ?_)
        · refine T_iinc_G (q := 0) (y := s1.1 + 6) (lv' := fun v40 => [(3, .int v40), (2, .ref (adr G 151)), (1, .ref (adr G 0)), (0, .ref b)]) dL_law_1374 rfl rfl (by decide) (fun _ => rfl) (fun v40 => ?_)
          refine T_goto (tgt := 18) dL_law_1377 (by decide) ?_
          exact T_end (fun h => V_sub [0, 1, 2, 3] rfl h)
        · refine T_iconst (v := 0) dL_law_224 (by decide) ?_
          exact T_none
      · skip
        refine T_split (fun hs5 => ?_) (fun hs5 => ?_)
        · refine T_tswIn (off := 193) (tgt := 226) dL_law_33 (by rw [hs5]; decide) (by rw [hs5]; decide) (by rw [hs5]; rfl) (by decide) ?_
          refine T_aload_n (q := 2) dL_law_226 rfl rfl ?_
          refine T_aload_n (q := 3) dL_law_227 rfl rfl ?_
          refine T_iload_n (q := 0) dL_law_228 rfl rfl ?_
          refine T_iconst (v := 1) dL_law_229 (by decide) ?_
          refine T_iadd dL_law_230 ?_
          refine T_sld dL_law_231 ?_
          refine T_aload_n (q := 3) dL_law_232 rfl rfl ?_
          refine T_iload_n (q := 0) dL_law_233 rfl rfl ?_
          refine T_iconst (v := 2) dL_law_234 (by decide) ?_
          refine T_iadd dL_law_235 ?_
          refine T_sld dL_law_236 ?_
          refine T_aload_n (q := 3) dL_law_237 rfl rfl ?_
          refine T_iload_n (q := 0) dL_law_238 rfl rfl ?_
          refine T_iconst (v := 3) dL_law_239 (by decide) ?_
          refine T_iadd dL_law_240 ?_
          refine T_sld dL_law_241 ?_
          refine T_i2l dL_law_242 ?_
          refine T_bipush (v := 32) dL_law_243 (by decide) ?_
          refine T_lshl dL_law_245 ?_
          refine T_aload_n (q := 3) dL_law_246 rfl rfl ?_
          refine T_iload_n (q := 0) dL_law_247 rfl rfl ?_
          refine T_iconst (v := 4) dL_law_248 (by decide) ?_
          refine T_iadd dL_law_249 ?_
          refine T_sld dL_law_250 ?_
          refine T_i2l dL_law_251 ?_
          refine T_ldc2 dL_law_252 kcl_L_23 ?_
          refine T_land dL_law_255 ?_
          refine T_lor dL_law_256 ?_
          refine T_callVlw (As := [.int (xs (s1.1 + (1 : Int32)).toNatClampNeg), .int (xs (s1.1 + (2 : Int32)).toNatClampNeg), .long ((lshl ((xs (s1.1 + (3 : Int32)).toNatClampNeg).toInt64) (32 : Int32)) ||| (((xs (s1.1 + (4 : Int32)).toNatClampNeg).toInt64) &&& (4294967295 : Int64)))]) (st := []) mv_L_25 (by decide) dL_law_257 sh0 (fun b hb => mX7_found G l 0 sh0 (xs (s1.1 + (1 : Int32)).toNatClampNeg) (xs (s1.1 + (2 : Int32)).toNatClampNeg) ((lshl ((xs (s1.1 + (3 : Int32)).toNatClampNeg).toInt64) (32 : Int32)) ||| (((xs (s1.1 + (4 : Int32)).toNatClampNeg).toInt64) &&& (4294967295 : Int64))) s1.2 b hb) rfl rfl (Nat.le_of_ble_eq_true rfl) (fun b41 => ?_)
          refine T_aload_n (q := 1) dL_law_260 rfl rfl ?_
          refine T_aload_n (q := 3) dL_law_261 rfl rfl ?_
          refine T_iload_n (q := 0) dL_law_262 rfl rfl ?_
          refine T_iconst (v := 1) dL_law_263 (by decide) ?_
          refine T_iadd dL_law_264 ?_
          refine T_sld dL_law_265 ?_
          refine T_aload_n (q := 3) dL_law_266 rfl rfl ?_
          refine T_iload_n (q := 0) dL_law_267 rfl rfl ?_
          refine T_iconst (v := 2) dL_law_268 (by decide) ?_
          refine T_iadd dL_law_269 ?_
          refine T_sld dL_law_270 ?_
          refine T_aload_n (q := 3) dL_law_271 rfl rfl ?_
          refine T_iload_n (q := 0) dL_law_272 rfl rfl ?_
          refine T_iconst (v := 3) dL_law_273 (by decide) ?_
          refine T_iadd dL_law_274 ?_
          refine T_sld dL_law_275 ?_
          refine T_i2l dL_law_276 ?_
          refine T_bipush (v := 32) dL_law_277 (by decide) ?_
          refine T_lshl dL_law_279 ?_
          refine T_aload_n (q := 3) dL_law_280 rfl rfl ?_
          refine T_iload_n (q := 0) dL_law_281 rfl rfl ?_
          refine T_iconst (v := 4) dL_law_282 (by decide) ?_
          refine T_iadd dL_law_283 ?_
          refine T_sld dL_law_284 ?_
          refine T_i2l dL_law_285 ?_
          refine T_ldc2 dL_law_286 kcl_L_23 ?_
          refine T_land dL_law_289 ?_
          refine T_lor dL_law_290 ?_
          refine T_callVlw (As := [.int (xs (s1.1 + (1 : Int32)).toNatClampNeg), .int (xs (s1.1 + (2 : Int32)).toNatClampNeg), .long ((lshl ((xs (s1.1 + (3 : Int32)).toNatClampNeg).toInt64) (32 : Int32)) ||| (((xs (s1.1 + (4 : Int32)).toNatClampNeg).toInt64) &&& (4294967295 : Int64)))]) (st := [.long b41.1]) mv_L_29 (by decide) dL_law_291 sh151 (fun b hb => mX8_found G l 151 sh151 (xs (s1.1 + (1 : Int32)).toNatClampNeg) (xs (s1.1 + (2 : Int32)).toNatClampNeg) ((lshl ((xs (s1.1 + (3 : Int32)).toNatClampNeg).toInt64) (32 : Int32)) ||| (((xs (s1.1 + (4 : Int32)).toNatClampNeg).toInt64) &&& (4294967295 : Int64))) b41.2 b hb) rfl rfl (Nat.le_of_ble_eq_true rfl) (fun b42 => ?_)
          refine T_lcmp dL_law_294 ?_
          refine T_if_eq (tgt := 1374) dL_law_295 (by decide) (fun hc43 => ?_) (fun hc43 => ?_)
          · refine T_iinc_G (q := 0) (y := s1.1 + 6) (lv' := fun v44 => [(3, .int v44), (2, .ref (adr G 151)), (1, .ref (adr G 0)), (0, .ref b)]) dL_law_1374 rfl rfl (by decide) (fun _ => rfl) (fun v44 => ?_)
            refine T_goto (tgt := 18) dL_law_1377 (by decide) ?_
            exact T_end (fun h => V_sub [0, 1, 2, 3] rfl h)
          · refine T_iconst (v := 0) dL_law_298 (by decide) ?_
            exact T_none
        · skip
          refine T_split (fun hs6 => ?_) (fun hs6 => ?_)
          · refine T_tswIn (off := 267) (tgt := 300) dL_law_33 (by rw [hs6]; decide) (by rw [hs6]; decide) (by rw [hs6]; rfl) (by decide) ?_
            refine T_aload_n (q := 2) dL_law_300 rfl rfl ?_
            refine T_aload_n (q := 3) dL_law_301 rfl rfl ?_
            refine T_iload_n (q := 0) dL_law_302 rfl rfl ?_
            refine T_iconst (v := 1) dL_law_303 (by decide) ?_
            refine T_iadd dL_law_304 ?_
            refine T_sld dL_law_305 ?_
            refine T_aload_n (q := 3) dL_law_306 rfl rfl ?_
            refine T_iload_n (q := 0) dL_law_307 rfl rfl ?_
            refine T_iconst (v := 2) dL_law_308 (by decide) ?_
            refine T_iadd dL_law_309 ?_
            refine T_sld dL_law_310 ?_
            refine T_aload_n (q := 3) dL_law_311 rfl rfl ?_
            refine T_iload_n (q := 0) dL_law_312 rfl rfl ?_
            refine T_iconst (v := 3) dL_law_313 (by decide) ?_
            refine T_iadd dL_law_314 ?_
            refine T_sld dL_law_315 ?_
            refine T_aload_n (q := 3) dL_law_316 rfl rfl ?_
            refine T_iload_n (q := 0) dL_law_317 rfl rfl ?_
            refine T_iconst (v := 4) dL_law_318 (by decide) ?_
            refine T_iadd dL_law_319 ?_
            refine T_sld dL_law_320 ?_
            refine T_i2l dL_law_321 ?_
            refine T_bipush (v := 32) dL_law_322 (by decide) ?_
            refine T_lshl dL_law_324 ?_
            refine T_aload_n (q := 3) dL_law_325 rfl rfl ?_
            refine T_iload_n (q := 0) dL_law_326 rfl rfl ?_
            refine T_iconst (v := 5) dL_law_327 (by decide) ?_
            refine T_iadd dL_law_328 ?_
            refine T_sld dL_law_329 ?_
            refine T_i2l dL_law_330 ?_
            refine T_ldc2 dL_law_331 kcl_L_23 ?_
            refine T_land dL_law_334 ?_
            refine T_lor dL_law_335 ?_
            refine T_callVlw (As := [.int (xs (s1.1 + (1 : Int32)).toNatClampNeg), .int (xs (s1.1 + (2 : Int32)).toNatClampNeg), .int (xs (s1.1 + (3 : Int32)).toNatClampNeg), .long ((lshl ((xs (s1.1 + (4 : Int32)).toNatClampNeg).toInt64) (32 : Int32)) ||| (((xs (s1.1 + (5 : Int32)).toNatClampNeg).toInt64) &&& (4294967295 : Int64)))]) (st := []) mv_L_30 (by decide) dL_law_336 sh0 (fun b hb => mX7_move G l 0 sh0 (xs (s1.1 + (1 : Int32)).toNatClampNeg) (xs (s1.1 + (2 : Int32)).toNatClampNeg) (xs (s1.1 + (3 : Int32)).toNatClampNeg) ((lshl ((xs (s1.1 + (4 : Int32)).toNatClampNeg).toInt64) (32 : Int32)) ||| (((xs (s1.1 + (5 : Int32)).toNatClampNeg).toInt64) &&& (4294967295 : Int64))) s1.2 b hb) rfl rfl (Nat.le_of_ble_eq_true rfl) (fun b45 => ?_)
            refine T_aload_n (q := 1) dL_law_339 rfl rfl ?_
            refine T_aload_n (q := 3) dL_law_340 rfl rfl ?_
            refine T_iload_n (q := 0) dL_law_341 rfl rfl ?_
            refine T_iconst (v := 1) dL_law_342 (by decide) ?_
            refine T_iadd dL_law_343 ?_
            refine T_sld dL_law_344 ?_
            refine T_aload_n (q := 3) dL_law_345 rfl rfl ?_
            refine T_iload_n (q := 0) dL_law_346 rfl rfl ?_
            refine T_iconst (v := 2) dL_law_347 (by decide) ?_
            refine T_iadd dL_law_348 ?_
            refine T_sld dL_law_349 ?_
            refine T_aload_n (q := 3) dL_law_350 rfl rfl ?_
            refine T_iload_n (q := 0) dL_law_351 rfl rfl ?_
            refine T_iconst (v := 3) dL_law_352 (by decide) ?_
            refine T_iadd dL_law_353 ?_
            refine T_sld dL_law_354 ?_
            refine T_aload_n (q := 3) dL_law_355 rfl rfl ?_
            refine T_iload_n (q := 0) dL_law_356 rfl rfl ?_
            refine T_iconst (v := 4) dL_law_357 (by decide) ?_
            refine T_iadd dL_law_358 ?_
            refine T_sld dL_law_359 ?_
            refine T_i2l dL_law_360 ?_
            refine T_bipush (v := 32) dL_law_361 (by decide) ?_
            refine T_lshl dL_law_363 ?_
            refine T_aload_n (q := 3) dL_law_364 rfl rfl ?_
            refine T_iload_n (q := 0) dL_law_365 rfl rfl ?_
            refine T_iconst (v := 5) dL_law_366 (by decide) ?_
            refine T_iadd dL_law_367 ?_
            refine T_sld dL_law_368 ?_
            refine T_i2l dL_law_369 ?_
            refine T_ldc2 dL_law_370 kcl_L_23 ?_
            refine T_land dL_law_373 ?_
            refine T_lor dL_law_374 ?_
            refine T_callVlw (As := [.int (xs (s1.1 + (1 : Int32)).toNatClampNeg), .int (xs (s1.1 + (2 : Int32)).toNatClampNeg), .int (xs (s1.1 + (3 : Int32)).toNatClampNeg), .long ((lshl ((xs (s1.1 + (4 : Int32)).toNatClampNeg).toInt64) (32 : Int32)) ||| (((xs (s1.1 + (5 : Int32)).toNatClampNeg).toInt64) &&& (4294967295 : Int64)))]) (st := [.long b45.1]) mv_L_34 (by decide) dL_law_375 sh151 (fun b hb => mX8_move G l 151 sh151 (xs (s1.1 + (1 : Int32)).toNatClampNeg) (xs (s1.1 + (2 : Int32)).toNatClampNeg) (xs (s1.1 + (3 : Int32)).toNatClampNeg) ((lshl ((xs (s1.1 + (4 : Int32)).toNatClampNeg).toInt64) (32 : Int32)) ||| (((xs (s1.1 + (5 : Int32)).toNatClampNeg).toInt64) &&& (4294967295 : Int64))) b45.2 b hb) rfl rfl (Nat.le_of_ble_eq_true rfl) (fun b46 => ?_)
            refine T_lcmp dL_law_378 ?_
            refine T_if_eq (tgt := 1374) dL_law_379 (by decide) (fun hc47 => ?_) (fun hc47 => ?_)
            · refine T_iinc_G (q := 0) (y := s1.1 + 6) (lv' := fun v48 => [(3, .int v48), (2, .ref (adr G 151)), (1, .ref (adr G 0)), (0, .ref b)]) dL_law_1374 rfl rfl (by decide) (fun _ => rfl) (fun v48 => ?_)
              refine T_goto (tgt := 18) dL_law_1377 (by decide) ?_
              exact T_end (fun h => V_sub [0, 1, 2, 3] rfl h)
            · refine T_iconst (v := 0) dL_law_382 (by decide) ?_
              exact T_none
          · skip
            refine T_split (fun hs7 => ?_) (fun hs7 => ?_)
            · refine T_tswIn (off := 351) (tgt := 384) dL_law_33 (by rw [hs7]; decide) (by rw [hs7]; decide) (by rw [hs7]; rfl) (by decide) ?_
              refine T_aload_n (q := 2) dL_law_384 rfl rfl ?_
              refine T_aload_n (q := 3) dL_law_385 rfl rfl ?_
              refine T_iload_n (q := 0) dL_law_386 rfl rfl ?_
              refine T_iconst (v := 1) dL_law_387 (by decide) ?_
              refine T_iadd dL_law_388 ?_
              refine T_sld dL_law_389 ?_
              refine T_aload_n (q := 3) dL_law_390 rfl rfl ?_
              refine T_iload_n (q := 0) dL_law_391 rfl rfl ?_
              refine T_iconst (v := 2) dL_law_392 (by decide) ?_
              refine T_iadd dL_law_393 ?_
              refine T_sld dL_law_394 ?_
              refine T_aload_n (q := 3) dL_law_395 rfl rfl ?_
              refine T_iload_n (q := 0) dL_law_396 rfl rfl ?_
              refine T_iconst (v := 3) dL_law_397 (by decide) ?_
              refine T_iadd dL_law_398 ?_
              refine T_sld dL_law_399 ?_
              refine T_callVlw (As := [.int (xs (s1.1 + (1 : Int32)).toNatClampNeg), .int (xs (s1.1 + (2 : Int32)).toNatClampNeg), .int (xs (s1.1 + (3 : Int32)).toNatClampNeg)]) (st := []) mv_L_35 (by decide) dL_law_400 sh0 (fun b hb => mX7_swallow G l 0 sh0 (xs (s1.1 + (1 : Int32)).toNatClampNeg) (xs (s1.1 + (2 : Int32)).toNatClampNeg) (xs (s1.1 + (3 : Int32)).toNatClampNeg) s1.2 b hb) rfl rfl (Nat.le_of_ble_eq_true rfl) (fun b49 => ?_)
              refine T_aload_n (q := 1) dL_law_403 rfl rfl ?_
              refine T_aload_n (q := 3) dL_law_404 rfl rfl ?_
              refine T_iload_n (q := 0) dL_law_405 rfl rfl ?_
              refine T_iconst (v := 1) dL_law_406 (by decide) ?_
              refine T_iadd dL_law_407 ?_
              refine T_sld dL_law_408 ?_
              refine T_aload_n (q := 3) dL_law_409 rfl rfl ?_
              refine T_iload_n (q := 0) dL_law_410 rfl rfl ?_
              refine T_iconst (v := 2) dL_law_411 (by decide) ?_
              refine T_iadd dL_law_412 ?_
              refine T_sld dL_law_413 ?_
              refine T_aload_n (q := 3) dL_law_414 rfl rfl ?_
              refine T_iload_n (q := 0) dL_law_415 rfl rfl ?_
              refine T_iconst (v := 3) dL_law_416 (by decide) ?_
              refine T_iadd dL_law_417 ?_
              refine T_sld dL_law_418 ?_
              refine T_callVlw (As := [.int (xs (s1.1 + (1 : Int32)).toNatClampNeg), .int (xs (s1.1 + (2 : Int32)).toNatClampNeg), .int (xs (s1.1 + (3 : Int32)).toNatClampNeg)]) (st := [.long b49.1]) mv_L_39 (by decide) dL_law_419 sh151 (fun b hb => mX8_swallow G l 151 sh151 (xs (s1.1 + (1 : Int32)).toNatClampNeg) (xs (s1.1 + (2 : Int32)).toNatClampNeg) (xs (s1.1 + (3 : Int32)).toNatClampNeg) b49.2 b hb) rfl rfl (Nat.le_of_ble_eq_true rfl) (fun b50 => ?_)
              refine T_lcmp dL_law_422 ?_
              refine T_if_eq (tgt := 1374) dL_law_423 (by decide) (fun hc51 => ?_) (fun hc51 => ?_)
              · refine T_iinc_G (q := 0) (y := s1.1 + 6) (lv' := fun v52 => [(3, .int v52), (2, .ref (adr G 151)), (1, .ref (adr G 0)), (0, .ref b)]) dL_law_1374 rfl rfl (by decide) (fun _ => rfl) (fun v52 => ?_)
                refine T_goto (tgt := 18) dL_law_1377 (by decide) ?_
                exact T_end (fun h => V_sub [0, 1, 2, 3] rfl h)
              · refine T_iconst (v := 0) dL_law_426 (by decide) ?_
                exact T_none
            · skip
              refine T_split (fun hs8 => ?_) (fun hs8 => ?_)
              · refine T_tswIn (off := 395) (tgt := 428) dL_law_33 (by rw [hs8]; decide) (by rw [hs8]; decide) (by rw [hs8]; rfl) (by decide) ?_
                refine T_aload_n (q := 2) dL_law_428 rfl rfl ?_
                refine T_aload_n (q := 3) dL_law_429 rfl rfl ?_
                refine T_iload_n (q := 0) dL_law_430 rfl rfl ?_
                refine T_iconst (v := 1) dL_law_431 (by decide) ?_
                refine T_iadd dL_law_432 ?_
                refine T_sld dL_law_433 ?_
                refine T_aload_n (q := 3) dL_law_434 rfl rfl ?_
                refine T_iload_n (q := 0) dL_law_435 rfl rfl ?_
                refine T_iconst (v := 2) dL_law_436 (by decide) ?_
                refine T_iadd dL_law_437 ?_
                refine T_sld dL_law_438 ?_
                refine T_callVlw (As := [.int (xs (s1.1 + (1 : Int32)).toNatClampNeg), .int (xs (s1.1 + (2 : Int32)).toNatClampNeg)]) (st := []) mv_L_40 (by decide) dL_law_439 sh0 (fun b hb => mX7_back G l 0 sh0 (xs (s1.1 + (1 : Int32)).toNatClampNeg) (xs (s1.1 + (2 : Int32)).toNatClampNeg) s1.2 b hb) rfl rfl (Nat.le_of_ble_eq_true rfl) (fun b53 => ?_)
                refine T_aload_n (q := 1) dL_law_442 rfl rfl ?_
                refine T_aload_n (q := 3) dL_law_443 rfl rfl ?_
                refine T_iload_n (q := 0) dL_law_444 rfl rfl ?_
                refine T_iconst (v := 1) dL_law_445 (by decide) ?_
                refine T_iadd dL_law_446 ?_
                refine T_sld dL_law_447 ?_
                refine T_aload_n (q := 3) dL_law_448 rfl rfl ?_
                refine T_iload_n (q := 0) dL_law_449 rfl rfl ?_
                refine T_iconst (v := 2) dL_law_450 (by decide) ?_
                refine T_iadd dL_law_451 ?_
                refine T_sld dL_law_452 ?_
                refine T_callVlw (As := [.int (xs (s1.1 + (1 : Int32)).toNatClampNeg), .int (xs (s1.1 + (2 : Int32)).toNatClampNeg)]) (st := [.long b53.1]) mv_L_43 (by decide) dL_law_453 sh151 (fun b hb => mX8_back G l 151 sh151 (xs (s1.1 + (1 : Int32)).toNatClampNeg) (xs (s1.1 + (2 : Int32)).toNatClampNeg) b53.2 b hb) rfl rfl (Nat.le_of_ble_eq_true rfl) (fun b54 => ?_)
                refine T_lcmp dL_law_456 ?_
                refine T_if_eq (tgt := 1374) dL_law_457 (by decide) (fun hc55 => ?_) (fun hc55 => ?_)
                · refine T_iinc_G (q := 0) (y := s1.1 + 6) (lv' := fun v56 => [(3, .int v56), (2, .ref (adr G 151)), (1, .ref (adr G 0)), (0, .ref b)]) dL_law_1374 rfl rfl (by decide) (fun _ => rfl) (fun v56 => ?_)
                  refine T_goto (tgt := 18) dL_law_1377 (by decide) ?_
                  exact T_end (fun h => V_sub [0, 1, 2, 3] rfl h)
                · refine T_iconst (v := 0) dL_law_460 (by decide) ?_
                  exact T_none
              · skip
                refine T_split (fun hs9 => ?_) (fun hs9 => ?_)
                · refine T_tswIn (off := 429) (tgt := 462) dL_law_33 (by rw [hs9]; decide) (by rw [hs9]; decide) (by rw [hs9]; rfl) (by decide) ?_
                  refine T_aload_n (q := 2) dL_law_462 rfl rfl ?_
                  refine T_aload_n (q := 3) dL_law_463 rfl rfl ?_
                  refine T_iload_n (q := 0) dL_law_464 rfl rfl ?_
                  refine T_iconst (v := 1) dL_law_465 (by decide) ?_
                  refine T_iadd dL_law_466 ?_
                  refine T_sld dL_law_467 ?_
                  refine T_aload_n (q := 3) dL_law_468 rfl rfl ?_
                  refine T_iload_n (q := 0) dL_law_469 rfl rfl ?_
                  refine T_iconst (v := 2) dL_law_470 (by decide) ?_
                  refine T_iadd dL_law_471 ?_
                  refine T_sld dL_law_472 ?_
                  refine T_aload_n (q := 3) dL_law_473 rfl rfl ?_
                  refine T_iload_n (q := 0) dL_law_474 rfl rfl ?_
                  refine T_iconst (v := 3) dL_law_475 (by decide) ?_
                  refine T_iadd dL_law_476 ?_
                  refine T_sld dL_law_477 ?_
                  refine T_callVlw (As := [.int (xs (s1.1 + (1 : Int32)).toNatClampNeg), .int (xs (s1.1 + (2 : Int32)).toNatClampNeg), .int (xs (s1.1 + (3 : Int32)).toNatClampNeg)]) (st := []) mv_L_44 (by decide) dL_law_478 sh0 (fun b hb => mX7_join G l 0 sh0 (xs (s1.1 + (1 : Int32)).toNatClampNeg) (xs (s1.1 + (2 : Int32)).toNatClampNeg) (xs (s1.1 + (3 : Int32)).toNatClampNeg) s1.2 b hb) rfl rfl (Nat.le_of_ble_eq_true rfl) (fun b57 => ?_)
                  refine T_aload_n (q := 1) dL_law_481 rfl rfl ?_
                  refine T_aload_n (q := 3) dL_law_482 rfl rfl ?_
                  refine T_iload_n (q := 0) dL_law_483 rfl rfl ?_
                  refine T_iconst (v := 1) dL_law_484 (by decide) ?_
                  refine T_iadd dL_law_485 ?_
                  refine T_sld dL_law_486 ?_
                  refine T_aload_n (q := 3) dL_law_487 rfl rfl ?_
                  refine T_iload_n (q := 0) dL_law_488 rfl rfl ?_
                  refine T_iconst (v := 2) dL_law_489 (by decide) ?_
                  refine T_iadd dL_law_490 ?_
                  refine T_sld dL_law_491 ?_
                  refine T_aload_n (q := 3) dL_law_492 rfl rfl ?_
                  refine T_iload_n (q := 0) dL_law_493 rfl rfl ?_
                  refine T_iconst (v := 3) dL_law_494 (by decide) ?_
                  refine T_iadd dL_law_495 ?_
                  refine T_sld dL_law_496 ?_
                  refine T_callVlw (As := [.int (xs (s1.1 + (1 : Int32)).toNatClampNeg), .int (xs (s1.1 + (2 : Int32)).toNatClampNeg), .int (xs (s1.1 + (3 : Int32)).toNatClampNeg)]) (st := [.long b57.1]) mv_L_47 (by decide) dL_law_497 sh151 (fun b hb => mX8_join G l 151 sh151 (xs (s1.1 + (1 : Int32)).toNatClampNeg) (xs (s1.1 + (2 : Int32)).toNatClampNeg) (xs (s1.1 + (3 : Int32)).toNatClampNeg) b57.2 b hb) rfl rfl (Nat.le_of_ble_eq_true rfl) (fun b58 => ?_)
                  refine T_lcmp dL_law_500 ?_
                  refine T_if_eq (tgt := 1374) dL_law_501 (by decide) (fun hc59 => ?_) (fun hc59 => ?_)
                  · refine T_iinc_G (q := 0) (y := s1.1 + 6) (lv' := fun v60 => [(3, .int v60), (2, .ref (adr G 151)), (1, .ref (adr G 0)), (0, .ref b)]) dL_law_1374 rfl rfl (by decide) (fun _ => rfl) (fun v60 => ?_)
                    refine T_goto (tgt := 18) dL_law_1377 (by decide) ?_
                    exact T_end (fun h => V_sub [0, 1, 2, 3] rfl h)
                  · refine T_iconst (v := 0) dL_law_504 (by decide) ?_
                    exact T_none
                · skip
                  refine T_split (fun hs10 => ?_) (fun hs10 => ?_)
                  · refine T_tswIn (off := 473) (tgt := 506) dL_law_33 (by rw [hs10]; decide) (by rw [hs10]; decide) (by rw [hs10]; rfl) (by decide) ?_
                    refine T_aload_n (q := 2) dL_law_506 rfl rfl ?_
                    refine T_aload_n (q := 3) dL_law_507 rfl rfl ?_
                    refine T_iload_n (q := 0) dL_law_508 rfl rfl ?_
                    refine T_iconst (v := 1) dL_law_509 (by decide) ?_
                    refine T_iadd dL_law_510 ?_
                    refine T_sld dL_law_511 ?_
                    refine T_aload_n (q := 3) dL_law_512 rfl rfl ?_
                    refine T_iload_n (q := 0) dL_law_513 rfl rfl ?_
                    refine T_iconst (v := 2) dL_law_514 (by decide) ?_
                    refine T_iadd dL_law_515 ?_
                    refine T_sld dL_law_516 ?_
                    refine T_callVlw (As := [.int (xs (s1.1 + (1 : Int32)).toNatClampNeg), .int (xs (s1.1 + (2 : Int32)).toNatClampNeg)]) (st := []) mv_L_48 (by decide) dL_law_517 sh0 (fun b hb => mX7_act G l 0 sh0 (xs (s1.1 + (1 : Int32)).toNatClampNeg) (xs (s1.1 + (2 : Int32)).toNatClampNeg) s1.2 b hb) rfl rfl (Nat.le_of_ble_eq_true rfl) (fun b61 => ?_)
                    refine T_aload_n (q := 1) dL_law_520 rfl rfl ?_
                    refine T_aload_n (q := 3) dL_law_521 rfl rfl ?_
                    refine T_iload_n (q := 0) dL_law_522 rfl rfl ?_
                    refine T_iconst (v := 1) dL_law_523 (by decide) ?_
                    refine T_iadd dL_law_524 ?_
                    refine T_sld dL_law_525 ?_
                    refine T_aload_n (q := 3) dL_law_526 rfl rfl ?_
                    refine T_iload_n (q := 0) dL_law_527 rfl rfl ?_
                    refine T_iconst (v := 2) dL_law_528 (by decide) ?_
                    refine T_iadd dL_law_529 ?_
                    refine T_sld dL_law_530 ?_
                    refine T_callVlw (As := [.int (xs (s1.1 + (1 : Int32)).toNatClampNeg), .int (xs (s1.1 + (2 : Int32)).toNatClampNeg)]) (st := [.long b61.1]) mv_L_51 (by decide) dL_law_531 sh151 (fun b hb => mX8_act G l 151 sh151 (xs (s1.1 + (1 : Int32)).toNatClampNeg) (xs (s1.1 + (2 : Int32)).toNatClampNeg) b61.2 b hb) rfl rfl (Nat.le_of_ble_eq_true rfl) (fun b62 => ?_)
                    refine T_lcmp dL_law_534 ?_
                    refine T_if_eq (tgt := 1374) dL_law_535 (by decide) (fun hc63 => ?_) (fun hc63 => ?_)
                    · refine T_iinc_G (q := 0) (y := s1.1 + 6) (lv' := fun v64 => [(3, .int v64), (2, .ref (adr G 151)), (1, .ref (adr G 0)), (0, .ref b)]) dL_law_1374 rfl rfl (by decide) (fun _ => rfl) (fun v64 => ?_)
                      refine T_goto (tgt := 18) dL_law_1377 (by decide) ?_
                      exact T_end (fun h => V_sub [0, 1, 2, 3] rfl h)
                    · refine T_iconst (v := 0) dL_law_538 (by decide) ?_
                      exact T_none
                  · skip
                    refine T_split (fun hs11 => ?_) (fun hs11 => ?_)
                    · refine T_tswIn (off := 507) (tgt := 540) dL_law_33 (by rw [hs11]; decide) (by rw [hs11]; decide) (by rw [hs11]; rfl) (by decide) ?_
                      refine T_aload_n (q := 2) dL_law_540 rfl rfl ?_
                      refine T_callVlw (As := []) (st := []) mv_L_52 (by decide) dL_law_541 sh0 (fun b hb => mX7_untell G l 0 sh0 s1.2 b hb) rfl rfl (Nat.le_of_ble_eq_true rfl) (fun b65 => ?_)
                      refine T_aload_n (q := 1) dL_law_544 rfl rfl ?_
                      refine T_callVlw (As := []) (st := [.long b65.1]) mv_L_56 (by decide) dL_law_545 sh151 (fun b hb => mX8_untell G l 151 sh151 b65.2 b hb) rfl rfl (Nat.le_of_ble_eq_true rfl) (fun b66 => ?_)
                      refine T_lcmp dL_law_548 ?_
                      refine T_if_eq (tgt := 1374) dL_law_549 (by decide) (fun hc67 => ?_) (fun hc67 => ?_)
                      · refine T_iinc_G (q := 0) (y := s1.1 + 6) (lv' := fun v68 => [(3, .int v68), (2, .ref (adr G 151)), (1, .ref (adr G 0)), (0, .ref b)]) dL_law_1374 rfl rfl (by decide) (fun _ => rfl) (fun v68 => ?_)
                        refine T_goto (tgt := 18) dL_law_1377 (by decide) ?_
                        exact T_end (fun h => V_sub [0, 1, 2, 3] rfl h)
                      · refine T_iconst (v := 0) dL_law_552 (by decide) ?_
                        exact T_none
                    · skip
                      refine T_split (fun hs12 => ?_) (fun hs12 => ?_)
                      · refine T_tswIn (off := 521) (tgt := 554) dL_law_33 (by rw [hs12]; decide) (by rw [hs12]; decide) (by rw [hs12]; rfl) (by decide) ?_
                        refine T_aload_n (q := 2) dL_law_554 rfl rfl ?_
                        refine T_aload_n (q := 3) dL_law_555 rfl rfl ?_
                        refine T_iload_n (q := 0) dL_law_556 rfl rfl ?_
                        refine T_iconst (v := 1) dL_law_557 (by decide) ?_
                        refine T_iadd dL_law_558 ?_
                        refine T_sld dL_law_559 ?_
                        refine T_aload_n (q := 3) dL_law_560 rfl rfl ?_
                        refine T_iload_n (q := 0) dL_law_561 rfl rfl ?_
                        refine T_iconst (v := 2) dL_law_562 (by decide) ?_
                        refine T_iadd dL_law_563 ?_
                        refine T_sld dL_law_564 ?_
                        refine T_callVlw (As := [.int (xs (s1.1 + (1 : Int32)).toNatClampNeg), .int (xs (s1.1 + (2 : Int32)).toNatClampNeg)]) (st := []) mv_L_57 (by decide) dL_law_565 sh0 (fun b hb => mX7_who G l 0 sh0 (xs (s1.1 + (1 : Int32)).toNatClampNeg) (xs (s1.1 + (2 : Int32)).toNatClampNeg) s1.2 b hb) rfl rfl (Nat.le_of_ble_eq_true rfl) (fun b69 => ?_)
                        refine T_aload_n (q := 1) dL_law_568 rfl rfl ?_
                        refine T_aload_n (q := 3) dL_law_569 rfl rfl ?_
                        refine T_iload_n (q := 0) dL_law_570 rfl rfl ?_
                        refine T_iconst (v := 1) dL_law_571 (by decide) ?_
                        refine T_iadd dL_law_572 ?_
                        refine T_sld dL_law_573 ?_
                        refine T_aload_n (q := 3) dL_law_574 rfl rfl ?_
                        refine T_iload_n (q := 0) dL_law_575 rfl rfl ?_
                        refine T_iconst (v := 2) dL_law_576 (by decide) ?_
                        refine T_iadd dL_law_577 ?_
                        refine T_sld dL_law_578 ?_
                        refine T_callVlw (As := [.int (xs (s1.1 + (1 : Int32)).toNatClampNeg), .int (xs (s1.1 + (2 : Int32)).toNatClampNeg)]) (st := [.long b69.1]) mv_L_60 (by decide) dL_law_579 sh151 (fun b hb => mX8_who G l 151 sh151 (xs (s1.1 + (1 : Int32)).toNatClampNeg) (xs (s1.1 + (2 : Int32)).toNatClampNeg) b69.2 b hb) rfl rfl (Nat.le_of_ble_eq_true rfl) (fun b70 => ?_)
                        refine T_lcmp dL_law_582 ?_
                        refine T_if_eq (tgt := 1374) dL_law_583 (by decide) (fun hc71 => ?_) (fun hc71 => ?_)
                        · refine T_iinc_G (q := 0) (y := s1.1 + 6) (lv' := fun v72 => [(3, .int v72), (2, .ref (adr G 151)), (1, .ref (adr G 0)), (0, .ref b)]) dL_law_1374 rfl rfl (by decide) (fun _ => rfl) (fun v72 => ?_)
                          refine T_goto (tgt := 18) dL_law_1377 (by decide) ?_
                          exact T_end (fun h => V_sub [0, 1, 2, 3] rfl h)
                        · refine T_iconst (v := 0) dL_law_586 (by decide) ?_
                          exact T_none
                      · skip
                        refine T_split (fun hs13 => ?_) (fun hs13 => ?_)
                        · refine T_tswIn (off := 555) (tgt := 588) dL_law_33 (by rw [hs13]; decide) (by rw [hs13]; decide) (by rw [hs13]; rfl) (by decide) ?_
                          refine T_aload_n (q := 2) dL_law_588 rfl rfl ?_
                          refine T_aload_n (q := 3) dL_law_589 rfl rfl ?_
                          refine T_iload_n (q := 0) dL_law_590 rfl rfl ?_
                          refine T_iconst (v := 1) dL_law_591 (by decide) ?_
                          refine T_iadd dL_law_592 ?_
                          refine T_sld dL_law_593 ?_
                          refine T_aload_n (q := 3) dL_law_594 rfl rfl ?_
                          refine T_iload_n (q := 0) dL_law_595 rfl rfl ?_
                          refine T_iconst (v := 2) dL_law_596 (by decide) ?_
                          refine T_iadd dL_law_597 ?_
                          refine T_sld dL_law_598 ?_
                          refine T_callVlw (As := [.int (xs (s1.1 + (1 : Int32)).toNatClampNeg), .int (xs (s1.1 + (2 : Int32)).toNatClampNeg)]) (st := []) mv_L_61 (by decide) dL_law_599 sh0 (fun b hb => mX7_there G l 0 sh0 (xs (s1.1 + (1 : Int32)).toNatClampNeg) (xs (s1.1 + (2 : Int32)).toNatClampNeg) s1.2 b hb) rfl rfl (Nat.le_of_ble_eq_true rfl) (fun b73 => ?_)
                          refine T_aload_n (q := 1) dL_law_602 rfl rfl ?_
                          refine T_aload_n (q := 3) dL_law_603 rfl rfl ?_
                          refine T_iload_n (q := 0) dL_law_604 rfl rfl ?_
                          refine T_iconst (v := 1) dL_law_605 (by decide) ?_
                          refine T_iadd dL_law_606 ?_
                          refine T_sld dL_law_607 ?_
                          refine T_aload_n (q := 3) dL_law_608 rfl rfl ?_
                          refine T_iload_n (q := 0) dL_law_609 rfl rfl ?_
                          refine T_iconst (v := 2) dL_law_610 (by decide) ?_
                          refine T_iadd dL_law_611 ?_
                          refine T_sld dL_law_612 ?_
                          refine T_callVlw (As := [.int (xs (s1.1 + (1 : Int32)).toNatClampNeg), .int (xs (s1.1 + (2 : Int32)).toNatClampNeg)]) (st := [.long b73.1]) mv_L_64 (by decide) dL_law_613 sh151 (fun b hb => mX8_there G l 151 sh151 (xs (s1.1 + (1 : Int32)).toNatClampNeg) (xs (s1.1 + (2 : Int32)).toNatClampNeg) b73.2 b hb) rfl rfl (Nat.le_of_ble_eq_true rfl) (fun b74 => ?_)
                          refine T_lcmp dL_law_616 ?_
                          refine T_if_eq (tgt := 1374) dL_law_617 (by decide) (fun hc75 => ?_) (fun hc75 => ?_)
                          · refine T_iinc_G (q := 0) (y := s1.1 + 6) (lv' := fun v76 => [(3, .int v76), (2, .ref (adr G 151)), (1, .ref (adr G 0)), (0, .ref b)]) dL_law_1374 rfl rfl (by decide) (fun _ => rfl) (fun v76 => ?_)
                            refine T_goto (tgt := 18) dL_law_1377 (by decide) ?_
                            exact T_end (fun h => V_sub [0, 1, 2, 3] rfl h)
                          · refine T_iconst (v := 0) dL_law_620 (by decide) ?_
                            exact T_none
                        · skip
                          refine T_split (fun hs14 => ?_) (fun hs14 => ?_)
                          · refine T_tswIn (off := 589) (tgt := 622) dL_law_33 (by rw [hs14]; decide) (by rw [hs14]; decide) (by rw [hs14]; rfl) (by decide) ?_
                            refine T_aload_n (q := 2) dL_law_622 rfl rfl ?_
                            refine T_aload_n (q := 3) dL_law_623 rfl rfl ?_
                            refine T_iload_n (q := 0) dL_law_624 rfl rfl ?_
                            refine T_iconst (v := 1) dL_law_625 (by decide) ?_
                            refine T_iadd dL_law_626 ?_
                            refine T_sld dL_law_627 ?_
                            refine T_aload_n (q := 3) dL_law_628 rfl rfl ?_
                            refine T_iload_n (q := 0) dL_law_629 rfl rfl ?_
                            refine T_iconst (v := 2) dL_law_630 (by decide) ?_
                            refine T_iadd dL_law_631 ?_
                            refine T_sld dL_law_632 ?_
                            refine T_callVlw (As := [.int (xs (s1.1 + (1 : Int32)).toNatClampNeg), .int (xs (s1.1 + (2 : Int32)).toNatClampNeg)]) (st := []) mv_L_65 (by decide) dL_law_633 sh0 (fun b hb => mX7_cells G l 0 sh0 (xs (s1.1 + (1 : Int32)).toNatClampNeg) (xs (s1.1 + (2 : Int32)).toNatClampNeg) s1.2 b hb) rfl rfl (Nat.le_of_ble_eq_true rfl) (fun b77 => ?_)
                            refine T_aload_n (q := 1) dL_law_636 rfl rfl ?_
                            refine T_aload_n (q := 3) dL_law_637 rfl rfl ?_
                            refine T_iload_n (q := 0) dL_law_638 rfl rfl ?_
                            refine T_iconst (v := 1) dL_law_639 (by decide) ?_
                            refine T_iadd dL_law_640 ?_
                            refine T_sld dL_law_641 ?_
                            refine T_aload_n (q := 3) dL_law_642 rfl rfl ?_
                            refine T_iload_n (q := 0) dL_law_643 rfl rfl ?_
                            refine T_iconst (v := 2) dL_law_644 (by decide) ?_
                            refine T_iadd dL_law_645 ?_
                            refine T_sld dL_law_646 ?_
                            refine T_callVlw (As := [.int (xs (s1.1 + (1 : Int32)).toNatClampNeg), .int (xs (s1.1 + (2 : Int32)).toNatClampNeg)]) (st := [.long b77.1]) mv_L_68 (by decide) dL_law_647 sh151 (fun b hb => mX8_cells G l 151 sh151 (xs (s1.1 + (1 : Int32)).toNatClampNeg) (xs (s1.1 + (2 : Int32)).toNatClampNeg) b77.2 b hb) rfl rfl (Nat.le_of_ble_eq_true rfl) (fun b78 => ?_)
                            refine T_lcmp dL_law_650 ?_
                            refine T_if_eq (tgt := 1374) dL_law_651 (by decide) (fun hc79 => ?_) (fun hc79 => ?_)
                            · refine T_iinc_G (q := 0) (y := s1.1 + 6) (lv' := fun v80 => [(3, .int v80), (2, .ref (adr G 151)), (1, .ref (adr G 0)), (0, .ref b)]) dL_law_1374 rfl rfl (by decide) (fun _ => rfl) (fun v80 => ?_)
                              refine T_goto (tgt := 18) dL_law_1377 (by decide) ?_
                              exact T_end (fun h => V_sub [0, 1, 2, 3] rfl h)
                            · refine T_iconst (v := 0) dL_law_654 (by decide) ?_
                              exact T_none
                          · skip
                            refine T_split (fun hs15 => ?_) (fun hs15 => ?_)
                            · refine T_tswIn (off := 623) (tgt := 656) dL_law_33 (by rw [hs15]; decide) (by rw [hs15]; decide) (by rw [hs15]; rfl) (by decide) ?_
                              refine T_aload_n (q := 2) dL_law_656 rfl rfl ?_
                              refine T_aload_n (q := 3) dL_law_657 rfl rfl ?_
                              refine T_iload_n (q := 0) dL_law_658 rfl rfl ?_
                              refine T_iconst (v := 1) dL_law_659 (by decide) ?_
                              refine T_iadd dL_law_660 ?_
                              refine T_sld dL_law_661 ?_
                              refine T_aload_n (q := 3) dL_law_662 rfl rfl ?_
                              refine T_iload_n (q := 0) dL_law_663 rfl rfl ?_
                              refine T_iconst (v := 2) dL_law_664 (by decide) ?_
                              refine T_iadd dL_law_665 ?_
                              refine T_sld dL_law_666 ?_
                              refine T_aload_n (q := 3) dL_law_667 rfl rfl ?_
                              refine T_iload_n (q := 0) dL_law_668 rfl rfl ?_
                              refine T_iconst (v := 3) dL_law_669 (by decide) ?_
                              refine T_iadd dL_law_670 ?_
                              refine T_sld dL_law_671 ?_
                              refine T_callVlw (As := [.int (xs (s1.1 + (1 : Int32)).toNatClampNeg), .int (xs (s1.1 + (2 : Int32)).toNatClampNeg), .int (xs (s1.1 + (3 : Int32)).toNatClampNeg)]) (st := []) mv_L_69 (by decide) dL_law_672 sh0 (fun b hb => mX7_shape G l 0 sh0 (xs (s1.1 + (1 : Int32)).toNatClampNeg) (xs (s1.1 + (2 : Int32)).toNatClampNeg) (xs (s1.1 + (3 : Int32)).toNatClampNeg) s1.2 b hb) rfl rfl (Nat.le_of_ble_eq_true rfl) (fun b81 => ?_)
                              refine T_aload_n (q := 1) dL_law_675 rfl rfl ?_
                              refine T_aload_n (q := 3) dL_law_676 rfl rfl ?_
                              refine T_iload_n (q := 0) dL_law_677 rfl rfl ?_
                              refine T_iconst (v := 1) dL_law_678 (by decide) ?_
                              refine T_iadd dL_law_679 ?_
                              refine T_sld dL_law_680 ?_
                              refine T_aload_n (q := 3) dL_law_681 rfl rfl ?_
                              refine T_iload_n (q := 0) dL_law_682 rfl rfl ?_
                              refine T_iconst (v := 2) dL_law_683 (by decide) ?_
                              refine T_iadd dL_law_684 ?_
                              refine T_sld dL_law_685 ?_
                              refine T_aload_n (q := 3) dL_law_686 rfl rfl ?_
                              refine T_iload_n (q := 0) dL_law_687 rfl rfl ?_
                              refine T_iconst (v := 3) dL_law_688 (by decide) ?_
                              refine T_iadd dL_law_689 ?_
                              refine T_sld dL_law_690 ?_
                              refine T_callVlw (As := [.int (xs (s1.1 + (1 : Int32)).toNatClampNeg), .int (xs (s1.1 + (2 : Int32)).toNatClampNeg), .int (xs (s1.1 + (3 : Int32)).toNatClampNeg)]) (st := [.long b81.1]) mv_L_72 (by decide) dL_law_691 sh151 (fun b hb => mX8_shape G l 151 sh151 (xs (s1.1 + (1 : Int32)).toNatClampNeg) (xs (s1.1 + (2 : Int32)).toNatClampNeg) (xs (s1.1 + (3 : Int32)).toNatClampNeg) b81.2 b hb) rfl rfl (Nat.le_of_ble_eq_true rfl) (fun b82 => ?_)
                              refine T_lcmp dL_law_694 ?_
                              refine T_if_eq (tgt := 1374) dL_law_695 (by decide) (fun hc83 => ?_) (fun hc83 => ?_)
                              · refine T_iinc_G (q := 0) (y := s1.1 + 6) (lv' := fun v84 => [(3, .int v84), (2, .ref (adr G 151)), (1, .ref (adr G 0)), (0, .ref b)]) dL_law_1374 rfl rfl (by decide) (fun _ => rfl) (fun v84 => ?_)
                                refine T_goto (tgt := 18) dL_law_1377 (by decide) ?_
                                exact T_end (fun h => V_sub [0, 1, 2, 3] rfl h)
                              · refine T_iconst (v := 0) dL_law_698 (by decide) ?_
                                exact T_none
                            · skip
                              refine T_split (fun hs16 => ?_) (fun hs16 => ?_)
                              · refine T_tswIn (off := 667) (tgt := 700) dL_law_33 (by rw [hs16]; decide) (by rw [hs16]; decide) (by rw [hs16]; rfl) (by decide) ?_
                                refine T_aload_n (q := 2) dL_law_700 rfl rfl ?_
                                refine T_aload_n (q := 3) dL_law_701 rfl rfl ?_
                                refine T_iload_n (q := 0) dL_law_702 rfl rfl ?_
                                refine T_iconst (v := 1) dL_law_703 (by decide) ?_
                                refine T_iadd dL_law_704 ?_
                                refine T_sld dL_law_705 ?_
                                refine T_aload_n (q := 3) dL_law_706 rfl rfl ?_
                                refine T_iload_n (q := 0) dL_law_707 rfl rfl ?_
                                refine T_iconst (v := 2) dL_law_708 (by decide) ?_
                                refine T_iadd dL_law_709 ?_
                                refine T_sld dL_law_710 ?_
                                refine T_callVlw (As := [.int (xs (s1.1 + (1 : Int32)).toNatClampNeg), .int (xs (s1.1 + (2 : Int32)).toNatClampNeg)]) (st := []) mv_L_73 (by decide) dL_law_711 sh0 (fun b hb => mX7_under G l 0 sh0 (xs (s1.1 + (1 : Int32)).toNatClampNeg) (xs (s1.1 + (2 : Int32)).toNatClampNeg) s1.2 b hb) rfl rfl (Nat.le_of_ble_eq_true rfl) (fun b85 => ?_)
                                refine T_aload_n (q := 1) dL_law_714 rfl rfl ?_
                                refine T_aload_n (q := 3) dL_law_715 rfl rfl ?_
                                refine T_iload_n (q := 0) dL_law_716 rfl rfl ?_
                                refine T_iconst (v := 1) dL_law_717 (by decide) ?_
                                refine T_iadd dL_law_718 ?_
                                refine T_sld dL_law_719 ?_
                                refine T_aload_n (q := 3) dL_law_720 rfl rfl ?_
                                refine T_iload_n (q := 0) dL_law_721 rfl rfl ?_
                                refine T_iconst (v := 2) dL_law_722 (by decide) ?_
                                refine T_iadd dL_law_723 ?_
                                refine T_sld dL_law_724 ?_
                                refine T_callVlw (As := [.int (xs (s1.1 + (1 : Int32)).toNatClampNeg), .int (xs (s1.1 + (2 : Int32)).toNatClampNeg)]) (st := [.long b85.1]) mv_L_76 (by decide) dL_law_725 sh151 (fun b hb => mX8_under G l 151 sh151 (xs (s1.1 + (1 : Int32)).toNatClampNeg) (xs (s1.1 + (2 : Int32)).toNatClampNeg) b85.2 b hb) rfl rfl (Nat.le_of_ble_eq_true rfl) (fun b86 => ?_)
                                refine T_lcmp dL_law_728 ?_
                                refine T_if_eq (tgt := 1374) dL_law_729 (by decide) (fun hc87 => ?_) (fun hc87 => ?_)
                                · refine T_iinc_G (q := 0) (y := s1.1 + 6) (lv' := fun v88 => [(3, .int v88), (2, .ref (adr G 151)), (1, .ref (adr G 0)), (0, .ref b)]) dL_law_1374 rfl rfl (by decide) (fun _ => rfl) (fun v88 => ?_)
                                  refine T_goto (tgt := 18) dL_law_1377 (by decide) ?_
                                  exact T_end (fun h => V_sub [0, 1, 2, 3] rfl h)
                                · refine T_iconst (v := 0) dL_law_732 (by decide) ?_
                                  exact T_none
                              · skip
                                refine T_split (fun hs17 => ?_) (fun hs17 => ?_)
                                · refine T_tswIn (off := 701) (tgt := 734) dL_law_33 (by rw [hs17]; decide) (by rw [hs17]; decide) (by rw [hs17]; rfl) (by decide) ?_
                                  refine T_aload_n (q := 2) dL_law_734 rfl rfl ?_
                                  refine T_aload_n (q := 3) dL_law_735 rfl rfl ?_
                                  refine T_iload_n (q := 0) dL_law_736 rfl rfl ?_
                                  refine T_iconst (v := 1) dL_law_737 (by decide) ?_
                                  refine T_iadd dL_law_738 ?_
                                  refine T_sld dL_law_739 ?_
                                  refine T_aload_n (q := 3) dL_law_740 rfl rfl ?_
                                  refine T_iload_n (q := 0) dL_law_741 rfl rfl ?_
                                  refine T_iconst (v := 2) dL_law_742 (by decide) ?_
                                  refine T_iadd dL_law_743 ?_
                                  refine T_sld dL_law_744 ?_
                                  refine T_aload_n (q := 3) dL_law_745 rfl rfl ?_
                                  refine T_iload_n (q := 0) dL_law_746 rfl rfl ?_
                                  refine T_iconst (v := 3) dL_law_747 (by decide) ?_
                                  refine T_iadd dL_law_748 ?_
                                  refine T_sld dL_law_749 ?_
                                  refine T_callVlw (As := [.int (xs (s1.1 + (1 : Int32)).toNatClampNeg), .int (xs (s1.1 + (2 : Int32)).toNatClampNeg), .int (xs (s1.1 + (3 : Int32)).toNatClampNeg)]) (st := []) mv_L_77 (by decide) dL_law_750 sh0 (fun b hb => mX7_led G l 0 sh0 (xs (s1.1 + (1 : Int32)).toNatClampNeg) (xs (s1.1 + (2 : Int32)).toNatClampNeg) (xs (s1.1 + (3 : Int32)).toNatClampNeg) s1.2 b hb) rfl rfl (Nat.le_of_ble_eq_true rfl) (fun b89 => ?_)
                                  refine T_aload_n (q := 1) dL_law_753 rfl rfl ?_
                                  refine T_aload_n (q := 3) dL_law_754 rfl rfl ?_
                                  refine T_iload_n (q := 0) dL_law_755 rfl rfl ?_
                                  refine T_iconst (v := 1) dL_law_756 (by decide) ?_
                                  refine T_iadd dL_law_757 ?_
                                  refine T_sld dL_law_758 ?_
                                  refine T_aload_n (q := 3) dL_law_759 rfl rfl ?_
                                  refine T_iload_n (q := 0) dL_law_760 rfl rfl ?_
                                  refine T_iconst (v := 2) dL_law_761 (by decide) ?_
                                  refine T_iadd dL_law_762 ?_
                                  refine T_sld dL_law_763 ?_
                                  refine T_aload_n (q := 3) dL_law_764 rfl rfl ?_
                                  refine T_iload_n (q := 0) dL_law_765 rfl rfl ?_
                                  refine T_iconst (v := 3) dL_law_766 (by decide) ?_
                                  refine T_iadd dL_law_767 ?_
                                  refine T_sld dL_law_768 ?_
                                  refine T_callVlw (As := [.int (xs (s1.1 + (1 : Int32)).toNatClampNeg), .int (xs (s1.1 + (2 : Int32)).toNatClampNeg), .int (xs (s1.1 + (3 : Int32)).toNatClampNeg)]) (st := [.long b89.1]) mv_L_80 (by decide) dL_law_769 sh151 (fun b hb => mX8_led G l 151 sh151 (xs (s1.1 + (1 : Int32)).toNatClampNeg) (xs (s1.1 + (2 : Int32)).toNatClampNeg) (xs (s1.1 + (3 : Int32)).toNatClampNeg) b89.2 b hb) rfl rfl (Nat.le_of_ble_eq_true rfl) (fun b90 => ?_)
                                  refine T_lcmp dL_law_772 ?_
                                  refine T_if_eq (tgt := 1374) dL_law_773 (by decide) (fun hc91 => ?_) (fun hc91 => ?_)
                                  · refine T_iinc_G (q := 0) (y := s1.1 + 6) (lv' := fun v92 => [(3, .int v92), (2, .ref (adr G 151)), (1, .ref (adr G 0)), (0, .ref b)]) dL_law_1374 rfl rfl (by decide) (fun _ => rfl) (fun v92 => ?_)
                                    refine T_goto (tgt := 18) dL_law_1377 (by decide) ?_
                                    exact T_end (fun h => V_sub [0, 1, 2, 3] rfl h)
                                  · refine T_iconst (v := 0) dL_law_776 (by decide) ?_
                                    exact T_none
                                · skip
                                  refine T_split (fun hs18 => ?_) (fun hs18 => ?_)
                                  · refine T_tswIn (off := 745) (tgt := 778) dL_law_33 (by rw [hs18]; decide) (by rw [hs18]; decide) (by rw [hs18]; rfl) (by decide) ?_
                                    refine T_aload_n (q := 2) dL_law_778 rfl rfl ?_
                                    refine T_aload_n (q := 3) dL_law_779 rfl rfl ?_
                                    refine T_iload_n (q := 0) dL_law_780 rfl rfl ?_
                                    refine T_iconst (v := 1) dL_law_781 (by decide) ?_
                                    refine T_iadd dL_law_782 ?_
                                    refine T_sld dL_law_783 ?_
                                    refine T_callVlw (As := [.int (xs (s1.1 + (1 : Int32)).toNatClampNeg)]) (st := []) mv_L_81 (by decide) dL_law_784 sh0 (fun b hb => mX7_borders G l 0 sh0 (xs (s1.1 + (1 : Int32)).toNatClampNeg) s1.2 b hb) rfl rfl (Nat.le_of_ble_eq_true rfl) (fun b93 => ?_)
                                    refine T_aload_n (q := 1) dL_law_787 rfl rfl ?_
                                    refine T_aload_n (q := 3) dL_law_788 rfl rfl ?_
                                    refine T_iload_n (q := 0) dL_law_789 rfl rfl ?_
                                    refine T_iconst (v := 1) dL_law_790 (by decide) ?_
                                    refine T_iadd dL_law_791 ?_
                                    refine T_sld dL_law_792 ?_
                                    refine T_callVlw (As := [.int (xs (s1.1 + (1 : Int32)).toNatClampNeg)]) (st := [.long b93.1]) mv_L_84 (by decide) dL_law_793 sh151 (fun b hb => mX8_borders G l 151 sh151 (xs (s1.1 + (1 : Int32)).toNatClampNeg) b93.2 b hb) rfl rfl (Nat.le_of_ble_eq_true rfl) (fun b94 => ?_)
                                    refine T_lcmp dL_law_796 ?_
                                    refine T_if_eq (tgt := 1374) dL_law_797 (by decide) (fun hc95 => ?_) (fun hc95 => ?_)
                                    · refine T_iinc_G (q := 0) (y := s1.1 + 6) (lv' := fun v96 => [(3, .int v96), (2, .ref (adr G 151)), (1, .ref (adr G 0)), (0, .ref b)]) dL_law_1374 rfl rfl (by decide) (fun _ => rfl) (fun v96 => ?_)
                                      refine T_goto (tgt := 18) dL_law_1377 (by decide) ?_
                                      exact T_end (fun h => V_sub [0, 1, 2, 3] rfl h)
                                    · refine T_iconst (v := 0) dL_law_800 (by decide) ?_
                                      exact T_none
                                  · skip
                                    refine T_split (fun hs19 => ?_) (fun hs19 => ?_)
                                    · refine T_tswIn (off := 769) (tgt := 802) dL_law_33 (by rw [hs19]; decide) (by rw [hs19]; decide) (by rw [hs19]; rfl) (by decide) ?_
                                      refine T_aload_n (q := 2) dL_law_802 rfl rfl ?_
                                      refine T_aload_n (q := 3) dL_law_803 rfl rfl ?_
                                      refine T_iload_n (q := 0) dL_law_804 rfl rfl ?_
                                      refine T_iconst (v := 1) dL_law_805 (by decide) ?_
                                      refine T_iadd dL_law_806 ?_
                                      refine T_sld dL_law_807 ?_
                                      refine T_aload_n (q := 3) dL_law_808 rfl rfl ?_
                                      refine T_iload_n (q := 0) dL_law_809 rfl rfl ?_
                                      refine T_iconst (v := 2) dL_law_810 (by decide) ?_
                                      refine T_iadd dL_law_811 ?_
                                      refine T_sld dL_law_812 ?_
                                      refine T_callVlw (As := [.int (xs (s1.1 + (1 : Int32)).toNatClampNeg), .int (xs (s1.1 + (2 : Int32)).toNatClampNeg)]) (st := []) mv_L_85 (by decide) dL_law_813 sh0 (fun b hb => mX7_changes G l 0 sh0 (xs (s1.1 + (1 : Int32)).toNatClampNeg) (xs (s1.1 + (2 : Int32)).toNatClampNeg) s1.2 b hb) rfl rfl (Nat.le_of_ble_eq_true rfl) (fun b97 => ?_)
                                      refine T_aload_n (q := 1) dL_law_816 rfl rfl ?_
                                      refine T_aload_n (q := 3) dL_law_817 rfl rfl ?_
                                      refine T_iload_n (q := 0) dL_law_818 rfl rfl ?_
                                      refine T_iconst (v := 1) dL_law_819 (by decide) ?_
                                      refine T_iadd dL_law_820 ?_
                                      refine T_sld dL_law_821 ?_
                                      refine T_aload_n (q := 3) dL_law_822 rfl rfl ?_
                                      refine T_iload_n (q := 0) dL_law_823 rfl rfl ?_
                                      refine T_iconst (v := 2) dL_law_824 (by decide) ?_
                                      refine T_iadd dL_law_825 ?_
                                      refine T_sld dL_law_826 ?_
                                      refine T_callVlw (As := [.int (xs (s1.1 + (1 : Int32)).toNatClampNeg), .int (xs (s1.1 + (2 : Int32)).toNatClampNeg)]) (st := [.long b97.1]) mv_L_88 (by decide) dL_law_827 sh151 (fun b hb => mX8_changes G l 151 sh151 (xs (s1.1 + (1 : Int32)).toNatClampNeg) (xs (s1.1 + (2 : Int32)).toNatClampNeg) b97.2 b hb) rfl rfl (Nat.le_of_ble_eq_true rfl) (fun b98 => ?_)
                                      refine T_lcmp dL_law_830 ?_
                                      refine T_if_eq (tgt := 1374) dL_law_831 (by decide) (fun hc99 => ?_) (fun hc99 => ?_)
                                      · refine T_iinc_G (q := 0) (y := s1.1 + 6) (lv' := fun v100 => [(3, .int v100), (2, .ref (adr G 151)), (1, .ref (adr G 0)), (0, .ref b)]) dL_law_1374 rfl rfl (by decide) (fun _ => rfl) (fun v100 => ?_)
                                        refine T_goto (tgt := 18) dL_law_1377 (by decide) ?_
                                        exact T_end (fun h => V_sub [0, 1, 2, 3] rfl h)
                                      · refine T_iconst (v := 0) dL_law_834 (by decide) ?_
                                        exact T_none
                                    · skip
                                      refine T_split (fun hs20 => ?_) (fun hs20 => ?_)
                                      · refine T_tswIn (off := 803) (tgt := 836) dL_law_33 (by rw [hs20]; decide) (by rw [hs20]; decide) (by rw [hs20]; rfl) (by decide) ?_
                                        refine T_aload_n (q := 2) dL_law_836 rfl rfl ?_
                                        refine T_aload_n (q := 3) dL_law_837 rfl rfl ?_
                                        refine T_iload_n (q := 0) dL_law_838 rfl rfl ?_
                                        refine T_iconst (v := 1) dL_law_839 (by decide) ?_
                                        refine T_iadd dL_law_840 ?_
                                        refine T_sld dL_law_841 ?_
                                        refine T_aload_n (q := 3) dL_law_842 rfl rfl ?_
                                        refine T_iload_n (q := 0) dL_law_843 rfl rfl ?_
                                        refine T_iconst (v := 2) dL_law_844 (by decide) ?_
                                        refine T_iadd dL_law_845 ?_
                                        refine T_sld dL_law_846 ?_
                                        refine T_callVlw (As := [.int (xs (s1.1 + (1 : Int32)).toNatClampNeg), .int (xs (s1.1 + (2 : Int32)).toNatClampNeg)]) (st := []) mv_L_89 (by decide) dL_law_847 sh0 (fun b hb => mX7_map G l 0 sh0 (xs (s1.1 + (1 : Int32)).toNatClampNeg) (xs (s1.1 + (2 : Int32)).toNatClampNeg) s1.2 b hb) rfl rfl (Nat.le_of_ble_eq_true rfl) (fun b101 => ?_)
                                        refine T_aload_n (q := 1) dL_law_850 rfl rfl ?_
                                        refine T_aload_n (q := 3) dL_law_851 rfl rfl ?_
                                        refine T_iload_n (q := 0) dL_law_852 rfl rfl ?_
                                        refine T_iconst (v := 1) dL_law_853 (by decide) ?_
                                        refine T_iadd dL_law_854 ?_
                                        refine T_sld dL_law_855 ?_
                                        refine T_aload_n (q := 3) dL_law_856 rfl rfl ?_
                                        refine T_iload_n (q := 0) dL_law_857 rfl rfl ?_
                                        refine T_iconst (v := 2) dL_law_858 (by decide) ?_
                                        refine T_iadd dL_law_859 ?_
                                        refine T_sld dL_law_860 ?_
                                        refine T_callVlw (As := [.int (xs (s1.1 + (1 : Int32)).toNatClampNeg), .int (xs (s1.1 + (2 : Int32)).toNatClampNeg)]) (st := [.long b101.1]) mv_L_92 (by decide) dL_law_861 sh151 (fun b hb => mX8_map G l 151 sh151 (xs (s1.1 + (1 : Int32)).toNatClampNeg) (xs (s1.1 + (2 : Int32)).toNatClampNeg) b101.2 b hb) rfl rfl (Nat.le_of_ble_eq_true rfl) (fun b102 => ?_)
                                        refine T_lcmp dL_law_864 ?_
                                        refine T_if_eq (tgt := 1374) dL_law_865 (by decide) (fun hc103 => ?_) (fun hc103 => ?_)
                                        · refine T_iinc_G (q := 0) (y := s1.1 + 6) (lv' := fun v104 => [(3, .int v104), (2, .ref (adr G 151)), (1, .ref (adr G 0)), (0, .ref b)]) dL_law_1374 rfl rfl (by decide) (fun _ => rfl) (fun v104 => ?_)
                                          refine T_goto (tgt := 18) dL_law_1377 (by decide) ?_
                                          exact T_end (fun h => V_sub [0, 1, 2, 3] rfl h)
                                        · refine T_iconst (v := 0) dL_law_868 (by decide) ?_
                                          exact T_none
                                      · skip
                                        refine T_split (fun hs21 => ?_) (fun hs21 => ?_)
                                        · refine T_tswIn (off := 837) (tgt := 870) dL_law_33 (by rw [hs21]; decide) (by rw [hs21]; decide) (by rw [hs21]; rfl) (by decide) ?_
                                          refine T_aload_n (q := 2) dL_law_870 rfl rfl ?_
                                          refine T_aload_n (q := 3) dL_law_871 rfl rfl ?_
                                          refine T_iload_n (q := 0) dL_law_872 rfl rfl ?_
                                          refine T_iconst (v := 1) dL_law_873 (by decide) ?_
                                          refine T_iadd dL_law_874 ?_
                                          refine T_sld dL_law_875 ?_
                                          refine T_aload_n (q := 3) dL_law_876 rfl rfl ?_
                                          refine T_iload_n (q := 0) dL_law_877 rfl rfl ?_
                                          refine T_iconst (v := 2) dL_law_878 (by decide) ?_
                                          refine T_iadd dL_law_879 ?_
                                          refine T_sld dL_law_880 ?_
                                          refine T_aload_n (q := 3) dL_law_881 rfl rfl ?_
                                          refine T_iload_n (q := 0) dL_law_882 rfl rfl ?_
                                          refine T_iconst (v := 3) dL_law_883 (by decide) ?_
                                          refine T_iadd dL_law_884 ?_
                                          refine T_sld dL_law_885 ?_
                                          refine T_callVlw (As := [.int (xs (s1.1 + (1 : Int32)).toNatClampNeg), .int (xs (s1.1 + (2 : Int32)).toNatClampNeg), .int (xs (s1.1 + (3 : Int32)).toNatClampNeg)]) (st := []) mv_L_93 (by decide) dL_law_886 sh0 (fun b hb => mX7_claim G l 0 sh0 (xs (s1.1 + (1 : Int32)).toNatClampNeg) (xs (s1.1 + (2 : Int32)).toNatClampNeg) (xs (s1.1 + (3 : Int32)).toNatClampNeg) s1.2 b hb) rfl rfl (Nat.le_of_ble_eq_true rfl) (fun b105 => ?_)
                                          refine T_aload_n (q := 1) dL_law_889 rfl rfl ?_
                                          refine T_aload_n (q := 3) dL_law_890 rfl rfl ?_
                                          refine T_iload_n (q := 0) dL_law_891 rfl rfl ?_
                                          refine T_iconst (v := 1) dL_law_892 (by decide) ?_
                                          refine T_iadd dL_law_893 ?_
                                          refine T_sld dL_law_894 ?_
                                          refine T_aload_n (q := 3) dL_law_895 rfl rfl ?_
                                          refine T_iload_n (q := 0) dL_law_896 rfl rfl ?_
                                          refine T_iconst (v := 2) dL_law_897 (by decide) ?_
                                          refine T_iadd dL_law_898 ?_
                                          refine T_sld dL_law_899 ?_
                                          refine T_aload_n (q := 3) dL_law_900 rfl rfl ?_
                                          refine T_iload_n (q := 0) dL_law_901 rfl rfl ?_
                                          refine T_iconst (v := 3) dL_law_902 (by decide) ?_
                                          refine T_iadd dL_law_903 ?_
                                          refine T_sld dL_law_904 ?_
                                          refine T_callVlw (As := [.int (xs (s1.1 + (1 : Int32)).toNatClampNeg), .int (xs (s1.1 + (2 : Int32)).toNatClampNeg), .int (xs (s1.1 + (3 : Int32)).toNatClampNeg)]) (st := [.long b105.1]) mv_L_96 (by decide) dL_law_905 sh151 (fun b hb => mX8_claim G l 151 sh151 (xs (s1.1 + (1 : Int32)).toNatClampNeg) (xs (s1.1 + (2 : Int32)).toNatClampNeg) (xs (s1.1 + (3 : Int32)).toNatClampNeg) b105.2 b hb) rfl rfl (Nat.le_of_ble_eq_true rfl) (fun b106 => ?_)
                                          refine T_lcmp dL_law_908 ?_
                                          refine T_if_eq (tgt := 1374) dL_law_909 (by decide) (fun hc107 => ?_) (fun hc107 => ?_)
                                          · refine T_iinc_G (q := 0) (y := s1.1 + 6) (lv' := fun v108 => [(3, .int v108), (2, .ref (adr G 151)), (1, .ref (adr G 0)), (0, .ref b)]) dL_law_1374 rfl rfl (by decide) (fun _ => rfl) (fun v108 => ?_)
                                            refine T_goto (tgt := 18) dL_law_1377 (by decide) ?_
                                            exact T_end (fun h => V_sub [0, 1, 2, 3] rfl h)
                                          · refine T_iconst (v := 0) dL_law_912 (by decide) ?_
                                            exact T_none
                                        · skip
                                          refine T_split (fun hs22 => ?_) (fun hs22 => ?_)
                                          · refine T_tswIn (off := 881) (tgt := 914) dL_law_33 (by rw [hs22]; decide) (by rw [hs22]; decide) (by rw [hs22]; rfl) (by decide) ?_
                                            refine T_aload_n (q := 2) dL_law_914 rfl rfl ?_
                                            refine T_aload_n (q := 3) dL_law_915 rfl rfl ?_
                                            refine T_iload_n (q := 0) dL_law_916 rfl rfl ?_
                                            refine T_iconst (v := 1) dL_law_917 (by decide) ?_
                                            refine T_iadd dL_law_918 ?_
                                            refine T_sld dL_law_919 ?_
                                            refine T_aload_n (q := 3) dL_law_920 rfl rfl ?_
                                            refine T_iload_n (q := 0) dL_law_921 rfl rfl ?_
                                            refine T_iconst (v := 2) dL_law_922 (by decide) ?_
                                            refine T_iadd dL_law_923 ?_
                                            refine T_sld dL_law_924 ?_
                                            refine T_callVlw (As := [.int (xs (s1.1 + (1 : Int32)).toNatClampNeg), .int (xs (s1.1 + (2 : Int32)).toNatClampNeg)]) (st := []) mv_L_97 (by decide) dL_law_925 sh0 (fun b hb => mX7_read G l 0 sh0 (xs (s1.1 + (1 : Int32)).toNatClampNeg) (xs (s1.1 + (2 : Int32)).toNatClampNeg) s1.2 b hb) rfl rfl (Nat.le_of_ble_eq_true rfl) (fun b109 => ?_)
                                            refine T_aload_n (q := 1) dL_law_928 rfl rfl ?_
                                            refine T_aload_n (q := 3) dL_law_929 rfl rfl ?_
                                            refine T_iload_n (q := 0) dL_law_930 rfl rfl ?_
                                            refine T_iconst (v := 1) dL_law_931 (by decide) ?_
                                            refine T_iadd dL_law_932 ?_
                                            refine T_sld dL_law_933 ?_
                                            refine T_aload_n (q := 3) dL_law_934 rfl rfl ?_
                                            refine T_iload_n (q := 0) dL_law_935 rfl rfl ?_
                                            refine T_iconst (v := 2) dL_law_936 (by decide) ?_
                                            refine T_iadd dL_law_937 ?_
                                            refine T_sld dL_law_938 ?_
                                            refine T_callVlw (As := [.int (xs (s1.1 + (1 : Int32)).toNatClampNeg), .int (xs (s1.1 + (2 : Int32)).toNatClampNeg)]) (st := [.long b109.1]) mv_L_100 (by decide) dL_law_939 sh151 (fun b hb => mX8_read G l 151 sh151 (xs (s1.1 + (1 : Int32)).toNatClampNeg) (xs (s1.1 + (2 : Int32)).toNatClampNeg) b109.2 b hb) rfl rfl (Nat.le_of_ble_eq_true rfl) (fun b110 => ?_)
                                            refine T_lcmp dL_law_942 ?_
                                            refine T_if_eq (tgt := 1374) dL_law_943 (by decide) (fun hc111 => ?_) (fun hc111 => ?_)
                                            · refine T_iinc_G (q := 0) (y := s1.1 + 6) (lv' := fun v112 => [(3, .int v112), (2, .ref (adr G 151)), (1, .ref (adr G 0)), (0, .ref b)]) dL_law_1374 rfl rfl (by decide) (fun _ => rfl) (fun v112 => ?_)
                                              refine T_goto (tgt := 18) dL_law_1377 (by decide) ?_
                                              exact T_end (fun h => V_sub [0, 1, 2, 3] rfl h)
                                            · refine T_iconst (v := 0) dL_law_946 (by decide) ?_
                                              exact T_none
                                          · skip
                                            refine T_split (fun hs23 => ?_) (fun hs23 => ?_)
                                            · refine T_tswIn (off := 915) (tgt := 948) dL_law_33 (by rw [hs23]; decide) (by rw [hs23]; decide) (by rw [hs23]; rfl) (by decide) ?_
                                              refine T_aload_n (q := 2) dL_law_948 rfl rfl ?_
                                              refine T_aload_n (q := 3) dL_law_949 rfl rfl ?_
                                              refine T_iload_n (q := 0) dL_law_950 rfl rfl ?_
                                              refine T_iconst (v := 1) dL_law_951 (by decide) ?_
                                              refine T_iadd dL_law_952 ?_
                                              refine T_sld dL_law_953 ?_
                                              refine T_aload_n (q := 3) dL_law_954 rfl rfl ?_
                                              refine T_iload_n (q := 0) dL_law_955 rfl rfl ?_
                                              refine T_iconst (v := 2) dL_law_956 (by decide) ?_
                                              refine T_iadd dL_law_957 ?_
                                              refine T_sld dL_law_958 ?_
                                              refine T_aload_n (q := 3) dL_law_959 rfl rfl ?_
                                              refine T_iload_n (q := 0) dL_law_960 rfl rfl ?_
                                              refine T_iconst (v := 3) dL_law_961 (by decide) ?_
                                              refine T_iadd dL_law_962 ?_
                                              refine T_sld dL_law_963 ?_
                                              refine T_callVlw (As := [.int (xs (s1.1 + (1 : Int32)).toNatClampNeg), .int (xs (s1.1 + (2 : Int32)).toNatClampNeg), .int (xs (s1.1 + (3 : Int32)).toNatClampNeg)]) (st := []) mv_L_101 (by decide) dL_law_964 sh0 (fun b hb => mX7_best G l 0 sh0 (xs (s1.1 + (1 : Int32)).toNatClampNeg) (xs (s1.1 + (2 : Int32)).toNatClampNeg) (xs (s1.1 + (3 : Int32)).toNatClampNeg) s1.2 b hb) rfl rfl (Nat.le_of_ble_eq_true rfl) (fun b113 => ?_)
                                              refine T_aload_n (q := 1) dL_law_967 rfl rfl ?_
                                              refine T_aload_n (q := 3) dL_law_968 rfl rfl ?_
                                              refine T_iload_n (q := 0) dL_law_969 rfl rfl ?_
                                              refine T_iconst (v := 1) dL_law_970 (by decide) ?_
                                              refine T_iadd dL_law_971 ?_
                                              refine T_sld dL_law_972 ?_
                                              refine T_aload_n (q := 3) dL_law_973 rfl rfl ?_
                                              refine T_iload_n (q := 0) dL_law_974 rfl rfl ?_
                                              refine T_iconst (v := 2) dL_law_975 (by decide) ?_
                                              refine T_iadd dL_law_976 ?_
                                              refine T_sld dL_law_977 ?_
                                              refine T_aload_n (q := 3) dL_law_978 rfl rfl ?_
                                              refine T_iload_n (q := 0) dL_law_979 rfl rfl ?_
                                              refine T_iconst (v := 3) dL_law_980 (by decide) ?_
                                              refine T_iadd dL_law_981 ?_
                                              refine T_sld dL_law_982 ?_
                                              refine T_callVlw (As := [.int (xs (s1.1 + (1 : Int32)).toNatClampNeg), .int (xs (s1.1 + (2 : Int32)).toNatClampNeg), .int (xs (s1.1 + (3 : Int32)).toNatClampNeg)]) (st := [.long b113.1]) mv_L_104 (by decide) dL_law_983 sh151 (fun b hb => mX8_best G l 151 sh151 (xs (s1.1 + (1 : Int32)).toNatClampNeg) (xs (s1.1 + (2 : Int32)).toNatClampNeg) (xs (s1.1 + (3 : Int32)).toNatClampNeg) b113.2 b hb) rfl rfl (Nat.le_of_ble_eq_true rfl) (fun b114 => ?_)
                                              refine T_lcmp dL_law_986 ?_
                                              refine T_if_eq (tgt := 1374) dL_law_987 (by decide) (fun hc115 => ?_) (fun hc115 => ?_)
                                              · refine T_iinc_G (q := 0) (y := s1.1 + 6) (lv' := fun v116 => [(3, .int v116), (2, .ref (adr G 151)), (1, .ref (adr G 0)), (0, .ref b)]) dL_law_1374 rfl rfl (by decide) (fun _ => rfl) (fun v116 => ?_)
                                                refine T_goto (tgt := 18) dL_law_1377 (by decide) ?_
                                                exact T_end (fun h => V_sub [0, 1, 2, 3] rfl h)
                                              · refine T_iconst (v := 0) dL_law_990 (by decide) ?_
                                                exact T_none
                                            · skip
                                              refine T_split (fun hs24 => ?_) (fun hs24 => ?_)
                                              · refine T_tswIn (off := 959) (tgt := 992) dL_law_33 (by rw [hs24]; decide) (by rw [hs24]; decide) (by rw [hs24]; rfl) (by decide) ?_
                                                refine T_aload_n (q := 2) dL_law_992 rfl rfl ?_
                                                refine T_aload_n (q := 3) dL_law_993 rfl rfl ?_
                                                refine T_iload_n (q := 0) dL_law_994 rfl rfl ?_
                                                refine T_iconst (v := 1) dL_law_995 (by decide) ?_
                                                refine T_iadd dL_law_996 ?_
                                                refine T_sld dL_law_997 ?_
                                                refine T_aload_n (q := 3) dL_law_998 rfl rfl ?_
                                                refine T_iload_n (q := 0) dL_law_999 rfl rfl ?_
                                                refine T_iconst (v := 2) dL_law_1000 (by decide) ?_
                                                refine T_iadd dL_law_1001 ?_
                                                refine T_sld dL_law_1002 ?_
                                                refine T_callVlw (As := [.int (xs (s1.1 + (1 : Int32)).toNatClampNeg), .int (xs (s1.1 + (2 : Int32)).toNatClampNeg)]) (st := []) mv_L_105 (by decide) dL_law_1003 sh0 (fun b hb => mX7_quarrel G l 0 sh0 (xs (s1.1 + (1 : Int32)).toNatClampNeg) (xs (s1.1 + (2 : Int32)).toNatClampNeg) s1.2 b hb) rfl rfl (Nat.le_of_ble_eq_true rfl) (fun b117 => ?_)
                                                refine T_aload_n (q := 1) dL_law_1006 rfl rfl ?_
                                                refine T_aload_n (q := 3) dL_law_1007 rfl rfl ?_
                                                refine T_iload_n (q := 0) dL_law_1008 rfl rfl ?_
                                                refine T_iconst (v := 1) dL_law_1009 (by decide) ?_
                                                refine T_iadd dL_law_1010 ?_
                                                refine T_sld dL_law_1011 ?_
                                                refine T_aload_n (q := 3) dL_law_1012 rfl rfl ?_
                                                refine T_iload_n (q := 0) dL_law_1013 rfl rfl ?_
                                                refine T_iconst (v := 2) dL_law_1014 (by decide) ?_
                                                refine T_iadd dL_law_1015 ?_
                                                refine T_sld dL_law_1016 ?_
                                                refine T_callVlw (As := [.int (xs (s1.1 + (1 : Int32)).toNatClampNeg), .int (xs (s1.1 + (2 : Int32)).toNatClampNeg)]) (st := [.long b117.1]) mv_L_108 (by decide) dL_law_1017 sh151 (fun b hb => mX8_quarrel G l 151 sh151 (xs (s1.1 + (1 : Int32)).toNatClampNeg) (xs (s1.1 + (2 : Int32)).toNatClampNeg) b117.2 b hb) rfl rfl (Nat.le_of_ble_eq_true rfl) (fun b118 => ?_)
                                                refine T_lcmp dL_law_1020 ?_
                                                refine T_if_eq (tgt := 1374) dL_law_1021 (by decide) (fun hc119 => ?_) (fun hc119 => ?_)
                                                · refine T_iinc_G (q := 0) (y := s1.1 + 6) (lv' := fun v120 => [(3, .int v120), (2, .ref (adr G 151)), (1, .ref (adr G 0)), (0, .ref b)]) dL_law_1374 rfl rfl (by decide) (fun _ => rfl) (fun v120 => ?_)
                                                  refine T_goto (tgt := 18) dL_law_1377 (by decide) ?_
                                                  exact T_end (fun h => V_sub [0, 1, 2, 3] rfl h)
                                                · refine T_iconst (v := 0) dL_law_1024 (by decide) ?_
                                                  exact T_none
                                              · skip
                                                refine T_split (fun hs25 => ?_) (fun hs25 => ?_)
                                                · refine T_tswIn (off := 993) (tgt := 1026) dL_law_33 (by rw [hs25]; decide) (by rw [hs25]; decide) (by rw [hs25]; rfl) (by decide) ?_
                                                  refine T_aload_n (q := 2) dL_law_1026 rfl rfl ?_
                                                  refine T_aload_n (q := 3) dL_law_1027 rfl rfl ?_
                                                  refine T_iload_n (q := 0) dL_law_1028 rfl rfl ?_
                                                  refine T_iconst (v := 1) dL_law_1029 (by decide) ?_
                                                  refine T_iadd dL_law_1030 ?_
                                                  refine T_sld dL_law_1031 ?_
                                                  refine T_aload_n (q := 3) dL_law_1032 rfl rfl ?_
                                                  refine T_iload_n (q := 0) dL_law_1033 rfl rfl ?_
                                                  refine T_iconst (v := 2) dL_law_1034 (by decide) ?_
                                                  refine T_iadd dL_law_1035 ?_
                                                  refine T_sld dL_law_1036 ?_
                                                  refine T_aload_n (q := 3) dL_law_1037 rfl rfl ?_
                                                  refine T_iload_n (q := 0) dL_law_1038 rfl rfl ?_
                                                  refine T_iconst (v := 3) dL_law_1039 (by decide) ?_
                                                  refine T_iadd dL_law_1040 ?_
                                                  refine T_sld dL_law_1041 ?_
                                                  refine T_callVlw (As := [.int (xs (s1.1 + (1 : Int32)).toNatClampNeg), .int (xs (s1.1 + (2 : Int32)).toNatClampNeg), .int (xs (s1.1 + (3 : Int32)).toNatClampNeg)]) (st := []) mv_L_109 (by decide) dL_law_1042 sh0 (fun b hb => mX7_count G l 0 sh0 (xs (s1.1 + (1 : Int32)).toNatClampNeg) (xs (s1.1 + (2 : Int32)).toNatClampNeg) (xs (s1.1 + (3 : Int32)).toNatClampNeg) s1.2 b hb) rfl rfl (Nat.le_of_ble_eq_true rfl) (fun b121 => ?_)
                                                  refine T_aload_n (q := 1) dL_law_1045 rfl rfl ?_
                                                  refine T_aload_n (q := 3) dL_law_1046 rfl rfl ?_
                                                  refine T_iload_n (q := 0) dL_law_1047 rfl rfl ?_
                                                  refine T_iconst (v := 1) dL_law_1048 (by decide) ?_
                                                  refine T_iadd dL_law_1049 ?_
                                                  refine T_sld dL_law_1050 ?_
                                                  refine T_aload_n (q := 3) dL_law_1051 rfl rfl ?_
                                                  refine T_iload_n (q := 0) dL_law_1052 rfl rfl ?_
                                                  refine T_iconst (v := 2) dL_law_1053 (by decide) ?_
                                                  refine T_iadd dL_law_1054 ?_
                                                  refine T_sld dL_law_1055 ?_
                                                  refine T_aload_n (q := 3) dL_law_1056 rfl rfl ?_
                                                  refine T_iload_n (q := 0) dL_law_1057 rfl rfl ?_
                                                  refine T_iconst (v := 3) dL_law_1058 (by decide) ?_
                                                  refine T_iadd dL_law_1059 ?_
                                                  refine T_sld dL_law_1060 ?_
                                                  refine T_callVlw (As := [.int (xs (s1.1 + (1 : Int32)).toNatClampNeg), .int (xs (s1.1 + (2 : Int32)).toNatClampNeg), .int (xs (s1.1 + (3 : Int32)).toNatClampNeg)]) (st := [.long b121.1]) mv_L_112 (by decide) dL_law_1061 sh151 (fun b hb => mX8_count G l 151 sh151 (xs (s1.1 + (1 : Int32)).toNatClampNeg) (xs (s1.1 + (2 : Int32)).toNatClampNeg) (xs (s1.1 + (3 : Int32)).toNatClampNeg) b121.2 b hb) rfl rfl (Nat.le_of_ble_eq_true rfl) (fun b122 => ?_)
                                                  refine T_lcmp dL_law_1064 ?_
                                                  refine T_if_eq (tgt := 1374) dL_law_1065 (by decide) (fun hc123 => ?_) (fun hc123 => ?_)
                                                  · refine T_iinc_G (q := 0) (y := s1.1 + 6) (lv' := fun v124 => [(3, .int v124), (2, .ref (adr G 151)), (1, .ref (adr G 0)), (0, .ref b)]) dL_law_1374 rfl rfl (by decide) (fun _ => rfl) (fun v124 => ?_)
                                                    refine T_goto (tgt := 18) dL_law_1377 (by decide) ?_
                                                    exact T_end (fun h => V_sub [0, 1, 2, 3] rfl h)
                                                  · refine T_iconst (v := 0) dL_law_1068 (by decide) ?_
                                                    exact T_none
                                                · skip
                                                  refine T_split (fun hs26 => ?_) (fun hs26 => ?_)
                                                  · refine T_tswIn (off := 1037) (tgt := 1070) dL_law_33 (by rw [hs26]; decide) (by rw [hs26]; decide) (by rw [hs26]; rfl) (by decide) ?_
                                                    refine T_aload_n (q := 2) dL_law_1070 rfl rfl ?_
                                                    refine T_aload_n (q := 3) dL_law_1071 rfl rfl ?_
                                                    refine T_iload_n (q := 0) dL_law_1072 rfl rfl ?_
                                                    refine T_iconst (v := 1) dL_law_1073 (by decide) ?_
                                                    refine T_iadd dL_law_1074 ?_
                                                    refine T_sld dL_law_1075 ?_
                                                    refine T_aload_n (q := 3) dL_law_1076 rfl rfl ?_
                                                    refine T_iload_n (q := 0) dL_law_1077 rfl rfl ?_
                                                    refine T_iconst (v := 2) dL_law_1078 (by decide) ?_
                                                    refine T_iadd dL_law_1079 ?_
                                                    refine T_sld dL_law_1080 ?_
                                                    refine T_aload_n (q := 3) dL_law_1081 rfl rfl ?_
                                                    refine T_iload_n (q := 0) dL_law_1082 rfl rfl ?_
                                                    refine T_iconst (v := 3) dL_law_1083 (by decide) ?_
                                                    refine T_iadd dL_law_1084 ?_
                                                    refine T_sld dL_law_1085 ?_
                                                    refine T_aload_n (q := 3) dL_law_1086 rfl rfl ?_
                                                    refine T_iload_n (q := 0) dL_law_1087 rfl rfl ?_
                                                    refine T_iconst (v := 4) dL_law_1088 (by decide) ?_
                                                    refine T_iadd dL_law_1089 ?_
                                                    refine T_sld dL_law_1090 ?_
                                                    refine T_bind (X := fun j125 => V G l RL cL_law 4 ret room_1 174 3783 (FnL G b L xs) 1099 [(3, .int s1.1), (2, .ref (adr G 151)), (1, .ref (adr G 0)), (0, .ref b)] [.int j125, .int (xs (s1.1 + (3 : Int32)).toNatClampNeg), .int (xs (s1.1 + (2 : Int32)).toNatClampNeg), .int (xs (s1.1 + (1 : Int32)).toNatClampNeg), .ref (adr G 0)] s1.2) ?_ (fun j125 => ?_)
                                                    · refine T_if_eq (tgt := 1098) dL_law_1091 (by decide) (fun hc126 => ?_) (fun hc126 => ?_)
                                                      · refine T_iconst (v := 0) dL_law_1098 (by decide) ?_
                                                        exact T_end (fun h => V_sub [0, 1, 2, 3] rfl h)
                                                      · refine T_iconst (v := 1) dL_law_1094 (by decide) ?_
                                                        refine T_goto (tgt := 1099) dL_law_1095 (by decide) ?_
                                                        exact T_end (fun h => V_sub [0, 1, 2, 3] rfl h)
                                                    · change T G l RL cL_law 4 ret room_1 174 3783 (FnL G b L xs) _ 1099 [(3, .int s1.1), (2, .ref (adr G 151)), (1, .ref (adr G 0)), (0, .ref b)] [.int j125, .int (xs (s1.1 + (3 : Int32)).toNatClampNeg), .int (xs (s1.1 + (2 : Int32)).toNatClampNeg), .int (xs (s1.1 + (1 : Int32)).toNatClampNeg), .ref (adr G 0)] s1.2 _
                                                      refine T_callVlw (As := [.int (xs (s1.1 + (1 : Int32)).toNatClampNeg), .int (xs (s1.1 + (2 : Int32)).toNatClampNeg), .int (xs (s1.1 + (3 : Int32)).toNatClampNeg), .int j125]) (st := []) mv_L_113 (by decide) dL_law_1099 sh0 (fun b hb => mX7_carried G l 0 sh0 (xs (s1.1 + (1 : Int32)).toNatClampNeg) (xs (s1.1 + (2 : Int32)).toNatClampNeg) (xs (s1.1 + (3 : Int32)).toNatClampNeg) j125 s1.2 b hb) rfl rfl (Nat.le_of_ble_eq_true rfl) (fun b127 => ?_)
                                                      refine T_aload_n (q := 1) dL_law_1102 rfl rfl ?_
                                                      refine T_aload_n (q := 3) dL_law_1103 rfl rfl ?_
                                                      refine T_iload_n (q := 0) dL_law_1104 rfl rfl ?_
                                                      refine T_iconst (v := 1) dL_law_1105 (by decide) ?_
                                                      refine T_iadd dL_law_1106 ?_
                                                      refine T_sld dL_law_1107 ?_
                                                      refine T_aload_n (q := 3) dL_law_1108 rfl rfl ?_
                                                      refine T_iload_n (q := 0) dL_law_1109 rfl rfl ?_
                                                      refine T_iconst (v := 2) dL_law_1110 (by decide) ?_
                                                      refine T_iadd dL_law_1111 ?_
                                                      refine T_sld dL_law_1112 ?_
                                                      refine T_aload_n (q := 3) dL_law_1113 rfl rfl ?_
                                                      refine T_iload_n (q := 0) dL_law_1114 rfl rfl ?_
                                                      refine T_iconst (v := 3) dL_law_1115 (by decide) ?_
                                                      refine T_iadd dL_law_1116 ?_
                                                      refine T_sld dL_law_1117 ?_
                                                      refine T_aload_n (q := 3) dL_law_1118 rfl rfl ?_
                                                      refine T_iload_n (q := 0) dL_law_1119 rfl rfl ?_
                                                      refine T_iconst (v := 4) dL_law_1120 (by decide) ?_
                                                      refine T_iadd dL_law_1121 ?_
                                                      refine T_sld dL_law_1122 ?_
                                                      refine T_if_eq (tgt := 1130) dL_law_1123 (by decide) (fun hc128 => ?_) (fun hc128 => ?_)
                                                      · refine T_iconst (v := 0) dL_law_1130 (by decide) ?_
                                                        refine T_callVlw (As := [.int (xs (s1.1 + (1 : Int32)).toNatClampNeg), .int (xs (s1.1 + (2 : Int32)).toNatClampNeg), .int (xs (s1.1 + (3 : Int32)).toNatClampNeg), .int (0 : Int32)]) (st := [.long b127.1]) mv_L_117 (by decide) dL_law_1131 sh151 (fun b hb => mX8_carried G l 151 sh151 (xs (s1.1 + (1 : Int32)).toNatClampNeg) (xs (s1.1 + (2 : Int32)).toNatClampNeg) (xs (s1.1 + (3 : Int32)).toNatClampNeg) (0 : Int32) b127.2 b hb) rfl rfl (Nat.le_of_ble_eq_true rfl) (fun b129 => ?_)
                                                        refine T_lcmp dL_law_1134 ?_
                                                        refine T_if_eq (tgt := 1374) dL_law_1135 (by decide) (fun hc130 => ?_) (fun hc130 => ?_)
                                                        · refine T_iinc_G (q := 0) (y := s1.1 + 6) (lv' := fun v131 => [(3, .int v131), (2, .ref (adr G 151)), (1, .ref (adr G 0)), (0, .ref b)]) dL_law_1374 rfl rfl (by decide) (fun _ => rfl) (fun v131 => ?_)
                                                          refine T_goto (tgt := 18) dL_law_1377 (by decide) ?_
                                                          exact T_end (fun h => V_sub [0, 1, 2, 3] rfl h)
                                                        · refine T_iconst (v := 0) dL_law_1138 (by decide) ?_
                                                          exact T_none
                                                      · refine T_iconst (v := 1) dL_law_1126 (by decide) ?_
                                                        refine T_goto (tgt := 1131) dL_law_1127 (by decide) ?_
                                                        refine T_callVlw (As := [.int (xs (s1.1 + (1 : Int32)).toNatClampNeg), .int (xs (s1.1 + (2 : Int32)).toNatClampNeg), .int (xs (s1.1 + (3 : Int32)).toNatClampNeg), .int (1 : Int32)]) (st := [.long b127.1]) mv_L_117 (by decide) dL_law_1131 sh151 (fun b hb => mX8_carried G l 151 sh151 (xs (s1.1 + (1 : Int32)).toNatClampNeg) (xs (s1.1 + (2 : Int32)).toNatClampNeg) (xs (s1.1 + (3 : Int32)).toNatClampNeg) (1 : Int32) b127.2 b hb) rfl rfl (Nat.le_of_ble_eq_true rfl) (fun b132 => ?_)
                                                        refine T_lcmp dL_law_1134 ?_
                                                        refine T_if_eq (tgt := 1374) dL_law_1135 (by decide) (fun hc133 => ?_) (fun hc133 => ?_)
                                                        · refine T_iinc_G (q := 0) (y := s1.1 + 6) (lv' := fun v134 => [(3, .int v134), (2, .ref (adr G 151)), (1, .ref (adr G 0)), (0, .ref b)]) dL_law_1374 rfl rfl (by decide) (fun _ => rfl) (fun v134 => ?_)
                                                          refine T_goto (tgt := 18) dL_law_1377 (by decide) ?_
                                                          exact T_end (fun h => V_sub [0, 1, 2, 3] rfl h)
                                                        · refine T_iconst (v := 0) dL_law_1138 (by decide) ?_
                                                          exact T_none
                                                  · skip
                                                    refine T_split (fun hs27 => ?_) (fun hs27 => ?_)
                                                    · refine T_tswIn (off := 1107) (tgt := 1140) dL_law_33 (by rw [hs27]; decide) (by rw [hs27]; decide) (by rw [hs27]; rfl) (by decide) ?_
                                                      refine T_aload_n (q := 2) dL_law_1140 rfl rfl ?_
                                                      refine T_aload_n (q := 3) dL_law_1141 rfl rfl ?_
                                                      refine T_iload_n (q := 0) dL_law_1142 rfl rfl ?_
                                                      refine T_iconst (v := 1) dL_law_1143 (by decide) ?_
                                                      refine T_iadd dL_law_1144 ?_
                                                      refine T_sld dL_law_1145 ?_
                                                      refine T_callVlw (As := [.int (xs (s1.1 + (1 : Int32)).toNatClampNeg)]) (st := []) mv_L_118 (by decide) dL_law_1146 sh0 (fun b hb => mX7_people G l 0 sh0 (xs (s1.1 + (1 : Int32)).toNatClampNeg) s1.2 b hb) rfl rfl (Nat.le_of_ble_eq_true rfl) (fun b135 => ?_)
                                                      refine T_aload_n (q := 1) dL_law_1149 rfl rfl ?_
                                                      refine T_aload_n (q := 3) dL_law_1150 rfl rfl ?_
                                                      refine T_iload_n (q := 0) dL_law_1151 rfl rfl ?_
                                                      refine T_iconst (v := 1) dL_law_1152 (by decide) ?_
                                                      refine T_iadd dL_law_1153 ?_
                                                      refine T_sld dL_law_1154 ?_
                                                      refine T_callVlw (As := [.int (xs (s1.1 + (1 : Int32)).toNatClampNeg)]) (st := [.long b135.1]) mv_L_121 (by decide) dL_law_1155 sh151 (fun b hb => mX8_people G l 151 sh151 (xs (s1.1 + (1 : Int32)).toNatClampNeg) b135.2 b hb) rfl rfl (Nat.le_of_ble_eq_true rfl) (fun b136 => ?_)
                                                      refine T_lcmp dL_law_1158 ?_
                                                      refine T_if_eq (tgt := 1374) dL_law_1159 (by decide) (fun hc137 => ?_) (fun hc137 => ?_)
                                                      · refine T_iinc_G (q := 0) (y := s1.1 + 6) (lv' := fun v138 => [(3, .int v138), (2, .ref (adr G 151)), (1, .ref (adr G 0)), (0, .ref b)]) dL_law_1374 rfl rfl (by decide) (fun _ => rfl) (fun v138 => ?_)
                                                        refine T_goto (tgt := 18) dL_law_1377 (by decide) ?_
                                                        exact T_end (fun h => V_sub [0, 1, 2, 3] rfl h)
                                                      · refine T_iconst (v := 0) dL_law_1162 (by decide) ?_
                                                        exact T_none
                                                    · skip
                                                      refine T_split (fun hs28 => ?_) (fun hs28 => ?_)
                                                      · refine T_tswIn (off := 1131) (tgt := 1164) dL_law_33 (by rw [hs28]; decide) (by rw [hs28]; decide) (by rw [hs28]; rfl) (by decide) ?_
                                                        refine T_aload_n (q := 2) dL_law_1164 rfl rfl ?_
                                                        refine T_aload_n (q := 3) dL_law_1165 rfl rfl ?_
                                                        refine T_iload_n (q := 0) dL_law_1166 rfl rfl ?_
                                                        refine T_iconst (v := 1) dL_law_1167 (by decide) ?_
                                                        refine T_iadd dL_law_1168 ?_
                                                        refine T_sld dL_law_1169 ?_
                                                        refine T_aload_n (q := 3) dL_law_1170 rfl rfl ?_
                                                        refine T_iload_n (q := 0) dL_law_1171 rfl rfl ?_
                                                        refine T_iconst (v := 2) dL_law_1172 (by decide) ?_
                                                        refine T_iadd dL_law_1173 ?_
                                                        refine T_sld dL_law_1174 ?_
                                                        refine T_aload_n (q := 3) dL_law_1175 rfl rfl ?_
                                                        refine T_iload_n (q := 0) dL_law_1176 rfl rfl ?_
                                                        refine T_iconst (v := 3) dL_law_1177 (by decide) ?_
                                                        refine T_iadd dL_law_1178 ?_
                                                        refine T_sld dL_law_1179 ?_
                                                        refine T_callVlw (As := [.int (xs (s1.1 + (1 : Int32)).toNatClampNeg), .int (xs (s1.1 + (2 : Int32)).toNatClampNeg), .int (xs (s1.1 + (3 : Int32)).toNatClampNeg)]) (st := []) mv_L_122 (by decide) dL_law_1180 sh0 (fun b hb => mX7_sheet G l 0 sh0 (xs (s1.1 + (1 : Int32)).toNatClampNeg) (xs (s1.1 + (2 : Int32)).toNatClampNeg) (xs (s1.1 + (3 : Int32)).toNatClampNeg) s1.2 b hb) rfl rfl (Nat.le_of_ble_eq_true rfl) (fun b139 => ?_)
                                                        refine T_aload_n (q := 1) dL_law_1183 rfl rfl ?_
                                                        refine T_aload_n (q := 3) dL_law_1184 rfl rfl ?_
                                                        refine T_iload_n (q := 0) dL_law_1185 rfl rfl ?_
                                                        refine T_iconst (v := 1) dL_law_1186 (by decide) ?_
                                                        refine T_iadd dL_law_1187 ?_
                                                        refine T_sld dL_law_1188 ?_
                                                        refine T_aload_n (q := 3) dL_law_1189 rfl rfl ?_
                                                        refine T_iload_n (q := 0) dL_law_1190 rfl rfl ?_
                                                        refine T_iconst (v := 2) dL_law_1191 (by decide) ?_
                                                        refine T_iadd dL_law_1192 ?_
                                                        refine T_sld dL_law_1193 ?_
                                                        refine T_aload_n (q := 3) dL_law_1194 rfl rfl ?_
                                                        refine T_iload_n (q := 0) dL_law_1195 rfl rfl ?_
                                                        refine T_iconst (v := 3) dL_law_1196 (by decide) ?_
                                                        refine T_iadd dL_law_1197 ?_
                                                        refine T_sld dL_law_1198 ?_
                                                        refine T_callVlw (As := [.int (xs (s1.1 + (1 : Int32)).toNatClampNeg), .int (xs (s1.1 + (2 : Int32)).toNatClampNeg), .int (xs (s1.1 + (3 : Int32)).toNatClampNeg)]) (st := [.long b139.1]) mv_L_125 (by decide) dL_law_1199 sh151 (fun b hb => mX8_sheet G l 151 sh151 (xs (s1.1 + (1 : Int32)).toNatClampNeg) (xs (s1.1 + (2 : Int32)).toNatClampNeg) (xs (s1.1 + (3 : Int32)).toNatClampNeg) b139.2 b hb) rfl rfl (Nat.le_of_ble_eq_true rfl) (fun b140 => ?_)
                                                        refine T_lcmp dL_law_1202 ?_
                                                        refine T_if_eq (tgt := 1374) dL_law_1203 (by decide) (fun hc141 => ?_) (fun hc141 => ?_)
                                                        · refine T_iinc_G (q := 0) (y := s1.1 + 6) (lv' := fun v142 => [(3, .int v142), (2, .ref (adr G 151)), (1, .ref (adr G 0)), (0, .ref b)]) dL_law_1374 rfl rfl (by decide) (fun _ => rfl) (fun v142 => ?_)
                                                          refine T_goto (tgt := 18) dL_law_1377 (by decide) ?_
                                                          exact T_end (fun h => V_sub [0, 1, 2, 3] rfl h)
                                                        · refine T_iconst (v := 0) dL_law_1206 (by decide) ?_
                                                          exact T_none
                                                      · skip
                                                        refine T_split (fun hs29 => ?_) (fun hs29 => ?_)
                                                        · refine T_tswIn (off := 1175) (tgt := 1208) dL_law_33 (by rw [hs29]; decide) (by rw [hs29]; decide) (by rw [hs29]; rfl) (by decide) ?_
                                                          refine T_aload_n (q := 2) dL_law_1208 rfl rfl ?_
                                                          refine T_aload_n (q := 3) dL_law_1209 rfl rfl ?_
                                                          refine T_iload_n (q := 0) dL_law_1210 rfl rfl ?_
                                                          refine T_iconst (v := 1) dL_law_1211 (by decide) ?_
                                                          refine T_iadd dL_law_1212 ?_
                                                          refine T_sld dL_law_1213 ?_
                                                          refine T_aload_n (q := 3) dL_law_1214 rfl rfl ?_
                                                          refine T_iload_n (q := 0) dL_law_1215 rfl rfl ?_
                                                          refine T_iconst (v := 2) dL_law_1216 (by decide) ?_
                                                          refine T_iadd dL_law_1217 ?_
                                                          refine T_sld dL_law_1218 ?_
                                                          refine T_aload_n (q := 3) dL_law_1219 rfl rfl ?_
                                                          refine T_iload_n (q := 0) dL_law_1220 rfl rfl ?_
                                                          refine T_iconst (v := 3) dL_law_1221 (by decide) ?_
                                                          refine T_iadd dL_law_1222 ?_
                                                          refine T_sld dL_law_1223 ?_
                                                          refine T_callVlw (As := [.int (xs (s1.1 + (1 : Int32)).toNatClampNeg), .int (xs (s1.1 + (2 : Int32)).toNatClampNeg), .int (xs (s1.1 + (3 : Int32)).toNatClampNeg)]) (st := []) mv_L_126 (by decide) dL_law_1224 sh0 (fun b hb => mX7_put G l 0 sh0 (xs (s1.1 + (1 : Int32)).toNatClampNeg) (xs (s1.1 + (2 : Int32)).toNatClampNeg) (xs (s1.1 + (3 : Int32)).toNatClampNeg) s1.2 b hb) rfl rfl (Nat.le_of_ble_eq_true rfl) (fun b143 => ?_)
                                                          refine T_aload_n (q := 1) dL_law_1227 rfl rfl ?_
                                                          refine T_aload_n (q := 3) dL_law_1228 rfl rfl ?_
                                                          refine T_iload_n (q := 0) dL_law_1229 rfl rfl ?_
                                                          refine T_iconst (v := 1) dL_law_1230 (by decide) ?_
                                                          refine T_iadd dL_law_1231 ?_
                                                          refine T_sld dL_law_1232 ?_
                                                          refine T_aload_n (q := 3) dL_law_1233 rfl rfl ?_
                                                          refine T_iload_n (q := 0) dL_law_1234 rfl rfl ?_
                                                          refine T_iconst (v := 2) dL_law_1235 (by decide) ?_
                                                          refine T_iadd dL_law_1236 ?_
                                                          refine T_sld dL_law_1237 ?_
                                                          refine T_aload_n (q := 3) dL_law_1238 rfl rfl ?_
                                                          refine T_iload_n (q := 0) dL_law_1239 rfl rfl ?_
                                                          refine T_iconst (v := 3) dL_law_1240 (by decide) ?_
                                                          refine T_iadd dL_law_1241 ?_
                                                          refine T_sld dL_law_1242 ?_
                                                          refine T_callVlw (As := [.int (xs (s1.1 + (1 : Int32)).toNatClampNeg), .int (xs (s1.1 + (2 : Int32)).toNatClampNeg), .int (xs (s1.1 + (3 : Int32)).toNatClampNeg)]) (st := [.long b143.1]) mv_L_129 (by decide) dL_law_1243 sh151 (fun b hb => mX8_put G l 151 sh151 (xs (s1.1 + (1 : Int32)).toNatClampNeg) (xs (s1.1 + (2 : Int32)).toNatClampNeg) (xs (s1.1 + (3 : Int32)).toNatClampNeg) b143.2 b hb) rfl rfl (Nat.le_of_ble_eq_true rfl) (fun b144 => ?_)
                                                          refine T_lcmp dL_law_1246 ?_
                                                          refine T_if_eq (tgt := 1374) dL_law_1247 (by decide) (fun hc145 => ?_) (fun hc145 => ?_)
                                                          · refine T_iinc_G (q := 0) (y := s1.1 + 6) (lv' := fun v146 => [(3, .int v146), (2, .ref (adr G 151)), (1, .ref (adr G 0)), (0, .ref b)]) dL_law_1374 rfl rfl (by decide) (fun _ => rfl) (fun v146 => ?_)
                                                            refine T_goto (tgt := 18) dL_law_1377 (by decide) ?_
                                                            exact T_end (fun h => V_sub [0, 1, 2, 3] rfl h)
                                                          · refine T_iconst (v := 0) dL_law_1250 (by decide) ?_
                                                            exact T_none
                                                        · skip
                                                          refine T_split (fun hs30 => ?_) (fun hs30 => ?_)
                                                          · refine T_tswIn (off := 1219) (tgt := 1252) dL_law_33 (by rw [hs30]; decide) (by rw [hs30]; decide) (by rw [hs30]; rfl) (by decide) ?_
                                                            refine T_aload_n (q := 2) dL_law_1252 rfl rfl ?_
                                                            refine T_aload_n (q := 3) dL_law_1253 rfl rfl ?_
                                                            refine T_iload_n (q := 0) dL_law_1254 rfl rfl ?_
                                                            refine T_iconst (v := 1) dL_law_1255 (by decide) ?_
                                                            refine T_iadd dL_law_1256 ?_
                                                            refine T_sld dL_law_1257 ?_
                                                            refine T_aload_n (q := 3) dL_law_1258 rfl rfl ?_
                                                            refine T_iload_n (q := 0) dL_law_1259 rfl rfl ?_
                                                            refine T_iconst (v := 2) dL_law_1260 (by decide) ?_
                                                            refine T_iadd dL_law_1261 ?_
                                                            refine T_sld dL_law_1262 ?_
                                                            refine T_aload_n (q := 3) dL_law_1263 rfl rfl ?_
                                                            refine T_iload_n (q := 0) dL_law_1264 rfl rfl ?_
                                                            refine T_iconst (v := 3) dL_law_1265 (by decide) ?_
                                                            refine T_iadd dL_law_1266 ?_
                                                            refine T_sld dL_law_1267 ?_
                                                            refine T_aload_n (q := 3) dL_law_1268 rfl rfl ?_
                                                            refine T_iload_n (q := 0) dL_law_1269 rfl rfl ?_
                                                            refine T_iconst (v := 4) dL_law_1270 (by decide) ?_
                                                            refine T_iadd dL_law_1271 ?_
                                                            refine T_sld dL_law_1272 ?_
                                                            refine T_aload_n (q := 3) dL_law_1273 rfl rfl ?_
                                                            refine T_iload_n (q := 0) dL_law_1274 rfl rfl ?_
                                                            refine T_iconst (v := 5) dL_law_1275 (by decide) ?_
                                                            refine T_iadd dL_law_1276 ?_
                                                            refine T_sld dL_law_1277 ?_
                                                            refine T_callVlw (As := [.int (xs (s1.1 + (1 : Int32)).toNatClampNeg), .int (xs (s1.1 + (2 : Int32)).toNatClampNeg), .int (xs (s1.1 + (3 : Int32)).toNatClampNeg), .int (xs (s1.1 + (4 : Int32)).toNatClampNeg), .int (xs (s1.1 + (5 : Int32)).toNatClampNeg)]) (st := []) mv_L_130 (by decide) dL_law_1278 sh0 (fun b hb => mX7_copy G l 0 sh0 (xs (s1.1 + (1 : Int32)).toNatClampNeg) (xs (s1.1 + (2 : Int32)).toNatClampNeg) (xs (s1.1 + (3 : Int32)).toNatClampNeg) (xs (s1.1 + (4 : Int32)).toNatClampNeg) (xs (s1.1 + (5 : Int32)).toNatClampNeg) s1.2 b hb) rfl rfl (Nat.le_of_ble_eq_true rfl) (fun b147 => ?_)
                                                            refine T_aload_n (q := 1) dL_law_1281 rfl rfl ?_
                                                            refine T_aload_n (q := 3) dL_law_1282 rfl rfl ?_
                                                            refine T_iload_n (q := 0) dL_law_1283 rfl rfl ?_
                                                            refine T_iconst (v := 1) dL_law_1284 (by decide) ?_
                                                            refine T_iadd dL_law_1285 ?_
                                                            refine T_sld dL_law_1286 ?_
                                                            refine T_aload_n (q := 3) dL_law_1287 rfl rfl ?_
                                                            refine T_iload_n (q := 0) dL_law_1288 rfl rfl ?_
                                                            refine T_iconst (v := 2) dL_law_1289 (by decide) ?_
                                                            refine T_iadd dL_law_1290 ?_
                                                            refine T_sld dL_law_1291 ?_
                                                            refine T_aload_n (q := 3) dL_law_1292 rfl rfl ?_
                                                            refine T_iload_n (q := 0) dL_law_1293 rfl rfl ?_
                                                            refine T_iconst (v := 3) dL_law_1294 (by decide) ?_
                                                            refine T_iadd dL_law_1295 ?_
                                                            refine T_sld dL_law_1296 ?_
                                                            refine T_aload_n (q := 3) dL_law_1297 rfl rfl ?_
                                                            refine T_iload_n (q := 0) dL_law_1298 rfl rfl ?_
                                                            refine T_iconst (v := 4) dL_law_1299 (by decide) ?_
                                                            refine T_iadd dL_law_1300 ?_
                                                            refine T_sld dL_law_1301 ?_
                                                            refine T_aload_n (q := 3) dL_law_1302 rfl rfl ?_
                                                            refine T_iload_n (q := 0) dL_law_1303 rfl rfl ?_
                                                            refine T_iconst (v := 5) dL_law_1304 (by decide) ?_
                                                            refine T_iadd dL_law_1305 ?_
                                                            refine T_sld dL_law_1306 ?_
                                                            refine T_callVlw (As := [.int (xs (s1.1 + (1 : Int32)).toNatClampNeg), .int (xs (s1.1 + (2 : Int32)).toNatClampNeg), .int (xs (s1.1 + (3 : Int32)).toNatClampNeg), .int (xs (s1.1 + (4 : Int32)).toNatClampNeg), .int (xs (s1.1 + (5 : Int32)).toNatClampNeg)]) (st := [.long b147.1]) mv_L_134 (by decide) dL_law_1307 sh151 (fun b hb => mX8_copy G l 151 sh151 (xs (s1.1 + (1 : Int32)).toNatClampNeg) (xs (s1.1 + (2 : Int32)).toNatClampNeg) (xs (s1.1 + (3 : Int32)).toNatClampNeg) (xs (s1.1 + (4 : Int32)).toNatClampNeg) (xs (s1.1 + (5 : Int32)).toNatClampNeg) b147.2 b hb) rfl rfl (Nat.le_of_ble_eq_true rfl) (fun b148 => ?_)
                                                            refine T_lcmp dL_law_1310 ?_
                                                            refine T_if_eq (tgt := 1374) dL_law_1311 (by decide) (fun hc149 => ?_) (fun hc149 => ?_)
                                                            · refine T_iinc_G (q := 0) (y := s1.1 + 6) (lv' := fun v150 => [(3, .int v150), (2, .ref (adr G 151)), (1, .ref (adr G 0)), (0, .ref b)]) dL_law_1374 rfl rfl (by decide) (fun _ => rfl) (fun v150 => ?_)
                                                              refine T_goto (tgt := 18) dL_law_1377 (by decide) ?_
                                                              exact T_end (fun h => V_sub [0, 1, 2, 3] rfl h)
                                                            · refine T_iconst (v := 0) dL_law_1314 (by decide) ?_
                                                              exact T_none
                                                          · skip
                                                            refine T_split (fun hs31 => ?_) (fun hs31 => ?_)
                                                            · refine T_tswIn (off := 1283) (tgt := 1316) dL_law_33 (by rw [hs31]; decide) (by rw [hs31]; decide) (by rw [hs31]; rfl) (by decide) ?_
                                                              refine T_aload_n (q := 2) dL_law_1316 rfl rfl ?_
                                                              refine T_aload_n (q := 3) dL_law_1317 rfl rfl ?_
                                                              refine T_iload_n (q := 0) dL_law_1318 rfl rfl ?_
                                                              refine T_iconst (v := 1) dL_law_1319 (by decide) ?_
                                                              refine T_iadd dL_law_1320 ?_
                                                              refine T_sld dL_law_1321 ?_
                                                              refine T_aload_n (q := 3) dL_law_1322 rfl rfl ?_
                                                              refine T_iload_n (q := 0) dL_law_1323 rfl rfl ?_
                                                              refine T_iconst (v := 2) dL_law_1324 (by decide) ?_
                                                              refine T_iadd dL_law_1325 ?_
                                                              refine T_sld dL_law_1326 ?_
                                                              refine T_callVlw (As := [.int (xs (s1.1 + (1 : Int32)).toNatClampNeg), .int (xs (s1.1 + (2 : Int32)).toNatClampNeg)]) (st := []) mv_L_135 (by decide) dL_law_1327 sh0 (fun b hb => mX7_lay G l 0 sh0 (xs (s1.1 + (1 : Int32)).toNatClampNeg) (xs (s1.1 + (2 : Int32)).toNatClampNeg) s1.2 b hb) rfl rfl (Nat.le_of_ble_eq_true rfl) (fun b151 => ?_)
                                                              refine T_aload_n (q := 1) dL_law_1330 rfl rfl ?_
                                                              refine T_aload_n (q := 3) dL_law_1331 rfl rfl ?_
                                                              refine T_iload_n (q := 0) dL_law_1332 rfl rfl ?_
                                                              refine T_iconst (v := 1) dL_law_1333 (by decide) ?_
                                                              refine T_iadd dL_law_1334 ?_
                                                              refine T_sld dL_law_1335 ?_
                                                              refine T_aload_n (q := 3) dL_law_1336 rfl rfl ?_
                                                              refine T_iload_n (q := 0) dL_law_1337 rfl rfl ?_
                                                              refine T_iconst (v := 2) dL_law_1338 (by decide) ?_
                                                              refine T_iadd dL_law_1339 ?_
                                                              refine T_sld dL_law_1340 ?_
                                                              refine T_callVlw (As := [.int (xs (s1.1 + (1 : Int32)).toNatClampNeg), .int (xs (s1.1 + (2 : Int32)).toNatClampNeg)]) (st := [.long b151.1]) mv_L_138 (by decide) dL_law_1341 sh151 (fun b hb => mX8_lay G l 151 sh151 (xs (s1.1 + (1 : Int32)).toNatClampNeg) (xs (s1.1 + (2 : Int32)).toNatClampNeg) b151.2 b hb) rfl rfl (Nat.le_of_ble_eq_true rfl) (fun b152 => ?_)
                                                              refine T_lcmp dL_law_1344 ?_
                                                              refine T_if_eq (tgt := 1374) dL_law_1345 (by decide) (fun hc153 => ?_) (fun hc153 => ?_)
                                                              · refine T_iinc_G (q := 0) (y := s1.1 + 6) (lv' := fun v154 => [(3, .int v154), (2, .ref (adr G 151)), (1, .ref (adr G 0)), (0, .ref b)]) dL_law_1374 rfl rfl (by decide) (fun _ => rfl) (fun v154 => ?_)
                                                                refine T_goto (tgt := 18) dL_law_1377 (by decide) ?_
                                                                exact T_end (fun h => V_sub [0, 1, 2, 3] rfl h)
                                                              · refine T_iconst (v := 0) dL_law_1348 (by decide) ?_
                                                                exact T_none
                                                            · skip
                                                              refine T_split (fun hs32 => ?_) (fun hs32 => ?_)
                                                              · refine T_tswIn (off := 1317) (tgt := 1350) dL_law_33 (by rw [hs32]; decide) (by rw [hs32]; decide) (by rw [hs32]; rfl) (by decide) ?_
                                                                refine T_aload_n (q := 2) dL_law_1350 rfl rfl ?_
                                                                refine T_aload_n (q := 3) dL_law_1351 rfl rfl ?_
                                                                refine T_iload_n (q := 0) dL_law_1352 rfl rfl ?_
                                                                refine T_iconst (v := 1) dL_law_1353 (by decide) ?_
                                                                refine T_iadd dL_law_1354 ?_
                                                                refine T_sld dL_law_1355 ?_
                                                                refine T_callVlw (As := [.int (xs (s1.1 + (1 : Int32)).toNatClampNeg)]) (st := []) mv_L_139 (by decide) dL_law_1356 sh0 (fun b hb => mX7_told G l 0 sh0 (xs (s1.1 + (1 : Int32)).toNatClampNeg) s1.2 b hb) rfl rfl (Nat.le_of_ble_eq_true rfl) (fun b155 => ?_)
                                                                refine T_aload_n (q := 1) dL_law_1359 rfl rfl ?_
                                                                refine T_aload_n (q := 3) dL_law_1360 rfl rfl ?_
                                                                refine T_iload_n (q := 0) dL_law_1361 rfl rfl ?_
                                                                refine T_iconst (v := 1) dL_law_1362 (by decide) ?_
                                                                refine T_iadd dL_law_1363 ?_
                                                                refine T_sld dL_law_1364 ?_
                                                                refine T_callVlw (As := [.int (xs (s1.1 + (1 : Int32)).toNatClampNeg)]) (st := [.long b155.1]) mv_L_142 (by decide) dL_law_1365 sh151 (fun b hb => mX8_told G l 151 sh151 (xs (s1.1 + (1 : Int32)).toNatClampNeg) b155.2 b hb) rfl rfl (Nat.le_of_ble_eq_true rfl) (fun b156 => ?_)
                                                                refine T_lcmp dL_law_1368 ?_
                                                                refine T_if_eq (tgt := 1374) dL_law_1369 (by decide) (fun hc157 => ?_) (fun hc157 => ?_)
                                                                · refine T_iinc_G (q := 0) (y := s1.1 + 6) (lv' := fun v158 => [(3, .int v158), (2, .ref (adr G 151)), (1, .ref (adr G 0)), (0, .ref b)]) dL_law_1374 rfl rfl (by decide) (fun _ => rfl) (fun v158 => ?_)
                                                                  refine T_goto (tgt := 18) dL_law_1377 (by decide) ?_
                                                                  exact T_end (fun h => V_sub [0, 1, 2, 3] rfl h)
                                                                · refine T_iconst (v := 0) dL_law_1372 (by decide) ?_
                                                                  exact T_none
                                                              · skip
                                                                refine T_tswOut (tgt := 1374) dL_law_33 (by have hz := tsw0 (x := (xs s1.1.toNatClampNeg) &&& (31 : Int32)) (n := 30) (by decide) (fun j hj => by match j, hj with | 0, _ => exact hs3 | 1, _ => exact hs4 | 2, _ => exact hs5 | 3, _ => exact hs6 | 4, _ => exact hs7 | 5, _ => exact hs8 | 6, _ => exact hs9 | 7, _ => exact hs10 | 8, _ => exact hs11 | 9, _ => exact hs12 | 10, _ => exact hs13 | 11, _ => exact hs14 | 12, _ => exact hs15 | 13, _ => exact hs16 | 14, _ => exact hs17 | 15, _ => exact hs18 | 16, _ => exact hs19 | 17, _ => exact hs20 | 18, _ => exact hs21 | 19, _ => exact hs22 | 20, _ => exact hs23 | 21, _ => exact hs24 | 22, _ => exact hs25 | 23, _ => exact hs26 | 24, _ => exact hs27 | 25, _ => exact hs28 | 26, _ => exact hs29 | 27, _ => exact hs30 | 28, _ => exact hs31 | 29, _ => exact hs32 | j + 30, hj => exact absurd hj (by omega)); exact hz) (by decide) ?_
                                                                refine T_iinc_G (q := 0) (y := s1.1 + 6) (lv' := fun v159 => [(3, .int v159), (2, .ref (adr G 151)), (1, .ref (adr G 0)), (0, .ref b)]) dL_law_1374 rfl rfl (by decide) (fun _ => rfl) (fun v159 => ?_)
                                                                refine T_goto (tgt := 18) dL_law_1377 (by decide) ?_
                                                                exact T_end (fun h => V_sub [0, 1, 2, 3] rfl h)
