set_option maxRecDepth 20000 in
theorem ok_L_law_18 {Z : fp_Z} {N : Nat} {xs : Nat → Int32} (C : fp_C Z cL_law RL (Option.some Jvm.ClassFile.FieldType.boolean)) (hv : fp_LV Z N xs) (hn : Z.2.2.2.2.1 = 4) (hd : Z.2.2.2.2.2.1 = 1000) : ∀ (n : Nat) (x3 : Int32) (g : fp_G), w_L_law_18 n N xs x3 g Z.2.2.2.1 → WA Z 18 [some (.ref (fp_NC + 4)), some (.ref 0), some (.ref 67), some (.int x3)] [] g := by
  intro n
  induction n with
  | zero => intro x3 g h; exact h.elim
  | succ n ih =>
    intro x3 g h
    rw [w_L_law_18] at h
    refine wa_iload_n C (i := 3) dL_law_18 rfl rfl ?_
    refine wa_aload_n C (i := 0) dL_law_19 rfl rfl ?_
    refine wa_slen C hv dL_law_20 ?_
    refine wa_bipush C (v := 6) dL_law_21 (by decide) ?_
    refine wa_isub C dL_law_23 ?_
    refine wa_icmp_gt C (tgt := 1354) dL_law_24 (by decide) h (fun h => ?_) (fun h => ?_)
    · refine wa_iconst C (v := 1) dL_law_1354 (by decide) ?_
      exact wa_lret C hv dL_law_1355 h
    · refine wa_aload_n C (i := 0) dL_law_27 rfl rfl ?_
      refine wa_iload_n C (i := 3) dL_law_28 rfl rfl ?_
      refine wa_sld C hv dL_law_29 h (fun v1 h => ?_)
      refine wa_bipush C (v := 63) dL_law_30 (by decide) ?_
      refine wa_iand C dL_law_32 ?_
      refine fp_j0 (Q := fun g1 => WA Z 1348 [some (.ref (fp_NC + 4)), some (.ref 0), some (.ref 67), some (.int x3)] [] g1) h (fun g1 h => ?_) (fun J1348 hJ1348 h => ?_)
      · refine wa_iinc C (i := 3) dL_law_1348 rfl (fp_inc6 _) (by rw [hn]; decide) rfl rfl ?_
        refine wa_goto C (tgt := 18) dL_law_1351 (by decide) ?_
        exact WA.weak (ih _ _ h) ⟨rfl, ⟨rfl, ⟨rfl, ⟨rfl, trivial⟩⟩⟩⟩
      refine fp_sw h (fun e0 h => ?_) (fun e0 h => ?_)
      · refine wa_tsIn C (tgt := 184) dL_law_33 e0 (by decide) (by decide) rfl (by decide) ?_
        refine wa_aload_n C (i := 1) dL_law_184 rfl rfl ?_
        refine wa_aload_n C (i := 0) dL_law_185 rfl rfl ?_
        refine wa_iload_n C (i := 3) dL_law_186 rfl rfl ?_
        refine wa_iconst C (v := 1) dL_law_187 (by decide) ?_
        refine wa_iadd C dL_law_188 ?_
        refine wa_sld C hv dL_law_189 h (fun v2 h => ?_)
        refine wa_aload_n C (i := 0) dL_law_190 rfl rfl ?_
        refine wa_iload_n C (i := 3) dL_law_191 rfl rfl ?_
        refine wa_iconst C (v := 2) dL_law_192 (by decide) ?_
        refine wa_iadd C dL_law_193 ?_
        refine wa_sld C hv dL_law_194 h (fun v3 h => ?_)
        refine fp_k1 (Q := fun z0j203 => WA Z 203 [some (.ref (fp_NC + 4)), some (.ref 0), some (.ref 67), some (.int x3)] [.int z0j203, .int v2, .ref 0] g) h (fun z0j203 h => ?_) (fun J203 hJ203 h => ?_)
        · refine wa_callVi C lq_0 sh_0 rfl s_L_13 i_X8_office e_X8_office dL_law_203 (ok_X8_office h) rfl rfl (Nat.le_of_ble_eq_true rfl) (by rw [hd]; decide) (fun v4 g2 h => ?_)
          refine wa_aload_n C (i := 2) dL_law_206 rfl rfl ?_
          refine wa_aload_n C (i := 0) dL_law_207 rfl rfl ?_
          refine wa_iload_n C (i := 3) dL_law_208 rfl rfl ?_
          refine wa_iconst C (v := 1) dL_law_209 (by decide) ?_
          refine wa_iadd C dL_law_210 ?_
          refine wa_sld C hv dL_law_211 h (fun v5 h => ?_)
          refine wa_aload_n C (i := 0) dL_law_212 rfl rfl ?_
          refine wa_iload_n C (i := 3) dL_law_213 rfl rfl ?_
          refine wa_iconst C (v := 2) dL_law_214 (by decide) ?_
          refine wa_iadd C dL_law_215 ?_
          refine wa_sld C hv dL_law_216 h (fun v6 h => ?_)
          refine fp_k1 (Q := fun z0j225 => WA Z 225 [some (.ref (fp_NC + 4)), some (.ref 0), some (.ref 67), some (.int x3)] [.int z0j225, .int v5, .ref 67, .int v4] g2) h (fun z0j225 h => ?_) (fun J225 hJ225 h => ?_)
          · refine wa_callVi C lq_67 sh_67 rfl s_L_17 i_X9_office e_X9_office dL_law_225 (ok_X9_office h) rfl rfl (Nat.le_of_ble_eq_true rfl) (by rw [hd]; decide) (fun v7 g3 h => ?_)
            refine wa_icmp_eq C (tgt := 1348) dL_law_228 (by decide) h (fun h => ?_) (fun h => ?_)
            · exact WA.weak (hJ1348 _ h) ⟨rfl, ⟨rfl, ⟨rfl, ⟨rfl, trivial⟩⟩⟩⟩
            · refine wa_iconst C (v := 0) dL_law_231 (by decide) ?_
              exact wa_lret C hv dL_law_232 h
          refine wa_if_eq C (tgt := 224) dL_law_217 (by decide) h (fun h => ?_) (fun h => ?_)
          · refine wa_iconst C (v := 0) dL_law_224 (by decide) ?_
            exact WA.weak (hJ225 _ h) ⟨rfl, ⟨rfl, ⟨rfl, ⟨rfl, trivial⟩⟩⟩⟩
          · refine wa_iconst C (v := 1) dL_law_220 (by decide) ?_
            refine wa_goto C (tgt := 225) dL_law_221 (by decide) ?_
            exact WA.weak (hJ225 _ h) ⟨rfl, ⟨rfl, ⟨rfl, ⟨rfl, trivial⟩⟩⟩⟩
        refine wa_if_eq C (tgt := 202) dL_law_195 (by decide) h (fun h => ?_) (fun h => ?_)
        · refine wa_iconst C (v := 0) dL_law_202 (by decide) ?_
          exact WA.weak (hJ203 _ h) ⟨rfl, ⟨rfl, ⟨rfl, ⟨rfl, trivial⟩⟩⟩⟩
        · refine wa_iconst C (v := 1) dL_law_198 (by decide) ?_
          refine wa_goto C (tgt := 203) dL_law_199 (by decide) ?_
          exact WA.weak (hJ203 _ h) ⟨rfl, ⟨rfl, ⟨rfl, ⟨rfl, trivial⟩⟩⟩⟩
      refine fp_sw h (fun e1 h => ?_) (fun e1 h => ?_)
      · refine wa_tsIn C (tgt := 233) dL_law_33 e1 (by decide) (by decide) rfl (by decide) ?_
        refine wa_aload_n C (i := 1) dL_law_233 rfl rfl ?_
        refine wa_aload_n C (i := 0) dL_law_234 rfl rfl ?_
        refine wa_iload_n C (i := 3) dL_law_235 rfl rfl ?_
        refine wa_iconst C (v := 1) dL_law_236 (by decide) ?_
        refine wa_iadd C dL_law_237 ?_
        refine wa_sld C hv dL_law_238 h (fun v8 h => ?_)
        refine wa_aload_n C (i := 0) dL_law_239 rfl rfl ?_
        refine wa_iload_n C (i := 3) dL_law_240 rfl rfl ?_
        refine wa_iconst C (v := 2) dL_law_241 (by decide) ?_
        refine wa_iadd C dL_law_242 ?_
        refine wa_sld C hv dL_law_243 h (fun v9 h => ?_)
        refine wa_aload_n C (i := 0) dL_law_244 rfl rfl ?_
        refine wa_iload_n C (i := 3) dL_law_245 rfl rfl ?_
        refine wa_iconst C (v := 3) dL_law_246 (by decide) ?_
        refine wa_iadd C dL_law_247 ?_
        refine wa_sld C hv dL_law_248 h (fun v10 h => ?_)
        refine fp_k1 (Q := fun z0j257 => WA Z 257 [some (.ref (fp_NC + 4)), some (.ref 0), some (.ref 67), some (.int x3)] [.int z0j257, .int v9, .int v8, .ref 0] g) h (fun z0j257 h => ?_) (fun J257 hJ257 h => ?_)
        · refine wa_callVi C lq_0 sh_0 rfl s_L_18 i_X8_staff e_X8_staff dL_law_257 (ok_X8_staff h) rfl rfl (Nat.le_of_ble_eq_true rfl) (by rw [hd]; decide) (fun v11 g4 h => ?_)
          refine wa_aload_n C (i := 2) dL_law_260 rfl rfl ?_
          refine wa_aload_n C (i := 0) dL_law_261 rfl rfl ?_
          refine wa_iload_n C (i := 3) dL_law_262 rfl rfl ?_
          refine wa_iconst C (v := 1) dL_law_263 (by decide) ?_
          refine wa_iadd C dL_law_264 ?_
          refine wa_sld C hv dL_law_265 h (fun v12 h => ?_)
          refine wa_aload_n C (i := 0) dL_law_266 rfl rfl ?_
          refine wa_iload_n C (i := 3) dL_law_267 rfl rfl ?_
          refine wa_iconst C (v := 2) dL_law_268 (by decide) ?_
          refine wa_iadd C dL_law_269 ?_
          refine wa_sld C hv dL_law_270 h (fun v13 h => ?_)
          refine wa_aload_n C (i := 0) dL_law_271 rfl rfl ?_
          refine wa_iload_n C (i := 3) dL_law_272 rfl rfl ?_
          refine wa_iconst C (v := 3) dL_law_273 (by decide) ?_
          refine wa_iadd C dL_law_274 ?_
          refine wa_sld C hv dL_law_275 h (fun v14 h => ?_)
          refine fp_k1 (Q := fun z0j284 => WA Z 284 [some (.ref (fp_NC + 4)), some (.ref 0), some (.ref 67), some (.int x3)] [.int z0j284, .int v13, .int v12, .ref 67, .int v11] g4) h (fun z0j284 h => ?_) (fun J284 hJ284 h => ?_)
          · refine wa_callVi C lq_67 sh_67 rfl s_L_22 i_X9_staff e_X9_staff dL_law_284 (ok_X9_staff h) rfl rfl (Nat.le_of_ble_eq_true rfl) (by rw [hd]; decide) (fun v15 g5 h => ?_)
            refine wa_icmp_eq C (tgt := 1348) dL_law_287 (by decide) h (fun h => ?_) (fun h => ?_)
            · exact WA.weak (hJ1348 _ h) ⟨rfl, ⟨rfl, ⟨rfl, ⟨rfl, trivial⟩⟩⟩⟩
            · refine wa_iconst C (v := 0) dL_law_290 (by decide) ?_
              exact wa_lret C hv dL_law_291 h
          refine wa_if_eq C (tgt := 283) dL_law_276 (by decide) h (fun h => ?_) (fun h => ?_)
          · refine wa_iconst C (v := 0) dL_law_283 (by decide) ?_
            exact WA.weak (hJ284 _ h) ⟨rfl, ⟨rfl, ⟨rfl, ⟨rfl, trivial⟩⟩⟩⟩
          · refine wa_iconst C (v := 1) dL_law_279 (by decide) ?_
            refine wa_goto C (tgt := 284) dL_law_280 (by decide) ?_
            exact WA.weak (hJ284 _ h) ⟨rfl, ⟨rfl, ⟨rfl, ⟨rfl, trivial⟩⟩⟩⟩
        refine wa_if_eq C (tgt := 256) dL_law_249 (by decide) h (fun h => ?_) (fun h => ?_)
        · refine wa_iconst C (v := 0) dL_law_256 (by decide) ?_
          exact WA.weak (hJ257 _ h) ⟨rfl, ⟨rfl, ⟨rfl, ⟨rfl, trivial⟩⟩⟩⟩
        · refine wa_iconst C (v := 1) dL_law_252 (by decide) ?_
          refine wa_goto C (tgt := 257) dL_law_253 (by decide) ?_
          exact WA.weak (hJ257 _ h) ⟨rfl, ⟨rfl, ⟨rfl, ⟨rfl, trivial⟩⟩⟩⟩
      refine fp_sw h (fun e2 h => ?_) (fun e2 h => ?_)
      · refine wa_tsIn C (tgt := 292) dL_law_33 e2 (by decide) (by decide) rfl (by decide) ?_
        refine wa_aload_n C (i := 1) dL_law_292 rfl rfl ?_
        refine wa_aload_n C (i := 0) dL_law_293 rfl rfl ?_
        refine wa_iload_n C (i := 3) dL_law_294 rfl rfl ?_
        refine wa_iconst C (v := 1) dL_law_295 (by decide) ?_
        refine wa_iadd C dL_law_296 ?_
        refine wa_sld C hv dL_law_297 h (fun v16 h => ?_)
        refine wa_aload_n C (i := 0) dL_law_298 rfl rfl ?_
        refine wa_iload_n C (i := 3) dL_law_299 rfl rfl ?_
        refine wa_iconst C (v := 2) dL_law_300 (by decide) ?_
        refine wa_iadd C dL_law_301 ?_
        refine wa_sld C hv dL_law_302 h (fun v17 h => ?_)
        refine wa_aload_n C (i := 0) dL_law_303 rfl rfl ?_
        refine wa_iload_n C (i := 3) dL_law_304 rfl rfl ?_
        refine wa_iconst C (v := 3) dL_law_305 (by decide) ?_
        refine wa_iadd C dL_law_306 ?_
        refine wa_sld C hv dL_law_307 h (fun v18 h => ?_)
        refine wa_aload_n C (i := 0) dL_law_308 rfl rfl ?_
        refine wa_iload_n C (i := 3) dL_law_309 rfl rfl ?_
        refine wa_iconst C (v := 4) dL_law_310 (by decide) ?_
        refine wa_iadd C dL_law_311 ?_
        refine wa_sld C hv dL_law_312 h (fun v19 h => ?_)
        refine wa_aload_n C (i := 0) dL_law_313 rfl rfl ?_
        refine wa_iload_n C (i := 3) dL_law_314 rfl rfl ?_
        refine wa_iconst C (v := 5) dL_law_315 (by decide) ?_
        refine wa_iadd C dL_law_316 ?_
        refine wa_sld C hv dL_law_317 h (fun v20 h => ?_)
        refine wa_callVi C lq_0 sh_0 rfl s_L_23 i_X8_way e_X8_way dL_law_318 (ok_X8_way h) rfl rfl (Nat.le_of_ble_eq_true rfl) (by rw [hd]; decide) (fun v21 g6 h => ?_)
        refine wa_aload_n C (i := 2) dL_law_321 rfl rfl ?_
        refine wa_aload_n C (i := 0) dL_law_322 rfl rfl ?_
        refine wa_iload_n C (i := 3) dL_law_323 rfl rfl ?_
        refine wa_iconst C (v := 1) dL_law_324 (by decide) ?_
        refine wa_iadd C dL_law_325 ?_
        refine wa_sld C hv dL_law_326 h (fun v22 h => ?_)
        refine wa_aload_n C (i := 0) dL_law_327 rfl rfl ?_
        refine wa_iload_n C (i := 3) dL_law_328 rfl rfl ?_
        refine wa_iconst C (v := 2) dL_law_329 (by decide) ?_
        refine wa_iadd C dL_law_330 ?_
        refine wa_sld C hv dL_law_331 h (fun v23 h => ?_)
        refine wa_aload_n C (i := 0) dL_law_332 rfl rfl ?_
        refine wa_iload_n C (i := 3) dL_law_333 rfl rfl ?_
        refine wa_iconst C (v := 3) dL_law_334 (by decide) ?_
        refine wa_iadd C dL_law_335 ?_
        refine wa_sld C hv dL_law_336 h (fun v24 h => ?_)
        refine wa_aload_n C (i := 0) dL_law_337 rfl rfl ?_
        refine wa_iload_n C (i := 3) dL_law_338 rfl rfl ?_
        refine wa_iconst C (v := 4) dL_law_339 (by decide) ?_
        refine wa_iadd C dL_law_340 ?_
        refine wa_sld C hv dL_law_341 h (fun v25 h => ?_)
        refine wa_aload_n C (i := 0) dL_law_342 rfl rfl ?_
        refine wa_iload_n C (i := 3) dL_law_343 rfl rfl ?_
        refine wa_iconst C (v := 5) dL_law_344 (by decide) ?_
        refine wa_iadd C dL_law_345 ?_
        refine wa_sld C hv dL_law_346 h (fun v26 h => ?_)
        refine wa_callVi C lq_67 sh_67 rfl s_L_27 i_X9_way e_X9_way dL_law_347 (ok_X9_way h) rfl rfl (Nat.le_of_ble_eq_true rfl) (by rw [hd]; decide) (fun v27 g7 h => ?_)
        refine wa_icmp_eq C (tgt := 1348) dL_law_350 (by decide) h (fun h => ?_) (fun h => ?_)
        · exact WA.weak (hJ1348 _ h) ⟨rfl, ⟨rfl, ⟨rfl, ⟨rfl, trivial⟩⟩⟩⟩
        · refine wa_iconst C (v := 0) dL_law_353 (by decide) ?_
          exact wa_lret C hv dL_law_354 h
      refine fp_sw h (fun e3 h => ?_) (fun e3 h => ?_)
      · refine wa_tsIn C (tgt := 355) dL_law_33 e3 (by decide) (by decide) rfl (by decide) ?_
        refine wa_aload_n C (i := 1) dL_law_355 rfl rfl ?_
        refine wa_aload_n C (i := 0) dL_law_356 rfl rfl ?_
        refine wa_iload_n C (i := 3) dL_law_357 rfl rfl ?_
        refine wa_iconst C (v := 1) dL_law_358 (by decide) ?_
        refine wa_iadd C dL_law_359 ?_
        refine wa_sld C hv dL_law_360 h (fun v28 h => ?_)
        refine wa_aload_n C (i := 0) dL_law_361 rfl rfl ?_
        refine wa_iload_n C (i := 3) dL_law_362 rfl rfl ?_
        refine wa_iconst C (v := 2) dL_law_363 (by decide) ?_
        refine wa_iadd C dL_law_364 ?_
        refine wa_sld C hv dL_law_365 h (fun v29 h => ?_)
        refine wa_aload_n C (i := 0) dL_law_366 rfl rfl ?_
        refine wa_iload_n C (i := 3) dL_law_367 rfl rfl ?_
        refine wa_iconst C (v := 3) dL_law_368 (by decide) ?_
        refine wa_iadd C dL_law_369 ?_
        refine wa_sld C hv dL_law_370 h (fun v30 h => ?_)
        refine wa_callVi C lq_0 sh_0 rfl s_L_28 i_X8_shut e_X8_shut dL_law_371 (ok_X8_shut h) rfl rfl (Nat.le_of_ble_eq_true rfl) (by rw [hd]; decide) (fun v31 g8 h => ?_)
        refine wa_aload_n C (i := 2) dL_law_374 rfl rfl ?_
        refine wa_aload_n C (i := 0) dL_law_375 rfl rfl ?_
        refine wa_iload_n C (i := 3) dL_law_376 rfl rfl ?_
        refine wa_iconst C (v := 1) dL_law_377 (by decide) ?_
        refine wa_iadd C dL_law_378 ?_
        refine wa_sld C hv dL_law_379 h (fun v32 h => ?_)
        refine wa_aload_n C (i := 0) dL_law_380 rfl rfl ?_
        refine wa_iload_n C (i := 3) dL_law_381 rfl rfl ?_
        refine wa_iconst C (v := 2) dL_law_382 (by decide) ?_
        refine wa_iadd C dL_law_383 ?_
        refine wa_sld C hv dL_law_384 h (fun v33 h => ?_)
        refine wa_aload_n C (i := 0) dL_law_385 rfl rfl ?_
        refine wa_iload_n C (i := 3) dL_law_386 rfl rfl ?_
        refine wa_iconst C (v := 3) dL_law_387 (by decide) ?_
        refine wa_iadd C dL_law_388 ?_
        refine wa_sld C hv dL_law_389 h (fun v34 h => ?_)
        refine wa_callVi C lq_67 sh_67 rfl s_L_32 i_X9_shut e_X9_shut dL_law_390 (ok_X9_shut h) rfl rfl (Nat.le_of_ble_eq_true rfl) (by rw [hd]; decide) (fun v35 g9 h => ?_)
        refine wa_icmp_eq C (tgt := 1348) dL_law_393 (by decide) h (fun h => ?_) (fun h => ?_)
        · exact WA.weak (hJ1348 _ h) ⟨rfl, ⟨rfl, ⟨rfl, ⟨rfl, trivial⟩⟩⟩⟩
        · refine wa_iconst C (v := 0) dL_law_396 (by decide) ?_
          exact wa_lret C hv dL_law_397 h
      refine fp_sw h (fun e4 h => ?_) (fun e4 h => ?_)
      · refine wa_tsIn C (tgt := 398) dL_law_33 e4 (by decide) (by decide) rfl (by decide) ?_
        refine wa_aload_n C (i := 1) dL_law_398 rfl rfl ?_
        refine wa_aload_n C (i := 0) dL_law_399 rfl rfl ?_
        refine wa_iload_n C (i := 3) dL_law_400 rfl rfl ?_
        refine wa_iconst C (v := 1) dL_law_401 (by decide) ?_
        refine wa_iadd C dL_law_402 ?_
        refine wa_sld C hv dL_law_403 h (fun v36 h => ?_)
        refine wa_aload_n C (i := 0) dL_law_404 rfl rfl ?_
        refine wa_iload_n C (i := 3) dL_law_405 rfl rfl ?_
        refine wa_iconst C (v := 2) dL_law_406 (by decide) ?_
        refine wa_iadd C dL_law_407 ?_
        refine wa_sld C hv dL_law_408 h (fun v37 h => ?_)
        refine wa_callVi C lq_0 sh_0 rfl s_L_33 i_X8_far e_X8_far dL_law_409 (ok_X8_far h) rfl rfl (Nat.le_of_ble_eq_true rfl) (by rw [hd]; decide) (fun v38 g10 h => ?_)
        refine wa_aload_n C (i := 2) dL_law_412 rfl rfl ?_
        refine wa_aload_n C (i := 0) dL_law_413 rfl rfl ?_
        refine wa_iload_n C (i := 3) dL_law_414 rfl rfl ?_
        refine wa_iconst C (v := 1) dL_law_415 (by decide) ?_
        refine wa_iadd C dL_law_416 ?_
        refine wa_sld C hv dL_law_417 h (fun v39 h => ?_)
        refine wa_aload_n C (i := 0) dL_law_418 rfl rfl ?_
        refine wa_iload_n C (i := 3) dL_law_419 rfl rfl ?_
        refine wa_iconst C (v := 2) dL_law_420 (by decide) ?_
        refine wa_iadd C dL_law_421 ?_
        refine wa_sld C hv dL_law_422 h (fun v40 h => ?_)
        refine wa_callVi C lq_67 sh_67 rfl s_L_37 i_X9_far e_X9_far dL_law_423 (ok_X9_far h) rfl rfl (Nat.le_of_ble_eq_true rfl) (by rw [hd]; decide) (fun v41 g11 h => ?_)
        refine wa_icmp_eq C (tgt := 1348) dL_law_426 (by decide) h (fun h => ?_) (fun h => ?_)
        · exact WA.weak (hJ1348 _ h) ⟨rfl, ⟨rfl, ⟨rfl, ⟨rfl, trivial⟩⟩⟩⟩
        · refine wa_iconst C (v := 0) dL_law_429 (by decide) ?_
          exact wa_lret C hv dL_law_430 h
      refine fp_sw h (fun e5 h => ?_) (fun e5 h => ?_)
      · refine wa_tsIn C (tgt := 431) dL_law_33 e5 (by decide) (by decide) rfl (by decide) ?_
        refine wa_aload_n C (i := 1) dL_law_431 rfl rfl ?_
        refine wa_aload_n C (i := 0) dL_law_432 rfl rfl ?_
        refine wa_iload_n C (i := 3) dL_law_433 rfl rfl ?_
        refine wa_iconst C (v := 1) dL_law_434 (by decide) ?_
        refine wa_iadd C dL_law_435 ?_
        refine wa_sld C hv dL_law_436 h (fun v42 h => ?_)
        refine wa_callVi C lq_0 sh_0 rfl s_L_38 i_X8_late e_X8_late dL_law_437 (ok_X8_late h) rfl rfl (Nat.le_of_ble_eq_true rfl) (by rw [hd]; decide) (fun v43 g12 h => ?_)
        refine wa_aload_n C (i := 2) dL_law_440 rfl rfl ?_
        refine wa_aload_n C (i := 0) dL_law_441 rfl rfl ?_
        refine wa_iload_n C (i := 3) dL_law_442 rfl rfl ?_
        refine wa_iconst C (v := 1) dL_law_443 (by decide) ?_
        refine wa_iadd C dL_law_444 ?_
        refine wa_sld C hv dL_law_445 h (fun v44 h => ?_)
        refine wa_callVi C lq_67 sh_67 rfl s_L_42 i_X9_late e_X9_late dL_law_446 (ok_X9_late h) rfl rfl (Nat.le_of_ble_eq_true rfl) (by rw [hd]; decide) (fun v45 g13 h => ?_)
        refine wa_icmp_eq C (tgt := 1348) dL_law_449 (by decide) h (fun h => ?_) (fun h => ?_)
        · exact WA.weak (hJ1348 _ h) ⟨rfl, ⟨rfl, ⟨rfl, ⟨rfl, trivial⟩⟩⟩⟩
        · refine wa_iconst C (v := 0) dL_law_452 (by decide) ?_
          exact wa_lret C hv dL_law_453 h
      refine fp_sw h (fun e6 h => ?_) (fun e6 h => ?_)
      · refine wa_tsIn C (tgt := 454) dL_law_33 e6 (by decide) (by decide) rfl (by decide) ?_
        refine wa_aload_n C (i := 1) dL_law_454 rfl rfl ?_
        refine wa_aload_n C (i := 0) dL_law_455 rfl rfl ?_
        refine wa_iload_n C (i := 3) dL_law_456 rfl rfl ?_
        refine wa_iconst C (v := 1) dL_law_457 (by decide) ?_
        refine wa_iadd C dL_law_458 ?_
        refine wa_sld C hv dL_law_459 h (fun v46 h => ?_)
        refine wa_callVi C lq_0 sh_0 rfl s_L_43 i_X8_hours e_X8_hours dL_law_460 (ok_X8_hours h) rfl rfl (Nat.le_of_ble_eq_true rfl) (by rw [hd]; decide) (fun v47 g14 h => ?_)
        refine wa_aload_n C (i := 2) dL_law_463 rfl rfl ?_
        refine wa_aload_n C (i := 0) dL_law_464 rfl rfl ?_
        refine wa_iload_n C (i := 3) dL_law_465 rfl rfl ?_
        refine wa_iconst C (v := 1) dL_law_466 (by decide) ?_
        refine wa_iadd C dL_law_467 ?_
        refine wa_sld C hv dL_law_468 h (fun v48 h => ?_)
        refine wa_callVi C lq_67 sh_67 rfl s_L_46 i_X9_hours e_X9_hours dL_law_469 (ok_X9_hours h) rfl rfl (Nat.le_of_ble_eq_true rfl) (by rw [hd]; decide) (fun v49 g15 h => ?_)
        refine wa_icmp_eq C (tgt := 1348) dL_law_472 (by decide) h (fun h => ?_) (fun h => ?_)
        · exact WA.weak (hJ1348 _ h) ⟨rfl, ⟨rfl, ⟨rfl, ⟨rfl, trivial⟩⟩⟩⟩
        · refine wa_iconst C (v := 0) dL_law_475 (by decide) ?_
          exact wa_lret C hv dL_law_476 h
      refine fp_sw h (fun e7 h => ?_) (fun e7 h => ?_)
      · refine wa_tsIn C (tgt := 477) dL_law_33 e7 (by decide) (by decide) rfl (by decide) ?_
        refine wa_aload_n C (i := 1) dL_law_477 rfl rfl ?_
        refine wa_aload_n C (i := 0) dL_law_478 rfl rfl ?_
        refine wa_iload_n C (i := 3) dL_law_479 rfl rfl ?_
        refine wa_iconst C (v := 1) dL_law_480 (by decide) ?_
        refine wa_iadd C dL_law_481 ?_
        refine wa_sld C hv dL_law_482 h (fun v50 h => ?_)
        refine wa_aload_n C (i := 0) dL_law_483 rfl rfl ?_
        refine wa_iload_n C (i := 3) dL_law_484 rfl rfl ?_
        refine wa_iconst C (v := 2) dL_law_485 (by decide) ?_
        refine wa_iadd C dL_law_486 ?_
        refine wa_sld C hv dL_law_487 h (fun v51 h => ?_)
        refine wa_aload_n C (i := 0) dL_law_488 rfl rfl ?_
        refine wa_iload_n C (i := 3) dL_law_489 rfl rfl ?_
        refine wa_iconst C (v := 3) dL_law_490 (by decide) ?_
        refine wa_iadd C dL_law_491 ?_
        refine wa_sld C hv dL_law_492 h (fun v52 h => ?_)
        refine wa_callVi C lq_0 sh_0 rfl s_L_47 i_X8_move e_X8_move dL_law_493 (ok_X8_move h) rfl rfl (Nat.le_of_ble_eq_true rfl) (by rw [hd]; decide) (fun v53 g16 h => ?_)
        refine wa_aload_n C (i := 2) dL_law_496 rfl rfl ?_
        refine wa_aload_n C (i := 0) dL_law_497 rfl rfl ?_
        refine wa_iload_n C (i := 3) dL_law_498 rfl rfl ?_
        refine wa_iconst C (v := 1) dL_law_499 (by decide) ?_
        refine wa_iadd C dL_law_500 ?_
        refine wa_sld C hv dL_law_501 h (fun v54 h => ?_)
        refine wa_aload_n C (i := 0) dL_law_502 rfl rfl ?_
        refine wa_iload_n C (i := 3) dL_law_503 rfl rfl ?_
        refine wa_iconst C (v := 2) dL_law_504 (by decide) ?_
        refine wa_iadd C dL_law_505 ?_
        refine wa_sld C hv dL_law_506 h (fun v55 h => ?_)
        refine wa_aload_n C (i := 0) dL_law_507 rfl rfl ?_
        refine wa_iload_n C (i := 3) dL_law_508 rfl rfl ?_
        refine wa_iconst C (v := 3) dL_law_509 (by decide) ?_
        refine wa_iadd C dL_law_510 ?_
        refine wa_sld C hv dL_law_511 h (fun v56 h => ?_)
        refine wa_callVi C lq_67 sh_67 rfl s_L_50 i_X9_move e_X9_move dL_law_512 (ok_X9_move h) rfl rfl (Nat.le_of_ble_eq_true rfl) (by rw [hd]; decide) (fun v57 g17 h => ?_)
        refine wa_icmp_eq C (tgt := 1348) dL_law_515 (by decide) h (fun h => ?_) (fun h => ?_)
        · exact WA.weak (hJ1348 _ h) ⟨rfl, ⟨rfl, ⟨rfl, ⟨rfl, trivial⟩⟩⟩⟩
        · refine wa_iconst C (v := 0) dL_law_518 (by decide) ?_
          exact wa_lret C hv dL_law_519 h
      refine fp_sw h (fun e8 h => ?_) (fun e8 h => ?_)
      · refine wa_tsIn C (tgt := 520) dL_law_33 e8 (by decide) (by decide) rfl (by decide) ?_
        refine wa_aload_n C (i := 1) dL_law_520 rfl rfl ?_
        refine wa_aload_n C (i := 0) dL_law_521 rfl rfl ?_
        refine wa_iload_n C (i := 3) dL_law_522 rfl rfl ?_
        refine wa_iconst C (v := 1) dL_law_523 (by decide) ?_
        refine wa_iadd C dL_law_524 ?_
        refine wa_sld C hv dL_law_525 h (fun v58 h => ?_)
        refine wa_aload_n C (i := 0) dL_law_526 rfl rfl ?_
        refine wa_iload_n C (i := 3) dL_law_527 rfl rfl ?_
        refine wa_iconst C (v := 2) dL_law_528 (by decide) ?_
        refine wa_iadd C dL_law_529 ?_
        refine wa_sld C hv dL_law_530 h (fun v59 h => ?_)
        refine wa_callVi C lq_0 sh_0 rfl s_L_51 i_X8_is e_X8_is dL_law_531 (ok_X8_is h) rfl rfl (Nat.le_of_ble_eq_true rfl) (by rw [hd]; decide) (fun v60 g18 h => ?_)
        refine wa_aload_n C (i := 2) dL_law_534 rfl rfl ?_
        refine wa_aload_n C (i := 0) dL_law_535 rfl rfl ?_
        refine wa_iload_n C (i := 3) dL_law_536 rfl rfl ?_
        refine wa_iconst C (v := 1) dL_law_537 (by decide) ?_
        refine wa_iadd C dL_law_538 ?_
        refine wa_sld C hv dL_law_539 h (fun v61 h => ?_)
        refine wa_aload_n C (i := 0) dL_law_540 rfl rfl ?_
        refine wa_iload_n C (i := 3) dL_law_541 rfl rfl ?_
        refine wa_iconst C (v := 2) dL_law_542 (by decide) ?_
        refine wa_iadd C dL_law_543 ?_
        refine wa_sld C hv dL_law_544 h (fun v62 h => ?_)
        refine wa_callVi C lq_67 sh_67 rfl s_L_54 i_X9_is e_X9_is dL_law_545 (ok_X9_is h) rfl rfl (Nat.le_of_ble_eq_true rfl) (by rw [hd]; decide) (fun v63 g19 h => ?_)
        refine wa_icmp_eq C (tgt := 1348) dL_law_548 (by decide) h (fun h => ?_) (fun h => ?_)
        · exact WA.weak (hJ1348 _ h) ⟨rfl, ⟨rfl, ⟨rfl, ⟨rfl, trivial⟩⟩⟩⟩
        · refine wa_iconst C (v := 0) dL_law_551 (by decide) ?_
          exact wa_lret C hv dL_law_552 h
      refine fp_sw h (fun e9 h => ?_) (fun e9 h => ?_)
      · refine wa_tsIn C (tgt := 553) dL_law_33 e9 (by decide) (by decide) rfl (by decide) ?_
        refine wa_aload_n C (i := 1) dL_law_553 rfl rfl ?_
        refine wa_aload_n C (i := 0) dL_law_554 rfl rfl ?_
        refine wa_iload_n C (i := 3) dL_law_555 rfl rfl ?_
        refine wa_iconst C (v := 1) dL_law_556 (by decide) ?_
        refine wa_iadd C dL_law_557 ?_
        refine wa_sld C hv dL_law_558 h (fun v64 h => ?_)
        refine wa_aload_n C (i := 0) dL_law_559 rfl rfl ?_
        refine wa_iload_n C (i := 3) dL_law_560 rfl rfl ?_
        refine wa_iconst C (v := 2) dL_law_561 (by decide) ?_
        refine wa_iadd C dL_law_562 ?_
        refine wa_sld C hv dL_law_563 h (fun v65 h => ?_)
        refine wa_aload_n C (i := 0) dL_law_564 rfl rfl ?_
        refine wa_iload_n C (i := 3) dL_law_565 rfl rfl ?_
        refine wa_iconst C (v := 3) dL_law_566 (by decide) ?_
        refine wa_iadd C dL_law_567 ?_
        refine wa_sld C hv dL_law_568 h (fun v66 h => ?_)
        refine wa_callVi C lq_0 sh_0 rfl s_L_55 i_X8_list e_X8_list dL_law_569 (ok_X8_list h) rfl rfl (Nat.le_of_ble_eq_true rfl) (by rw [hd]; decide) (fun v67 g20 h => ?_)
        refine wa_aload_n C (i := 2) dL_law_572 rfl rfl ?_
        refine wa_aload_n C (i := 0) dL_law_573 rfl rfl ?_
        refine wa_iload_n C (i := 3) dL_law_574 rfl rfl ?_
        refine wa_iconst C (v := 1) dL_law_575 (by decide) ?_
        refine wa_iadd C dL_law_576 ?_
        refine wa_sld C hv dL_law_577 h (fun v68 h => ?_)
        refine wa_aload_n C (i := 0) dL_law_578 rfl rfl ?_
        refine wa_iload_n C (i := 3) dL_law_579 rfl rfl ?_
        refine wa_iconst C (v := 2) dL_law_580 (by decide) ?_
        refine wa_iadd C dL_law_581 ?_
        refine wa_sld C hv dL_law_582 h (fun v69 h => ?_)
        refine wa_aload_n C (i := 0) dL_law_583 rfl rfl ?_
        refine wa_iload_n C (i := 3) dL_law_584 rfl rfl ?_
        refine wa_iconst C (v := 3) dL_law_585 (by decide) ?_
        refine wa_iadd C dL_law_586 ?_
        refine wa_sld C hv dL_law_587 h (fun v70 h => ?_)
        refine wa_callVi C lq_67 sh_67 rfl s_L_58 i_X9_list e_X9_list dL_law_588 (ok_X9_list h) rfl rfl (Nat.le_of_ble_eq_true rfl) (by rw [hd]; decide) (fun v71 g21 h => ?_)
        refine wa_icmp_eq C (tgt := 1348) dL_law_591 (by decide) h (fun h => ?_) (fun h => ?_)
        · exact WA.weak (hJ1348 _ h) ⟨rfl, ⟨rfl, ⟨rfl, ⟨rfl, trivial⟩⟩⟩⟩
        · refine wa_iconst C (v := 0) dL_law_594 (by decide) ?_
          exact wa_lret C hv dL_law_595 h
      refine fp_sw h (fun e10 h => ?_) (fun e10 h => ?_)
      · refine wa_tsIn C (tgt := 596) dL_law_33 e10 (by decide) (by decide) rfl (by decide) ?_
        refine wa_aload_n C (i := 1) dL_law_596 rfl rfl ?_
        refine wa_aload_n C (i := 0) dL_law_597 rfl rfl ?_
        refine wa_iload_n C (i := 3) dL_law_598 rfl rfl ?_
        refine wa_iconst C (v := 1) dL_law_599 (by decide) ?_
        refine wa_iadd C dL_law_600 ?_
        refine wa_sld C hv dL_law_601 h (fun v72 h => ?_)
        refine wa_aload_n C (i := 0) dL_law_602 rfl rfl ?_
        refine wa_iload_n C (i := 3) dL_law_603 rfl rfl ?_
        refine wa_iconst C (v := 2) dL_law_604 (by decide) ?_
        refine wa_iadd C dL_law_605 ?_
        refine wa_sld C hv dL_law_606 h (fun v73 h => ?_)
        refine wa_callVi C lq_0 sh_0 rfl s_L_59 i_X8_man e_X8_man dL_law_607 (ok_X8_man h) rfl rfl (Nat.le_of_ble_eq_true rfl) (by rw [hd]; decide) (fun v74 g22 h => ?_)
        refine wa_aload_n C (i := 2) dL_law_610 rfl rfl ?_
        refine wa_aload_n C (i := 0) dL_law_611 rfl rfl ?_
        refine wa_iload_n C (i := 3) dL_law_612 rfl rfl ?_
        refine wa_iconst C (v := 1) dL_law_613 (by decide) ?_
        refine wa_iadd C dL_law_614 ?_
        refine wa_sld C hv dL_law_615 h (fun v75 h => ?_)
        refine wa_aload_n C (i := 0) dL_law_616 rfl rfl ?_
        refine wa_iload_n C (i := 3) dL_law_617 rfl rfl ?_
        refine wa_iconst C (v := 2) dL_law_618 (by decide) ?_
        refine wa_iadd C dL_law_619 ?_
        refine wa_sld C hv dL_law_620 h (fun v76 h => ?_)
        refine wa_callVi C lq_67 sh_67 rfl s_L_62 i_X9_man e_X9_man dL_law_621 (ok_X9_man h) rfl rfl (Nat.le_of_ble_eq_true rfl) (by rw [hd]; decide) (fun v77 g23 h => ?_)
        refine wa_icmp_eq C (tgt := 1348) dL_law_624 (by decide) h (fun h => ?_) (fun h => ?_)
        · exact WA.weak (hJ1348 _ h) ⟨rfl, ⟨rfl, ⟨rfl, ⟨rfl, trivial⟩⟩⟩⟩
        · refine wa_iconst C (v := 0) dL_law_627 (by decide) ?_
          exact wa_lret C hv dL_law_628 h
      refine fp_sw h (fun e11 h => ?_) (fun e11 h => ?_)
      · refine wa_tsIn C (tgt := 629) dL_law_33 e11 (by decide) (by decide) rfl (by decide) ?_
        refine wa_aload_n C (i := 1) dL_law_629 rfl rfl ?_
        refine wa_aload_n C (i := 0) dL_law_630 rfl rfl ?_
        refine wa_iload_n C (i := 3) dL_law_631 rfl rfl ?_
        refine wa_iconst C (v := 1) dL_law_632 (by decide) ?_
        refine wa_iadd C dL_law_633 ?_
        refine wa_sld C hv dL_law_634 h (fun v78 h => ?_)
        refine wa_aload_n C (i := 0) dL_law_635 rfl rfl ?_
        refine wa_iload_n C (i := 3) dL_law_636 rfl rfl ?_
        refine wa_iconst C (v := 2) dL_law_637 (by decide) ?_
        refine wa_iadd C dL_law_638 ?_
        refine wa_sld C hv dL_law_639 h (fun v79 h => ?_)
        refine wa_aload_n C (i := 0) dL_law_640 rfl rfl ?_
        refine wa_iload_n C (i := 3) dL_law_641 rfl rfl ?_
        refine wa_iconst C (v := 3) dL_law_642 (by decide) ?_
        refine wa_iadd C dL_law_643 ?_
        refine wa_sld C hv dL_law_644 h (fun v80 h => ?_)
        refine wa_callVi C lq_0 sh_0 rfl s_L_63 i_X8_state e_X8_state dL_law_645 (ok_X8_state h) rfl rfl (Nat.le_of_ble_eq_true rfl) (by rw [hd]; decide) (fun v81 g24 h => ?_)
        refine wa_aload_n C (i := 2) dL_law_648 rfl rfl ?_
        refine wa_aload_n C (i := 0) dL_law_649 rfl rfl ?_
        refine wa_iload_n C (i := 3) dL_law_650 rfl rfl ?_
        refine wa_iconst C (v := 1) dL_law_651 (by decide) ?_
        refine wa_iadd C dL_law_652 ?_
        refine wa_sld C hv dL_law_653 h (fun v82 h => ?_)
        refine wa_aload_n C (i := 0) dL_law_654 rfl rfl ?_
        refine wa_iload_n C (i := 3) dL_law_655 rfl rfl ?_
        refine wa_iconst C (v := 2) dL_law_656 (by decide) ?_
        refine wa_iadd C dL_law_657 ?_
        refine wa_sld C hv dL_law_658 h (fun v83 h => ?_)
        refine wa_aload_n C (i := 0) dL_law_659 rfl rfl ?_
        refine wa_iload_n C (i := 3) dL_law_660 rfl rfl ?_
        refine wa_iconst C (v := 3) dL_law_661 (by decide) ?_
        refine wa_iadd C dL_law_662 ?_
        refine wa_sld C hv dL_law_663 h (fun v84 h => ?_)
        refine wa_callVi C lq_67 sh_67 rfl s_L_66 i_X9_state e_X9_state dL_law_664 (ok_X9_state h) rfl rfl (Nat.le_of_ble_eq_true rfl) (by rw [hd]; decide) (fun v85 g25 h => ?_)
        refine wa_icmp_eq C (tgt := 1348) dL_law_667 (by decide) h (fun h => ?_) (fun h => ?_)
        · exact WA.weak (hJ1348 _ h) ⟨rfl, ⟨rfl, ⟨rfl, ⟨rfl, trivial⟩⟩⟩⟩
        · refine wa_iconst C (v := 0) dL_law_670 (by decide) ?_
          exact wa_lret C hv dL_law_671 h
      refine fp_sw h (fun e12 h => ?_) (fun e12 h => ?_)
      · refine wa_tsIn C (tgt := 672) dL_law_33 e12 (by decide) (by decide) rfl (by decide) ?_
        refine wa_aload_n C (i := 1) dL_law_672 rfl rfl ?_
        refine wa_aload_n C (i := 0) dL_law_673 rfl rfl ?_
        refine wa_iload_n C (i := 3) dL_law_674 rfl rfl ?_
        refine wa_iconst C (v := 1) dL_law_675 (by decide) ?_
        refine wa_iadd C dL_law_676 ?_
        refine wa_sld C hv dL_law_677 h (fun v86 h => ?_)
        refine wa_aload_n C (i := 0) dL_law_678 rfl rfl ?_
        refine wa_iload_n C (i := 3) dL_law_679 rfl rfl ?_
        refine wa_iconst C (v := 2) dL_law_680 (by decide) ?_
        refine wa_iadd C dL_law_681 ?_
        refine wa_sld C hv dL_law_682 h (fun v87 h => ?_)
        refine wa_aload_n C (i := 0) dL_law_683 rfl rfl ?_
        refine wa_iload_n C (i := 3) dL_law_684 rfl rfl ?_
        refine wa_iconst C (v := 3) dL_law_685 (by decide) ?_
        refine wa_iadd C dL_law_686 ?_
        refine wa_sld C hv dL_law_687 h (fun v88 h => ?_)
        refine wa_callVi C lq_0 sh_0 rfl s_L_67 i_X8_stateOf e_X8_stateOf dL_law_688 (ok_X8_stateOf h) rfl rfl (Nat.le_of_ble_eq_true rfl) (by rw [hd]; decide) (fun v89 g26 h => ?_)
        refine wa_aload_n C (i := 2) dL_law_691 rfl rfl ?_
        refine wa_aload_n C (i := 0) dL_law_692 rfl rfl ?_
        refine wa_iload_n C (i := 3) dL_law_693 rfl rfl ?_
        refine wa_iconst C (v := 1) dL_law_694 (by decide) ?_
        refine wa_iadd C dL_law_695 ?_
        refine wa_sld C hv dL_law_696 h (fun v90 h => ?_)
        refine wa_aload_n C (i := 0) dL_law_697 rfl rfl ?_
        refine wa_iload_n C (i := 3) dL_law_698 rfl rfl ?_
        refine wa_iconst C (v := 2) dL_law_699 (by decide) ?_
        refine wa_iadd C dL_law_700 ?_
        refine wa_sld C hv dL_law_701 h (fun v91 h => ?_)
        refine wa_aload_n C (i := 0) dL_law_702 rfl rfl ?_
        refine wa_iload_n C (i := 3) dL_law_703 rfl rfl ?_
        refine wa_iconst C (v := 3) dL_law_704 (by decide) ?_
        refine wa_iadd C dL_law_705 ?_
        refine wa_sld C hv dL_law_706 h (fun v92 h => ?_)
        refine wa_callVi C lq_67 sh_67 rfl s_L_70 i_X9_stateOf e_X9_stateOf dL_law_707 (ok_X9_stateOf h) rfl rfl (Nat.le_of_ble_eq_true rfl) (by rw [hd]; decide) (fun v93 g27 h => ?_)
        refine wa_icmp_eq C (tgt := 1348) dL_law_710 (by decide) h (fun h => ?_) (fun h => ?_)
        · exact WA.weak (hJ1348 _ h) ⟨rfl, ⟨rfl, ⟨rfl, ⟨rfl, trivial⟩⟩⟩⟩
        · refine wa_iconst C (v := 0) dL_law_713 (by decide) ?_
          exact wa_lret C hv dL_law_714 h
      refine fp_sw h (fun e13 h => ?_) (fun e13 h => ?_)
      · refine wa_tsIn C (tgt := 715) dL_law_33 e13 (by decide) (by decide) rfl (by decide) ?_
        refine wa_aload_n C (i := 1) dL_law_715 rfl rfl ?_
        refine wa_aload_n C (i := 0) dL_law_716 rfl rfl ?_
        refine wa_iload_n C (i := 3) dL_law_717 rfl rfl ?_
        refine wa_iconst C (v := 1) dL_law_718 (by decide) ?_
        refine wa_iadd C dL_law_719 ?_
        refine wa_sld C hv dL_law_720 h (fun v94 h => ?_)
        refine wa_callVi C lq_0 sh_0 rfl s_L_71 i_X8_manAt e_X8_manAt dL_law_721 (ok_X8_manAt h) rfl rfl (Nat.le_of_ble_eq_true rfl) (by rw [hd]; decide) (fun v95 g28 h => ?_)
        refine wa_aload_n C (i := 2) dL_law_724 rfl rfl ?_
        refine wa_aload_n C (i := 0) dL_law_725 rfl rfl ?_
        refine wa_iload_n C (i := 3) dL_law_726 rfl rfl ?_
        refine wa_iconst C (v := 1) dL_law_727 (by decide) ?_
        refine wa_iadd C dL_law_728 ?_
        refine wa_sld C hv dL_law_729 h (fun v96 h => ?_)
        refine wa_callVi C lq_67 sh_67 rfl s_L_74 i_X9_manAt e_X9_manAt dL_law_730 (ok_X9_manAt h) rfl rfl (Nat.le_of_ble_eq_true rfl) (by rw [hd]; decide) (fun v97 g29 h => ?_)
        refine wa_icmp_eq C (tgt := 1348) dL_law_733 (by decide) h (fun h => ?_) (fun h => ?_)
        · exact WA.weak (hJ1348 _ h) ⟨rfl, ⟨rfl, ⟨rfl, ⟨rfl, trivial⟩⟩⟩⟩
        · refine wa_iconst C (v := 0) dL_law_736 (by decide) ?_
          exact wa_lret C hv dL_law_737 h
      refine fp_sw h (fun e14 h => ?_) (fun e14 h => ?_)
      · refine wa_tsIn C (tgt := 738) dL_law_33 e14 (by decide) (by decide) rfl (by decide) ?_
        refine wa_aload_n C (i := 1) dL_law_738 rfl rfl ?_
        refine wa_aload_n C (i := 0) dL_law_739 rfl rfl ?_
        refine wa_iload_n C (i := 3) dL_law_740 rfl rfl ?_
        refine wa_iconst C (v := 1) dL_law_741 (by decide) ?_
        refine wa_iadd C dL_law_742 ?_
        refine wa_sld C hv dL_law_743 h (fun v98 h => ?_)
        refine wa_aload_n C (i := 0) dL_law_744 rfl rfl ?_
        refine wa_iload_n C (i := 3) dL_law_745 rfl rfl ?_
        refine wa_iconst C (v := 2) dL_law_746 (by decide) ?_
        refine wa_iadd C dL_law_747 ?_
        refine wa_sld C hv dL_law_748 h (fun v99 h => ?_)
        refine wa_aload_n C (i := 0) dL_law_749 rfl rfl ?_
        refine wa_iload_n C (i := 3) dL_law_750 rfl rfl ?_
        refine wa_iconst C (v := 3) dL_law_751 (by decide) ?_
        refine wa_iadd C dL_law_752 ?_
        refine wa_sld C hv dL_law_753 h (fun v100 h => ?_)
        refine wa_aload_n C (i := 0) dL_law_754 rfl rfl ?_
        refine wa_iload_n C (i := 3) dL_law_755 rfl rfl ?_
        refine wa_iconst C (v := 4) dL_law_756 (by decide) ?_
        refine wa_iadd C dL_law_757 ?_
        refine wa_sld C hv dL_law_758 h (fun v101 h => ?_)
        refine wa_callVi C lq_0 sh_0 rfl s_L_75 i_X8_mail e_X8_mail dL_law_759 (ok_X8_mail h) rfl rfl (Nat.le_of_ble_eq_true rfl) (by rw [hd]; decide) (fun v102 g30 h => ?_)
        refine wa_aload_n C (i := 2) dL_law_762 rfl rfl ?_
        refine wa_aload_n C (i := 0) dL_law_763 rfl rfl ?_
        refine wa_iload_n C (i := 3) dL_law_764 rfl rfl ?_
        refine wa_iconst C (v := 1) dL_law_765 (by decide) ?_
        refine wa_iadd C dL_law_766 ?_
        refine wa_sld C hv dL_law_767 h (fun v103 h => ?_)
        refine wa_aload_n C (i := 0) dL_law_768 rfl rfl ?_
        refine wa_iload_n C (i := 3) dL_law_769 rfl rfl ?_
        refine wa_iconst C (v := 2) dL_law_770 (by decide) ?_
        refine wa_iadd C dL_law_771 ?_
        refine wa_sld C hv dL_law_772 h (fun v104 h => ?_)
        refine wa_aload_n C (i := 0) dL_law_773 rfl rfl ?_
        refine wa_iload_n C (i := 3) dL_law_774 rfl rfl ?_
        refine wa_iconst C (v := 3) dL_law_775 (by decide) ?_
        refine wa_iadd C dL_law_776 ?_
        refine wa_sld C hv dL_law_777 h (fun v105 h => ?_)
        refine wa_aload_n C (i := 0) dL_law_778 rfl rfl ?_
        refine wa_iload_n C (i := 3) dL_law_779 rfl rfl ?_
        refine wa_iconst C (v := 4) dL_law_780 (by decide) ?_
        refine wa_iadd C dL_law_781 ?_
        refine wa_sld C hv dL_law_782 h (fun v106 h => ?_)
        refine wa_callVi C lq_67 sh_67 rfl s_L_79 i_X9_mail e_X9_mail dL_law_783 (ok_X9_mail h) rfl rfl (Nat.le_of_ble_eq_true rfl) (by rw [hd]; decide) (fun v107 g31 h => ?_)
        refine wa_icmp_eq C (tgt := 1348) dL_law_786 (by decide) h (fun h => ?_) (fun h => ?_)
        · exact WA.weak (hJ1348 _ h) ⟨rfl, ⟨rfl, ⟨rfl, ⟨rfl, trivial⟩⟩⟩⟩
        · refine wa_iconst C (v := 0) dL_law_789 (by decide) ?_
          exact wa_lret C hv dL_law_790 h
      refine fp_sw h (fun e15 h => ?_) (fun e15 h => ?_)
      · refine wa_tsIn C (tgt := 791) dL_law_33 e15 (by decide) (by decide) rfl (by decide) ?_
        refine wa_aload_n C (i := 1) dL_law_791 rfl rfl ?_
        refine wa_aload_n C (i := 0) dL_law_792 rfl rfl ?_
        refine wa_iload_n C (i := 3) dL_law_793 rfl rfl ?_
        refine wa_iconst C (v := 1) dL_law_794 (by decide) ?_
        refine wa_iadd C dL_law_795 ?_
        refine wa_sld C hv dL_law_796 h (fun v108 h => ?_)
        refine wa_aload_n C (i := 0) dL_law_797 rfl rfl ?_
        refine wa_iload_n C (i := 3) dL_law_798 rfl rfl ?_
        refine wa_iconst C (v := 2) dL_law_799 (by decide) ?_
        refine wa_iadd C dL_law_800 ?_
        refine wa_sld C hv dL_law_801 h (fun v109 h => ?_)
        refine wa_i2l C dL_law_802 ?_
        refine wa_bipush C (v := 32) dL_law_803 (by decide) ?_
        refine wa_lshl C dL_law_805 ?_
        refine wa_aload_n C (i := 0) dL_law_806 rfl rfl ?_
        refine wa_iload_n C (i := 3) dL_law_807 rfl rfl ?_
        refine wa_iconst C (v := 3) dL_law_808 (by decide) ?_
        refine wa_iadd C dL_law_809 ?_
        refine wa_sld C hv dL_law_810 h (fun v110 h => ?_)
        refine wa_i2l C dL_law_811 ?_
        refine wa_ldc2 C (v := 4294967295) k_L_80 dL_law_812 ?_
        refine wa_land C dL_law_815 ?_
        refine wa_lor C dL_law_816 ?_
        refine wa_callVi C lq_0 sh_0 rfl s_L_82 i_X8_feed e_X8_feed dL_law_817 (ok_X8_feed h) rfl rfl (Nat.le_of_ble_eq_true rfl) (by rw [hd]; decide) (fun v111 g32 h => ?_)
        refine wa_aload_n C (i := 2) dL_law_820 rfl rfl ?_
        refine wa_aload_n C (i := 0) dL_law_821 rfl rfl ?_
        refine wa_iload_n C (i := 3) dL_law_822 rfl rfl ?_
        refine wa_iconst C (v := 1) dL_law_823 (by decide) ?_
        refine wa_iadd C dL_law_824 ?_
        refine wa_sld C hv dL_law_825 h (fun v112 h => ?_)
        refine wa_aload_n C (i := 0) dL_law_826 rfl rfl ?_
        refine wa_iload_n C (i := 3) dL_law_827 rfl rfl ?_
        refine wa_iconst C (v := 2) dL_law_828 (by decide) ?_
        refine wa_iadd C dL_law_829 ?_
        refine wa_sld C hv dL_law_830 h (fun v113 h => ?_)
        refine wa_i2l C dL_law_831 ?_
        refine wa_bipush C (v := 32) dL_law_832 (by decide) ?_
        refine wa_lshl C dL_law_834 ?_
        refine wa_aload_n C (i := 0) dL_law_835 rfl rfl ?_
        refine wa_iload_n C (i := 3) dL_law_836 rfl rfl ?_
        refine wa_iconst C (v := 3) dL_law_837 (by decide) ?_
        refine wa_iadd C dL_law_838 ?_
        refine wa_sld C hv dL_law_839 h (fun v114 h => ?_)
        refine wa_i2l C dL_law_840 ?_
        refine wa_ldc2 C (v := 4294967295) k_L_80 dL_law_841 ?_
        refine wa_land C dL_law_844 ?_
        refine wa_lor C dL_law_845 ?_
        refine wa_callVi C lq_67 sh_67 rfl s_L_86 i_X9_feed e_X9_feed dL_law_846 (ok_X9_feed h) rfl rfl (Nat.le_of_ble_eq_true rfl) (by rw [hd]; decide) (fun v115 g33 h => ?_)
        refine wa_icmp_eq C (tgt := 1348) dL_law_849 (by decide) h (fun h => ?_) (fun h => ?_)
        · exact WA.weak (hJ1348 _ h) ⟨rfl, ⟨rfl, ⟨rfl, ⟨rfl, trivial⟩⟩⟩⟩
        · refine wa_iconst C (v := 0) dL_law_852 (by decide) ?_
          exact wa_lret C hv dL_law_853 h
      refine fp_sw h (fun e16 h => ?_) (fun e16 h => ?_)
      · refine wa_tsIn C (tgt := 854) dL_law_33 e16 (by decide) (by decide) rfl (by decide) ?_
        refine wa_aload_n C (i := 1) dL_law_854 rfl rfl ?_
        refine wa_aload_n C (i := 0) dL_law_855 rfl rfl ?_
        refine wa_iload_n C (i := 3) dL_law_856 rfl rfl ?_
        refine wa_iconst C (v := 1) dL_law_857 (by decide) ?_
        refine wa_iadd C dL_law_858 ?_
        refine wa_sld C hv dL_law_859 h (fun v116 h => ?_)
        refine wa_callVi C lq_0 sh_0 rfl s_L_87 i_X8_order e_X8_order dL_law_860 (ok_X8_order h) rfl rfl (Nat.le_of_ble_eq_true rfl) (by rw [hd]; decide) (fun v117 g34 h => ?_)
        refine wa_aload_n C (i := 2) dL_law_863 rfl rfl ?_
        refine wa_aload_n C (i := 0) dL_law_864 rfl rfl ?_
        refine wa_iload_n C (i := 3) dL_law_865 rfl rfl ?_
        refine wa_iconst C (v := 1) dL_law_866 (by decide) ?_
        refine wa_iadd C dL_law_867 ?_
        refine wa_sld C hv dL_law_868 h (fun v118 h => ?_)
        refine wa_callVi C lq_67 sh_67 rfl s_L_90 i_X9_order e_X9_order dL_law_869 (ok_X9_order h) rfl rfl (Nat.le_of_ble_eq_true rfl) (by rw [hd]; decide) (fun v119 g35 h => ?_)
        refine wa_icmp_eq C (tgt := 1348) dL_law_872 (by decide) h (fun h => ?_) (fun h => ?_)
        · exact WA.weak (hJ1348 _ h) ⟨rfl, ⟨rfl, ⟨rfl, ⟨rfl, trivial⟩⟩⟩⟩
        · refine wa_iconst C (v := 0) dL_law_875 (by decide) ?_
          exact wa_lret C hv dL_law_876 h
      refine fp_sw h (fun e17 h => ?_) (fun e17 h => ?_)
      · refine wa_tsIn C (tgt := 877) dL_law_33 e17 (by decide) (by decide) rfl (by decide) ?_
        refine wa_aload_n C (i := 1) dL_law_877 rfl rfl ?_
        refine wa_aload_n C (i := 0) dL_law_878 rfl rfl ?_
        refine wa_iload_n C (i := 3) dL_law_879 rfl rfl ?_
        refine wa_iconst C (v := 1) dL_law_880 (by decide) ?_
        refine wa_iadd C dL_law_881 ?_
        refine wa_sld C hv dL_law_882 h (fun v120 h => ?_)
        refine wa_aload_n C (i := 0) dL_law_883 rfl rfl ?_
        refine wa_iload_n C (i := 3) dL_law_884 rfl rfl ?_
        refine wa_iconst C (v := 2) dL_law_885 (by decide) ?_
        refine wa_iadd C dL_law_886 ?_
        refine wa_sld C hv dL_law_887 h (fun v121 h => ?_)
        refine wa_callVi C lq_0 sh_0 rfl s_L_91 i_X8_holds e_X8_holds dL_law_888 (ok_X8_holds h) rfl rfl (Nat.le_of_ble_eq_true rfl) (by rw [hd]; decide) (fun v122 g36 h => ?_)
        refine wa_aload_n C (i := 2) dL_law_891 rfl rfl ?_
        refine wa_aload_n C (i := 0) dL_law_892 rfl rfl ?_
        refine wa_iload_n C (i := 3) dL_law_893 rfl rfl ?_
        refine wa_iconst C (v := 1) dL_law_894 (by decide) ?_
        refine wa_iadd C dL_law_895 ?_
        refine wa_sld C hv dL_law_896 h (fun v123 h => ?_)
        refine wa_aload_n C (i := 0) dL_law_897 rfl rfl ?_
        refine wa_iload_n C (i := 3) dL_law_898 rfl rfl ?_
        refine wa_iconst C (v := 2) dL_law_899 (by decide) ?_
        refine wa_iadd C dL_law_900 ?_
        refine wa_sld C hv dL_law_901 h (fun v124 h => ?_)
        refine wa_callVi C lq_67 sh_67 rfl s_L_94 i_X9_holds e_X9_holds dL_law_902 (ok_X9_holds h) rfl rfl (Nat.le_of_ble_eq_true rfl) (by rw [hd]; decide) (fun v125 g37 h => ?_)
        refine wa_icmp_eq C (tgt := 1348) dL_law_905 (by decide) h (fun h => ?_) (fun h => ?_)
        · exact WA.weak (hJ1348 _ h) ⟨rfl, ⟨rfl, ⟨rfl, ⟨rfl, trivial⟩⟩⟩⟩
        · refine wa_iconst C (v := 0) dL_law_908 (by decide) ?_
          exact wa_lret C hv dL_law_909 h
      refine fp_sw h (fun e18 h => ?_) (fun e18 h => ?_)
      · refine wa_tsIn C (tgt := 910) dL_law_33 e18 (by decide) (by decide) rfl (by decide) ?_
        refine wa_aload_n C (i := 1) dL_law_910 rfl rfl ?_
        refine wa_aload_n C (i := 0) dL_law_911 rfl rfl ?_
        refine wa_iload_n C (i := 3) dL_law_912 rfl rfl ?_
        refine wa_iconst C (v := 1) dL_law_913 (by decide) ?_
        refine wa_iadd C dL_law_914 ?_
        refine wa_sld C hv dL_law_915 h (fun v126 h => ?_)
        refine wa_callVi C lq_0 sh_0 rfl s_L_95 i_X8_keep e_X8_keep dL_law_916 (ok_X8_keep h) rfl rfl (Nat.le_of_ble_eq_true rfl) (by rw [hd]; decide) (fun v127 g38 h => ?_)
        refine wa_aload_n C (i := 2) dL_law_919 rfl rfl ?_
        refine wa_aload_n C (i := 0) dL_law_920 rfl rfl ?_
        refine wa_iload_n C (i := 3) dL_law_921 rfl rfl ?_
        refine wa_iconst C (v := 1) dL_law_922 (by decide) ?_
        refine wa_iadd C dL_law_923 ?_
        refine wa_sld C hv dL_law_924 h (fun v128 h => ?_)
        refine wa_callVi C lq_67 sh_67 rfl s_L_98 i_X9_keep e_X9_keep dL_law_925 (ok_X9_keep h) rfl rfl (Nat.le_of_ble_eq_true rfl) (by rw [hd]; decide) (fun v129 g39 h => ?_)
        refine wa_icmp_eq C (tgt := 1348) dL_law_928 (by decide) h (fun h => ?_) (fun h => ?_)
        · exact WA.weak (hJ1348 _ h) ⟨rfl, ⟨rfl, ⟨rfl, ⟨rfl, trivial⟩⟩⟩⟩
        · refine wa_iconst C (v := 0) dL_law_931 (by decide) ?_
          exact wa_lret C hv dL_law_932 h
      refine fp_sw h (fun e19 h => ?_) (fun e19 h => ?_)
      · refine wa_tsIn C (tgt := 933) dL_law_33 e19 (by decide) (by decide) rfl (by decide) ?_
        refine wa_aload_n C (i := 1) dL_law_933 rfl rfl ?_
        refine wa_aload_n C (i := 0) dL_law_934 rfl rfl ?_
        refine wa_iload_n C (i := 3) dL_law_935 rfl rfl ?_
        refine wa_iconst C (v := 1) dL_law_936 (by decide) ?_
        refine wa_iadd C dL_law_937 ?_
        refine wa_sld C hv dL_law_938 h (fun v130 h => ?_)
        refine wa_aload_n C (i := 0) dL_law_939 rfl rfl ?_
        refine wa_iload_n C (i := 3) dL_law_940 rfl rfl ?_
        refine wa_iconst C (v := 2) dL_law_941 (by decide) ?_
        refine wa_iadd C dL_law_942 ?_
        refine wa_sld C hv dL_law_943 h (fun v131 h => ?_)
        refine wa_callVi C lq_0 sh_0 rfl s_L_99 i_X8_mailOf e_X8_mailOf dL_law_944 (ok_X8_mailOf h) rfl rfl (Nat.le_of_ble_eq_true rfl) (by rw [hd]; decide) (fun v132 g40 h => ?_)
        refine wa_aload_n C (i := 2) dL_law_947 rfl rfl ?_
        refine wa_aload_n C (i := 0) dL_law_948 rfl rfl ?_
        refine wa_iload_n C (i := 3) dL_law_949 rfl rfl ?_
        refine wa_iconst C (v := 1) dL_law_950 (by decide) ?_
        refine wa_iadd C dL_law_951 ?_
        refine wa_sld C hv dL_law_952 h (fun v133 h => ?_)
        refine wa_aload_n C (i := 0) dL_law_953 rfl rfl ?_
        refine wa_iload_n C (i := 3) dL_law_954 rfl rfl ?_
        refine wa_iconst C (v := 2) dL_law_955 (by decide) ?_
        refine wa_iadd C dL_law_956 ?_
        refine wa_sld C hv dL_law_957 h (fun v134 h => ?_)
        refine wa_callVi C lq_67 sh_67 rfl s_L_102 i_X9_mailOf e_X9_mailOf dL_law_958 (ok_X9_mailOf h) rfl rfl (Nat.le_of_ble_eq_true rfl) (by rw [hd]; decide) (fun v135 g41 h => ?_)
        refine wa_icmp_eq C (tgt := 1348) dL_law_961 (by decide) h (fun h => ?_) (fun h => ?_)
        · exact WA.weak (hJ1348 _ h) ⟨rfl, ⟨rfl, ⟨rfl, ⟨rfl, trivial⟩⟩⟩⟩
        · refine wa_iconst C (v := 0) dL_law_964 (by decide) ?_
          exact wa_lret C hv dL_law_965 h
      refine fp_sw h (fun e20 h => ?_) (fun e20 h => ?_)
      · refine wa_tsIn C (tgt := 966) dL_law_33 e20 (by decide) (by decide) rfl (by decide) ?_
        refine wa_aload_n C (i := 1) dL_law_966 rfl rfl ?_
        refine wa_aload_n C (i := 0) dL_law_967 rfl rfl ?_
        refine wa_iload_n C (i := 3) dL_law_968 rfl rfl ?_
        refine wa_iconst C (v := 1) dL_law_969 (by decide) ?_
        refine wa_iadd C dL_law_970 ?_
        refine wa_sld C hv dL_law_971 h (fun v136 h => ?_)
        refine wa_callVi C lq_0 sh_0 rfl s_L_103 i_X8_goal e_X8_goal dL_law_972 (ok_X8_goal h) rfl rfl (Nat.le_of_ble_eq_true rfl) (by rw [hd]; decide) (fun v137 g42 h => ?_)
        refine wa_aload_n C (i := 2) dL_law_975 rfl rfl ?_
        refine wa_aload_n C (i := 0) dL_law_976 rfl rfl ?_
        refine wa_iload_n C (i := 3) dL_law_977 rfl rfl ?_
        refine wa_iconst C (v := 1) dL_law_978 (by decide) ?_
        refine wa_iadd C dL_law_979 ?_
        refine wa_sld C hv dL_law_980 h (fun v138 h => ?_)
        refine wa_callVi C lq_67 sh_67 rfl s_L_106 i_X9_goal e_X9_goal dL_law_981 (ok_X9_goal h) rfl rfl (Nat.le_of_ble_eq_true rfl) (by rw [hd]; decide) (fun v139 g43 h => ?_)
        refine wa_icmp_eq C (tgt := 1348) dL_law_984 (by decide) h (fun h => ?_) (fun h => ?_)
        · exact WA.weak (hJ1348 _ h) ⟨rfl, ⟨rfl, ⟨rfl, ⟨rfl, trivial⟩⟩⟩⟩
        · refine wa_iconst C (v := 0) dL_law_987 (by decide) ?_
          exact wa_lret C hv dL_law_988 h
      refine fp_sw h (fun e21 h => ?_) (fun e21 h => ?_)
      · refine wa_tsIn C (tgt := 989) dL_law_33 e21 (by decide) (by decide) rfl (by decide) ?_
        refine wa_aload_n C (i := 1) dL_law_989 rfl rfl ?_
        refine wa_aload_n C (i := 0) dL_law_990 rfl rfl ?_
        refine wa_iload_n C (i := 3) dL_law_991 rfl rfl ?_
        refine wa_iconst C (v := 1) dL_law_992 (by decide) ?_
        refine wa_iadd C dL_law_993 ?_
        refine wa_sld C hv dL_law_994 h (fun v140 h => ?_)
        refine wa_callVi C lq_0 sh_0 rfl s_L_107 i_X8_next e_X8_next dL_law_995 (ok_X8_next h) rfl rfl (Nat.le_of_ble_eq_true rfl) (by rw [hd]; decide) (fun v141 g44 h => ?_)
        refine wa_aload_n C (i := 2) dL_law_998 rfl rfl ?_
        refine wa_aload_n C (i := 0) dL_law_999 rfl rfl ?_
        refine wa_iload_n C (i := 3) dL_law_1000 rfl rfl ?_
        refine wa_iconst C (v := 1) dL_law_1001 (by decide) ?_
        refine wa_iadd C dL_law_1002 ?_
        refine wa_sld C hv dL_law_1003 h (fun v142 h => ?_)
        refine wa_callVi C lq_67 sh_67 rfl s_L_110 i_X9_next e_X9_next dL_law_1004 (ok_X9_next h) rfl rfl (Nat.le_of_ble_eq_true rfl) (by rw [hd]; decide) (fun v143 g45 h => ?_)
        refine wa_icmp_eq C (tgt := 1348) dL_law_1007 (by decide) h (fun h => ?_) (fun h => ?_)
        · exact WA.weak (hJ1348 _ h) ⟨rfl, ⟨rfl, ⟨rfl, ⟨rfl, trivial⟩⟩⟩⟩
        · refine wa_iconst C (v := 0) dL_law_1010 (by decide) ?_
          exact wa_lret C hv dL_law_1011 h
      refine fp_sw h (fun e22 h => ?_) (fun e22 h => ?_)
      · refine wa_tsIn C (tgt := 1012) dL_law_33 e22 (by decide) (by decide) rfl (by decide) ?_
        refine wa_aload_n C (i := 1) dL_law_1012 rfl rfl ?_
        refine wa_aload_n C (i := 0) dL_law_1013 rfl rfl ?_
        refine wa_iload_n C (i := 3) dL_law_1014 rfl rfl ?_
        refine wa_iconst C (v := 1) dL_law_1015 (by decide) ?_
        refine wa_iadd C dL_law_1016 ?_
        refine wa_sld C hv dL_law_1017 h (fun v144 h => ?_)
        refine wa_aload_n C (i := 0) dL_law_1018 rfl rfl ?_
        refine wa_iload_n C (i := 3) dL_law_1019 rfl rfl ?_
        refine wa_iconst C (v := 2) dL_law_1020 (by decide) ?_
        refine wa_iadd C dL_law_1021 ?_
        refine wa_sld C hv dL_law_1022 h (fun v145 h => ?_)
        refine wa_callVi C lq_0 sh_0 rfl s_L_111 i_X8_trace e_X8_trace dL_law_1023 (ok_X8_trace h) rfl rfl (Nat.le_of_ble_eq_true rfl) (by rw [hd]; decide) (fun v146 g46 h => ?_)
        refine wa_aload_n C (i := 2) dL_law_1026 rfl rfl ?_
        refine wa_aload_n C (i := 0) dL_law_1027 rfl rfl ?_
        refine wa_iload_n C (i := 3) dL_law_1028 rfl rfl ?_
        refine wa_iconst C (v := 1) dL_law_1029 (by decide) ?_
        refine wa_iadd C dL_law_1030 ?_
        refine wa_sld C hv dL_law_1031 h (fun v147 h => ?_)
        refine wa_aload_n C (i := 0) dL_law_1032 rfl rfl ?_
        refine wa_iload_n C (i := 3) dL_law_1033 rfl rfl ?_
        refine wa_iconst C (v := 2) dL_law_1034 (by decide) ?_
        refine wa_iadd C dL_law_1035 ?_
        refine wa_sld C hv dL_law_1036 h (fun v148 h => ?_)
        refine wa_callVi C lq_67 sh_67 rfl s_L_114 i_X9_trace e_X9_trace dL_law_1037 (ok_X9_trace h) rfl rfl (Nat.le_of_ble_eq_true rfl) (by rw [hd]; decide) (fun v149 g47 h => ?_)
        refine wa_icmp_eq C (tgt := 1348) dL_law_1040 (by decide) h (fun h => ?_) (fun h => ?_)
        · exact WA.weak (hJ1348 _ h) ⟨rfl, ⟨rfl, ⟨rfl, ⟨rfl, trivial⟩⟩⟩⟩
        · refine wa_iconst C (v := 0) dL_law_1043 (by decide) ?_
          exact wa_lret C hv dL_law_1044 h
      refine fp_sw h (fun e23 h => ?_) (fun e23 h => ?_)
      · refine wa_tsIn C (tgt := 1045) dL_law_33 e23 (by decide) (by decide) rfl (by decide) ?_
        refine wa_aload_n C (i := 1) dL_law_1045 rfl rfl ?_
        refine wa_aload_n C (i := 0) dL_law_1046 rfl rfl ?_
        refine wa_iload_n C (i := 3) dL_law_1047 rfl rfl ?_
        refine wa_iconst C (v := 1) dL_law_1048 (by decide) ?_
        refine wa_iadd C dL_law_1049 ?_
        refine wa_sld C hv dL_law_1050 h (fun v150 h => ?_)
        refine wa_callVi C lq_0 sh_0 rfl s_L_115 i_X8_fro e_X8_fro dL_law_1051 (ok_X8_fro h) rfl rfl (Nat.le_of_ble_eq_true rfl) (by rw [hd]; decide) (fun v151 g48 h => ?_)
        refine wa_aload_n C (i := 2) dL_law_1054 rfl rfl ?_
        refine wa_aload_n C (i := 0) dL_law_1055 rfl rfl ?_
        refine wa_iload_n C (i := 3) dL_law_1056 rfl rfl ?_
        refine wa_iconst C (v := 1) dL_law_1057 (by decide) ?_
        refine wa_iadd C dL_law_1058 ?_
        refine wa_sld C hv dL_law_1059 h (fun v152 h => ?_)
        refine wa_callVi C lq_67 sh_67 rfl s_L_118 i_X9_fro e_X9_fro dL_law_1060 (ok_X9_fro h) rfl rfl (Nat.le_of_ble_eq_true rfl) (by rw [hd]; decide) (fun v153 g49 h => ?_)
        refine wa_icmp_eq C (tgt := 1348) dL_law_1063 (by decide) h (fun h => ?_) (fun h => ?_)
        · exact WA.weak (hJ1348 _ h) ⟨rfl, ⟨rfl, ⟨rfl, ⟨rfl, trivial⟩⟩⟩⟩
        · refine wa_iconst C (v := 0) dL_law_1066 (by decide) ?_
          exact wa_lret C hv dL_law_1067 h
      refine fp_sw h (fun e24 h => ?_) (fun e24 h => ?_)
      · refine wa_tsIn C (tgt := 1068) dL_law_33 e24 (by decide) (by decide) rfl (by decide) ?_
        refine wa_aload_n C (i := 1) dL_law_1068 rfl rfl ?_
        refine wa_aload_n C (i := 0) dL_law_1069 rfl rfl ?_
        refine wa_iload_n C (i := 3) dL_law_1070 rfl rfl ?_
        refine wa_iconst C (v := 1) dL_law_1071 (by decide) ?_
        refine wa_iadd C dL_law_1072 ?_
        refine wa_sld C hv dL_law_1073 h (fun v154 h => ?_)
        refine wa_aload_n C (i := 0) dL_law_1074 rfl rfl ?_
        refine wa_iload_n C (i := 3) dL_law_1075 rfl rfl ?_
        refine wa_iconst C (v := 2) dL_law_1076 (by decide) ?_
        refine wa_iadd C dL_law_1077 ?_
        refine wa_sld C hv dL_law_1078 h (fun v155 h => ?_)
        refine wa_callVi C lq_0 sh_0 rfl s_L_119 i_X8_after e_X8_after dL_law_1079 (ok_X8_after h) rfl rfl (Nat.le_of_ble_eq_true rfl) (by rw [hd]; decide) (fun v156 g50 h => ?_)
        refine wa_aload_n C (i := 2) dL_law_1082 rfl rfl ?_
        refine wa_aload_n C (i := 0) dL_law_1083 rfl rfl ?_
        refine wa_iload_n C (i := 3) dL_law_1084 rfl rfl ?_
        refine wa_iconst C (v := 1) dL_law_1085 (by decide) ?_
        refine wa_iadd C dL_law_1086 ?_
        refine wa_sld C hv dL_law_1087 h (fun v157 h => ?_)
        refine wa_aload_n C (i := 0) dL_law_1088 rfl rfl ?_
        refine wa_iload_n C (i := 3) dL_law_1089 rfl rfl ?_
        refine wa_iconst C (v := 2) dL_law_1090 (by decide) ?_
        refine wa_iadd C dL_law_1091 ?_
        refine wa_sld C hv dL_law_1092 h (fun v158 h => ?_)
        refine wa_callVi C lq_67 sh_67 rfl s_L_122 i_X9_after e_X9_after dL_law_1093 (ok_X9_after h) rfl rfl (Nat.le_of_ble_eq_true rfl) (by rw [hd]; decide) (fun v159 g51 h => ?_)
        refine wa_icmp_eq C (tgt := 1348) dL_law_1096 (by decide) h (fun h => ?_) (fun h => ?_)
        · exact WA.weak (hJ1348 _ h) ⟨rfl, ⟨rfl, ⟨rfl, ⟨rfl, trivial⟩⟩⟩⟩
        · refine wa_iconst C (v := 0) dL_law_1099 (by decide) ?_
          exact wa_lret C hv dL_law_1100 h
      refine fp_sw h (fun e25 h => ?_) (fun e25 h => ?_)
      · refine wa_tsIn C (tgt := 1101) dL_law_33 e25 (by decide) (by decide) rfl (by decide) ?_
        refine wa_aload_n C (i := 1) dL_law_1101 rfl rfl ?_
        refine wa_aload_n C (i := 0) dL_law_1102 rfl rfl ?_
        refine wa_iload_n C (i := 3) dL_law_1103 rfl rfl ?_
        refine wa_iconst C (v := 1) dL_law_1104 (by decide) ?_
        refine wa_iadd C dL_law_1105 ?_
        refine wa_sld C hv dL_law_1106 h (fun v160 h => ?_)
        refine wa_callVi C lq_0 sh_0 rfl s_L_123 i_X8_paid e_X8_paid dL_law_1107 (ok_X8_paid h) rfl rfl (Nat.le_of_ble_eq_true rfl) (by rw [hd]; decide) (fun v161 g52 h => ?_)
        refine wa_aload_n C (i := 2) dL_law_1110 rfl rfl ?_
        refine wa_aload_n C (i := 0) dL_law_1111 rfl rfl ?_
        refine wa_iload_n C (i := 3) dL_law_1112 rfl rfl ?_
        refine wa_iconst C (v := 1) dL_law_1113 (by decide) ?_
        refine wa_iadd C dL_law_1114 ?_
        refine wa_sld C hv dL_law_1115 h (fun v162 h => ?_)
        refine wa_callVi C lq_67 sh_67 rfl s_L_126 i_X9_paid e_X9_paid dL_law_1116 (ok_X9_paid h) rfl rfl (Nat.le_of_ble_eq_true rfl) (by rw [hd]; decide) (fun v163 g53 h => ?_)
        refine wa_icmp_eq C (tgt := 1348) dL_law_1119 (by decide) h (fun h => ?_) (fun h => ?_)
        · exact WA.weak (hJ1348 _ h) ⟨rfl, ⟨rfl, ⟨rfl, ⟨rfl, trivial⟩⟩⟩⟩
        · refine wa_iconst C (v := 0) dL_law_1122 (by decide) ?_
          exact wa_lret C hv dL_law_1123 h
      refine fp_sw h (fun e26 h => ?_) (fun e26 h => ?_)
      · refine wa_tsIn C (tgt := 1124) dL_law_33 e26 (by decide) (by decide) rfl (by decide) ?_
        refine wa_aload_n C (i := 1) dL_law_1124 rfl rfl ?_
        refine wa_aload_n C (i := 0) dL_law_1125 rfl rfl ?_
        refine wa_iload_n C (i := 3) dL_law_1126 rfl rfl ?_
        refine wa_iconst C (v := 1) dL_law_1127 (by decide) ?_
        refine wa_iadd C dL_law_1128 ?_
        refine wa_sld C hv dL_law_1129 h (fun v164 h => ?_)
        refine wa_aload_n C (i := 0) dL_law_1130 rfl rfl ?_
        refine wa_iload_n C (i := 3) dL_law_1131 rfl rfl ?_
        refine wa_iconst C (v := 2) dL_law_1132 (by decide) ?_
        refine wa_iadd C dL_law_1133 ?_
        refine wa_sld C hv dL_law_1134 h (fun v165 h => ?_)
        refine wa_callVi C lq_0 sh_0 rfl s_L_127 i_X8_cover e_X8_cover dL_law_1135 (ok_X8_cover h) rfl rfl (Nat.le_of_ble_eq_true rfl) (by rw [hd]; decide) (fun v166 g54 h => ?_)
        refine wa_aload_n C (i := 2) dL_law_1138 rfl rfl ?_
        refine wa_aload_n C (i := 0) dL_law_1139 rfl rfl ?_
        refine wa_iload_n C (i := 3) dL_law_1140 rfl rfl ?_
        refine wa_iconst C (v := 1) dL_law_1141 (by decide) ?_
        refine wa_iadd C dL_law_1142 ?_
        refine wa_sld C hv dL_law_1143 h (fun v167 h => ?_)
        refine wa_aload_n C (i := 0) dL_law_1144 rfl rfl ?_
        refine wa_iload_n C (i := 3) dL_law_1145 rfl rfl ?_
        refine wa_iconst C (v := 2) dL_law_1146 (by decide) ?_
        refine wa_iadd C dL_law_1147 ?_
        refine wa_sld C hv dL_law_1148 h (fun v168 h => ?_)
        refine wa_callVi C lq_67 sh_67 rfl s_L_130 i_X9_cover e_X9_cover dL_law_1149 (ok_X9_cover h) rfl rfl (Nat.le_of_ble_eq_true rfl) (by rw [hd]; decide) (fun v169 g55 h => ?_)
        refine wa_icmp_eq C (tgt := 1348) dL_law_1152 (by decide) h (fun h => ?_) (fun h => ?_)
        · exact WA.weak (hJ1348 _ h) ⟨rfl, ⟨rfl, ⟨rfl, ⟨rfl, trivial⟩⟩⟩⟩
        · refine wa_iconst C (v := 0) dL_law_1155 (by decide) ?_
          exact wa_lret C hv dL_law_1156 h
      refine fp_sw h (fun e27 h => ?_) (fun e27 h => ?_)
      · refine wa_tsIn C (tgt := 1157) dL_law_33 e27 (by decide) (by decide) rfl (by decide) ?_
        refine wa_aload_n C (i := 1) dL_law_1157 rfl rfl ?_
        refine wa_aload_n C (i := 0) dL_law_1158 rfl rfl ?_
        refine wa_iload_n C (i := 3) dL_law_1159 rfl rfl ?_
        refine wa_iconst C (v := 1) dL_law_1160 (by decide) ?_
        refine wa_iadd C dL_law_1161 ?_
        refine wa_sld C hv dL_law_1162 h (fun v170 h => ?_)
        refine wa_aload_n C (i := 0) dL_law_1163 rfl rfl ?_
        refine wa_iload_n C (i := 3) dL_law_1164 rfl rfl ?_
        refine wa_iconst C (v := 2) dL_law_1165 (by decide) ?_
        refine wa_iadd C dL_law_1166 ?_
        refine wa_sld C hv dL_law_1167 h (fun v171 h => ?_)
        refine wa_callVi C lq_0 sh_0 rfl s_L_131 i_X8_sure e_X8_sure dL_law_1168 (ok_X8_sure h) rfl rfl (Nat.le_of_ble_eq_true rfl) (by rw [hd]; decide) (fun v172 g56 h => ?_)
        refine wa_aload_n C (i := 2) dL_law_1171 rfl rfl ?_
        refine wa_aload_n C (i := 0) dL_law_1172 rfl rfl ?_
        refine wa_iload_n C (i := 3) dL_law_1173 rfl rfl ?_
        refine wa_iconst C (v := 1) dL_law_1174 (by decide) ?_
        refine wa_iadd C dL_law_1175 ?_
        refine wa_sld C hv dL_law_1176 h (fun v173 h => ?_)
        refine wa_aload_n C (i := 0) dL_law_1177 rfl rfl ?_
        refine wa_iload_n C (i := 3) dL_law_1178 rfl rfl ?_
        refine wa_iconst C (v := 2) dL_law_1179 (by decide) ?_
        refine wa_iadd C dL_law_1180 ?_
        refine wa_sld C hv dL_law_1181 h (fun v174 h => ?_)
        refine wa_callVi C lq_67 sh_67 rfl s_L_134 i_X9_sure e_X9_sure dL_law_1182 (ok_X9_sure h) rfl rfl (Nat.le_of_ble_eq_true rfl) (by rw [hd]; decide) (fun v175 g57 h => ?_)
        refine wa_icmp_eq C (tgt := 1348) dL_law_1185 (by decide) h (fun h => ?_) (fun h => ?_)
        · exact WA.weak (hJ1348 _ h) ⟨rfl, ⟨rfl, ⟨rfl, ⟨rfl, trivial⟩⟩⟩⟩
        · refine wa_iconst C (v := 0) dL_law_1188 (by decide) ?_
          exact wa_lret C hv dL_law_1189 h
      refine fp_sw h (fun e28 h => ?_) (fun e28 h => ?_)
      · refine wa_tsIn C (tgt := 1190) dL_law_33 e28 (by decide) (by decide) rfl (by decide) ?_
        refine wa_aload_n C (i := 1) dL_law_1190 rfl rfl ?_
        refine wa_aload_n C (i := 0) dL_law_1191 rfl rfl ?_
        refine wa_iload_n C (i := 3) dL_law_1192 rfl rfl ?_
        refine wa_iconst C (v := 1) dL_law_1193 (by decide) ?_
        refine wa_iadd C dL_law_1194 ?_
        refine wa_sld C hv dL_law_1195 h (fun v176 h => ?_)
        refine wa_aload_n C (i := 0) dL_law_1196 rfl rfl ?_
        refine wa_iload_n C (i := 3) dL_law_1197 rfl rfl ?_
        refine wa_iconst C (v := 2) dL_law_1198 (by decide) ?_
        refine wa_iadd C dL_law_1199 ?_
        refine wa_sld C hv dL_law_1200 h (fun v177 h => ?_)
        refine wa_aload_n C (i := 0) dL_law_1201 rfl rfl ?_
        refine wa_iload_n C (i := 3) dL_law_1202 rfl rfl ?_
        refine wa_iconst C (v := 3) dL_law_1203 (by decide) ?_
        refine wa_iadd C dL_law_1204 ?_
        refine wa_sld C hv dL_law_1205 h (fun v178 h => ?_)
        refine wa_callVi C lq_0 sh_0 rfl s_L_135 i_X8_sack e_X8_sack dL_law_1206 (ok_X8_sack h) rfl rfl (Nat.le_of_ble_eq_true rfl) (by rw [hd]; decide) (fun v179 g58 h => ?_)
        refine wa_aload_n C (i := 2) dL_law_1209 rfl rfl ?_
        refine wa_aload_n C (i := 0) dL_law_1210 rfl rfl ?_
        refine wa_iload_n C (i := 3) dL_law_1211 rfl rfl ?_
        refine wa_iconst C (v := 1) dL_law_1212 (by decide) ?_
        refine wa_iadd C dL_law_1213 ?_
        refine wa_sld C hv dL_law_1214 h (fun v180 h => ?_)
        refine wa_aload_n C (i := 0) dL_law_1215 rfl rfl ?_
        refine wa_iload_n C (i := 3) dL_law_1216 rfl rfl ?_
        refine wa_iconst C (v := 2) dL_law_1217 (by decide) ?_
        refine wa_iadd C dL_law_1218 ?_
        refine wa_sld C hv dL_law_1219 h (fun v181 h => ?_)
        refine wa_aload_n C (i := 0) dL_law_1220 rfl rfl ?_
        refine wa_iload_n C (i := 3) dL_law_1221 rfl rfl ?_
        refine wa_iconst C (v := 3) dL_law_1222 (by decide) ?_
        refine wa_iadd C dL_law_1223 ?_
        refine wa_sld C hv dL_law_1224 h (fun v182 h => ?_)
        refine wa_callVi C lq_67 sh_67 rfl s_L_138 i_X9_sack e_X9_sack dL_law_1225 (ok_X9_sack h) rfl rfl (Nat.le_of_ble_eq_true rfl) (by rw [hd]; decide) (fun v183 g59 h => ?_)
        refine wa_icmp_eq C (tgt := 1348) dL_law_1228 (by decide) h (fun h => ?_) (fun h => ?_)
        · exact WA.weak (hJ1348 _ h) ⟨rfl, ⟨rfl, ⟨rfl, ⟨rfl, trivial⟩⟩⟩⟩
        · refine wa_iconst C (v := 0) dL_law_1231 (by decide) ?_
          exact wa_lret C hv dL_law_1232 h
      refine fp_sw h (fun e29 h => ?_) (fun e29 h => ?_)
      · refine wa_tsIn C (tgt := 1233) dL_law_33 e29 (by decide) (by decide) rfl (by decide) ?_
        refine wa_aload_n C (i := 1) dL_law_1233 rfl rfl ?_
        refine wa_aload_n C (i := 0) dL_law_1234 rfl rfl ?_
        refine wa_iload_n C (i := 3) dL_law_1235 rfl rfl ?_
        refine wa_iconst C (v := 1) dL_law_1236 (by decide) ?_
        refine wa_iadd C dL_law_1237 ?_
        refine wa_sld C hv dL_law_1238 h (fun v184 h => ?_)
        refine wa_callVi C lq_0 sh_0 rfl s_L_139 i_X8_best e_X8_best dL_law_1239 (ok_X8_best h) rfl rfl (Nat.le_of_ble_eq_true rfl) (by rw [hd]; decide) (fun v185 g60 h => ?_)
        refine wa_aload_n C (i := 2) dL_law_1242 rfl rfl ?_
        refine wa_aload_n C (i := 0) dL_law_1243 rfl rfl ?_
        refine wa_iload_n C (i := 3) dL_law_1244 rfl rfl ?_
        refine wa_iconst C (v := 1) dL_law_1245 (by decide) ?_
        refine wa_iadd C dL_law_1246 ?_
        refine wa_sld C hv dL_law_1247 h (fun v186 h => ?_)
        refine wa_callVi C lq_67 sh_67 rfl s_L_142 i_X9_best e_X9_best dL_law_1248 (ok_X9_best h) rfl rfl (Nat.le_of_ble_eq_true rfl) (by rw [hd]; decide) (fun v187 g61 h => ?_)
        refine wa_icmp_eq C (tgt := 1348) dL_law_1251 (by decide) h (fun h => ?_) (fun h => ?_)
        · exact WA.weak (hJ1348 _ h) ⟨rfl, ⟨rfl, ⟨rfl, ⟨rfl, trivial⟩⟩⟩⟩
        · refine wa_iconst C (v := 0) dL_law_1254 (by decide) ?_
          exact wa_lret C hv dL_law_1255 h
      refine fp_sw h (fun e30 h => ?_) (fun e30 h => ?_)
      · refine wa_tsIn C (tgt := 1256) dL_law_33 e30 (by decide) (by decide) rfl (by decide) ?_
        refine wa_aload_n C (i := 1) dL_law_1256 rfl rfl ?_
        refine wa_aload_n C (i := 0) dL_law_1257 rfl rfl ?_
        refine wa_iload_n C (i := 3) dL_law_1258 rfl rfl ?_
        refine wa_iconst C (v := 1) dL_law_1259 (by decide) ?_
        refine wa_iadd C dL_law_1260 ?_
        refine wa_sld C hv dL_law_1261 h (fun v188 h => ?_)
        refine wa_callVi C lq_0 sh_0 rfl s_L_143 i_X8_put e_X8_put dL_law_1262 (ok_X8_put h) rfl rfl (Nat.le_of_ble_eq_true rfl) (by rw [hd]; decide) (fun v189 g62 h => ?_)
        refine wa_aload_n C (i := 2) dL_law_1265 rfl rfl ?_
        refine wa_aload_n C (i := 0) dL_law_1266 rfl rfl ?_
        refine wa_iload_n C (i := 3) dL_law_1267 rfl rfl ?_
        refine wa_iconst C (v := 1) dL_law_1268 (by decide) ?_
        refine wa_iadd C dL_law_1269 ?_
        refine wa_sld C hv dL_law_1270 h (fun v190 h => ?_)
        refine wa_callVi C lq_67 sh_67 rfl s_L_146 i_X9_put e_X9_put dL_law_1271 (ok_X9_put h) rfl rfl (Nat.le_of_ble_eq_true rfl) (by rw [hd]; decide) (fun v191 g63 h => ?_)
        refine wa_icmp_eq C (tgt := 1348) dL_law_1274 (by decide) h (fun h => ?_) (fun h => ?_)
        · exact WA.weak (hJ1348 _ h) ⟨rfl, ⟨rfl, ⟨rfl, ⟨rfl, trivial⟩⟩⟩⟩
        · refine wa_iconst C (v := 0) dL_law_1277 (by decide) ?_
          exact wa_lret C hv dL_law_1278 h
      refine fp_sw h (fun e31 h => ?_) (fun e31 h => ?_)
      · refine wa_tsIn C (tgt := 1279) dL_law_33 e31 (by decide) (by decide) rfl (by decide) ?_
        refine wa_aload_n C (i := 1) dL_law_1279 rfl rfl ?_
        refine wa_aload_n C (i := 0) dL_law_1280 rfl rfl ?_
        refine wa_iload_n C (i := 3) dL_law_1281 rfl rfl ?_
        refine wa_iconst C (v := 1) dL_law_1282 (by decide) ?_
        refine wa_iadd C dL_law_1283 ?_
        refine wa_sld C hv dL_law_1284 h (fun v192 h => ?_)
        refine wa_callVi C lq_0 sh_0 rfl s_L_147 i_X8_judge e_X8_judge dL_law_1285 (ok_X8_judge h) rfl rfl (Nat.le_of_ble_eq_true rfl) (by rw [hd]; decide) (fun v193 g64 h => ?_)
        refine wa_aload_n C (i := 2) dL_law_1288 rfl rfl ?_
        refine wa_aload_n C (i := 0) dL_law_1289 rfl rfl ?_
        refine wa_iload_n C (i := 3) dL_law_1290 rfl rfl ?_
        refine wa_iconst C (v := 1) dL_law_1291 (by decide) ?_
        refine wa_iadd C dL_law_1292 ?_
        refine wa_sld C hv dL_law_1293 h (fun v194 h => ?_)
        refine wa_callVi C lq_67 sh_67 rfl s_L_150 i_X9_judge e_X9_judge dL_law_1294 (ok_X9_judge h) rfl rfl (Nat.le_of_ble_eq_true rfl) (by rw [hd]; decide) (fun v195 g65 h => ?_)
        refine wa_icmp_eq C (tgt := 1348) dL_law_1297 (by decide) h (fun h => ?_) (fun h => ?_)
        · exact WA.weak (hJ1348 _ h) ⟨rfl, ⟨rfl, ⟨rfl, ⟨rfl, trivial⟩⟩⟩⟩
        · refine wa_iconst C (v := 0) dL_law_1300 (by decide) ?_
          exact wa_lret C hv dL_law_1301 h
      refine fp_sw h (fun e32 h => ?_) (fun e32 h => ?_)
      · refine wa_tsIn C (tgt := 1302) dL_law_33 e32 (by decide) (by decide) rfl (by decide) ?_
        refine wa_aload_n C (i := 1) dL_law_1302 rfl rfl ?_
        refine wa_aload_n C (i := 0) dL_law_1303 rfl rfl ?_
        refine wa_iload_n C (i := 3) dL_law_1304 rfl rfl ?_
        refine wa_iconst C (v := 1) dL_law_1305 (by decide) ?_
        refine wa_iadd C dL_law_1306 ?_
        refine wa_sld C hv dL_law_1307 h (fun v196 h => ?_)
        refine wa_callVi C lq_0 sh_0 rfl s_L_151 i_X8_waiting e_X8_waiting dL_law_1308 (ok_X8_waiting h) rfl rfl (Nat.le_of_ble_eq_true rfl) (by rw [hd]; decide) (fun v197 g66 h => ?_)
        refine wa_aload_n C (i := 2) dL_law_1311 rfl rfl ?_
        refine wa_aload_n C (i := 0) dL_law_1312 rfl rfl ?_
        refine wa_iload_n C (i := 3) dL_law_1313 rfl rfl ?_
        refine wa_iconst C (v := 1) dL_law_1314 (by decide) ?_
        refine wa_iadd C dL_law_1315 ?_
        refine wa_sld C hv dL_law_1316 h (fun v198 h => ?_)
        refine wa_callVi C lq_67 sh_67 rfl s_L_154 i_X9_waiting e_X9_waiting dL_law_1317 (ok_X9_waiting h) rfl rfl (Nat.le_of_ble_eq_true rfl) (by rw [hd]; decide) (fun v199 g67 h => ?_)
        refine wa_icmp_eq C (tgt := 1348) dL_law_1320 (by decide) h (fun h => ?_) (fun h => ?_)
        · exact WA.weak (hJ1348 _ h) ⟨rfl, ⟨rfl, ⟨rfl, ⟨rfl, trivial⟩⟩⟩⟩
        · refine wa_iconst C (v := 0) dL_law_1323 (by decide) ?_
          exact wa_lret C hv dL_law_1324 h
      refine fp_sw h (fun e33 h => ?_) (fun e33 h => ?_)
      · refine wa_tsIn C (tgt := 1325) dL_law_33 e33 (by decide) (by decide) rfl (by decide) ?_
        refine wa_aload_n C (i := 1) dL_law_1325 rfl rfl ?_
        refine wa_aload_n C (i := 0) dL_law_1326 rfl rfl ?_
        refine wa_iload_n C (i := 3) dL_law_1327 rfl rfl ?_
        refine wa_iconst C (v := 1) dL_law_1328 (by decide) ?_
        refine wa_iadd C dL_law_1329 ?_
        refine wa_sld C hv dL_law_1330 h (fun v200 h => ?_)
        refine wa_callVi C lq_0 sh_0 rfl s_L_155 i_X8_count e_X8_count dL_law_1331 (ok_X8_count h) rfl rfl (Nat.le_of_ble_eq_true rfl) (by rw [hd]; decide) (fun v201 g68 h => ?_)
        refine wa_aload_n C (i := 2) dL_law_1334 rfl rfl ?_
        refine wa_aload_n C (i := 0) dL_law_1335 rfl rfl ?_
        refine wa_iload_n C (i := 3) dL_law_1336 rfl rfl ?_
        refine wa_iconst C (v := 1) dL_law_1337 (by decide) ?_
        refine wa_iadd C dL_law_1338 ?_
        refine wa_sld C hv dL_law_1339 h (fun v202 h => ?_)
        refine wa_callVi C lq_67 sh_67 rfl s_L_158 i_X9_count e_X9_count dL_law_1340 (ok_X9_count h) rfl rfl (Nat.le_of_ble_eq_true rfl) (by rw [hd]; decide) (fun v203 g69 h => ?_)
        refine wa_icmp_eq C (tgt := 1348) dL_law_1343 (by decide) h (fun h => ?_) (fun h => ?_)
        · exact WA.weak (hJ1348 _ h) ⟨rfl, ⟨rfl, ⟨rfl, ⟨rfl, trivial⟩⟩⟩⟩
        · refine wa_iconst C (v := 0) dL_law_1346 (by decide) ?_
          exact wa_lret C hv dL_law_1347 h
      have z0 := fp_ne (k := 0) (by decide) e0
      have z1 := fp_ne (k := 1) (by decide) e1
      have z2 := fp_ne (k := 2) (by decide) e2
      have z3 := fp_ne (k := 3) (by decide) e3
      have z4 := fp_ne (k := 4) (by decide) e4
      have z5 := fp_ne (k := 5) (by decide) e5
      have z6 := fp_ne (k := 6) (by decide) e6
      have z7 := fp_ne (k := 7) (by decide) e7
      have z8 := fp_ne (k := 8) (by decide) e8
      have z9 := fp_ne (k := 9) (by decide) e9
      have z10 := fp_ne (k := 10) (by decide) e10
      have z11 := fp_ne (k := 11) (by decide) e11
      have z12 := fp_ne (k := 12) (by decide) e12
      have z13 := fp_ne (k := 13) (by decide) e13
      have z14 := fp_ne (k := 14) (by decide) e14
      have z15 := fp_ne (k := 15) (by decide) e15
      have z16 := fp_ne (k := 16) (by decide) e16
      have z17 := fp_ne (k := 17) (by decide) e17
      have z18 := fp_ne (k := 18) (by decide) e18
      have z19 := fp_ne (k := 19) (by decide) e19
      have z20 := fp_ne (k := 20) (by decide) e20
      have z21 := fp_ne (k := 21) (by decide) e21
      have z22 := fp_ne (k := 22) (by decide) e22
      have z23 := fp_ne (k := 23) (by decide) e23
      have z24 := fp_ne (k := 24) (by decide) e24
      have z25 := fp_ne (k := 25) (by decide) e25
      have z26 := fp_ne (k := 26) (by decide) e26
      have z27 := fp_ne (k := 27) (by decide) e27
      have z28 := fp_ne (k := 28) (by decide) e28
      have z29 := fp_ne (k := 29) (by decide) e29
      have z30 := fp_ne (k := 30) (by decide) e30
      have z31 := fp_ne (k := 31) (by decide) e31
      have z32 := fp_ne (k := 32) (by decide) e32
      have z33 := fp_ne (k := 33) (by decide) e33
      refine wa_tsOut C (tgt := 1348) dL_law_33 (by omega) (by decide) ?_
      exact WA.weak (hJ1348 _ h) ⟨rfl, ⟨rfl, ⟨rfl, ⟨rfl, trivial⟩⟩⟩⟩
