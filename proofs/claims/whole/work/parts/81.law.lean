/-! the law: its cases -/
abbrev lwS (i : Nat) : List (Nat × AV) := [(3, vI (i : Nat)), (2, vR 10 0), (1, vR 9 0), (0, vR 203 0)]
abbrev lwW (G : GT) (pc : Nat) (ls : List (Nat × AV)) (st : List AV) (N : NN) : Prop := AW G RL cL_law 4 (some .boolean) false room_1 0 lw_Z pc ls st TOT N (RF N)
section LAWR
variable {G : GT} {pc : Nat} {st : List AV} {N : NN}
theorem IR_32 (v : Int32) : IR v.toInt := ⟨Int32.le_toInt v, Int32.toInt_lt v⟩
theorem L_arg {i k : Nat} {z : Int} (d0 : decode cL_law pc = .ok (.aload_n 0, 1)) (d1 : decode cL_law (pc + 1) = .ok (.iload_n 3, 1)) (d2 : decode cL_law (pc + 2) = .ok (.iconst z, 1)) (d3 : decode cL_law (pc + 3) = .ok (.iadd, 1)) (d4 : decode cL_law (pc + 4) = .ok (.iaload, 1)) (hz : z = (k : Int)) (hi : i + k < gL G) (hL : gL G ≤ 3072) (h : lwW G (pc + 5) (lwS i) (vI (gX G (i + k)).toInt :: st) N) : lwW G pc (lwS i) st N := by
  refine A_aload_n (i := 0) d0 rfl rfl ?_
  refine A_iload_n (i := 3) d1 rfl rfl ?_
  refine A_iconst (v := (k : Int)) d2 hz ?_
  refine A_iadd d3 ?_
  refine A_sld (j := i + k) d4 ?_ hi h
  rw [wI_id (by omega) (by omega)]
  omega
theorem L_callI {idx np L' nL' c : Nat} {y : MethodName} {cc' : ByteArray} {ret' : Option FieldType} {av stk : List AV} {C0 : String} {T0 : u_T} {k0 : Nat} {ls : List (Nat × AV)} (hs : stk = av.reverse ++ vR c 0 :: st) (hd : decode cL_law pc = .ok (.invokevirtual idx, 3)) (hw : MWV RL idx y) (hm : MW y cc' nL' ret' np) (hrv : vwCl[c]? = some (C0, T0, k0) ∧ y.cls = C0 ∧ c < 11) (ho : okA TOT c 0) (hnp : av.length = np) (hst : (st.map fun v => if isL v then 2 else 1).sum ≤ 8) (hl : nL' ≤ 21) (hL : L' ≤ 1000)
    (h : BC G y cc' nL' ret' L' (vR c 0 :: av) N (rI (fun x N' => lwW G (pc + 3) ls (vI x :: st) N'))) : lwW G pc ls stk N := by
  refine A_callV hd hw hm hrv ho hnp hst ⟨Nat.le_refl _, Nat.le_refl _⟩ ⟨?_, ?_⟩ ⟨by decide +kernel, by decide +kernel⟩ (Ctr.mono h (fun r N' R' hh => ?_)) hs
  · show 8 + L' + 1 ≤ 2048
    omega
  · show 8 + (nL' + 11) + (400 + 40 * L') ≤ 84000
    omega
  · obtain ⟨rfl, x, rfl, hx⟩ := hh
    exact hx
theorem L_callL {idx np L' nL' c : Nat} {y : MethodName} {cc' : ByteArray} {ret' : Option FieldType} {av stk : List AV} {C0 : String} {T0 : u_T} {k0 : Nat} {ls : List (Nat × AV)} (hs : stk = av.reverse ++ vR c 0 :: st) (hd : decode cL_law pc = .ok (.invokevirtual idx, 3)) (hw : MWV RL idx y) (hm : MW y cc' nL' ret' np) (hrv : vwCl[c]? = some (C0, T0, k0) ∧ y.cls = C0 ∧ c < 11) (ho : okA TOT c 0) (hnp : av.length = np) (hst : (st.map fun v => if isL v then 2 else 1).sum ≤ 8) (hl : nL' ≤ 21) (hL : L' ≤ 1000)
    (h : BC G y cc' nL' ret' L' (vR c 0 :: av) N (rL (fun x N' => lwW G (pc + 3) ls (vL x :: st) N'))) : lwW G pc ls stk N := by
  refine A_callV hd hw hm hrv ho hnp hst ⟨Nat.le_refl _, Nat.le_refl _⟩ ⟨?_, ?_⟩ ⟨by decide +kernel, by decide +kernel⟩ (Ctr.mono h (fun r N' R' hh => ?_)) hs
  · show 8 + L' + 1 ≤ 2048
    omega
  · show 8 + (nL' + 11) + (400 + 40 * L') ≤ 84000
    omega
  · obtain ⟨rfl, x, rfl, hx⟩ := hh
    exact hx
theorem okX {c : Nat} (h : c = 9 ∨ c = 10) : okA TOT c 0 := by
  rcases h with rfl | rfl
  · exact okK9 (by decide)
  · exact okK10 (by decide)
theorem L_case0 {i : Nat} (I : Inv N) (hi : i + 6 ≤ gL G) (hL : gL G ≤ 3072) (nx : ∀ N', Inv N' → lwW G 1036 (lwS i) [] N') : lwW G 148 (lwS i) [] N := by
  refine A_aload_n (i := 1) dL_law_148 rfl rfl ?_
  refine L_arg (k := 1) dL_law_149 dL_law_150 dL_law_151 dL_law_152 dL_law_153 rfl (by omega) hL ?_
  refine L_arg (k := 2) dL_law_154 dL_law_155 dL_law_156 dL_law_157 dL_law_158 rfl (by omega) hL ?_
  refine L_arg (k := 3) dL_law_159 dL_law_160 dL_law_161 dL_law_162 dL_law_163 rfl (by omega) hL ?_
  refine L_arg (k := 4) dL_law_164 dL_law_165 dL_law_166 dL_law_167 dL_law_168 rfl (by omega) hL ?_
  refine L_callI (av := [vI (gX G (i + 1)).toInt, vI (gX G (i + 2)).toInt, vI (gX G (i + 3)).toInt, vI (gX G (i + 4)).toInt]) (st := []) (L' := 2) rfl dL_law_169 vL_13 mX9_loan ⟨rfl, rfl, by decide⟩ (okX (.inl rfl)) rfl (by decide) (by decide) (by decide) (BC_monoI (op_loan I (IR_32 _) (IR_32 _) (IR_32 _) (IR_32 _)) (fun x N1 h1 => ?_))
  refine A_aload_n (i := 2) dL_law_172 rfl rfl ?_
  refine L_arg (k := 1) dL_law_173 dL_law_174 dL_law_175 dL_law_176 dL_law_177 rfl (by omega) hL ?_
  refine L_arg (k := 2) dL_law_178 dL_law_179 dL_law_180 dL_law_181 dL_law_182 rfl (by omega) hL ?_
  refine L_arg (k := 3) dL_law_183 dL_law_184 dL_law_185 dL_law_186 dL_law_187 rfl (by omega) hL ?_
  refine L_arg (k := 4) dL_law_188 dL_law_189 dL_law_190 dL_law_191 dL_law_192 rfl (by omega) hL ?_
  refine L_callI (av := [vI (gX G (i + 1)).toInt, vI (gX G (i + 2)).toInt, vI (gX G (i + 3)).toInt, vI (gX G (i + 4)).toInt]) (st := [vI x]) (L' := 3) rfl dL_law_193 vL_17 mX10_loan ⟨rfl, rfl, by decide⟩ (okX (.inr rfl)) rfl (by simp [isL]) (by decide) (by decide) (BC_monoI h1 (fun x' N2 h2 => ?_))
  exact A_icmp_eq (tgt := 1036) dL_law_196 (by decide) (fun _ => nx _ h2.2) (fun q => absurd h2.1 q)
theorem L_case1 {i : Nat} (I : Inv N) (hi : i + 6 ≤ gL G) (hL : gL G ≤ 3072) (nx : ∀ N', Inv N' → lwW G 1036 (lwS i) [] N') : lwW G 201 (lwS i) [] N := by
  refine A_aload_n (i := 1) dL_law_201 rfl rfl ?_
  refine L_arg (k := 1) dL_law_202 dL_law_203 dL_law_204 dL_law_205 dL_law_206 rfl (by omega) hL ?_
  refine L_arg (k := 2) dL_law_207 dL_law_208 dL_law_209 dL_law_210 dL_law_211 rfl (by omega) hL ?_
  refine L_callI (av := [vI (gX G (i + 1)).toInt, vI (gX G (i + 2)).toInt]) (st := []) (L' := 2) rfl dL_law_212 vL_18 mX9_loanTold ⟨rfl, rfl, by decide⟩ (okX (.inl rfl)) rfl (by decide) (by decide) (by decide) (BC_monoI (op_loanTold I (IR_32 _) (IR_32 _)) (fun x N1 h1 => ?_))
  refine A_aload_n (i := 2) dL_law_215 rfl rfl ?_
  refine L_arg (k := 1) dL_law_216 dL_law_217 dL_law_218 dL_law_219 dL_law_220 rfl (by omega) hL ?_
  refine L_arg (k := 2) dL_law_221 dL_law_222 dL_law_223 dL_law_224 dL_law_225 rfl (by omega) hL ?_
  refine L_callI (av := [vI (gX G (i + 1)).toInt, vI (gX G (i + 2)).toInt]) (st := [vI x]) (L' := 3) rfl dL_law_226 vL_22 mX10_loanTold ⟨rfl, rfl, by decide⟩ (okX (.inr rfl)) rfl (by simp [isL]) (by decide) (by decide) (BC_monoI h1 (fun x' N2 h2 => ?_))
  exact A_icmp_eq (tgt := 1036) dL_law_229 (by decide) (fun _ => nx _ h2.2) (fun q => absurd h2.1 q)
theorem L_case2 {i : Nat} (I : Inv N) (hi : i + 6 ≤ gL G) (hL : gL G ≤ 3072) (nx : ∀ N', Inv N' → lwW G 1036 (lwS i) [] N') : lwW G 234 (lwS i) [] N := by
  refine A_aload_n (i := 1) dL_law_234 rfl rfl ?_
  refine L_arg (k := 1) dL_law_235 dL_law_236 dL_law_237 dL_law_238 dL_law_239 rfl (by omega) hL ?_
  refine L_arg (k := 2) dL_law_240 dL_law_241 dL_law_242 dL_law_243 dL_law_244 rfl (by omega) hL ?_
  refine L_callI (av := [vI (gX G (i + 1)).toInt, vI (gX G (i + 2)).toInt]) (st := []) (L' := 3) rfl dL_law_245 vL_23 mX9_paper ⟨rfl, rfl, by decide⟩ (okX (.inl rfl)) rfl (by decide) (by decide) (by decide) (BC_monoI (op_paper I (IR_32 _) (IR_32 _)) (fun x N1 h1 => ?_))
  refine A_aload_n (i := 2) dL_law_248 rfl rfl ?_
  refine L_arg (k := 1) dL_law_249 dL_law_250 dL_law_251 dL_law_252 dL_law_253 rfl (by omega) hL ?_
  refine L_arg (k := 2) dL_law_254 dL_law_255 dL_law_256 dL_law_257 dL_law_258 rfl (by omega) hL ?_
  refine L_callI (av := [vI (gX G (i + 1)).toInt, vI (gX G (i + 2)).toInt]) (st := [vI x]) (L' := 2) rfl dL_law_259 vL_26 mX10_paper ⟨rfl, rfl, by decide⟩ (okX (.inr rfl)) rfl (by simp [isL]) (by decide) (by decide) (BC_monoI h1 (fun x' N2 h2 => ?_))
  exact A_icmp_eq (tgt := 1036) dL_law_262 (by decide) (fun _ => nx _ h2.2) (fun q => absurd h2.1 q)
theorem L_case3 {i : Nat} (I : Inv N) (hi : i + 6 ≤ gL G) (hL : gL G ≤ 3072) (nx : ∀ N', Inv N' → lwW G 1036 (lwS i) [] N') : lwW G 267 (lwS i) [] N := by
  refine A_aload_n (i := 1) dL_law_267 rfl rfl ?_
  refine L_arg (k := 1) dL_law_268 dL_law_269 dL_law_270 dL_law_271 dL_law_272 rfl (by omega) hL ?_
  refine L_arg (k := 2) dL_law_273 dL_law_274 dL_law_275 dL_law_276 dL_law_277 rfl (by omega) hL ?_
  refine L_callI (av := [vI (gX G (i + 1)).toInt, vI (gX G (i + 2)).toInt]) (st := []) (L' := 2) rfl dL_law_278 vL_27 mX9_paperTold ⟨rfl, rfl, by decide⟩ (okX (.inl rfl)) rfl (by decide) (by decide) (by decide) (BC_monoI (op_paperTold I (IR_32 _) (IR_32 _)) (fun x N1 h1 => ?_))
  refine A_aload_n (i := 2) dL_law_281 rfl rfl ?_
  refine L_arg (k := 1) dL_law_282 dL_law_283 dL_law_284 dL_law_285 dL_law_286 rfl (by omega) hL ?_
  refine L_arg (k := 2) dL_law_287 dL_law_288 dL_law_289 dL_law_290 dL_law_291 rfl (by omega) hL ?_
  refine L_callI (av := [vI (gX G (i + 1)).toInt, vI (gX G (i + 2)).toInt]) (st := [vI x]) (L' := 3) rfl dL_law_292 vL_30 mX10_paperTold ⟨rfl, rfl, by decide⟩ (okX (.inr rfl)) rfl (by simp [isL]) (by decide) (by decide) (BC_monoI h1 (fun x' N2 h2 => ?_))
  exact A_icmp_eq (tgt := 1036) dL_law_295 (by decide) (fun _ => nx _ h2.2) (fun q => absurd h2.1 q)
theorem L_case4 {i : Nat} (I : Inv N) (hi : i + 6 ≤ gL G) (hL : gL G ≤ 3072) (nx : ∀ N', Inv N' → lwW G 1036 (lwS i) [] N') : lwW G 300 (lwS i) [] N := by
  refine A_aload_n (i := 1) dL_law_300 rfl rfl ?_
  refine L_arg (k := 1) dL_law_301 dL_law_302 dL_law_303 dL_law_304 dL_law_305 rfl (by omega) hL ?_
  refine L_arg (k := 2) dL_law_306 dL_law_307 dL_law_308 dL_law_309 dL_law_310 rfl (by omega) hL ?_
  refine L_callL (av := [vI (gX G (i + 1)).toInt, vI (gX G (i + 2)).toInt]) (st := []) (L' := 2) rfl dL_law_311 vL_31 mX9_life ⟨rfl, rfl, by decide⟩ (okX (.inl rfl)) rfl (by decide) (by decide) (by decide) (BC_monoL (op_life I (IR_32 _) (IR_32 _)) (fun x N1 h1 => ?_))
  refine A_aload_n (i := 2) dL_law_314 rfl rfl ?_
  refine L_arg (k := 1) dL_law_315 dL_law_316 dL_law_317 dL_law_318 dL_law_319 rfl (by omega) hL ?_
  refine L_arg (k := 2) dL_law_320 dL_law_321 dL_law_322 dL_law_323 dL_law_324 rfl (by omega) hL ?_
  refine L_callL (av := [vI (gX G (i + 1)).toInt, vI (gX G (i + 2)).toInt]) (st := [vL x]) (L' := 3) rfl dL_law_325 vL_35 mX10_life ⟨rfl, rfl, by decide⟩ (okX (.inr rfl)) rfl (by simp [isL]) (by decide) (by decide) (BC_monoL h1 (fun x' N2 h2 => ?_))
  exact A_lcmp_eq (tgt := 1036) dL_law_328 rfl dL_law_329 (by decide) (fun _ => nx _ h2.2) (fun q => absurd h2.1 q)
theorem L_case5 {i : Nat} (I : Inv N) (hi : i + 6 ≤ gL G) (hL : gL G ≤ 3072) (nx : ∀ N', Inv N' → lwW G 1036 (lwS i) [] N') : lwW G 334 (lwS i) [] N := by
  refine A_aload_n (i := 1) dL_law_334 rfl rfl ?_
  refine L_arg (k := 1) dL_law_335 dL_law_336 dL_law_337 dL_law_338 dL_law_339 rfl (by omega) hL ?_
  refine L_arg (k := 2) dL_law_340 dL_law_341 dL_law_342 dL_law_343 dL_law_344 rfl (by omega) hL ?_
  refine L_callI (av := [vI (gX G (i + 1)).toInt, vI (gX G (i + 2)).toInt]) (st := []) (L' := 2) rfl dL_law_345 vL_36 mX9_tell ⟨rfl, rfl, by decide⟩ (okX (.inl rfl)) rfl (by decide) (by decide) (by decide) (BC_monoI (op_tell I (IR_32 _) (IR_32 _)) (fun x N1 h1 => ?_))
  refine A_aload_n (i := 2) dL_law_348 rfl rfl ?_
  refine L_arg (k := 1) dL_law_349 dL_law_350 dL_law_351 dL_law_352 dL_law_353 rfl (by omega) hL ?_
  refine L_arg (k := 2) dL_law_354 dL_law_355 dL_law_356 dL_law_357 dL_law_358 rfl (by omega) hL ?_
  refine L_callI (av := [vI (gX G (i + 1)).toInt, vI (gX G (i + 2)).toInt]) (st := [vI x]) (L' := 2) rfl dL_law_359 vL_39 mX10_tell ⟨rfl, rfl, by decide⟩ (okX (.inr rfl)) rfl (by simp [isL]) (by decide) (by decide) (BC_monoI h1 (fun x' N2 h2 => ?_))
  exact A_icmp_eq (tgt := 1036) dL_law_362 (by decide) (fun _ => nx _ h2.2) (fun q => absurd h2.1 q)
theorem L_case6 {i : Nat} (I : Inv N) (hi : i + 6 ≤ gL G) (hL : gL G ≤ 3072) (nx : ∀ N', Inv N' → lwW G 1036 (lwS i) [] N') : lwW G 367 (lwS i) [] N := by
  refine A_aload_n (i := 1) dL_law_367 rfl rfl ?_
  refine L_arg (k := 1) dL_law_368 dL_law_369 dL_law_370 dL_law_371 dL_law_372 rfl (by omega) hL ?_
  refine L_arg (k := 2) dL_law_373 dL_law_374 dL_law_375 dL_law_376 dL_law_377 rfl (by omega) hL ?_
  refine L_callI (av := [vI (gX G (i + 1)).toInt, vI (gX G (i + 2)).toInt]) (st := []) (L' := 2) rfl dL_law_378 vL_40 mX9_trip ⟨rfl, rfl, by decide⟩ (okX (.inl rfl)) rfl (by decide) (by decide) (by decide) (BC_monoI (op_trip I (IR_32 _) (IR_32 _)) (fun x N1 h1 => ?_))
  refine A_aload_n (i := 2) dL_law_381 rfl rfl ?_
  refine L_arg (k := 1) dL_law_382 dL_law_383 dL_law_384 dL_law_385 dL_law_386 rfl (by omega) hL ?_
  refine L_arg (k := 2) dL_law_387 dL_law_388 dL_law_389 dL_law_390 dL_law_391 rfl (by omega) hL ?_
  refine L_callI (av := [vI (gX G (i + 1)).toInt, vI (gX G (i + 2)).toInt]) (st := [vI x]) (L' := 2) rfl dL_law_392 vL_43 mX10_trip ⟨rfl, rfl, by decide⟩ (okX (.inr rfl)) rfl (by simp [isL]) (by decide) (by decide) (BC_monoI h1 (fun x' N2 h2 => ?_))
  exact A_icmp_eq (tgt := 1036) dL_law_395 (by decide) (fun _ => nx _ h2.2) (fun q => absurd h2.1 q)
theorem L_case7 {i : Nat} (I : Inv N) (hi : i + 6 ≤ gL G) (hL : gL G ≤ 3072) (nx : ∀ N', Inv N' → lwW G 1036 (lwS i) [] N') : lwW G 400 (lwS i) [] N := by
  refine A_aload_n (i := 1) dL_law_400 rfl rfl ?_
  refine L_arg (k := 1) dL_law_401 dL_law_402 dL_law_403 dL_law_404 dL_law_405 rfl (by omega) hL ?_
  refine L_arg (k := 2) dL_law_406 dL_law_407 dL_law_408 dL_law_409 dL_law_410 rfl (by omega) hL ?_
  refine A_i2l dL_law_411 ?_
  refine A_bipush (v := 32) dL_law_412 (by decide +kernel) ?_
  refine A_lshl dL_law_414 ?_
  refine L_arg (k := 3) dL_law_415 dL_law_416 dL_law_417 dL_law_418 dL_law_419 rfl (by omega) hL ?_
  refine A_i2l dL_law_420 ?_
  refine A_ldc2 (x := 4294967295) dL_law_421 kL_44 (by decide +kernel) ?_
  refine A_land dL_law_424 ?_
  refine A_lor dL_law_425 ?_
  refine L_callI (av := [vI (gX G (i + 1)).toInt, vL (orL (shlL (wI (gX G (i + 2)).toInt) 32) (andL (wI (gX G (i + 3)).toInt) 4294967295))]) (st := []) (L' := 2) rfl dL_law_426 vL_46 mX9_feed ⟨rfl, rfl, by decide⟩ (okX (.inl rfl)) rfl (by decide) (by decide) (by decide) (BC_monoI (op_feed I (IR_32 _)) (fun x N1 h1 => ?_))
  refine A_aload_n (i := 2) dL_law_429 rfl rfl ?_
  refine L_arg (k := 1) dL_law_430 dL_law_431 dL_law_432 dL_law_433 dL_law_434 rfl (by omega) hL ?_
  refine L_arg (k := 2) dL_law_435 dL_law_436 dL_law_437 dL_law_438 dL_law_439 rfl (by omega) hL ?_
  refine A_i2l dL_law_440 ?_
  refine A_bipush (v := 32) dL_law_441 (by decide +kernel) ?_
  refine A_lshl dL_law_443 ?_
  refine L_arg (k := 3) dL_law_444 dL_law_445 dL_law_446 dL_law_447 dL_law_448 rfl (by omega) hL ?_
  refine A_i2l dL_law_449 ?_
  refine A_ldc2 (x := 4294967295) dL_law_450 kL_44 (by decide +kernel) ?_
  refine A_land dL_law_453 ?_
  refine A_lor dL_law_454 ?_
  refine L_callI (av := [vI (gX G (i + 1)).toInt, vL (orL (shlL (wI (gX G (i + 2)).toInt) 32) (andL (wI (gX G (i + 3)).toInt) 4294967295))]) (st := [vI x]) (L' := 2) rfl dL_law_455 vL_50 mX10_feed ⟨rfl, rfl, by decide⟩ (okX (.inr rfl)) rfl (by simp [isL]) (by decide) (by decide) (BC_monoI h1 (fun x' N2 h2 => ?_))
  exact A_icmp_eq (tgt := 1036) dL_law_458 (by decide) (fun _ => nx _ h2.2) (fun q => absurd h2.1 q)
theorem L_case8 {i : Nat} (I : Inv N) (hi : i + 6 ≤ gL G) (hL : gL G ≤ 3072) (nx : ∀ N', Inv N' → lwW G 1036 (lwS i) [] N') : lwW G 463 (lwS i) [] N := by
  refine A_aload_n (i := 1) dL_law_463 rfl rfl ?_
  refine L_callI (av := []) (st := []) (L' := 63) rfl dL_law_464 vL_51 mX9_text ⟨rfl, rfl, by decide⟩ (okX (.inl rfl)) rfl (by decide) (by decide) (by decide) (BC_monoI (op_text I ) (fun x N1 h1 => ?_))
  refine A_aload_n (i := 2) dL_law_467 rfl rfl ?_
  refine L_callI (av := []) (st := [vI x]) (L' := 68) rfl dL_law_468 vL_55 mX10_text ⟨rfl, rfl, by decide⟩ (okX (.inr rfl)) rfl (by simp [isL]) (by decide) (by decide) (BC_monoI h1 (fun x' N2 h2 => ?_))
  exact A_icmp_eq (tgt := 1036) dL_law_471 (by decide) (fun _ => nx _ h2.2) (fun q => absurd h2.1 q)
theorem L_case9 {i : Nat} (I : Inv N) (hi : i + 6 ≤ gL G) (hL : gL G ≤ 3072) (nx : ∀ N', Inv N' → lwW G 1036 (lwS i) [] N') : lwW G 476 (lwS i) [] N := by
  refine A_aload_n (i := 1) dL_law_476 rfl rfl ?_
  refine L_arg (k := 1) dL_law_477 dL_law_478 dL_law_479 dL_law_480 dL_law_481 rfl (by omega) hL ?_
  refine L_callI (av := [vI (gX G (i + 1)).toInt]) (st := []) (L' := 2) rfl dL_law_482 vL_56 mX9_force ⟨rfl, rfl, by decide⟩ (okX (.inl rfl)) rfl (by decide) (by decide) (by decide) (BC_monoI (op_force I (IR_32 _)) (fun x N1 h1 => ?_))
  refine A_aload_n (i := 2) dL_law_485 rfl rfl ?_
  refine L_arg (k := 1) dL_law_486 dL_law_487 dL_law_488 dL_law_489 dL_law_490 rfl (by omega) hL ?_
  refine L_callI (av := [vI (gX G (i + 1)).toInt]) (st := [vI x]) (L' := 2) rfl dL_law_491 vL_60 mX10_force ⟨rfl, rfl, by decide⟩ (okX (.inr rfl)) rfl (by simp [isL]) (by decide) (by decide) (BC_monoI h1 (fun x' N2 h2 => ?_))
  exact A_icmp_eq (tgt := 1036) dL_law_494 (by decide) (fun _ => nx _ h2.2) (fun q => absurd h2.1 q)
theorem L_case10 {i : Nat} (I : Inv N) (hi : i + 6 ≤ gL G) (hL : gL G ≤ 3072) (nx : ∀ N', Inv N' → lwW G 1036 (lwS i) [] N') : lwW G 499 (lwS i) [] N := by
  refine A_aload_n (i := 1) dL_law_499 rfl rfl ?_
  refine L_arg (k := 1) dL_law_500 dL_law_501 dL_law_502 dL_law_503 dL_law_504 rfl (by omega) hL ?_
  refine L_arg (k := 2) dL_law_505 dL_law_506 dL_law_507 dL_law_508 dL_law_509 rfl (by omega) hL ?_
  refine L_callL (av := [vI (gX G (i + 1)).toInt, vI (gX G (i + 2)).toInt]) (st := []) (L' := 4) rfl dL_law_510 vL_61 mX9_says ⟨rfl, rfl, by decide⟩ (okX (.inl rfl)) rfl (by decide) (by decide) (by decide) (BC_monoL (op_says I (IR_32 _) (IR_32 _)) (fun x N1 h1 => ?_))
  refine A_aload_n (i := 2) dL_law_513 rfl rfl ?_
  refine L_arg (k := 1) dL_law_514 dL_law_515 dL_law_516 dL_law_517 dL_law_518 rfl (by omega) hL ?_
  refine L_arg (k := 2) dL_law_519 dL_law_520 dL_law_521 dL_law_522 dL_law_523 rfl (by omega) hL ?_
  refine L_callL (av := [vI (gX G (i + 1)).toInt, vI (gX G (i + 2)).toInt]) (st := [vL x]) (L' := 69) rfl dL_law_524 vL_64 mX10_says ⟨rfl, rfl, by decide⟩ (okX (.inr rfl)) rfl (by simp [isL]) (by decide) (by decide) (BC_monoL h1 (fun x' N2 h2 => ?_))
  exact A_lcmp_eq (tgt := 1036) dL_law_527 rfl dL_law_528 (by decide) (fun _ => nx _ h2.2) (fun q => absurd h2.1 q)
theorem L_case11 {i : Nat} (I : Inv N) (hi : i + 6 ≤ gL G) (hL : gL G ≤ 3072) (nx : ∀ N', Inv N' → lwW G 1036 (lwS i) [] N') : lwW G 533 (lwS i) [] N := by
  refine A_aload_n (i := 1) dL_law_533 rfl rfl ?_
  refine L_callI (av := []) (st := []) (L' := 8) rfl dL_law_534 vL_65 mX9_order ⟨rfl, rfl, by decide⟩ (okX (.inl rfl)) rfl (by decide) (by decide) (by decide) (BC_monoI (op_order I ) (fun x N1 h1 => ?_))
  refine A_aload_n (i := 2) dL_law_537 rfl rfl ?_
  refine L_callI (av := []) (st := [vI x]) (L' := 5) rfl dL_law_538 vL_68 mX10_order ⟨rfl, rfl, by decide⟩ (okX (.inr rfl)) rfl (by simp [isL]) (by decide) (by decide) (BC_monoI h1 (fun x' N2 h2 => ?_))
  exact A_icmp_eq (tgt := 1036) dL_law_541 (by decide) (fun _ => nx _ h2.2) (fun q => absurd h2.1 q)
theorem L_case12 {i : Nat} (I : Inv N) (hi : i + 6 ≤ gL G) (hL : gL G ≤ 3072) (nx : ∀ N', Inv N' → lwW G 1036 (lwS i) [] N') : lwW G 546 (lwS i) [] N := by
  refine A_aload_n (i := 1) dL_law_546 rfl rfl ?_
  refine L_arg (k := 1) dL_law_547 dL_law_548 dL_law_549 dL_law_550 dL_law_551 rfl (by omega) hL ?_
  refine L_arg (k := 2) dL_law_552 dL_law_553 dL_law_554 dL_law_555 dL_law_556 rfl (by omega) hL ?_
  refine L_arg (k := 3) dL_law_557 dL_law_558 dL_law_559 dL_law_560 dL_law_561 rfl (by omega) hL ?_
  refine L_callI (av := [vI (gX G (i + 1)).toInt, vI (gX G (i + 2)).toInt, vI (gX G (i + 3)).toInt]) (st := []) (L' := 2) rfl dL_law_562 vL_69 mX9_step ⟨rfl, rfl, by decide⟩ (okX (.inl rfl)) rfl (by decide) (by decide) (by decide) (BC_monoI (op_step I (IR_32 _) (IR_32 _) (IR_32 _)) (fun x N1 h1 => ?_))
  refine A_aload_n (i := 2) dL_law_565 rfl rfl ?_
  refine L_arg (k := 1) dL_law_566 dL_law_567 dL_law_568 dL_law_569 dL_law_570 rfl (by omega) hL ?_
  refine L_arg (k := 2) dL_law_571 dL_law_572 dL_law_573 dL_law_574 dL_law_575 rfl (by omega) hL ?_
  refine L_arg (k := 3) dL_law_576 dL_law_577 dL_law_578 dL_law_579 dL_law_580 rfl (by omega) hL ?_
  refine L_callI (av := [vI (gX G (i + 1)).toInt, vI (gX G (i + 2)).toInt, vI (gX G (i + 3)).toInt]) (st := [vI x]) (L' := 2) rfl dL_law_581 vL_73 mX10_step ⟨rfl, rfl, by decide⟩ (okX (.inr rfl)) rfl (by simp [isL]) (by decide) (by decide) (BC_monoI h1 (fun x' N2 h2 => ?_))
  exact A_icmp_eq (tgt := 1036) dL_law_584 (by decide) (fun _ => nx _ h2.2) (fun q => absurd h2.1 q)
theorem L_case13 {i : Nat} (I : Inv N) (hi : i + 6 ≤ gL G) (hL : gL G ≤ 3072) (nx : ∀ N', Inv N' → lwW G 1036 (lwS i) [] N') : lwW G 589 (lwS i) [] N := by
  refine A_aload_n (i := 1) dL_law_589 rfl rfl ?_
  refine L_arg (k := 1) dL_law_590 dL_law_591 dL_law_592 dL_law_593 dL_law_594 rfl (by omega) hL ?_
  refine L_arg (k := 2) dL_law_595 dL_law_596 dL_law_597 dL_law_598 dL_law_599 rfl (by omega) hL ?_
  refine L_callI (av := [vI (gX G (i + 1)).toInt, vI (gX G (i + 2)).toInt]) (st := []) (L' := 6) rfl dL_law_600 vL_74 mX9_amend ⟨rfl, rfl, by decide⟩ (okX (.inl rfl)) rfl (by decide) (by decide) (by decide) (BC_monoI (op_amend I (IR_32 _) (IR_32 _)) (fun x N1 h1 => ?_))
  refine A_aload_n (i := 2) dL_law_603 rfl rfl ?_
  refine L_arg (k := 1) dL_law_604 dL_law_605 dL_law_606 dL_law_607 dL_law_608 rfl (by omega) hL ?_
  refine L_arg (k := 2) dL_law_609 dL_law_610 dL_law_611 dL_law_612 dL_law_613 rfl (by omega) hL ?_
  refine L_callI (av := [vI (gX G (i + 1)).toInt, vI (gX G (i + 2)).toInt]) (st := [vI x]) (L' := 5) rfl dL_law_614 vL_77 mX10_amend ⟨rfl, rfl, by decide⟩ (okX (.inr rfl)) rfl (by simp [isL]) (by decide) (by decide) (BC_monoI h1 (fun x' N2 h2 => ?_))
  exact A_icmp_eq (tgt := 1036) dL_law_617 (by decide) (fun _ => nx _ h2.2) (fun q => absurd h2.1 q)
theorem L_case14 {i : Nat} (I : Inv N) (hi : i + 6 ≤ gL G) (hL : gL G ≤ 3072) (nx : ∀ N', Inv N' → lwW G 1036 (lwS i) [] N') : lwW G 622 (lwS i) [] N := by
  refine A_aload_n (i := 1) dL_law_622 rfl rfl ?_
  refine L_arg (k := 1) dL_law_623 dL_law_624 dL_law_625 dL_law_626 dL_law_627 rfl (by omega) hL ?_
  refine L_callI (av := [vI (gX G (i + 1)).toInt]) (st := []) (L' := 7) rfl dL_law_628 vL_78 mX9_run ⟨rfl, rfl, by decide⟩ (okX (.inl rfl)) rfl (by decide) (by decide) (by decide) (BC_monoI (op_run I (IR_32 _)) (fun x N1 h1 => ?_))
  refine A_aload_n (i := 2) dL_law_631 rfl rfl ?_
  refine L_arg (k := 1) dL_law_632 dL_law_633 dL_law_634 dL_law_635 dL_law_636 rfl (by omega) hL ?_
  refine L_callI (av := [vI (gX G (i + 1)).toInt]) (st := [vI x]) (L' := 72) rfl dL_law_637 vL_81 mX10_run ⟨rfl, rfl, by decide⟩ (okX (.inr rfl)) rfl (by simp [isL]) (by decide) (by decide) (BC_monoI h1 (fun x' N2 h2 => ?_))
  exact A_icmp_eq (tgt := 1036) dL_law_640 (by decide) (fun _ => nx _ h2.2) (fun q => absurd h2.1 q)
theorem L_case15 {i : Nat} (I : Inv N) (hi : i + 6 ≤ gL G) (hL : gL G ≤ 3072) (nx : ∀ N', Inv N' → lwW G 1036 (lwS i) [] N') : lwW G 645 (lwS i) [] N := by
  refine A_aload_n (i := 1) dL_law_645 rfl rfl ?_
  refine L_arg (k := 1) dL_law_646 dL_law_647 dL_law_648 dL_law_649 dL_law_650 rfl (by omega) hL ?_
  refine L_arg (k := 2) dL_law_651 dL_law_652 dL_law_653 dL_law_654 dL_law_655 rfl (by omega) hL ?_
  refine L_callI (av := [vI (gX G (i + 1)).toInt, vI (gX G (i + 2)).toInt]) (st := []) (L' := 2) rfl dL_law_656 vL_82 mX9_month ⟨rfl, rfl, by decide⟩ (okX (.inl rfl)) rfl (by decide) (by decide) (by decide) (BC_monoI (op_month I (IR_32 _) (IR_32 _)) (fun x N1 h1 => ?_))
  refine A_aload_n (i := 2) dL_law_659 rfl rfl ?_
  refine L_arg (k := 1) dL_law_660 dL_law_661 dL_law_662 dL_law_663 dL_law_664 rfl (by omega) hL ?_
  refine L_arg (k := 2) dL_law_665 dL_law_666 dL_law_667 dL_law_668 dL_law_669 rfl (by omega) hL ?_
  refine L_callI (av := [vI (gX G (i + 1)).toInt, vI (gX G (i + 2)).toInt]) (st := [vI x]) (L' := 2) rfl dL_law_670 vL_85 mX10_month ⟨rfl, rfl, by decide⟩ (okX (.inr rfl)) rfl (by simp [isL]) (by decide) (by decide) (BC_monoI h1 (fun x' N2 h2 => ?_))
  exact A_icmp_eq (tgt := 1036) dL_law_673 (by decide) (fun _ => nx _ h2.2) (fun q => absurd h2.1 q)
theorem L_case16 {i : Nat} (I : Inv N) (hi : i + 6 ≤ gL G) (hL : gL G ≤ 3072) (nx : ∀ N', Inv N' → lwW G 1036 (lwS i) [] N') : lwW G 678 (lwS i) [] N := by
  refine A_aload_n (i := 1) dL_law_678 rfl rfl ?_
  refine L_arg (k := 1) dL_law_679 dL_law_680 dL_law_681 dL_law_682 dL_law_683 rfl (by omega) hL ?_
  refine L_arg (k := 2) dL_law_684 dL_law_685 dL_law_686 dL_law_687 dL_law_688 rfl (by omega) hL ?_
  refine L_callI (av := [vI (gX G (i + 1)).toInt, vI (gX G (i + 2)).toInt]) (st := []) (L' := 3) rfl dL_law_689 vL_86 mX9_paid ⟨rfl, rfl, by decide⟩ (okX (.inl rfl)) rfl (by decide) (by decide) (by decide) (BC_monoI (op_paid I (IR_32 _) (IR_32 _)) (fun x N1 h1 => ?_))
  refine A_aload_n (i := 2) dL_law_692 rfl rfl ?_
  refine L_arg (k := 1) dL_law_693 dL_law_694 dL_law_695 dL_law_696 dL_law_697 rfl (by omega) hL ?_
  refine L_arg (k := 2) dL_law_698 dL_law_699 dL_law_700 dL_law_701 dL_law_702 rfl (by omega) hL ?_
  refine L_callI (av := [vI (gX G (i + 1)).toInt, vI (gX G (i + 2)).toInt]) (st := [vI x]) (L' := 2) rfl dL_law_703 vL_89 mX10_paid ⟨rfl, rfl, by decide⟩ (okX (.inr rfl)) rfl (by simp [isL]) (by decide) (by decide) (BC_monoI h1 (fun x' N2 h2 => ?_))
  exact A_icmp_eq (tgt := 1036) dL_law_706 (by decide) (fun _ => nx _ h2.2) (fun q => absurd h2.1 q)
theorem L_case17 {i : Nat} (I : Inv N) (hi : i + 6 ≤ gL G) (hL : gL G ≤ 3072) (nx : ∀ N', Inv N' → lwW G 1036 (lwS i) [] N') : lwW G 711 (lwS i) [] N := by
  refine A_aload_n (i := 1) dL_law_711 rfl rfl ?_
  refine L_arg (k := 1) dL_law_712 dL_law_713 dL_law_714 dL_law_715 dL_law_716 rfl (by omega) hL ?_
  refine L_callI (av := [vI (gX G (i + 1)).toInt]) (st := []) (L' := 2) rfl dL_law_717 vL_90 mX9_buy ⟨rfl, rfl, by decide⟩ (okX (.inl rfl)) rfl (by decide) (by decide) (by decide) (BC_monoI (op_buy I (IR_32 _)) (fun x N1 h1 => ?_))
  refine A_aload_n (i := 2) dL_law_720 rfl rfl ?_
  refine L_arg (k := 1) dL_law_721 dL_law_722 dL_law_723 dL_law_724 dL_law_725 rfl (by omega) hL ?_
  refine L_callI (av := [vI (gX G (i + 1)).toInt]) (st := [vI x]) (L' := 3) rfl dL_law_726 vL_93 mX10_buy ⟨rfl, rfl, by decide⟩ (okX (.inr rfl)) rfl (by simp [isL]) (by decide) (by decide) (BC_monoI h1 (fun x' N2 h2 => ?_))
  exact A_icmp_eq (tgt := 1036) dL_law_729 (by decide) (fun _ => nx _ h2.2) (fun q => absurd h2.1 q)
theorem L_case18 {i : Nat} (I : Inv N) (hi : i + 6 ≤ gL G) (hL : gL G ≤ 3072) (nx : ∀ N', Inv N' → lwW G 1036 (lwS i) [] N') : lwW G 734 (lwS i) [] N := by
  refine A_aload_n (i := 1) dL_law_734 rfl rfl ?_
  refine L_arg (k := 1) dL_law_735 dL_law_736 dL_law_737 dL_law_738 dL_law_739 rfl (by omega) hL ?_
  refine L_arg (k := 2) dL_law_740 dL_law_741 dL_law_742 dL_law_743 dL_law_744 rfl (by omega) hL ?_
  refine L_arg (k := 3) dL_law_745 dL_law_746 dL_law_747 dL_law_748 dL_law_749 rfl (by omega) hL ?_
  refine L_arg (k := 4) dL_law_750 dL_law_751 dL_law_752 dL_law_753 dL_law_754 rfl (by omega) hL ?_
  refine L_arg (k := 5) dL_law_755 dL_law_756 dL_law_757 dL_law_758 dL_law_759 rfl (by omega) hL ?_
  refine L_callI (av := [vI (gX G (i + 1)).toInt, vI (gX G (i + 2)).toInt, vI (gX G (i + 3)).toInt, vI (gX G (i + 4)).toInt, vI (gX G (i + 5)).toInt]) (st := []) (L' := 4) rfl dL_law_760 vL_94 mX9_report ⟨rfl, rfl, by decide⟩ (okX (.inl rfl)) rfl (by decide) (by decide) (by decide) (BC_monoI (op_report I (IR_32 _) (IR_32 _) (IR_32 _) (IR_32 _) (IR_32 _)) (fun x N1 h1 => ?_))
  refine A_aload_n (i := 2) dL_law_763 rfl rfl ?_
  refine L_arg (k := 1) dL_law_764 dL_law_765 dL_law_766 dL_law_767 dL_law_768 rfl (by omega) hL ?_
  refine L_arg (k := 2) dL_law_769 dL_law_770 dL_law_771 dL_law_772 dL_law_773 rfl (by omega) hL ?_
  refine L_arg (k := 3) dL_law_774 dL_law_775 dL_law_776 dL_law_777 dL_law_778 rfl (by omega) hL ?_
  refine L_arg (k := 4) dL_law_779 dL_law_780 dL_law_781 dL_law_782 dL_law_783 rfl (by omega) hL ?_
  refine L_arg (k := 5) dL_law_784 dL_law_785 dL_law_786 dL_law_787 dL_law_788 rfl (by omega) hL ?_
  refine L_callI (av := [vI (gX G (i + 1)).toInt, vI (gX G (i + 2)).toInt, vI (gX G (i + 3)).toInt, vI (gX G (i + 4)).toInt, vI (gX G (i + 5)).toInt]) (st := [vI x]) (L' := 3) rfl dL_law_789 vL_98 mX10_report ⟨rfl, rfl, by decide⟩ (okX (.inr rfl)) rfl (by simp [isL]) (by decide) (by decide) (BC_monoI h1 (fun x' N2 h2 => ?_))
  exact A_icmp_eq (tgt := 1036) dL_law_792 (by decide) (fun _ => nx _ h2.2) (fun q => absurd h2.1 q)
theorem L_case19 {i : Nat} (I : Inv N) (hi : i + 6 ≤ gL G) (hL : gL G ≤ 3072) (nx : ∀ N', Inv N' → lwW G 1036 (lwS i) [] N') : lwW G 797 (lwS i) [] N := by
  refine A_aload_n (i := 1) dL_law_797 rfl rfl ?_
  refine L_arg (k := 1) dL_law_798 dL_law_799 dL_law_800 dL_law_801 dL_law_802 rfl (by omega) hL ?_
  refine L_arg (k := 2) dL_law_803 dL_law_804 dL_law_805 dL_law_806 dL_law_807 rfl (by omega) hL ?_
  refine L_arg (k := 3) dL_law_808 dL_law_809 dL_law_810 dL_law_811 dL_law_812 rfl (by omega) hL ?_
  refine L_callL (av := [vI (gX G (i + 1)).toInt, vI (gX G (i + 2)).toInt, vI (gX G (i + 3)).toInt]) (st := []) (L' := 7) rfl dL_law_813 vL_99 mX9_beside ⟨rfl, rfl, by decide⟩ (okX (.inl rfl)) rfl (by decide) (by decide) (by decide) (BC_monoL (op_beside I (IR_32 _) (IR_32 _) (IR_32 _)) (fun x N1 h1 => ?_))
  refine A_aload_n (i := 2) dL_law_816 rfl rfl ?_
  refine L_arg (k := 1) dL_law_817 dL_law_818 dL_law_819 dL_law_820 dL_law_821 rfl (by omega) hL ?_
  refine L_arg (k := 2) dL_law_822 dL_law_823 dL_law_824 dL_law_825 dL_law_826 rfl (by omega) hL ?_
  refine L_arg (k := 3) dL_law_827 dL_law_828 dL_law_829 dL_law_830 dL_law_831 rfl (by omega) hL ?_
  refine L_callL (av := [vI (gX G (i + 1)).toInt, vI (gX G (i + 2)).toInt, vI (gX G (i + 3)).toInt]) (st := [vL x]) (L' := 72) rfl dL_law_832 vL_103 mX10_beside ⟨rfl, rfl, by decide⟩ (okX (.inr rfl)) rfl (by simp [isL]) (by decide) (by decide) (BC_monoL h1 (fun x' N2 h2 => ?_))
  exact A_lcmp_eq (tgt := 1036) dL_law_835 rfl dL_law_836 (by decide) (fun _ => nx _ h2.2) (fun q => absurd h2.1 q)
theorem L_case20 {i : Nat} (I : Inv N) (hi : i + 6 ≤ gL G) (hL : gL G ≤ 3072) (nx : ∀ N', Inv N' → lwW G 1036 (lwS i) [] N') : lwW G 841 (lwS i) [] N := by
  refine A_aload_n (i := 1) dL_law_841 rfl rfl ?_
  refine L_arg (k := 1) dL_law_842 dL_law_843 dL_law_844 dL_law_845 dL_law_846 rfl (by omega) hL ?_
  refine L_callI (av := [vI (gX G (i + 1)).toInt]) (st := []) (L' := 4) rfl dL_law_847 vL_104 mX9_count ⟨rfl, rfl, by decide⟩ (okX (.inl rfl)) rfl (by decide) (by decide) (by decide) (BC_monoI (op_count I (IR_32 _)) (fun x N1 h1 => ?_))
  refine A_aload_n (i := 2) dL_law_850 rfl rfl ?_
  refine L_arg (k := 1) dL_law_851 dL_law_852 dL_law_853 dL_law_854 dL_law_855 rfl (by omega) hL ?_
  refine L_callI (av := [vI (gX G (i + 1)).toInt]) (st := [vI x]) (L' := 2) rfl dL_law_856 vL_107 mX10_count ⟨rfl, rfl, by decide⟩ (okX (.inr rfl)) rfl (by simp [isL]) (by decide) (by decide) (BC_monoI h1 (fun x' N2 h2 => ?_))
  exact A_icmp_eq (tgt := 1036) dL_law_859 (by decide) (fun _ => nx _ h2.2) (fun q => absurd h2.1 q)
theorem L_case21 {i : Nat} (I : Inv N) (hi : i + 6 ≤ gL G) (hL : gL G ≤ 3072) (nx : ∀ N', Inv N' → lwW G 1036 (lwS i) [] N') : lwW G 864 (lwS i) [] N := by
  refine A_aload_n (i := 1) dL_law_864 rfl rfl ?_
  refine L_arg (k := 1) dL_law_865 dL_law_866 dL_law_867 dL_law_868 dL_law_869 rfl (by omega) hL ?_
  refine L_arg (k := 2) dL_law_870 dL_law_871 dL_law_872 dL_law_873 dL_law_874 rfl (by omega) hL ?_
  refine L_arg (k := 3) dL_law_875 dL_law_876 dL_law_877 dL_law_878 dL_law_879 rfl (by omega) hL ?_
  refine L_callI (av := [vI (gX G (i + 1)).toInt, vI (gX G (i + 2)).toInt, vI (gX G (i + 3)).toInt]) (st := []) (L' := 2) rfl dL_law_880 vL_108 mX9_sheet ⟨rfl, rfl, by decide⟩ (okX (.inl rfl)) rfl (by decide) (by decide) (by decide) (BC_monoI (op_sheet I (IR_32 _) (IR_32 _) (IR_32 _)) (fun x N1 h1 => ?_))
  refine A_aload_n (i := 2) dL_law_883 rfl rfl ?_
  refine L_arg (k := 1) dL_law_884 dL_law_885 dL_law_886 dL_law_887 dL_law_888 rfl (by omega) hL ?_
  refine L_arg (k := 2) dL_law_889 dL_law_890 dL_law_891 dL_law_892 dL_law_893 rfl (by omega) hL ?_
  refine L_arg (k := 3) dL_law_894 dL_law_895 dL_law_896 dL_law_897 dL_law_898 rfl (by omega) hL ?_
  refine L_callI (av := [vI (gX G (i + 1)).toInt, vI (gX G (i + 2)).toInt, vI (gX G (i + 3)).toInt]) (st := [vI x]) (L' := 3) rfl dL_law_899 vL_111 mX10_sheet ⟨rfl, rfl, by decide⟩ (okX (.inr rfl)) rfl (by simp [isL]) (by decide) (by decide) (BC_monoI h1 (fun x' N2 h2 => ?_))
  exact A_icmp_eq (tgt := 1036) dL_law_902 (by decide) (fun _ => nx _ h2.2) (fun q => absurd h2.1 q)
theorem L_case22 {i : Nat} (I : Inv N) (hi : i + 6 ≤ gL G) (hL : gL G ≤ 3072) (nx : ∀ N', Inv N' → lwW G 1036 (lwS i) [] N') : lwW G 907 (lwS i) [] N := by
  refine A_aload_n (i := 1) dL_law_907 rfl rfl ?_
  refine L_arg (k := 1) dL_law_908 dL_law_909 dL_law_910 dL_law_911 dL_law_912 rfl (by omega) hL ?_
  refine L_arg (k := 2) dL_law_913 dL_law_914 dL_law_915 dL_law_916 dL_law_917 rfl (by omega) hL ?_
  refine L_arg (k := 3) dL_law_918 dL_law_919 dL_law_920 dL_law_921 dL_law_922 rfl (by omega) hL ?_
  refine L_callI (av := [vI (gX G (i + 1)).toInt, vI (gX G (i + 2)).toInt, vI (gX G (i + 3)).toInt]) (st := []) (L' := 2) rfl dL_law_923 vL_112 mX9_cell ⟨rfl, rfl, by decide⟩ (okX (.inl rfl)) rfl (by decide) (by decide) (by decide) (BC_monoI (op_cell I (IR_32 _) (IR_32 _) (IR_32 _)) (fun x N1 h1 => ?_))
  refine A_aload_n (i := 2) dL_law_926 rfl rfl ?_
  refine L_arg (k := 1) dL_law_927 dL_law_928 dL_law_929 dL_law_930 dL_law_931 rfl (by omega) hL ?_
  refine L_arg (k := 2) dL_law_932 dL_law_933 dL_law_934 dL_law_935 dL_law_936 rfl (by omega) hL ?_
  refine L_arg (k := 3) dL_law_937 dL_law_938 dL_law_939 dL_law_940 dL_law_941 rfl (by omega) hL ?_
  refine L_callI (av := [vI (gX G (i + 1)).toInt, vI (gX G (i + 2)).toInt, vI (gX G (i + 3)).toInt]) (st := [vI x]) (L' := 3) rfl dL_law_942 vL_115 mX10_cell ⟨rfl, rfl, by decide⟩ (okX (.inr rfl)) rfl (by simp [isL]) (by decide) (by decide) (BC_monoI h1 (fun x' N2 h2 => ?_))
  exact A_icmp_eq (tgt := 1036) dL_law_945 (by decide) (fun _ => nx _ h2.2) (fun q => absurd h2.1 q)
theorem L_case23 {i : Nat} (I : Inv N) (hi : i + 6 ≤ gL G) (hL : gL G ≤ 3072) (nx : ∀ N', Inv N' → lwW G 1036 (lwS i) [] N') : lwW G 950 (lwS i) [] N := by
  refine A_aload_n (i := 1) dL_law_950 rfl rfl ?_
  refine L_arg (k := 1) dL_law_951 dL_law_952 dL_law_953 dL_law_954 dL_law_955 rfl (by omega) hL ?_
  refine L_arg (k := 2) dL_law_956 dL_law_957 dL_law_958 dL_law_959 dL_law_960 rfl (by omega) hL ?_
  refine L_arg (k := 3) dL_law_961 dL_law_962 dL_law_963 dL_law_964 dL_law_965 rfl (by omega) hL ?_
  refine L_arg (k := 4) dL_law_966 dL_law_967 dL_law_968 dL_law_969 dL_law_970 rfl (by omega) hL ?_
  refine L_callI (av := [vI (gX G (i + 1)).toInt, vI (gX G (i + 2)).toInt, vI (gX G (i + 3)).toInt, vI (gX G (i + 4)).toInt]) (st := []) (L' := 3) rfl dL_law_971 vL_116 mX9_loans ⟨rfl, rfl, by decide⟩ (okX (.inl rfl)) rfl (by decide) (by decide) (by decide) (BC_monoI (op_loans I (IR_32 _) (IR_32 _) (IR_32 _) (IR_32 _)) (fun x N1 h1 => ?_))
  refine A_aload_n (i := 2) dL_law_974 rfl rfl ?_
  refine L_arg (k := 1) dL_law_975 dL_law_976 dL_law_977 dL_law_978 dL_law_979 rfl (by omega) hL ?_
  refine L_arg (k := 2) dL_law_980 dL_law_981 dL_law_982 dL_law_983 dL_law_984 rfl (by omega) hL ?_
  refine L_arg (k := 3) dL_law_985 dL_law_986 dL_law_987 dL_law_988 dL_law_989 rfl (by omega) hL ?_
  refine L_arg (k := 4) dL_law_990 dL_law_991 dL_law_992 dL_law_993 dL_law_994 rfl (by omega) hL ?_
  refine L_callI (av := [vI (gX G (i + 1)).toInt, vI (gX G (i + 2)).toInt, vI (gX G (i + 3)).toInt, vI (gX G (i + 4)).toInt]) (st := [vI x]) (L' := 4) rfl dL_law_995 vL_119 mX10_loans ⟨rfl, rfl, by decide⟩ (okX (.inr rfl)) rfl (by simp [isL]) (by decide) (by decide) (BC_monoI h1 (fun x' N2 h2 => ?_))
  exact A_icmp_eq (tgt := 1036) dL_law_998 (by decide) (fun _ => nx _ h2.2) (fun q => absurd h2.1 q)
theorem L_case24 {i : Nat} (I : Inv N) (hi : i + 6 ≤ gL G) (hL : gL G ≤ 3072) (nx : ∀ N', Inv N' → lwW G 1036 (lwS i) [] N') : lwW G 1003 (lwS i) [] N := by
  refine A_aload_n (i := 1) dL_law_1003 rfl rfl ?_
  refine L_arg (k := 1) dL_law_1004 dL_law_1005 dL_law_1006 dL_law_1007 dL_law_1008 rfl (by omega) hL ?_
  refine L_arg (k := 2) dL_law_1009 dL_law_1010 dL_law_1011 dL_law_1012 dL_law_1013 rfl (by omega) hL ?_
  refine L_callI (av := [vI (gX G (i + 1)).toInt, vI (gX G (i + 2)).toInt]) (st := []) (L' := 2) rfl dL_law_1014 vL_120 mX9_taken ⟨rfl, rfl, by decide⟩ (okX (.inl rfl)) rfl (by decide) (by decide) (by decide) (BC_monoI (op_taken I (IR_32 _) (IR_32 _)) (fun x N1 h1 => ?_))
  refine A_aload_n (i := 2) dL_law_1017 rfl rfl ?_
  refine L_arg (k := 1) dL_law_1018 dL_law_1019 dL_law_1020 dL_law_1021 dL_law_1022 rfl (by omega) hL ?_
  refine L_arg (k := 2) dL_law_1023 dL_law_1024 dL_law_1025 dL_law_1026 dL_law_1027 rfl (by omega) hL ?_
  refine L_callI (av := [vI (gX G (i + 1)).toInt, vI (gX G (i + 2)).toInt]) (st := [vI x]) (L' := 3) rfl dL_law_1028 vL_123 mX10_taken ⟨rfl, rfl, by decide⟩ (okX (.inr rfl)) rfl (by simp [isL]) (by decide) (by decide) (BC_monoI h1 (fun x' N2 h2 => ?_))
  exact A_icmp_eq (tgt := 1036) dL_law_1031 (by decide) (fun _ => nx _ h2.2) (fun q => absurd h2.1 q)
end LAWR
theorem lw_ret2 {p : Program} {l : Launch} {e : Env} {s : State} {m : MethodId} {args : Array Value} {below : List Frame} {meth : Method} {c : Code} (hx : p.tables.exec = Jvm.exec) (hb : c.code = code) (hr : meth.sig.returnType = ret) (hlocks : meth.locks = false) {pc : Nat} {H : Heap} {ls : Array Slot} (hdg : decode code pc = .ok (.ireturn, 1)) : W p l e room_1 s m args below meth c H [] 600000 7302250 (lw_Z below args s) (F0 m pc ls [.int 1]) := by
  intro T hT X
  obtain ⟨fs, hret, hrun, hended, hW, hframe⟩ := X.leave (v := some (.int 1)) (hlocks := hlocks) (fun h => by rw [hr] at h; cases h)
  have hmeth' : T.vm.method? m = some meth := X.method'
  refine ⟨T.setFrames fs, ?_, .returned (some (.int 1)), hrun, hended, rfl, ⟨_, rfl⟩, hW, hframe⟩
  jvm_step X.here [X.here.top, hx, hb, hdg, hmeth', hr, ret, narrow_b1]
  (try refine ⟨rfl, ?_⟩); (try refine ⟨rfl, ?_⟩)
  first | (intro acts; rw [hret _ acts rfl rfl rfl]) | rw [hret _ _ rfl rfl rfl]
  exact Steps.refl _
theorem L_done {G : GT} {ls : List (Nat × AV)} {N : NN} : lwW G 1042 ls [] N := by
  refine A_iconst (v := 1) dL_law_1042 rfl ?_
  intro p e s m args below meth cx H locs la C hn hP hS hz hl
  refine va_forget (fun q hq => ?_) ?_
  · have h1 := hS.2.2 q hq
    have h2 : s.heap.size = gB G + 0 := C.2.2.2.2.2.2.2.2.2.2
    rw [h2]
    exact h1
  refine W.widen (k := 600000) (n := 7302250) (by decide +kernel) (by decide +kernel) ?_
  exact lw_ret2 C.1 C.2.1 C.2.2.2.1 C.2.2.2.2.1 dL_law_1043
theorem L_loop {G : GT} (hL : gL G ≤ 3072) : ∀ (d i : Nat), gL G ≤ i + d → i ≤ 3072 → ∀ N, Inv N → lwW G 18 (lwS i) [] N := by
  intro d
  induction d with
  | zero =>
    intro i hd h3 N I
    refine A_iload_n (i := 3) dL_law_18 rfl rfl ?_
    refine A_aload_n (i := 0) dL_law_19 rfl rfl ?_
    refine A_slen dL_law_20 ?_
    refine A_bipush (v := 6) dL_law_21 (by decide +kernel) ?_
    refine A_isub dL_law_23 ?_
    refine A_icmp_gt (tgt := 1042) dL_law_24 (by decide) (fun _ => L_done) (fun q => ?_)
    rw [wI_id (x := ((gL G : Nat) : Int) - 6) (by omega) (by omega), wI_id (x := ((i : Nat) : Int)) (by omega) (by omega)] at q
    exact absurd q (by omega)
  | succ d ih =>
    intro i hd h3 N I
    refine A_iload_n (i := 3) dL_law_18 rfl rfl ?_
    refine A_aload_n (i := 0) dL_law_19 rfl rfl ?_
    refine A_slen dL_law_20 ?_
    refine A_bipush (v := 6) dL_law_21 (by decide +kernel) ?_
    refine A_isub dL_law_23 ?_
    refine A_icmp_gt (tgt := 1042) dL_law_24 (by decide) (fun _ => L_done) (fun q => ?_)
    have hi : i + 6 ≤ gL G := by
      rw [wI_id (x := ((gL G : Nat) : Int) - 6) (by omega) (by omega), wI_id (x := ((i : Nat) : Int)) (by omega) (by omega)] at q
      omega
    clear q
    have nx : ∀ N', Inv N' → lwW G 1036 (lwS i) [] N' := fun N' I' => by
      refine A_iinc (v := ((i + 6 : Nat) : Int)) dL_law_1036 (by decide) rfl (by omega) rfl ?_
      refine A_goto (tgt := 18) dL_law_1039 (by decide) ?_
      exact ih (i + 6) (by omega) (by omega) N' I'
    refine A_aload_n (i := 0) dL_law_27 rfl rfl ?_
    refine A_iload_n (i := 3) dL_law_28 rfl rfl ?_
    refine A_sld (j := i) dL_law_29 (wI_id (by omega) (by omega)) (by omega) ?_
    refine A_bipush (v := 31) dL_law_30 (by decide +kernel) ?_
    refine A_iand dL_law_32 ?_
    generalize hv : andI (gX G i).toInt 31 = v
    by_cases c0 : wI v = 0
    · exact A_tableIn (k := 0) (off := 115) (tgt := 148) dL_law_33 c0 (by decide) (by decide) (by decide) (L_case0 I hi hL nx)
    by_cases c1 : wI v = 1
    · exact A_tableIn (k := 1) (off := 168) (tgt := 201) dL_law_33 c1 (by decide) (by decide) (by decide) (L_case1 I hi hL nx)
    by_cases c2 : wI v = 2
    · exact A_tableIn (k := 2) (off := 201) (tgt := 234) dL_law_33 c2 (by decide) (by decide) (by decide) (L_case2 I hi hL nx)
    by_cases c3 : wI v = 3
    · exact A_tableIn (k := 3) (off := 234) (tgt := 267) dL_law_33 c3 (by decide) (by decide) (by decide) (L_case3 I hi hL nx)
    by_cases c4 : wI v = 4
    · exact A_tableIn (k := 4) (off := 267) (tgt := 300) dL_law_33 c4 (by decide) (by decide) (by decide) (L_case4 I hi hL nx)
    by_cases c5 : wI v = 5
    · exact A_tableIn (k := 5) (off := 301) (tgt := 334) dL_law_33 c5 (by decide) (by decide) (by decide) (L_case5 I hi hL nx)
    by_cases c6 : wI v = 6
    · exact A_tableIn (k := 6) (off := 334) (tgt := 367) dL_law_33 c6 (by decide) (by decide) (by decide) (L_case6 I hi hL nx)
    by_cases c7 : wI v = 7
    · exact A_tableIn (k := 7) (off := 367) (tgt := 400) dL_law_33 c7 (by decide) (by decide) (by decide) (L_case7 I hi hL nx)
    by_cases c8 : wI v = 8
    · exact A_tableIn (k := 8) (off := 430) (tgt := 463) dL_law_33 c8 (by decide) (by decide) (by decide) (L_case8 I hi hL nx)
    by_cases c9 : wI v = 9
    · exact A_tableIn (k := 9) (off := 443) (tgt := 476) dL_law_33 c9 (by decide) (by decide) (by decide) (L_case9 I hi hL nx)
    by_cases c10 : wI v = 10
    · exact A_tableIn (k := 10) (off := 466) (tgt := 499) dL_law_33 c10 (by decide) (by decide) (by decide) (L_case10 I hi hL nx)
    by_cases c11 : wI v = 11
    · exact A_tableIn (k := 11) (off := 500) (tgt := 533) dL_law_33 c11 (by decide) (by decide) (by decide) (L_case11 I hi hL nx)
    by_cases c12 : wI v = 12
    · exact A_tableIn (k := 12) (off := 513) (tgt := 546) dL_law_33 c12 (by decide) (by decide) (by decide) (L_case12 I hi hL nx)
    by_cases c13 : wI v = 13
    · exact A_tableIn (k := 13) (off := 556) (tgt := 589) dL_law_33 c13 (by decide) (by decide) (by decide) (L_case13 I hi hL nx)
    by_cases c14 : wI v = 14
    · exact A_tableIn (k := 14) (off := 589) (tgt := 622) dL_law_33 c14 (by decide) (by decide) (by decide) (L_case14 I hi hL nx)
    by_cases c15 : wI v = 15
    · exact A_tableIn (k := 15) (off := 612) (tgt := 645) dL_law_33 c15 (by decide) (by decide) (by decide) (L_case15 I hi hL nx)
    by_cases c16 : wI v = 16
    · exact A_tableIn (k := 16) (off := 645) (tgt := 678) dL_law_33 c16 (by decide) (by decide) (by decide) (L_case16 I hi hL nx)
    by_cases c17 : wI v = 17
    · exact A_tableIn (k := 17) (off := 678) (tgt := 711) dL_law_33 c17 (by decide) (by decide) (by decide) (L_case17 I hi hL nx)
    by_cases c18 : wI v = 18
    · exact A_tableIn (k := 18) (off := 701) (tgt := 734) dL_law_33 c18 (by decide) (by decide) (by decide) (L_case18 I hi hL nx)
    by_cases c19 : wI v = 19
    · exact A_tableIn (k := 19) (off := 764) (tgt := 797) dL_law_33 c19 (by decide) (by decide) (by decide) (L_case19 I hi hL nx)
    by_cases c20 : wI v = 20
    · exact A_tableIn (k := 20) (off := 808) (tgt := 841) dL_law_33 c20 (by decide) (by decide) (by decide) (L_case20 I hi hL nx)
    by_cases c21 : wI v = 21
    · exact A_tableIn (k := 21) (off := 831) (tgt := 864) dL_law_33 c21 (by decide) (by decide) (by decide) (L_case21 I hi hL nx)
    by_cases c22 : wI v = 22
    · exact A_tableIn (k := 22) (off := 874) (tgt := 907) dL_law_33 c22 (by decide) (by decide) (by decide) (L_case22 I hi hL nx)
    by_cases c23 : wI v = 23
    · exact A_tableIn (k := 23) (off := 917) (tgt := 950) dL_law_33 c23 (by decide) (by decide) (by decide) (L_case23 I hi hL nx)
    by_cases c24 : wI v = 24
    · exact A_tableIn (k := 24) (off := 970) (tgt := 1003) dL_law_33 c24 (by decide) (by decide) (by decide) (L_case24 I hi hL nx)
    exact A_tableOut (tgt := 1036) dL_law_33 (by omega) (by decide) (nx N I)
