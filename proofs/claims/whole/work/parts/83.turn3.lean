set_option maxHeartbeats 4000000 in
theorem st_addMore (l : Launch) (D : va_G) (T : Nat → ClassId) (g : Nat → Nat) (a b : Nat → Nat) (hl9 : l.stackTraces = false) {p : Program} {e : Env} {s : State} {m : MethodId} {below : List Frame} {meth : Method} {c : Code} {H : Heap} {locs : List Loc} {cells slots : Nat} {Q : State → Prop} {ls : Array Slot} {zb L q : Nat} {xs : Nat → Int32}
    (hx : p.tables.exec = Jvm.exec) (hb : c.code = cL_law) (hml : c.maxLocals = 9) (hown : s.vm.findClass RL = some m.cls) (hts : ∀ w ∈ wsL_law, w.before #[Value.ref zb] s = true)
    (hX : va_X zb L xs s s.heap) (hbl : zb < s.heap.size) (hq : 11 * q + 10 < L) (hL : L ≤ 5632) (hK : va_K D cls (tys T) s) (hG : GX g (fun q => s.heap.size ≤ q) s s.heap) (hN : NC s)
    {u : LSt} {v : MSt} {Bw : Nat → Nat → Nat} (hu : LIu u Bw) (hv : MR v.2.2.2.1 v.2.2.1 u.2.1 Bw) (hP : va_P D cls (LW T a u ++ MW T b v) H) (hD : va_D (fun q => s.heap.size ≤ q) (LW T a u ++ MW T b v)) (hS : va_S (fun q => s.heap.size ≤ q) s.heap H locs) (hcs : cells + 5 ≤ 603072 ∧ slots + 1106 ≤ 7219306)
    (hl : lv_has ls 9 [(0, .ref zb), (1, .ref (a 0)), (2, .ref (b 0)), (3, .ref (a 23)), (4, .ref (a 24)), (5, .int (nI (11 * q)))])
    (kk : ∀ (u : LSt) (v : MSt) (Bw : Nat → Nat → Nat) (H : Heap) (locs : List Loc) (ls : Array Slot), LIu u Bw → MR v.2.2.2.1 v.2.2.1 u.2.1 Bw → va_P D cls (LW T a u ++ MW T b v) H → va_D (fun q => s.heap.size ≤ q) (LW T a u ++ MW T b v) → va_S (fun q => s.heap.size ≤ q) s.heap H locs → lv_has ls 9 [(0, .ref zb), (1, .ref (a 0)), (2, .ref (b 0)), (3, .ref (a 23)), (4, .ref (a 24)), (5, .int (nI (11 * q)))] → W p l e room_1 s m #[Value.ref zb] below meth c H locs (cells + 5) (slots + 1106) Q (F0 m 1670 ls [])) :
    W p l e room_1 s m #[Value.ref zb] below meth c H locs cells slots Q (F0 m 208 ls []) := by
  obtain ⟨F, N, B0, hd, tv, ml, cnt, k0, fb, o, oD⟩ := u
  obtain ⟨many, th, fb2, fl2, fm2, fk2⟩ := v
  have hu : LI F N fb k0 cnt Bw := hu
  have hv : MR fl2 fb2 N Bw := hv
  have hA : ∀ q : Nat, s.heap.size ≤ q → (fun q => s.heap.size ≤ q) q := fun q h => h
  have hbA : ¬ s.heap.size ≤ zb := Nat.not_le.mpr hbl
  obtain ⟨cc, r, N', B', hHC, hMC, hcc⟩ := ex_addMore l D T g a b hl9 hu hv (xs (11 * q + 1)) (xs (11 * q + 2)) (xs (11 * q + 3)) (xs (11 * q + 4)) (xs (11 * q + 5)) (xs (11 * q + 6)) (xs (11 * q + 7)) (xs (11 * q + 8)) (xs (11 * q + 9)) (xs (11 * q + 10))
  refine lv_aload_n hx hb dL_law_208 rfl (lv_at hl 1 rfl) ?_
  refine lv_aload_n hx hb dL_law_209 rfl (lv_at hl 0 rfl) ?_
  refine lv_iload hx hb dL_law_210 (lv_at hl 5 rfl) ?_
  refine lv_iconst (v := nI 1) hx hb dL_law_212 (by decide +kernel) ?_
  refine ln_add hx hb dL_law_213 ?_
  refine sc_ld hx hb hX hbl hbA hS ⟨by omega, hL⟩ dL_law_214 ?_
  refine lv_aload_n hx hb dL_law_215 rfl (lv_at hl 0 rfl) ?_
  refine lv_iload hx hb dL_law_216 (lv_at hl 5 rfl) ?_
  refine lv_iconst (v := nI 2) hx hb dL_law_218 (by decide +kernel) ?_
  refine ln_add hx hb dL_law_219 ?_
  refine sc_ld hx hb hX hbl hbA hS ⟨by omega, hL⟩ dL_law_220 ?_
  refine lv_aload_n hx hb dL_law_221 rfl (lv_at hl 0 rfl) ?_
  refine lv_iload hx hb dL_law_222 (lv_at hl 5 rfl) ?_
  refine lv_iconst (v := nI 3) hx hb dL_law_224 (by decide +kernel) ?_
  refine ln_add hx hb dL_law_225 ?_
  refine sc_ld hx hb hX hbl hbA hS ⟨by omega, hL⟩ dL_law_226 ?_
  refine lv_aload_n hx hb dL_law_227 rfl (lv_at hl 0 rfl) ?_
  refine lv_iload hx hb dL_law_228 (lv_at hl 5 rfl) ?_
  refine lv_iconst (v := nI 4) hx hb dL_law_230 (by decide +kernel) ?_
  refine ln_add hx hb dL_law_231 ?_
  refine sc_ld hx hb hX hbl hbA hS ⟨by omega, hL⟩ dL_law_232 ?_
  refine lv_aload_n hx hb dL_law_233 rfl (lv_at hl 0 rfl) ?_
  refine lv_iload hx hb dL_law_234 (lv_at hl 5 rfl) ?_
  refine lv_iconst (v := nI 5) hx hb dL_law_236 (by decide +kernel) ?_
  refine ln_add hx hb dL_law_237 ?_
  refine sc_ld hx hb hX hbl hbA hS ⟨by omega, hL⟩ dL_law_238 ?_
  refine lv_aload_n hx hb dL_law_239 rfl (lv_at hl 0 rfl) ?_
  refine lv_iload hx hb dL_law_240 (lv_at hl 5 rfl) ?_
  refine lv_bipush (v := nI 6) hx hb dL_law_242 (by decide +kernel) ?_
  refine ln_add hx hb dL_law_244 ?_
  refine sc_ld hx hb hX hbl hbA hS ⟨by omega, hL⟩ dL_law_245 ?_
  refine lv_aload_n hx hb dL_law_246 rfl (lv_at hl 0 rfl) ?_
  refine lv_iload hx hb dL_law_247 (lv_at hl 5 rfl) ?_
  refine lv_bipush (v := nI 7) hx hb dL_law_249 (by decide +kernel) ?_
  refine ln_add hx hb dL_law_251 ?_
  refine sc_ld hx hb hX hbl hbA hS ⟨by omega, hL⟩ dL_law_252 ?_
  refine lv_aload_n hx hb dL_law_253 rfl (lv_at hl 0 rfl) ?_
  refine lv_iload hx hb dL_law_254 (lv_at hl 5 rfl) ?_
  refine lv_bipush (v := nI 8) hx hb dL_law_256 (by decide +kernel) ?_
  refine ln_add hx hb dL_law_258 ?_
  refine sc_ld hx hb hX hbl hbA hS ⟨by omega, hL⟩ dL_law_259 ?_
  refine lv_aload_n hx hb dL_law_260 rfl (lv_at hl 0 rfl) ?_
  refine lv_iload hx hb dL_law_261 (lv_at hl 5 rfl) ?_
  refine lv_bipush (v := nI 9) hx hb dL_law_263 (by decide +kernel) ?_
  refine ln_add hx hb dL_law_265 ?_
  refine sc_ld hx hb hX hbl hbA hS ⟨by omega, hL⟩ dL_law_266 ?_
  refine lv_aload_n hx hb dL_law_267 rfl (lv_at hl 0 rfl) ?_
  refine lv_iload hx hb dL_law_268 (lv_at hl 5 rfl) ?_
  refine lv_bipush (v := nI 10) hx hb dL_law_270 (by decide +kernel) ?_
  refine ln_add hx hb dL_law_272 ?_
  refine sc_ld hx hb hX hbl hbA hS ⟨by omega, hL⟩ dL_law_273 ?_
  refine lv_aload_n hx hb dL_law_274 rfl (lv_at hl 3 rfl) ?_
  refine mun_S (As := [.ref (a 0), .int (xs (11 * q + 1)), .int (xs (11 * q + 2)), .int (xs (11 * q + 3)), .int (xs (11 * q + 4)), .int (xs (11 * q + 5)), .int (xs (11 * q + 6)), .int (xs (11 * q + 7)), .int (xs (11 * q + 8)), .int (xs (11 * q + 9)), .int (xs (11 * q + 10)), .ref (a 23)]) (rest := []) (wc := LW T a (F, N, B0, hd, tv, ml, cnt, k0, fb, o, oD)) (wr := MW T b (many, th, fb2, fl2, fm2, fk2)) ⟨hx, hb, hml, hown, hts⟩ (hHC H.size) (vx_cwSW 12 hts gL_law_L_addMore rfl rfl rfl (by decide +kernel) ⟨Nat.le_of_ble_eq_true rfl, Nat.le_of_ble_eq_true rfl⟩) hN hP hD hK hG hS hA (List.range 25) ((List.range 5).map (fun i => i + 25)) (ap_l (LW_len T a _)) (by decide) (ap_r (LW_len T a _) (MW_len T b _)) (by decide) (by decide) hcs rfl hl.1 (Nat.le_of_ble_eq_true rfl) dL_law_275 rfl (fun u1 H locs hq1 hP hD hS => ?_)
  obtain ⟨hu1, hn1, ho1⟩ := hq1
  refine lv_istore (lv' := [(6, .int (nI cc)), (0, .ref zb), (1, .ref (a 0)), (2, .ref (b 0)), (3, .ref (a 23)), (4, .ref (a 24)), (5, .int (nI (11 * q)))]) hx hb dL_law_278 hl (by decide) rfl (fun ls hl => ?_)
  refine lv_aload_n hx hb dL_law_280 rfl (lv_at hl 3 rfl) ?_
  refine lv_aload_n hx hb dL_law_281 rfl (lv_at hl 1 rfl) ?_
  refine lv_iload hx hb dL_law_282 (lv_at hl 6 rfl) ?_
  refine lv_iconst (v := nI 1) hx hb dL_law_284 (by decide +kernel) ?_
  refine ln_add hx hb dL_law_285 ?_
  refine sc_ld hx hb hX hbl hbA hS ⟨by omega, hL⟩ dL_law_286 ?_
  refine lv_aload_n hx hb dL_law_287 rfl (lv_at hl 1 rfl) ?_
  refine lv_iload hx hb dL_law_288 (lv_at hl 6 rfl) ?_
  refine lv_iconst (v := nI 2) hx hb dL_law_290 (by decide +kernel) ?_
  refine ln_add hx hb dL_law_291 ?_
  refine sc_ld hx hb hX hbl hbA hS ⟨by omega, hL⟩ dL_law_292 ?_
  refine lv_aload_n hx hb dL_law_293 rfl (lv_at hl 1 rfl) ?_
  refine lv_iload hx hb dL_law_294 (lv_at hl 6 rfl) ?_
  refine lv_iconst (v := nI 3) hx hb dL_law_296 (by decide +kernel) ?_
  refine ln_add hx hb dL_law_297 ?_
  refine sc_ld hx hb hX hbl hbA hS ⟨by omega, hL⟩ dL_law_298 ?_
  refine lv_aload_n hx hb dL_law_299 rfl (lv_at hl 1 rfl) ?_
  refine lv_iload hx hb dL_law_300 (lv_at hl 6 rfl) ?_
  refine lv_iconst (v := nI 4) hx hb dL_law_302 (by decide +kernel) ?_
  refine ln_add hx hb dL_law_303 ?_
  refine sc_ld hx hb hX hbl hbA hS ⟨by omega, hL⟩ dL_law_304 ?_
  refine lv_aload_n hx hb dL_law_305 rfl (lv_at hl 1 rfl) ?_
  refine lv_iload hx hb dL_law_306 (lv_at hl 6 rfl) ?_
  refine lv_iconst (v := nI 5) hx hb dL_law_308 (by decide +kernel) ?_
  refine ln_add hx hb dL_law_309 ?_
  refine sc_ld hx hb hX hbl hbA hS ⟨by omega, hL⟩ dL_law_310 ?_
  refine lv_aload_n hx hb dL_law_311 rfl (lv_at hl 1 rfl) ?_
  refine lv_iload hx hb dL_law_312 (lv_at hl 6 rfl) ?_
  refine lv_bipush (v := nI 6) hx hb dL_law_314 (by decide +kernel) ?_
  refine ln_add hx hb dL_law_316 ?_
  refine sc_ld hx hb hX hbl hbA hS ⟨by omega, hL⟩ dL_law_317 ?_
  refine lv_aload_n hx hb dL_law_318 rfl (lv_at hl 1 rfl) ?_
  refine lv_iload hx hb dL_law_319 (lv_at hl 6 rfl) ?_
  refine lv_bipush (v := nI 7) hx hb dL_law_321 (by decide +kernel) ?_
  refine ln_add hx hb dL_law_323 ?_
  refine sc_ld hx hb hX hbl hbA hS ⟨by omega, hL⟩ dL_law_324 ?_
  refine lv_aload_n hx hb dL_law_325 rfl (lv_at hl 1 rfl) ?_
  refine lv_iload hx hb dL_law_326 (lv_at hl 6 rfl) ?_
  refine lv_bipush (v := nI 8) hx hb dL_law_328 (by decide +kernel) ?_
  refine ln_add hx hb dL_law_330 ?_
  refine sc_ld hx hb hX hbl hbA hS ⟨by omega, hL⟩ dL_law_331 ?_
  refine lv_aload_n hx hb dL_law_332 rfl (lv_at hl 1 rfl) ?_
  refine lv_iload hx hb dL_law_333 (lv_at hl 6 rfl) ?_
  refine lv_bipush (v := nI 9) hx hb dL_law_335 (by decide +kernel) ?_
  refine ln_add hx hb dL_law_337 ?_
  refine sc_ld hx hb hX hbl hbA hS ⟨by omega, hL⟩ dL_law_338 ?_
  refine lv_aload_n hx hb dL_law_339 rfl (lv_at hl 1 rfl) ?_
  refine lv_iload hx hb dL_law_340 (lv_at hl 6 rfl) ?_
  refine lv_bipush (v := nI 10) hx hb dL_law_342 (by decide +kernel) ?_
  refine ln_add hx hb dL_law_344 ?_
  refine sc_ld hx hb hX hbl hbA hS ⟨by omega, hL⟩ dL_law_345 ?_
  refine mu_V (As := [.int (xs (11 * q + 1)), .int (xs (11 * q + 2)), .int (xs (11 * q + 3)), .int (xs (11 * q + 4)), .int (xs (11 * q + 5)), .int (xs (11 * q + 6)), .int (xs (11 * q + 7)), .int (xs (11 * q + 8)), .int (xs (11 * q + 9)), .int (xs (11 * q + 10))]) (rest := []) (wc := MW T b (many, th, fb2, fl2, fm2, fk2)) (wr := LW T a u1) ⟨hx, hb, hml, hown, hts⟩ (hMC H.size) (cwV 10 hts gL_law_X6_addMore rfl rfl rfl (by decide +kernel) ⟨Nat.le_of_ble_eq_true rfl, Nat.le_of_ble_eq_true rfl⟩) (va_recv hK hP (ci := 3) (q0 := 0) rfl rfl) hP hD hK hG hS hA (List.range 5) ((List.range 25).map (fun i => i + 5)) (ap_l (MW_len T b _)) (by decide) (ap_r (MW_len T b _) (LW_len T a _)) (by decide) (by decide) hcs rfl hl.1 (Nat.le_of_ble_eq_true rfl) dL_law_346 rfl (fun v1 H locs hq2 hP hD hS => ?_)
  refine lv_istore (lv' := [(7, .int r), (6, .int (nI cc)), (0, .ref zb), (1, .ref (a 0)), (2, .ref (b 0)), (3, .ref (a 23)), (4, .ref (a 24)), (5, .int (nI (11 * q)))]) hx hb dL_law_349 hl (by decide) rfl (fun ls hl => ?_)
  refine lv_aload_n hx hb dL_law_351 rfl (lv_at hl 4 rfl) ?_
  refine ro_V (As := []) (rest := []) (wc := [(b 0, .inr (3, [.ref (b 1), .ref (b 2), .ref (b 3), .int (nI v1.1), .int v1.2.1, .ref (b 4)]))]) (r := .int v1.2.1) ⟨hx, hb, hml, hown, hts⟩ (c_X6_thrown l D T g (b 0) (b 1) (b 2) (b 3) (b 4) v1.1 v1.2.1) (cwV 0 hts gL_law_X6_thrown rfl rfl rfl (by decide +kernel) ⟨Nat.le_of_ble_eq_true rfl, Nat.le_of_ble_eq_true rfl⟩) (va_recv hK hP (ci := 3) (q0 := 25) rfl rfl) hP hK hG hS [25] rfl hcs rfl hl.1 (Nat.le_of_ble_eq_true rfl) dL_law_352 rfl ?_
  refine lv_iload hx hb dL_law_355 (lv_at hl 1 rfl) ?_
  refine lv_icmp_eq (tgt := 362) hx hb dL_law_357 (by decide) (fun _ => ?_) (fun z => absurd hq2.1 z)
  refine lv_iload hx hb dL_law_362 (lv_at hl 1 rfl) ?_
  refine ln_if_ne (tgt := 379) hx hb (by omega) dL_law_364 (by decide) (fun hz => ?_) (fun hz => ?_)
  · refine lv_goto (tgt := 1670) hx hb dL_law_379 (by decide) ?_
    exact kk u1 v1 B' H locs ls hu1 (MR_N hq2.2 hn1 (fun _ _ => rfl)) hP hD hS (lv_sub hl [2, 3, 4, 5, 6, 7] rfl)
  · refine lv_aload_n hx hb dL_law_367 rfl (lv_at hl 5 rfl) ?_
    refine lv_iconst (v := nI 0) hx hb dL_law_368 (by decide +kernel) ?_
    refine ld_o (f := uO u1) hx hb hK hP 23 rfl dL_law_369 ?_
    refine lv_iload hx hb dL_law_370 (lv_at hl 0 rfl) ?_
    refine lv_i2l (v := r.toInt64) hx hb dL_law_372 rfl ?_
    refine lc_eq hx hb (ho1 hz) dL_law_373 ?_
    refine ln_if_eq_t (tgt := 379) hx hb (by decide) rfl dL_law_374 (by decide) ?_
    refine lv_goto (tgt := 1670) hx hb dL_law_379 (by decide) ?_
    exact kk u1 v1 B' H locs ls hu1 (MR_N hq2.2 hn1 (fun _ _ => rfl)) hP hD hS (lv_sub hl [2, 3, 4, 5, 6, 7] rfl)
