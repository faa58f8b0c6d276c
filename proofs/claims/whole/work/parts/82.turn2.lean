set_option maxHeartbeats 4000000 in
theorem st_put (l : Launch) (D : va_G) (T : Nat → ClassId) (g : Nat → Nat) (a b : Nat → Nat) (hl9 : l.stackTraces = false) {p : Program} {e : Env} {s : State} {m : MethodId} {below : List Frame} {meth : Method} {c : Code} {H : Heap} {locs : List Loc} {cells slots : Nat} {Q : State → Prop} {ls : Array Slot} {zb L q : Nat} {xs : Nat → Int32}
    (hx : p.tables.exec = Jvm.exec) (hb : c.code = cL_law) (hml : c.maxLocals = 9) (hown : s.vm.findClass RL = some m.cls) (hts : ∀ w ∈ wsL_law, w.before #[Value.ref zb] s = true)
    (hX : va_X zb L xs s s.heap) (hbl : zb < s.heap.size) (hq : 11 * q + 10 < L) (hL : L ≤ 5632) (hK : va_K D cls (tys T) s) (hG : GX g (fun q => s.heap.size ≤ q) s s.heap) (hN : NC s)
    {u : LSt} {v : MSt} {Bw : Nat → Nat → Nat} (hu : LIu u Bw) (hv : MR v.2.2.2.1 v.2.2.1 u.2.1 Bw) (hP : va_P D cls (LW T a u ++ MW T b v) H) (hD : va_D (fun q => s.heap.size ≤ q) (LW T a u ++ MW T b v)) (hS : va_S (fun q => s.heap.size ≤ q) s.heap H locs) (hcs : cells + 5 ≤ 603072 ∧ slots + 1106 ≤ 7219306)
    (hl : lv_has ls 9 [(0, .ref zb), (1, .ref (a 0)), (2, .ref (b 0)), (3, .ref (a 23)), (4, .ref (a 24)), (5, .int (nI (11 * q)))])
    (kk : ∀ (u : LSt) (v : MSt) (Bw : Nat → Nat → Nat) (H : Heap) (locs : List Loc) (ls : Array Slot), LIu u Bw → MR v.2.2.2.1 v.2.2.1 u.2.1 Bw → va_P D cls (LW T a u ++ MW T b v) H → va_D (fun q => s.heap.size ≤ q) (LW T a u ++ MW T b v) → va_S (fun q => s.heap.size ≤ q) s.heap H locs → lv_has ls 9 [(0, .ref zb), (1, .ref (a 0)), (2, .ref (b 0)), (3, .ref (a 23)), (4, .ref (a 24)), (5, .int (nI (11 * q)))] → W p l e room_1 s m #[Value.ref zb] below meth c H locs (cells + 5) (slots + 1106) Q (F0 m 1670 ls [])) :
    W p l e room_1 s m #[Value.ref zb] below meth c H locs cells slots Q (F0 m 382 ls []) := by
  obtain ⟨F, N, B0, hd, tv, ml, cnt, k0, fb, o, oD⟩ := u
  obtain ⟨many, th, fb2, fl2, fm2, fk2⟩ := v
  have hu : LI F N fb k0 cnt Bw := hu
  have hv : MR fl2 fb2 N Bw := hv
  have hA : ∀ q : Nat, s.heap.size ≤ q → (fun q => s.heap.size ≤ q) q := fun q h => h
  have hbA : ¬ s.heap.size ≤ zb := Nat.not_le.mpr hbl
  obtain ⟨cc, r, N', B', hHC, hMC, hcc⟩ := ex_put l D T g a b hl9 hu hv (xs (11 * q + 1)) (xs (11 * q + 2)) (xs (11 * q + 3))
  refine lv_aload_n hx hb dL_law_382 rfl (lv_at hl 1 rfl) ?_
  refine lv_aload_n hx hb dL_law_383 rfl (lv_at hl 0 rfl) ?_
  refine lv_iload hx hb dL_law_384 (lv_at hl 5 rfl) ?_
  refine lv_iconst (v := nI 1) hx hb dL_law_386 (by decide +kernel) ?_
  refine ln_add hx hb dL_law_387 ?_
  refine sc_ld hx hb hX hbl hbA hS ⟨by omega, hL⟩ dL_law_388 ?_
  refine lv_aload_n hx hb dL_law_389 rfl (lv_at hl 0 rfl) ?_
  refine lv_iload hx hb dL_law_390 (lv_at hl 5 rfl) ?_
  refine lv_iconst (v := nI 2) hx hb dL_law_392 (by decide +kernel) ?_
  refine ln_add hx hb dL_law_393 ?_
  refine sc_ld hx hb hX hbl hbA hS ⟨by omega, hL⟩ dL_law_394 ?_
  refine lv_aload_n hx hb dL_law_395 rfl (lv_at hl 0 rfl) ?_
  refine lv_iload hx hb dL_law_396 (lv_at hl 5 rfl) ?_
  refine lv_iconst (v := nI 3) hx hb dL_law_398 (by decide +kernel) ?_
  refine ln_add hx hb dL_law_399 ?_
  refine sc_ld hx hb hX hbl hbA hS ⟨by omega, hL⟩ dL_law_400 ?_
  refine lv_aload_n hx hb dL_law_401 rfl (lv_at hl 3 rfl) ?_
  refine mun_S (As := [.ref (a 0), .int (xs (11 * q + 1)), .int (xs (11 * q + 2)), .int (xs (11 * q + 3)), .ref (a 23)]) (rest := []) (wc := LW T a (F, N, B0, hd, tv, ml, cnt, k0, fb, o, oD)) (wr := MW T b (many, th, fb2, fl2, fm2, fk2)) ⟨hx, hb, hml, hown, hts⟩ (hHC H.size) (vx_cwSW 5 hts gL_law_L_put rfl rfl rfl (by decide +kernel) ⟨Nat.le_of_ble_eq_true rfl, Nat.le_of_ble_eq_true rfl⟩) hN hP hD hK hG hS hA (List.range 25) ((List.range 5).map (fun i => i + 25)) (ap_l (LW_len T a _)) (by decide) (ap_r (LW_len T a _) (MW_len T b _)) (by decide) (by decide) hcs rfl hl.1 (Nat.le_of_ble_eq_true rfl) dL_law_402 rfl (fun u1 H locs hq1 hP hD hS => ?_)
  obtain ⟨hu1, hn1, ho1⟩ := hq1
  refine lv_istore (lv' := [(6, .int (nI cc)), (0, .ref zb), (1, .ref (a 0)), (2, .ref (b 0)), (3, .ref (a 23)), (4, .ref (a 24)), (5, .int (nI (11 * q)))]) hx hb dL_law_405 hl (by decide) rfl (fun ls hl => ?_)
  refine lv_aload_n hx hb dL_law_407 rfl (lv_at hl 3 rfl) ?_
  refine lv_aload_n hx hb dL_law_408 rfl (lv_at hl 1 rfl) ?_
  refine lv_iload hx hb dL_law_409 (lv_at hl 6 rfl) ?_
  refine lv_iconst (v := nI 1) hx hb dL_law_411 (by decide +kernel) ?_
  refine ln_add hx hb dL_law_412 ?_
  refine sc_ld hx hb hX hbl hbA hS ⟨by omega, hL⟩ dL_law_413 ?_
  refine lv_aload_n hx hb dL_law_414 rfl (lv_at hl 1 rfl) ?_
  refine lv_iload hx hb dL_law_415 (lv_at hl 6 rfl) ?_
  refine lv_iconst (v := nI 2) hx hb dL_law_417 (by decide +kernel) ?_
  refine ln_add hx hb dL_law_418 ?_
  refine sc_ld hx hb hX hbl hbA hS ⟨by omega, hL⟩ dL_law_419 ?_
  refine lv_aload_n hx hb dL_law_420 rfl (lv_at hl 1 rfl) ?_
  refine lv_iload hx hb dL_law_421 (lv_at hl 6 rfl) ?_
  refine lv_iconst (v := nI 3) hx hb dL_law_423 (by decide +kernel) ?_
  refine ln_add hx hb dL_law_424 ?_
  refine sc_ld hx hb hX hbl hbA hS ⟨by omega, hL⟩ dL_law_425 ?_
  refine mu_V (As := [.int (xs (11 * q + 1)), .int (xs (11 * q + 2)), .int (xs (11 * q + 3))]) (rest := []) (wc := MW T b (many, th, fb2, fl2, fm2, fk2)) (wr := LW T a u1) ⟨hx, hb, hml, hown, hts⟩ (hMC H.size) (cwV 3 hts gL_law_X6_put rfl rfl rfl (by decide +kernel) ⟨Nat.le_of_ble_eq_true rfl, Nat.le_of_ble_eq_true rfl⟩) (va_recv hK hP (ci := 3) (q0 := 0) rfl rfl) hP hD hK hG hS hA (List.range 5) ((List.range 25).map (fun i => i + 5)) (ap_l (MW_len T b _)) (by decide) (ap_r (MW_len T b _) (LW_len T a _)) (by decide) (by decide) hcs rfl hl.1 (Nat.le_of_ble_eq_true rfl) dL_law_426 rfl (fun v1 H locs hq2 hP hD hS => ?_)
  refine lv_istore (lv' := [(7, .int r), (6, .int (nI cc)), (0, .ref zb), (1, .ref (a 0)), (2, .ref (b 0)), (3, .ref (a 23)), (4, .ref (a 24)), (5, .int (nI (11 * q)))]) hx hb dL_law_429 hl (by decide) rfl (fun ls hl => ?_)
  refine lv_aload_n hx hb dL_law_431 rfl (lv_at hl 4 rfl) ?_
  refine ro_V (As := []) (rest := []) (wc := [(b 0, .inr (3, [.ref (b 1), .ref (b 2), .ref (b 3), .int (nI v1.1), .int v1.2.1, .ref (b 4)]))]) (r := .int v1.2.1) ⟨hx, hb, hml, hown, hts⟩ (c_X6_thrown l D T g (b 0) (b 1) (b 2) (b 3) (b 4) v1.1 v1.2.1) (cwV 0 hts gL_law_X6_thrown rfl rfl rfl (by decide +kernel) ⟨Nat.le_of_ble_eq_true rfl, Nat.le_of_ble_eq_true rfl⟩) (va_recv hK hP (ci := 3) (q0 := 25) rfl rfl) hP hK hG hS [25] rfl hcs rfl hl.1 (Nat.le_of_ble_eq_true rfl) dL_law_432 rfl ?_
  refine lv_iload hx hb dL_law_435 (lv_at hl 1 rfl) ?_
  refine lv_icmp_eq (tgt := 442) hx hb dL_law_437 (by decide) (fun _ => ?_) (fun z => absurd hq2.1 z)
  refine lv_iload hx hb dL_law_442 (lv_at hl 1 rfl) ?_
  refine ln_if_ne (tgt := 459) hx hb (by omega) dL_law_444 (by decide) (fun hz => ?_) (fun hz => ?_)
  · refine lv_goto (tgt := 1670) hx hb dL_law_459 (by decide) ?_
    exact kk u1 v1 B' H locs ls hu1 (MR_N hq2.2 hn1 (fun _ _ => rfl)) hP hD hS (lv_sub hl [2, 3, 4, 5, 6, 7] rfl)
  · refine lv_aload_n hx hb dL_law_447 rfl (lv_at hl 5 rfl) ?_
    refine lv_iconst (v := nI 0) hx hb dL_law_448 (by decide +kernel) ?_
    refine ld_o (f := uO u1) hx hb hK hP 23 rfl dL_law_449 ?_
    refine lv_iload hx hb dL_law_450 (lv_at hl 0 rfl) ?_
    refine lv_i2l (v := r.toInt64) hx hb dL_law_452 rfl ?_
    refine lc_eq hx hb (ho1 hz) dL_law_453 ?_
    refine ln_if_eq_t (tgt := 459) hx hb (by decide) rfl dL_law_454 (by decide) ?_
    refine lv_goto (tgt := 1670) hx hb dL_law_459 (by decide) ?_
    exact kk u1 v1 B' H locs ls hu1 (MR_N hq2.2 hn1 (fun _ _ => rfl)) hP hD hS (lv_sub hl [2, 3, 4, 5, 6, 7] rfl)
set_option maxHeartbeats 4000000 in
theorem st_insert (l : Launch) (D : va_G) (T : Nat → ClassId) (g : Nat → Nat) (a b : Nat → Nat) (hl9 : l.stackTraces = false) {p : Program} {e : Env} {s : State} {m : MethodId} {below : List Frame} {meth : Method} {c : Code} {H : Heap} {locs : List Loc} {cells slots : Nat} {Q : State → Prop} {ls : Array Slot} {zb L q : Nat} {xs : Nat → Int32}
    (hx : p.tables.exec = Jvm.exec) (hb : c.code = cL_law) (hml : c.maxLocals = 9) (hown : s.vm.findClass RL = some m.cls) (hts : ∀ w ∈ wsL_law, w.before #[Value.ref zb] s = true)
    (hX : va_X zb L xs s s.heap) (hbl : zb < s.heap.size) (hq : 11 * q + 10 < L) (hL : L ≤ 5632) (hK : va_K D cls (tys T) s) (hG : GX g (fun q => s.heap.size ≤ q) s s.heap) (hN : NC s)
    {u : LSt} {v : MSt} {Bw : Nat → Nat → Nat} (hu : LIu u Bw) (hv : MR v.2.2.2.1 v.2.2.1 u.2.1 Bw) (hP : va_P D cls (LW T a u ++ MW T b v) H) (hD : va_D (fun q => s.heap.size ≤ q) (LW T a u ++ MW T b v)) (hS : va_S (fun q => s.heap.size ≤ q) s.heap H locs) (hcs : cells + 5 ≤ 603072 ∧ slots + 1106 ≤ 7219306)
    (hl : lv_has ls 9 [(0, .ref zb), (1, .ref (a 0)), (2, .ref (b 0)), (3, .ref (a 23)), (4, .ref (a 24)), (5, .int (nI (11 * q)))])
    (kk : ∀ (u : LSt) (v : MSt) (Bw : Nat → Nat → Nat) (H : Heap) (locs : List Loc) (ls : Array Slot), LIu u Bw → MR v.2.2.2.1 v.2.2.1 u.2.1 Bw → va_P D cls (LW T a u ++ MW T b v) H → va_D (fun q => s.heap.size ≤ q) (LW T a u ++ MW T b v) → va_S (fun q => s.heap.size ≤ q) s.heap H locs → lv_has ls 9 [(0, .ref zb), (1, .ref (a 0)), (2, .ref (b 0)), (3, .ref (a 23)), (4, .ref (a 24)), (5, .int (nI (11 * q)))] → W p l e room_1 s m #[Value.ref zb] below meth c H locs (cells + 5) (slots + 1106) Q (F0 m 1670 ls [])) :
    W p l e room_1 s m #[Value.ref zb] below meth c H locs cells slots Q (F0 m 462 ls []) := by
  obtain ⟨F, N, B0, hd, tv, ml, cnt, k0, fb, o, oD⟩ := u
  obtain ⟨many, th, fb2, fl2, fm2, fk2⟩ := v
  have hu : LI F N fb k0 cnt Bw := hu
  have hv : MR fl2 fb2 N Bw := hv
  have hA : ∀ q : Nat, s.heap.size ≤ q → (fun q => s.heap.size ≤ q) q := fun q h => h
  have hbA : ¬ s.heap.size ≤ zb := Nat.not_le.mpr hbl
  obtain ⟨cc, r, N', B', hHC, hMC, hcc⟩ := ex_insert l D T g a b hl9 hu hv (xs (11 * q + 1)) (xs (11 * q + 2)) (xs (11 * q + 3))
  refine lv_aload_n hx hb dL_law_462 rfl (lv_at hl 1 rfl) ?_
  refine lv_aload_n hx hb dL_law_463 rfl (lv_at hl 0 rfl) ?_
  refine lv_iload hx hb dL_law_464 (lv_at hl 5 rfl) ?_
  refine lv_iconst (v := nI 1) hx hb dL_law_466 (by decide +kernel) ?_
  refine ln_add hx hb dL_law_467 ?_
  refine sc_ld hx hb hX hbl hbA hS ⟨by omega, hL⟩ dL_law_468 ?_
  refine lv_aload_n hx hb dL_law_469 rfl (lv_at hl 0 rfl) ?_
  refine lv_iload hx hb dL_law_470 (lv_at hl 5 rfl) ?_
  refine lv_iconst (v := nI 2) hx hb dL_law_472 (by decide +kernel) ?_
  refine ln_add hx hb dL_law_473 ?_
  refine sc_ld hx hb hX hbl hbA hS ⟨by omega, hL⟩ dL_law_474 ?_
  refine lv_aload_n hx hb dL_law_475 rfl (lv_at hl 0 rfl) ?_
  refine lv_iload hx hb dL_law_476 (lv_at hl 5 rfl) ?_
  refine lv_iconst (v := nI 3) hx hb dL_law_478 (by decide +kernel) ?_
  refine ln_add hx hb dL_law_479 ?_
  refine sc_ld hx hb hX hbl hbA hS ⟨by omega, hL⟩ dL_law_480 ?_
  refine lv_aload_n hx hb dL_law_481 rfl (lv_at hl 3 rfl) ?_
  refine mun_S (As := [.ref (a 0), .int (xs (11 * q + 1)), .int (xs (11 * q + 2)), .int (xs (11 * q + 3)), .ref (a 23)]) (rest := []) (wc := LW T a (F, N, B0, hd, tv, ml, cnt, k0, fb, o, oD)) (wr := MW T b (many, th, fb2, fl2, fm2, fk2)) ⟨hx, hb, hml, hown, hts⟩ (hHC H.size) (vx_cwSW 5 hts gL_law_L_insert rfl rfl rfl (by decide +kernel) ⟨Nat.le_of_ble_eq_true rfl, Nat.le_of_ble_eq_true rfl⟩) hN hP hD hK hG hS hA (List.range 25) ((List.range 5).map (fun i => i + 25)) (ap_l (LW_len T a _)) (by decide) (ap_r (LW_len T a _) (MW_len T b _)) (by decide) (by decide) hcs rfl hl.1 (Nat.le_of_ble_eq_true rfl) dL_law_482 rfl (fun u1 H locs hq1 hP hD hS => ?_)
  obtain ⟨hu1, hn1, ho1⟩ := hq1
  refine lv_istore (lv' := [(6, .int (nI cc)), (0, .ref zb), (1, .ref (a 0)), (2, .ref (b 0)), (3, .ref (a 23)), (4, .ref (a 24)), (5, .int (nI (11 * q)))]) hx hb dL_law_485 hl (by decide) rfl (fun ls hl => ?_)
  refine lv_aload_n hx hb dL_law_487 rfl (lv_at hl 3 rfl) ?_
  refine lv_aload_n hx hb dL_law_488 rfl (lv_at hl 1 rfl) ?_
  refine lv_iload hx hb dL_law_489 (lv_at hl 6 rfl) ?_
  refine lv_iconst (v := nI 1) hx hb dL_law_491 (by decide +kernel) ?_
  refine ln_add hx hb dL_law_492 ?_
  refine sc_ld hx hb hX hbl hbA hS ⟨by omega, hL⟩ dL_law_493 ?_
  refine lv_aload_n hx hb dL_law_494 rfl (lv_at hl 1 rfl) ?_
  refine lv_iload hx hb dL_law_495 (lv_at hl 6 rfl) ?_
  refine lv_iconst (v := nI 2) hx hb dL_law_497 (by decide +kernel) ?_
  refine ln_add hx hb dL_law_498 ?_
  refine sc_ld hx hb hX hbl hbA hS ⟨by omega, hL⟩ dL_law_499 ?_
  refine lv_aload_n hx hb dL_law_500 rfl (lv_at hl 1 rfl) ?_
  refine lv_iload hx hb dL_law_501 (lv_at hl 6 rfl) ?_
  refine lv_iconst (v := nI 3) hx hb dL_law_503 (by decide +kernel) ?_
  refine ln_add hx hb dL_law_504 ?_
  refine sc_ld hx hb hX hbl hbA hS ⟨by omega, hL⟩ dL_law_505 ?_
  refine mu_V (As := [.int (xs (11 * q + 1)), .int (xs (11 * q + 2)), .int (xs (11 * q + 3))]) (rest := []) (wc := MW T b (many, th, fb2, fl2, fm2, fk2)) (wr := LW T a u1) ⟨hx, hb, hml, hown, hts⟩ (hMC H.size) (cwV 3 hts gL_law_X6_insert rfl rfl rfl (by decide +kernel) ⟨Nat.le_of_ble_eq_true rfl, Nat.le_of_ble_eq_true rfl⟩) (va_recv hK hP (ci := 3) (q0 := 0) rfl rfl) hP hD hK hG hS hA (List.range 5) ((List.range 25).map (fun i => i + 5)) (ap_l (MW_len T b _)) (by decide) (ap_r (MW_len T b _) (LW_len T a _)) (by decide) (by decide) hcs rfl hl.1 (Nat.le_of_ble_eq_true rfl) dL_law_506 rfl (fun v1 H locs hq2 hP hD hS => ?_)
  refine lv_istore (lv' := [(7, .int r), (6, .int (nI cc)), (0, .ref zb), (1, .ref (a 0)), (2, .ref (b 0)), (3, .ref (a 23)), (4, .ref (a 24)), (5, .int (nI (11 * q)))]) hx hb dL_law_509 hl (by decide) rfl (fun ls hl => ?_)
  refine lv_aload_n hx hb dL_law_511 rfl (lv_at hl 4 rfl) ?_
  refine ro_V (As := []) (rest := []) (wc := [(b 0, .inr (3, [.ref (b 1), .ref (b 2), .ref (b 3), .int (nI v1.1), .int v1.2.1, .ref (b 4)]))]) (r := .int v1.2.1) ⟨hx, hb, hml, hown, hts⟩ (c_X6_thrown l D T g (b 0) (b 1) (b 2) (b 3) (b 4) v1.1 v1.2.1) (cwV 0 hts gL_law_X6_thrown rfl rfl rfl (by decide +kernel) ⟨Nat.le_of_ble_eq_true rfl, Nat.le_of_ble_eq_true rfl⟩) (va_recv hK hP (ci := 3) (q0 := 25) rfl rfl) hP hK hG hS [25] rfl hcs rfl hl.1 (Nat.le_of_ble_eq_true rfl) dL_law_512 rfl ?_
  refine lv_iload hx hb dL_law_515 (lv_at hl 1 rfl) ?_
  refine lv_icmp_eq (tgt := 522) hx hb dL_law_517 (by decide) (fun _ => ?_) (fun z => absurd hq2.1 z)
  refine lv_iload hx hb dL_law_522 (lv_at hl 1 rfl) ?_
  refine ln_if_ne (tgt := 539) hx hb (by omega) dL_law_524 (by decide) (fun hz => ?_) (fun hz => ?_)
  · refine lv_goto (tgt := 1670) hx hb dL_law_539 (by decide) ?_
    exact kk u1 v1 B' H locs ls hu1 (MR_N hq2.2 hn1 (fun _ _ => rfl)) hP hD hS (lv_sub hl [2, 3, 4, 5, 6, 7] rfl)
  · refine lv_aload_n hx hb dL_law_527 rfl (lv_at hl 5 rfl) ?_
    refine lv_iconst (v := nI 0) hx hb dL_law_528 (by decide +kernel) ?_
    refine ld_o (f := uO u1) hx hb hK hP 23 rfl dL_law_529 ?_
    refine lv_iload hx hb dL_law_530 (lv_at hl 0 rfl) ?_
    refine lv_i2l (v := r.toInt64) hx hb dL_law_532 rfl ?_
    refine lc_eq hx hb (ho1 hz) dL_law_533 ?_
    refine ln_if_eq_t (tgt := 539) hx hb (by decide) rfl dL_law_534 (by decide) ?_
    refine lv_goto (tgt := 1670) hx hb dL_law_539 (by decide) ?_
    exact kk u1 v1 B' H locs ls hu1 (MR_N hq2.2 hn1 (fun _ _ => rfl)) hP hD hS (lv_sub hl [2, 3, 4, 5, 6, 7] rfl)
set_option maxHeartbeats 4000000 in
theorem st_remove (l : Launch) (D : va_G) (T : Nat → ClassId) (g : Nat → Nat) (a b : Nat → Nat) (hl9 : l.stackTraces = false) {p : Program} {e : Env} {s : State} {m : MethodId} {below : List Frame} {meth : Method} {c : Code} {H : Heap} {locs : List Loc} {cells slots : Nat} {Q : State → Prop} {ls : Array Slot} {zb L q : Nat} {xs : Nat → Int32}
    (hx : p.tables.exec = Jvm.exec) (hb : c.code = cL_law) (hml : c.maxLocals = 9) (hown : s.vm.findClass RL = some m.cls) (hts : ∀ w ∈ wsL_law, w.before #[Value.ref zb] s = true)
    (hX : va_X zb L xs s s.heap) (hbl : zb < s.heap.size) (hq : 11 * q + 10 < L) (hL : L ≤ 5632) (hK : va_K D cls (tys T) s) (hG : GX g (fun q => s.heap.size ≤ q) s s.heap) (hN : NC s)
    {u : LSt} {v : MSt} {Bw : Nat → Nat → Nat} (hu : LIu u Bw) (hv : MR v.2.2.2.1 v.2.2.1 u.2.1 Bw) (hP : va_P D cls (LW T a u ++ MW T b v) H) (hD : va_D (fun q => s.heap.size ≤ q) (LW T a u ++ MW T b v)) (hS : va_S (fun q => s.heap.size ≤ q) s.heap H locs) (hcs : cells + 5 ≤ 603072 ∧ slots + 1106 ≤ 7219306)
    (hl : lv_has ls 9 [(0, .ref zb), (1, .ref (a 0)), (2, .ref (b 0)), (3, .ref (a 23)), (4, .ref (a 24)), (5, .int (nI (11 * q)))])
    (kk : ∀ (u : LSt) (v : MSt) (Bw : Nat → Nat → Nat) (H : Heap) (locs : List Loc) (ls : Array Slot), LIu u Bw → MR v.2.2.2.1 v.2.2.1 u.2.1 Bw → va_P D cls (LW T a u ++ MW T b v) H → va_D (fun q => s.heap.size ≤ q) (LW T a u ++ MW T b v) → va_S (fun q => s.heap.size ≤ q) s.heap H locs → lv_has ls 9 [(0, .ref zb), (1, .ref (a 0)), (2, .ref (b 0)), (3, .ref (a 23)), (4, .ref (a 24)), (5, .int (nI (11 * q)))] → W p l e room_1 s m #[Value.ref zb] below meth c H locs (cells + 5) (slots + 1106) Q (F0 m 1670 ls [])) :
    W p l e room_1 s m #[Value.ref zb] below meth c H locs cells slots Q (F0 m 542 ls []) := by
  obtain ⟨F, N, B0, hd, tv, ml, cnt, k0, fb, o, oD⟩ := u
  obtain ⟨many, th, fb2, fl2, fm2, fk2⟩ := v
  have hu : LI F N fb k0 cnt Bw := hu
  have hv : MR fl2 fb2 N Bw := hv
  have hA : ∀ q : Nat, s.heap.size ≤ q → (fun q => s.heap.size ≤ q) q := fun q h => h
  have hbA : ¬ s.heap.size ≤ zb := Nat.not_le.mpr hbl
  obtain ⟨cc, r, N', B', hHC, hMC, hcc⟩ := ex_remove l D T g a b hl9 hu hv (xs (11 * q + 1)) (xs (11 * q + 2)) (xs (11 * q + 3))
  refine lv_aload_n hx hb dL_law_542 rfl (lv_at hl 1 rfl) ?_
  refine lv_aload_n hx hb dL_law_543 rfl (lv_at hl 0 rfl) ?_
  refine lv_iload hx hb dL_law_544 (lv_at hl 5 rfl) ?_
  refine lv_iconst (v := nI 1) hx hb dL_law_546 (by decide +kernel) ?_
  refine ln_add hx hb dL_law_547 ?_
  refine sc_ld hx hb hX hbl hbA hS ⟨by omega, hL⟩ dL_law_548 ?_
  refine lv_aload_n hx hb dL_law_549 rfl (lv_at hl 0 rfl) ?_
  refine lv_iload hx hb dL_law_550 (lv_at hl 5 rfl) ?_
  refine lv_iconst (v := nI 2) hx hb dL_law_552 (by decide +kernel) ?_
  refine ln_add hx hb dL_law_553 ?_
  refine sc_ld hx hb hX hbl hbA hS ⟨by omega, hL⟩ dL_law_554 ?_
  refine lv_aload_n hx hb dL_law_555 rfl (lv_at hl 0 rfl) ?_
  refine lv_iload hx hb dL_law_556 (lv_at hl 5 rfl) ?_
  refine lv_iconst (v := nI 3) hx hb dL_law_558 (by decide +kernel) ?_
  refine ln_add hx hb dL_law_559 ?_
  refine sc_ld hx hb hX hbl hbA hS ⟨by omega, hL⟩ dL_law_560 ?_
  refine lv_aload_n hx hb dL_law_561 rfl (lv_at hl 3 rfl) ?_
  refine mun_S (As := [.ref (a 0), .int (xs (11 * q + 1)), .int (xs (11 * q + 2)), .int (xs (11 * q + 3)), .ref (a 23)]) (rest := []) (wc := LW T a (F, N, B0, hd, tv, ml, cnt, k0, fb, o, oD)) (wr := MW T b (many, th, fb2, fl2, fm2, fk2)) ⟨hx, hb, hml, hown, hts⟩ (hHC H.size) (vx_cwSW 5 hts gL_law_L_remove rfl rfl rfl (by decide +kernel) ⟨Nat.le_of_ble_eq_true rfl, Nat.le_of_ble_eq_true rfl⟩) hN hP hD hK hG hS hA (List.range 25) ((List.range 5).map (fun i => i + 25)) (ap_l (LW_len T a _)) (by decide) (ap_r (LW_len T a _) (MW_len T b _)) (by decide) (by decide) hcs rfl hl.1 (Nat.le_of_ble_eq_true rfl) dL_law_562 rfl (fun u1 H locs hq1 hP hD hS => ?_)
  obtain ⟨hu1, hn1, ho1⟩ := hq1
  refine lv_istore (lv' := [(6, .int (nI cc)), (0, .ref zb), (1, .ref (a 0)), (2, .ref (b 0)), (3, .ref (a 23)), (4, .ref (a 24)), (5, .int (nI (11 * q)))]) hx hb dL_law_565 hl (by decide) rfl (fun ls hl => ?_)
  refine lv_aload_n hx hb dL_law_567 rfl (lv_at hl 3 rfl) ?_
  refine lv_aload_n hx hb dL_law_568 rfl (lv_at hl 1 rfl) ?_
  refine lv_iload hx hb dL_law_569 (lv_at hl 6 rfl) ?_
  refine lv_iconst (v := nI 1) hx hb dL_law_571 (by decide +kernel) ?_
  refine ln_add hx hb dL_law_572 ?_
  refine sc_ld hx hb hX hbl hbA hS ⟨by omega, hL⟩ dL_law_573 ?_
  refine lv_aload_n hx hb dL_law_574 rfl (lv_at hl 1 rfl) ?_
  refine lv_iload hx hb dL_law_575 (lv_at hl 6 rfl) ?_
  refine lv_iconst (v := nI 2) hx hb dL_law_577 (by decide +kernel) ?_
  refine ln_add hx hb dL_law_578 ?_
  refine sc_ld hx hb hX hbl hbA hS ⟨by omega, hL⟩ dL_law_579 ?_
  refine lv_aload_n hx hb dL_law_580 rfl (lv_at hl 1 rfl) ?_
  refine lv_iload hx hb dL_law_581 (lv_at hl 6 rfl) ?_
  refine lv_iconst (v := nI 3) hx hb dL_law_583 (by decide +kernel) ?_
  refine ln_add hx hb dL_law_584 ?_
  refine sc_ld hx hb hX hbl hbA hS ⟨by omega, hL⟩ dL_law_585 ?_
  refine mu_V (As := [.int (xs (11 * q + 1)), .int (xs (11 * q + 2)), .int (xs (11 * q + 3))]) (rest := []) (wc := MW T b (many, th, fb2, fl2, fm2, fk2)) (wr := LW T a u1) ⟨hx, hb, hml, hown, hts⟩ (hMC H.size) (cwV 3 hts gL_law_X6_remove rfl rfl rfl (by decide +kernel) ⟨Nat.le_of_ble_eq_true rfl, Nat.le_of_ble_eq_true rfl⟩) (va_recv hK hP (ci := 3) (q0 := 0) rfl rfl) hP hD hK hG hS hA (List.range 5) ((List.range 25).map (fun i => i + 5)) (ap_l (MW_len T b _)) (by decide) (ap_r (MW_len T b _) (LW_len T a _)) (by decide) (by decide) hcs rfl hl.1 (Nat.le_of_ble_eq_true rfl) dL_law_586 rfl (fun v1 H locs hq2 hP hD hS => ?_)
  refine lv_istore (lv' := [(7, .int r), (6, .int (nI cc)), (0, .ref zb), (1, .ref (a 0)), (2, .ref (b 0)), (3, .ref (a 23)), (4, .ref (a 24)), (5, .int (nI (11 * q)))]) hx hb dL_law_589 hl (by decide) rfl (fun ls hl => ?_)
  refine lv_aload_n hx hb dL_law_591 rfl (lv_at hl 4 rfl) ?_
  refine ro_V (As := []) (rest := []) (wc := [(b 0, .inr (3, [.ref (b 1), .ref (b 2), .ref (b 3), .int (nI v1.1), .int v1.2.1, .ref (b 4)]))]) (r := .int v1.2.1) ⟨hx, hb, hml, hown, hts⟩ (c_X6_thrown l D T g (b 0) (b 1) (b 2) (b 3) (b 4) v1.1 v1.2.1) (cwV 0 hts gL_law_X6_thrown rfl rfl rfl (by decide +kernel) ⟨Nat.le_of_ble_eq_true rfl, Nat.le_of_ble_eq_true rfl⟩) (va_recv hK hP (ci := 3) (q0 := 25) rfl rfl) hP hK hG hS [25] rfl hcs rfl hl.1 (Nat.le_of_ble_eq_true rfl) dL_law_592 rfl ?_
  refine lv_iload hx hb dL_law_595 (lv_at hl 1 rfl) ?_
  refine lv_icmp_eq (tgt := 602) hx hb dL_law_597 (by decide) (fun _ => ?_) (fun z => absurd hq2.1 z)
  refine lv_iload hx hb dL_law_602 (lv_at hl 1 rfl) ?_
  refine ln_if_ne (tgt := 619) hx hb (by omega) dL_law_604 (by decide) (fun hz => ?_) (fun hz => ?_)
  · refine lv_goto (tgt := 1670) hx hb dL_law_619 (by decide) ?_
    exact kk u1 v1 B' H locs ls hu1 (MR_N hq2.2 hn1 (fun _ _ => rfl)) hP hD hS (lv_sub hl [2, 3, 4, 5, 6, 7] rfl)
  · refine lv_aload_n hx hb dL_law_607 rfl (lv_at hl 5 rfl) ?_
    refine lv_iconst (v := nI 0) hx hb dL_law_608 (by decide +kernel) ?_
    refine ld_o (f := uO u1) hx hb hK hP 23 rfl dL_law_609 ?_
    refine lv_iload hx hb dL_law_610 (lv_at hl 0 rfl) ?_
    refine lv_i2l (v := r.toInt64) hx hb dL_law_612 rfl ?_
    refine lc_eq hx hb (ho1 hz) dL_law_613 ?_
    refine ln_if_eq_t (tgt := 619) hx hb (by decide) rfl dL_law_614 (by decide) ?_
    refine lv_goto (tgt := 1670) hx hb dL_law_619 (by decide) ?_
    exact kk u1 v1 B' H locs ls hu1 (MR_N hq2.2 hn1 (fun _ _ => rfl)) hP hD hS (lv_sub hl [2, 3, 4, 5, 6, 7] rfl)
set_option maxHeartbeats 4000000 in
theorem st_length (l : Launch) (D : va_G) (T : Nat → ClassId) (g : Nat → Nat) (a b : Nat → Nat) (hl9 : l.stackTraces = false) {p : Program} {e : Env} {s : State} {m : MethodId} {below : List Frame} {meth : Method} {c : Code} {H : Heap} {locs : List Loc} {cells slots : Nat} {Q : State → Prop} {ls : Array Slot} {zb L q : Nat} {xs : Nat → Int32}
    (hx : p.tables.exec = Jvm.exec) (hb : c.code = cL_law) (hml : c.maxLocals = 9) (hown : s.vm.findClass RL = some m.cls) (hts : ∀ w ∈ wsL_law, w.before #[Value.ref zb] s = true)
    (hX : va_X zb L xs s s.heap) (hbl : zb < s.heap.size) (hq : 11 * q + 10 < L) (hL : L ≤ 5632) (hK : va_K D cls (tys T) s) (hG : GX g (fun q => s.heap.size ≤ q) s s.heap) (hN : NC s)
    {u : LSt} {v : MSt} {Bw : Nat → Nat → Nat} (hu : LIu u Bw) (hv : MR v.2.2.2.1 v.2.2.1 u.2.1 Bw) (hP : va_P D cls (LW T a u ++ MW T b v) H) (hD : va_D (fun q => s.heap.size ≤ q) (LW T a u ++ MW T b v)) (hS : va_S (fun q => s.heap.size ≤ q) s.heap H locs) (hcs : cells + 5 ≤ 603072 ∧ slots + 1106 ≤ 7219306)
    (hl : lv_has ls 9 [(0, .ref zb), (1, .ref (a 0)), (2, .ref (b 0)), (3, .ref (a 23)), (4, .ref (a 24)), (5, .int (nI (11 * q)))])
    (kk : ∀ (u : LSt) (v : MSt) (Bw : Nat → Nat → Nat) (H : Heap) (locs : List Loc) (ls : Array Slot), LIu u Bw → MR v.2.2.2.1 v.2.2.1 u.2.1 Bw → va_P D cls (LW T a u ++ MW T b v) H → va_D (fun q => s.heap.size ≤ q) (LW T a u ++ MW T b v) → va_S (fun q => s.heap.size ≤ q) s.heap H locs → lv_has ls 9 [(0, .ref zb), (1, .ref (a 0)), (2, .ref (b 0)), (3, .ref (a 23)), (4, .ref (a 24)), (5, .int (nI (11 * q)))] → W p l e room_1 s m #[Value.ref zb] below meth c H locs (cells + 5) (slots + 1106) Q (F0 m 1670 ls [])) :
    W p l e room_1 s m #[Value.ref zb] below meth c H locs cells slots Q (F0 m 622 ls []) := by
  obtain ⟨F, N, B0, hd, tv, ml, cnt, k0, fb, o, oD⟩ := u
  obtain ⟨many, th, fb2, fl2, fm2, fk2⟩ := v
  have hu : LI F N fb k0 cnt Bw := hu
  have hv : MR fl2 fb2 N Bw := hv
  have hA : ∀ q : Nat, s.heap.size ≤ q → (fun q => s.heap.size ≤ q) q := fun q h => h
  have hbA : ¬ s.heap.size ≤ zb := Nat.not_le.mpr hbl
  obtain ⟨cc, r, N', B', hHC, hMC, hcc⟩ := ex_length l D T g a b hl9 hu hv (xs (11 * q + 1))
  refine lv_aload_n hx hb dL_law_622 rfl (lv_at hl 1 rfl) ?_
  refine lv_aload_n hx hb dL_law_623 rfl (lv_at hl 0 rfl) ?_
  refine lv_iload hx hb dL_law_624 (lv_at hl 5 rfl) ?_
  refine lv_iconst (v := nI 1) hx hb dL_law_626 (by decide +kernel) ?_
  refine ln_add hx hb dL_law_627 ?_
  refine sc_ld hx hb hX hbl hbA hS ⟨by omega, hL⟩ dL_law_628 ?_
  refine lv_aload_n hx hb dL_law_629 rfl (lv_at hl 3 rfl) ?_
  refine mun_S (As := [.ref (a 0), .int (xs (11 * q + 1)), .ref (a 23)]) (rest := []) (wc := LW T a (F, N, B0, hd, tv, ml, cnt, k0, fb, o, oD)) (wr := MW T b (many, th, fb2, fl2, fm2, fk2)) ⟨hx, hb, hml, hown, hts⟩ (hHC H.size) (vx_cwSW 3 hts gL_law_L_length rfl rfl rfl (by decide +kernel) ⟨Nat.le_of_ble_eq_true rfl, Nat.le_of_ble_eq_true rfl⟩) hN hP hD hK hG hS hA (List.range 25) ((List.range 5).map (fun i => i + 25)) (ap_l (LW_len T a _)) (by decide) (ap_r (LW_len T a _) (MW_len T b _)) (by decide) (by decide) hcs rfl hl.1 (Nat.le_of_ble_eq_true rfl) dL_law_630 rfl (fun u1 H locs hq1 hP hD hS => ?_)
  obtain ⟨hu1, hn1, ho1⟩ := hq1
  refine lv_istore (lv' := [(6, .int (nI cc)), (0, .ref zb), (1, .ref (a 0)), (2, .ref (b 0)), (3, .ref (a 23)), (4, .ref (a 24)), (5, .int (nI (11 * q)))]) hx hb dL_law_633 hl (by decide) rfl (fun ls hl => ?_)
  refine lv_aload_n hx hb dL_law_635 rfl (lv_at hl 3 rfl) ?_
  refine lv_aload_n hx hb dL_law_636 rfl (lv_at hl 1 rfl) ?_
  refine lv_iload hx hb dL_law_637 (lv_at hl 6 rfl) ?_
  refine lv_iconst (v := nI 1) hx hb dL_law_639 (by decide +kernel) ?_
  refine ln_add hx hb dL_law_640 ?_
  refine sc_ld hx hb hX hbl hbA hS ⟨by omega, hL⟩ dL_law_641 ?_
  refine mu_V (As := [.int (xs (11 * q + 1))]) (rest := []) (wc := MW T b (many, th, fb2, fl2, fm2, fk2)) (wr := LW T a u1) ⟨hx, hb, hml, hown, hts⟩ (hMC H.size) (cwV 1 hts gL_law_X6_length rfl rfl rfl (by decide +kernel) ⟨Nat.le_of_ble_eq_true rfl, Nat.le_of_ble_eq_true rfl⟩) (va_recv hK hP (ci := 3) (q0 := 0) rfl rfl) hP hD hK hG hS hA (List.range 5) ((List.range 25).map (fun i => i + 5)) (ap_l (MW_len T b _)) (by decide) (ap_r (MW_len T b _) (LW_len T a _)) (by decide) (by decide) hcs rfl hl.1 (Nat.le_of_ble_eq_true rfl) dL_law_642 rfl (fun v1 H locs hq2 hP hD hS => ?_)
  refine lv_istore (lv' := [(7, .int r), (6, .int (nI cc)), (0, .ref zb), (1, .ref (a 0)), (2, .ref (b 0)), (3, .ref (a 23)), (4, .ref (a 24)), (5, .int (nI (11 * q)))]) hx hb dL_law_645 hl (by decide) rfl (fun ls hl => ?_)
  refine lv_aload_n hx hb dL_law_647 rfl (lv_at hl 4 rfl) ?_
  refine ro_V (As := []) (rest := []) (wc := [(b 0, .inr (3, [.ref (b 1), .ref (b 2), .ref (b 3), .int (nI v1.1), .int v1.2.1, .ref (b 4)]))]) (r := .int v1.2.1) ⟨hx, hb, hml, hown, hts⟩ (c_X6_thrown l D T g (b 0) (b 1) (b 2) (b 3) (b 4) v1.1 v1.2.1) (cwV 0 hts gL_law_X6_thrown rfl rfl rfl (by decide +kernel) ⟨Nat.le_of_ble_eq_true rfl, Nat.le_of_ble_eq_true rfl⟩) (va_recv hK hP (ci := 3) (q0 := 25) rfl rfl) hP hK hG hS [25] rfl hcs rfl hl.1 (Nat.le_of_ble_eq_true rfl) dL_law_648 rfl ?_
  refine lv_iload hx hb dL_law_651 (lv_at hl 1 rfl) ?_
  refine lv_icmp_eq (tgt := 658) hx hb dL_law_653 (by decide) (fun _ => ?_) (fun z => absurd hq2.1 z)
  refine lv_iload hx hb dL_law_658 (lv_at hl 1 rfl) ?_
  refine ln_if_ne (tgt := 675) hx hb (by omega) dL_law_660 (by decide) (fun hz => ?_) (fun hz => ?_)
  · refine lv_goto (tgt := 1670) hx hb dL_law_675 (by decide) ?_
    exact kk u1 v1 B' H locs ls hu1 (MR_N hq2.2 hn1 (fun _ _ => rfl)) hP hD hS (lv_sub hl [2, 3, 4, 5, 6, 7] rfl)
  · refine lv_aload_n hx hb dL_law_663 rfl (lv_at hl 5 rfl) ?_
    refine lv_iconst (v := nI 0) hx hb dL_law_664 (by decide +kernel) ?_
    refine ld_o (f := uO u1) hx hb hK hP 23 rfl dL_law_665 ?_
    refine lv_iload hx hb dL_law_666 (lv_at hl 0 rfl) ?_
    refine lv_i2l (v := r.toInt64) hx hb dL_law_668 rfl ?_
    refine lc_eq hx hb (ho1 hz) dL_law_669 ?_
    refine ln_if_eq_t (tgt := 675) hx hb (by decide) rfl dL_law_670 (by decide) ?_
    refine lv_goto (tgt := 1670) hx hb dL_law_675 (by decide) ?_
    exact kk u1 v1 B' H locs ls hu1 (MR_N hq2.2 hn1 (fun _ _ => rfl)) hP hD hS (lv_sub hl [2, 3, 4, 5, 6, 7] rfl)
set_option maxHeartbeats 4000000 in
theorem st_get (l : Launch) (D : va_G) (T : Nat → ClassId) (g : Nat → Nat) (a b : Nat → Nat) (hl9 : l.stackTraces = false) {p : Program} {e : Env} {s : State} {m : MethodId} {below : List Frame} {meth : Method} {c : Code} {H : Heap} {locs : List Loc} {cells slots : Nat} {Q : State → Prop} {ls : Array Slot} {zb L q : Nat} {xs : Nat → Int32}
    (hx : p.tables.exec = Jvm.exec) (hb : c.code = cL_law) (hml : c.maxLocals = 9) (hown : s.vm.findClass RL = some m.cls) (hts : ∀ w ∈ wsL_law, w.before #[Value.ref zb] s = true)
    (hX : va_X zb L xs s s.heap) (hbl : zb < s.heap.size) (hq : 11 * q + 10 < L) (hL : L ≤ 5632) (hK : va_K D cls (tys T) s) (hG : GX g (fun q => s.heap.size ≤ q) s s.heap) (hN : NC s)
    {u : LSt} {v : MSt} {Bw : Nat → Nat → Nat} (hu : LIu u Bw) (hv : MR v.2.2.2.1 v.2.2.1 u.2.1 Bw) (hP : va_P D cls (LW T a u ++ MW T b v) H) (hD : va_D (fun q => s.heap.size ≤ q) (LW T a u ++ MW T b v)) (hS : va_S (fun q => s.heap.size ≤ q) s.heap H locs) (hcs : cells + 5 ≤ 603072 ∧ slots + 1106 ≤ 7219306)
    (hl : lv_has ls 9 [(0, .ref zb), (1, .ref (a 0)), (2, .ref (b 0)), (3, .ref (a 23)), (4, .ref (a 24)), (5, .int (nI (11 * q)))])
    (kk : ∀ (u : LSt) (v : MSt) (Bw : Nat → Nat → Nat) (H : Heap) (locs : List Loc) (ls : Array Slot), LIu u Bw → MR v.2.2.2.1 v.2.2.1 u.2.1 Bw → va_P D cls (LW T a u ++ MW T b v) H → va_D (fun q => s.heap.size ≤ q) (LW T a u ++ MW T b v) → va_S (fun q => s.heap.size ≤ q) s.heap H locs → lv_has ls 9 [(0, .ref zb), (1, .ref (a 0)), (2, .ref (b 0)), (3, .ref (a 23)), (4, .ref (a 24)), (5, .int (nI (11 * q)))] → W p l e room_1 s m #[Value.ref zb] below meth c H locs (cells + 5) (slots + 1106) Q (F0 m 1670 ls [])) :
    W p l e room_1 s m #[Value.ref zb] below meth c H locs cells slots Q (F0 m 678 ls []) := by
  obtain ⟨F, N, B0, hd, tv, ml, cnt, k0, fb, o, oD⟩ := u
  obtain ⟨many, th, fb2, fl2, fm2, fk2⟩ := v
  have hu : LI F N fb k0 cnt Bw := hu
  have hv : MR fl2 fb2 N Bw := hv
  have hA : ∀ q : Nat, s.heap.size ≤ q → (fun q => s.heap.size ≤ q) q := fun q h => h
  have hbA : ¬ s.heap.size ≤ zb := Nat.not_le.mpr hbl
  obtain ⟨cc, r, N', B', hHC, hMC, hcc⟩ := ex_get l D T g a b hl9 hu hv (xs (11 * q + 1)) (xs (11 * q + 2))
  refine lv_aload_n hx hb dL_law_678 rfl (lv_at hl 1 rfl) ?_
  refine lv_aload_n hx hb dL_law_679 rfl (lv_at hl 0 rfl) ?_
  refine lv_iload hx hb dL_law_680 (lv_at hl 5 rfl) ?_
  refine lv_iconst (v := nI 1) hx hb dL_law_682 (by decide +kernel) ?_
  refine ln_add hx hb dL_law_683 ?_
  refine sc_ld hx hb hX hbl hbA hS ⟨by omega, hL⟩ dL_law_684 ?_
  refine lv_aload_n hx hb dL_law_685 rfl (lv_at hl 0 rfl) ?_
  refine lv_iload hx hb dL_law_686 (lv_at hl 5 rfl) ?_
  refine lv_iconst (v := nI 2) hx hb dL_law_688 (by decide +kernel) ?_
  refine ln_add hx hb dL_law_689 ?_
  refine sc_ld hx hb hX hbl hbA hS ⟨by omega, hL⟩ dL_law_690 ?_
  refine lv_aload_n hx hb dL_law_691 rfl (lv_at hl 3 rfl) ?_
  refine mun_S (As := [.ref (a 0), .int (xs (11 * q + 1)), .int (xs (11 * q + 2)), .ref (a 23)]) (rest := []) (wc := LW T a (F, N, B0, hd, tv, ml, cnt, k0, fb, o, oD)) (wr := MW T b (many, th, fb2, fl2, fm2, fk2)) ⟨hx, hb, hml, hown, hts⟩ (hHC H.size) (vx_cwSW 4 hts gL_law_L_get rfl rfl rfl (by decide +kernel) ⟨Nat.le_of_ble_eq_true rfl, Nat.le_of_ble_eq_true rfl⟩) hN hP hD hK hG hS hA (List.range 25) ((List.range 5).map (fun i => i + 25)) (ap_l (LW_len T a _)) (by decide) (ap_r (LW_len T a _) (MW_len T b _)) (by decide) (by decide) hcs rfl hl.1 (Nat.le_of_ble_eq_true rfl) dL_law_692 rfl (fun u1 H locs hq1 hP hD hS => ?_)
  obtain ⟨hu1, hn1, ho1⟩ := hq1
  refine lv_istore (lv' := [(6, .int (nI cc)), (0, .ref zb), (1, .ref (a 0)), (2, .ref (b 0)), (3, .ref (a 23)), (4, .ref (a 24)), (5, .int (nI (11 * q)))]) hx hb dL_law_695 hl (by decide) rfl (fun ls hl => ?_)
  refine lv_aload_n hx hb dL_law_697 rfl (lv_at hl 3 rfl) ?_
  refine lv_aload_n hx hb dL_law_698 rfl (lv_at hl 1 rfl) ?_
  refine lv_iload hx hb dL_law_699 (lv_at hl 6 rfl) ?_
  refine lv_iconst (v := nI 1) hx hb dL_law_701 (by decide +kernel) ?_
  refine ln_add hx hb dL_law_702 ?_
  refine sc_ld hx hb hX hbl hbA hS ⟨by omega, hL⟩ dL_law_703 ?_
  refine lv_aload_n hx hb dL_law_704 rfl (lv_at hl 1 rfl) ?_
  refine lv_iload hx hb dL_law_705 (lv_at hl 6 rfl) ?_
  refine lv_iconst (v := nI 2) hx hb dL_law_707 (by decide +kernel) ?_
  refine ln_add hx hb dL_law_708 ?_
  refine sc_ld hx hb hX hbl hbA hS ⟨by omega, hL⟩ dL_law_709 ?_
  refine mu_V (As := [.int (xs (11 * q + 1)), .int (xs (11 * q + 2))]) (rest := []) (wc := MW T b (many, th, fb2, fl2, fm2, fk2)) (wr := LW T a u1) ⟨hx, hb, hml, hown, hts⟩ (hMC H.size) (cwV 2 hts gL_law_X6_get rfl rfl rfl (by decide +kernel) ⟨Nat.le_of_ble_eq_true rfl, Nat.le_of_ble_eq_true rfl⟩) (va_recv hK hP (ci := 3) (q0 := 0) rfl rfl) hP hD hK hG hS hA (List.range 5) ((List.range 25).map (fun i => i + 5)) (ap_l (MW_len T b _)) (by decide) (ap_r (MW_len T b _) (LW_len T a _)) (by decide) (by decide) hcs rfl hl.1 (Nat.le_of_ble_eq_true rfl) dL_law_710 rfl (fun v1 H locs hq2 hP hD hS => ?_)
  refine lv_istore (lv' := [(7, .int r), (6, .int (nI cc)), (0, .ref zb), (1, .ref (a 0)), (2, .ref (b 0)), (3, .ref (a 23)), (4, .ref (a 24)), (5, .int (nI (11 * q)))]) hx hb dL_law_713 hl (by decide) rfl (fun ls hl => ?_)
  refine lv_aload_n hx hb dL_law_715 rfl (lv_at hl 4 rfl) ?_
  refine ro_V (As := []) (rest := []) (wc := [(b 0, .inr (3, [.ref (b 1), .ref (b 2), .ref (b 3), .int (nI v1.1), .int v1.2.1, .ref (b 4)]))]) (r := .int v1.2.1) ⟨hx, hb, hml, hown, hts⟩ (c_X6_thrown l D T g (b 0) (b 1) (b 2) (b 3) (b 4) v1.1 v1.2.1) (cwV 0 hts gL_law_X6_thrown rfl rfl rfl (by decide +kernel) ⟨Nat.le_of_ble_eq_true rfl, Nat.le_of_ble_eq_true rfl⟩) (va_recv hK hP (ci := 3) (q0 := 25) rfl rfl) hP hK hG hS [25] rfl hcs rfl hl.1 (Nat.le_of_ble_eq_true rfl) dL_law_716 rfl ?_
  refine lv_iload hx hb dL_law_719 (lv_at hl 1 rfl) ?_
  refine lv_icmp_eq (tgt := 726) hx hb dL_law_721 (by decide) (fun _ => ?_) (fun z => absurd hq2.1 z)
  refine lv_iload hx hb dL_law_726 (lv_at hl 1 rfl) ?_
  refine ln_if_ne (tgt := 743) hx hb (by omega) dL_law_728 (by decide) (fun hz => ?_) (fun hz => ?_)
  · refine lv_goto (tgt := 1670) hx hb dL_law_743 (by decide) ?_
    exact kk u1 v1 B' H locs ls hu1 (MR_N hq2.2 hn1 (fun _ _ => rfl)) hP hD hS (lv_sub hl [2, 3, 4, 5, 6, 7] rfl)
  · refine lv_aload_n hx hb dL_law_731 rfl (lv_at hl 5 rfl) ?_
    refine lv_iconst (v := nI 0) hx hb dL_law_732 (by decide +kernel) ?_
    refine ld_o (f := uO u1) hx hb hK hP 23 rfl dL_law_733 ?_
    refine lv_iload hx hb dL_law_734 (lv_at hl 0 rfl) ?_
    refine lv_i2l (v := r.toInt64) hx hb dL_law_736 rfl ?_
    refine lc_eq hx hb (ho1 hz) dL_law_737 ?_
    refine ln_if_eq_t (tgt := 743) hx hb (by decide) rfl dL_law_738 (by decide) ?_
    refine lv_goto (tgt := 1670) hx hb dL_law_743 (by decide) ?_
    exact kk u1 v1 B' H locs ls hu1 (MR_N hq2.2 hn1 (fun _ _ => rfl)) hP hD hS (lv_sub hl [2, 3, 4, 5, 6, 7] rfl)
set_option maxHeartbeats 4000000 in
theorem st_copy (l : Launch) (D : va_G) (T : Nat → ClassId) (g : Nat → Nat) (a b : Nat → Nat) (hl9 : l.stackTraces = false) {p : Program} {e : Env} {s : State} {m : MethodId} {below : List Frame} {meth : Method} {c : Code} {H : Heap} {locs : List Loc} {cells slots : Nat} {Q : State → Prop} {ls : Array Slot} {zb L q : Nat} {xs : Nat → Int32}
    (hx : p.tables.exec = Jvm.exec) (hb : c.code = cL_law) (hml : c.maxLocals = 9) (hown : s.vm.findClass RL = some m.cls) (hts : ∀ w ∈ wsL_law, w.before #[Value.ref zb] s = true)
    (hX : va_X zb L xs s s.heap) (hbl : zb < s.heap.size) (hq : 11 * q + 10 < L) (hL : L ≤ 5632) (hK : va_K D cls (tys T) s) (hG : GX g (fun q => s.heap.size ≤ q) s s.heap) (hN : NC s)
    {u : LSt} {v : MSt} {Bw : Nat → Nat → Nat} (hu : LIu u Bw) (hv : MR v.2.2.2.1 v.2.2.1 u.2.1 Bw) (hP : va_P D cls (LW T a u ++ MW T b v) H) (hD : va_D (fun q => s.heap.size ≤ q) (LW T a u ++ MW T b v)) (hS : va_S (fun q => s.heap.size ≤ q) s.heap H locs) (hcs : cells + 5 ≤ 603072 ∧ slots + 1106 ≤ 7219306)
    (hl : lv_has ls 9 [(0, .ref zb), (1, .ref (a 0)), (2, .ref (b 0)), (3, .ref (a 23)), (4, .ref (a 24)), (5, .int (nI (11 * q)))])
    (kk : ∀ (u : LSt) (v : MSt) (Bw : Nat → Nat → Nat) (H : Heap) (locs : List Loc) (ls : Array Slot), LIu u Bw → MR v.2.2.2.1 v.2.2.1 u.2.1 Bw → va_P D cls (LW T a u ++ MW T b v) H → va_D (fun q => s.heap.size ≤ q) (LW T a u ++ MW T b v) → va_S (fun q => s.heap.size ≤ q) s.heap H locs → lv_has ls 9 [(0, .ref zb), (1, .ref (a 0)), (2, .ref (b 0)), (3, .ref (a 23)), (4, .ref (a 24)), (5, .int (nI (11 * q)))] → W p l e room_1 s m #[Value.ref zb] below meth c H locs (cells + 5) (slots + 1106) Q (F0 m 1670 ls [])) :
    W p l e room_1 s m #[Value.ref zb] below meth c H locs cells slots Q (F0 m 746 ls []) := by
  obtain ⟨F, N, B0, hd, tv, ml, cnt, k0, fb, o, oD⟩ := u
  obtain ⟨many, th, fb2, fl2, fm2, fk2⟩ := v
  have hu : LI F N fb k0 cnt Bw := hu
  have hv : MR fl2 fb2 N Bw := hv
  have hA : ∀ q : Nat, s.heap.size ≤ q → (fun q => s.heap.size ≤ q) q := fun q h => h
  have hbA : ¬ s.heap.size ≤ zb := Nat.not_le.mpr hbl
  obtain ⟨cc, r, N', B', hHC, hMC, hcc⟩ := ex_copy l D T g a b hl9 hu hv (xs (11 * q + 1)) (xs (11 * q + 2))
  refine lv_aload_n hx hb dL_law_746 rfl (lv_at hl 1 rfl) ?_
  refine lv_aload_n hx hb dL_law_747 rfl (lv_at hl 0 rfl) ?_
  refine lv_iload hx hb dL_law_748 (lv_at hl 5 rfl) ?_
  refine lv_iconst (v := nI 1) hx hb dL_law_750 (by decide +kernel) ?_
  refine ln_add hx hb dL_law_751 ?_
  refine sc_ld hx hb hX hbl hbA hS ⟨by omega, hL⟩ dL_law_752 ?_
  refine lv_aload_n hx hb dL_law_753 rfl (lv_at hl 0 rfl) ?_
  refine lv_iload hx hb dL_law_754 (lv_at hl 5 rfl) ?_
  refine lv_iconst (v := nI 2) hx hb dL_law_756 (by decide +kernel) ?_
  refine ln_add hx hb dL_law_757 ?_
  refine sc_ld hx hb hX hbl hbA hS ⟨by omega, hL⟩ dL_law_758 ?_
  refine lv_aload_n hx hb dL_law_759 rfl (lv_at hl 3 rfl) ?_
  refine mun_S (As := [.ref (a 0), .int (xs (11 * q + 1)), .int (xs (11 * q + 2)), .ref (a 23)]) (rest := []) (wc := LW T a (F, N, B0, hd, tv, ml, cnt, k0, fb, o, oD)) (wr := MW T b (many, th, fb2, fl2, fm2, fk2)) ⟨hx, hb, hml, hown, hts⟩ (hHC H.size) (vx_cwSW 4 hts gL_law_L_copy rfl rfl rfl (by decide +kernel) ⟨Nat.le_of_ble_eq_true rfl, Nat.le_of_ble_eq_true rfl⟩) hN hP hD hK hG hS hA (List.range 25) ((List.range 5).map (fun i => i + 25)) (ap_l (LW_len T a _)) (by decide) (ap_r (LW_len T a _) (MW_len T b _)) (by decide) (by decide) hcs rfl hl.1 (Nat.le_of_ble_eq_true rfl) dL_law_760 rfl (fun u1 H locs hq1 hP hD hS => ?_)
  obtain ⟨hu1, hn1, ho1⟩ := hq1
  refine lv_istore (lv' := [(6, .int (nI cc)), (0, .ref zb), (1, .ref (a 0)), (2, .ref (b 0)), (3, .ref (a 23)), (4, .ref (a 24)), (5, .int (nI (11 * q)))]) hx hb dL_law_763 hl (by decide) rfl (fun ls hl => ?_)
  refine lv_aload_n hx hb dL_law_765 rfl (lv_at hl 3 rfl) ?_
  refine lv_aload_n hx hb dL_law_766 rfl (lv_at hl 1 rfl) ?_
  refine lv_iload hx hb dL_law_767 (lv_at hl 6 rfl) ?_
  refine lv_iconst (v := nI 1) hx hb dL_law_769 (by decide +kernel) ?_
  refine ln_add hx hb dL_law_770 ?_
  refine sc_ld hx hb hX hbl hbA hS ⟨by omega, hL⟩ dL_law_771 ?_
  refine lv_aload_n hx hb dL_law_772 rfl (lv_at hl 1 rfl) ?_
  refine lv_iload hx hb dL_law_773 (lv_at hl 6 rfl) ?_
  refine lv_iconst (v := nI 2) hx hb dL_law_775 (by decide +kernel) ?_
  refine ln_add hx hb dL_law_776 ?_
  refine sc_ld hx hb hX hbl hbA hS ⟨by omega, hL⟩ dL_law_777 ?_
  refine mu_V (As := [.int (xs (11 * q + 1)), .int (xs (11 * q + 2))]) (rest := []) (wc := MW T b (many, th, fb2, fl2, fm2, fk2)) (wr := LW T a u1) ⟨hx, hb, hml, hown, hts⟩ (hMC H.size) (cwV 2 hts gL_law_X6_copy rfl rfl rfl (by decide +kernel) ⟨Nat.le_of_ble_eq_true rfl, Nat.le_of_ble_eq_true rfl⟩) (va_recv hK hP (ci := 3) (q0 := 0) rfl rfl) hP hD hK hG hS hA (List.range 5) ((List.range 25).map (fun i => i + 5)) (ap_l (MW_len T b _)) (by decide) (ap_r (MW_len T b _) (LW_len T a _)) (by decide) (by decide) hcs rfl hl.1 (Nat.le_of_ble_eq_true rfl) dL_law_778 rfl (fun v1 H locs hq2 hP hD hS => ?_)
  refine lv_istore (lv' := [(7, .int r), (6, .int (nI cc)), (0, .ref zb), (1, .ref (a 0)), (2, .ref (b 0)), (3, .ref (a 23)), (4, .ref (a 24)), (5, .int (nI (11 * q)))]) hx hb dL_law_781 hl (by decide) rfl (fun ls hl => ?_)
  refine lv_aload_n hx hb dL_law_783 rfl (lv_at hl 4 rfl) ?_
  refine ro_V (As := []) (rest := []) (wc := [(b 0, .inr (3, [.ref (b 1), .ref (b 2), .ref (b 3), .int (nI v1.1), .int v1.2.1, .ref (b 4)]))]) (r := .int v1.2.1) ⟨hx, hb, hml, hown, hts⟩ (c_X6_thrown l D T g (b 0) (b 1) (b 2) (b 3) (b 4) v1.1 v1.2.1) (cwV 0 hts gL_law_X6_thrown rfl rfl rfl (by decide +kernel) ⟨Nat.le_of_ble_eq_true rfl, Nat.le_of_ble_eq_true rfl⟩) (va_recv hK hP (ci := 3) (q0 := 25) rfl rfl) hP hK hG hS [25] rfl hcs rfl hl.1 (Nat.le_of_ble_eq_true rfl) dL_law_784 rfl ?_
  refine lv_iload hx hb dL_law_787 (lv_at hl 1 rfl) ?_
  refine lv_icmp_eq (tgt := 794) hx hb dL_law_789 (by decide) (fun _ => ?_) (fun z => absurd hq2.1 z)
  refine lv_iload hx hb dL_law_794 (lv_at hl 1 rfl) ?_
  refine ln_if_ne (tgt := 811) hx hb (by omega) dL_law_796 (by decide) (fun hz => ?_) (fun hz => ?_)
  · refine lv_goto (tgt := 1670) hx hb dL_law_811 (by decide) ?_
    exact kk u1 v1 B' H locs ls hu1 (MR_N hq2.2 hn1 (fun _ _ => rfl)) hP hD hS (lv_sub hl [2, 3, 4, 5, 6, 7] rfl)
  · refine lv_aload_n hx hb dL_law_799 rfl (lv_at hl 5 rfl) ?_
    refine lv_iconst (v := nI 0) hx hb dL_law_800 (by decide +kernel) ?_
    refine ld_o (f := uO u1) hx hb hK hP 23 rfl dL_law_801 ?_
    refine lv_iload hx hb dL_law_802 (lv_at hl 0 rfl) ?_
    refine lv_i2l (v := r.toInt64) hx hb dL_law_804 rfl ?_
    refine lc_eq hx hb (ho1 hz) dL_law_805 ?_
    refine ln_if_eq_t (tgt := 811) hx hb (by decide) rfl dL_law_806 (by decide) ?_
    refine lv_goto (tgt := 1670) hx hb dL_law_811 (by decide) ?_
    exact kk u1 v1 B' H locs ls hu1 (MR_N hq2.2 hn1 (fun _ _ => rfl)) hP hD hS (lv_sub hl [2, 3, 4, 5, 6, 7] rfl)
set_option maxHeartbeats 4000000 in
theorem st_isLike (l : Launch) (D : va_G) (T : Nat → ClassId) (g : Nat → Nat) (a b : Nat → Nat) (hl9 : l.stackTraces = false) {p : Program} {e : Env} {s : State} {m : MethodId} {below : List Frame} {meth : Method} {c : Code} {H : Heap} {locs : List Loc} {cells slots : Nat} {Q : State → Prop} {ls : Array Slot} {zb L q : Nat} {xs : Nat → Int32}
    (hx : p.tables.exec = Jvm.exec) (hb : c.code = cL_law) (hml : c.maxLocals = 9) (hown : s.vm.findClass RL = some m.cls) (hts : ∀ w ∈ wsL_law, w.before #[Value.ref zb] s = true)
    (hX : va_X zb L xs s s.heap) (hbl : zb < s.heap.size) (hq : 11 * q + 10 < L) (hL : L ≤ 5632) (hK : va_K D cls (tys T) s) (hG : GX g (fun q => s.heap.size ≤ q) s s.heap) (hN : NC s)
    {u : LSt} {v : MSt} {Bw : Nat → Nat → Nat} (hu : LIu u Bw) (hv : MR v.2.2.2.1 v.2.2.1 u.2.1 Bw) (hP : va_P D cls (LW T a u ++ MW T b v) H) (hD : va_D (fun q => s.heap.size ≤ q) (LW T a u ++ MW T b v)) (hS : va_S (fun q => s.heap.size ≤ q) s.heap H locs) (hcs : cells + 5 ≤ 603072 ∧ slots + 1106 ≤ 7219306)
    (hl : lv_has ls 9 [(0, .ref zb), (1, .ref (a 0)), (2, .ref (b 0)), (3, .ref (a 23)), (4, .ref (a 24)), (5, .int (nI (11 * q)))])
    (kk : ∀ (u : LSt) (v : MSt) (Bw : Nat → Nat → Nat) (H : Heap) (locs : List Loc) (ls : Array Slot), LIu u Bw → MR v.2.2.2.1 v.2.2.1 u.2.1 Bw → va_P D cls (LW T a u ++ MW T b v) H → va_D (fun q => s.heap.size ≤ q) (LW T a u ++ MW T b v) → va_S (fun q => s.heap.size ≤ q) s.heap H locs → lv_has ls 9 [(0, .ref zb), (1, .ref (a 0)), (2, .ref (b 0)), (3, .ref (a 23)), (4, .ref (a 24)), (5, .int (nI (11 * q)))] → W p l e room_1 s m #[Value.ref zb] below meth c H locs (cells + 5) (slots + 1106) Q (F0 m 1670 ls [])) :
    W p l e room_1 s m #[Value.ref zb] below meth c H locs cells slots Q (F0 m 814 ls []) := by
  obtain ⟨F, N, B0, hd, tv, ml, cnt, k0, fb, o, oD⟩ := u
  obtain ⟨many, th, fb2, fl2, fm2, fk2⟩ := v
  have hu : LI F N fb k0 cnt Bw := hu
  have hv : MR fl2 fb2 N Bw := hv
  have hA : ∀ q : Nat, s.heap.size ≤ q → (fun q => s.heap.size ≤ q) q := fun q h => h
  have hbA : ¬ s.heap.size ≤ zb := Nat.not_le.mpr hbl
  obtain ⟨cc, r, N', B', hHC, hMC, hcc⟩ := ex_isLike l D T g a b hl9 hu hv (xs (11 * q + 1)) (xs (11 * q + 2))
  refine lv_aload_n hx hb dL_law_814 rfl (lv_at hl 1 rfl) ?_
  refine lv_aload_n hx hb dL_law_815 rfl (lv_at hl 0 rfl) ?_
  refine lv_iload hx hb dL_law_816 (lv_at hl 5 rfl) ?_
  refine lv_iconst (v := nI 1) hx hb dL_law_818 (by decide +kernel) ?_
  refine ln_add hx hb dL_law_819 ?_
  refine sc_ld hx hb hX hbl hbA hS ⟨by omega, hL⟩ dL_law_820 ?_
  refine lv_aload_n hx hb dL_law_821 rfl (lv_at hl 0 rfl) ?_
  refine lv_iload hx hb dL_law_822 (lv_at hl 5 rfl) ?_
  refine lv_iconst (v := nI 2) hx hb dL_law_824 (by decide +kernel) ?_
  refine ln_add hx hb dL_law_825 ?_
  refine sc_ld hx hb hX hbl hbA hS ⟨by omega, hL⟩ dL_law_826 ?_
  refine lv_aload_n hx hb dL_law_827 rfl (lv_at hl 3 rfl) ?_
  refine mun_S (As := [.ref (a 0), .int (xs (11 * q + 1)), .int (xs (11 * q + 2)), .ref (a 23)]) (rest := []) (wc := LW T a (F, N, B0, hd, tv, ml, cnt, k0, fb, o, oD)) (wr := MW T b (many, th, fb2, fl2, fm2, fk2)) ⟨hx, hb, hml, hown, hts⟩ (hHC H.size) (vx_cwSW 4 hts gL_law_L_isLike rfl rfl rfl (by decide +kernel) ⟨Nat.le_of_ble_eq_true rfl, Nat.le_of_ble_eq_true rfl⟩) hN hP hD hK hG hS hA (List.range 25) ((List.range 5).map (fun i => i + 25)) (ap_l (LW_len T a _)) (by decide) (ap_r (LW_len T a _) (MW_len T b _)) (by decide) (by decide) hcs rfl hl.1 (Nat.le_of_ble_eq_true rfl) dL_law_828 rfl (fun u1 H locs hq1 hP hD hS => ?_)
  obtain ⟨hu1, hn1, ho1⟩ := hq1
  refine lv_istore (lv' := [(6, .int (nI cc)), (0, .ref zb), (1, .ref (a 0)), (2, .ref (b 0)), (3, .ref (a 23)), (4, .ref (a 24)), (5, .int (nI (11 * q)))]) hx hb dL_law_831 hl (by decide) rfl (fun ls hl => ?_)
  refine lv_aload_n hx hb dL_law_833 rfl (lv_at hl 3 rfl) ?_
  refine lv_aload_n hx hb dL_law_834 rfl (lv_at hl 1 rfl) ?_
  refine lv_iload hx hb dL_law_835 (lv_at hl 6 rfl) ?_
  refine lv_iconst (v := nI 1) hx hb dL_law_837 (by decide +kernel) ?_
  refine ln_add hx hb dL_law_838 ?_
  refine sc_ld hx hb hX hbl hbA hS ⟨by omega, hL⟩ dL_law_839 ?_
  refine lv_aload_n hx hb dL_law_840 rfl (lv_at hl 1 rfl) ?_
  refine lv_iload hx hb dL_law_841 (lv_at hl 6 rfl) ?_
  refine lv_iconst (v := nI 2) hx hb dL_law_843 (by decide +kernel) ?_
  refine ln_add hx hb dL_law_844 ?_
  refine sc_ld hx hb hX hbl hbA hS ⟨by omega, hL⟩ dL_law_845 ?_
  refine mu_V (As := [.int (xs (11 * q + 1)), .int (xs (11 * q + 2))]) (rest := []) (wc := MW T b (many, th, fb2, fl2, fm2, fk2)) (wr := LW T a u1) ⟨hx, hb, hml, hown, hts⟩ (hMC H.size) (cwV 2 hts gL_law_X6_isLike rfl rfl rfl (by decide +kernel) ⟨Nat.le_of_ble_eq_true rfl, Nat.le_of_ble_eq_true rfl⟩) (va_recv hK hP (ci := 3) (q0 := 0) rfl rfl) hP hD hK hG hS hA (List.range 5) ((List.range 25).map (fun i => i + 5)) (ap_l (MW_len T b _)) (by decide) (ap_r (MW_len T b _) (LW_len T a _)) (by decide) (by decide) hcs rfl hl.1 (Nat.le_of_ble_eq_true rfl) dL_law_846 rfl (fun v1 H locs hq2 hP hD hS => ?_)
  refine lv_istore (lv' := [(7, .int (bI r)), (6, .int (nI cc)), (0, .ref zb), (1, .ref (a 0)), (2, .ref (b 0)), (3, .ref (a 23)), (4, .ref (a 24)), (5, .int (nI (11 * q)))]) hx hb dL_law_849 hl (by decide) rfl (fun ls hl => ?_)
  refine lv_aload_n hx hb dL_law_851 rfl (lv_at hl 4 rfl) ?_
  refine ro_V (As := []) (rest := []) (wc := [(b 0, .inr (3, [.ref (b 1), .ref (b 2), .ref (b 3), .int (nI v1.1), .int v1.2.1, .ref (b 4)]))]) (r := .int v1.2.1) ⟨hx, hb, hml, hown, hts⟩ (c_X6_thrown l D T g (b 0) (b 1) (b 2) (b 3) (b 4) v1.1 v1.2.1) (cwV 0 hts gL_law_X6_thrown rfl rfl rfl (by decide +kernel) ⟨Nat.le_of_ble_eq_true rfl, Nat.le_of_ble_eq_true rfl⟩) (va_recv hK hP (ci := 3) (q0 := 25) rfl rfl) hP hK hG hS [25] rfl hcs rfl hl.1 (Nat.le_of_ble_eq_true rfl) dL_law_852 rfl ?_
  refine lv_iload hx hb dL_law_855 (lv_at hl 1 rfl) ?_
  refine lv_icmp_eq (tgt := 862) hx hb dL_law_857 (by decide) (fun _ => ?_) (fun z => absurd hq2.1 z)
  refine lv_iload hx hb dL_law_862 (lv_at hl 1 rfl) ?_
  refine ln_if_ne (tgt := 886) hx hb (by omega) dL_law_864 (by decide) (fun hz => ?_) (fun hz => ?_)
  · refine lv_goto (tgt := 1670) hx hb dL_law_886 (by decide) ?_
    exact kk u1 v1 B' H locs ls hu1 (MR_N hq2.2 hn1 (fun _ _ => rfl)) hP hD hS (lv_sub hl [2, 3, 4, 5, 6, 7] rfl)
  · refine lv_aload_n hx hb dL_law_867 rfl (lv_at hl 5 rfl) ?_
    refine lv_iconst (v := nI 0) hx hb dL_law_868 (by decide +kernel) ?_
    refine ld_o (f := uO u1) hx hb hK hP 23 rfl dL_law_869 ?_
    refine lv_iload hx hb dL_law_870 (lv_at hl 0 rfl) ?_
    cases r with
    | true =>
      have ho2 : uO u1 0 = lN 1 := ho1 hz
      refine ln_if_eq_f (a := 1) (tgt := 879) hx hb (by decide) (by decide) dL_law_872 (by decide) ?_
      refine lv_lconst (v := lN 1) hx hb dL_law_875 (by decide +kernel) ?_
      refine lv_goto (tgt := 880) hx hb dL_law_876 (by decide) ?_
      refine lc_eq hx hb ho2 dL_law_880 ?_
      refine ln_if_eq_t (a := 0) (tgt := 886) hx hb (by decide) rfl dL_law_881 (by decide) ?_
      refine lv_goto (tgt := 1670) hx hb dL_law_886 (by decide) ?_
      exact kk u1 v1 B' H locs ls hu1 (MR_N hq2.2 hn1 (fun _ _ => rfl)) hP hD hS (lv_sub hl [2, 3, 4, 5, 6, 7] rfl)
    | false =>
      have ho2 : uO u1 0 = lN 0 := ho1 hz
      refine ln_if_eq_t (a := 0) (tgt := 879) hx hb (by decide) rfl dL_law_872 (by decide) ?_
      refine lv_lconst (v := lN 0) hx hb dL_law_879 (by decide +kernel) ?_
      refine lc_eq hx hb ho2 dL_law_880 ?_
      refine ln_if_eq_t (a := 0) (tgt := 886) hx hb (by decide) rfl dL_law_881 (by decide) ?_
      refine lv_goto (tgt := 1670) hx hb dL_law_886 (by decide) ?_
      exact kk u1 v1 B' H locs ls hu1 (MR_N hq2.2 hn1 (fun _ _ => rfl)) hP hD hS (lv_sub hl [2, 3, 4, 5, 6, 7] rfl)
set_option maxHeartbeats 4000000 in
theorem st_write_0 (l : Launch) (D : va_G) (T : Nat → ClassId) (g : Nat → Nat) (a b : Nat → Nat) (hl9 : l.stackTraces = false) {p : Program} {e : Env} {s : State} {m : MethodId} {below : List Frame} {meth : Method} {c : Code} {H : Heap} {locs : List Loc} {cells slots : Nat} {Q : State → Prop} {ls : Array Slot} {zb L q : Nat} {xs : Nat → Int32}
    (hx : p.tables.exec = Jvm.exec) (hb : c.code = cL_law) (hml : c.maxLocals = 9) (hown : s.vm.findClass RL = some m.cls) (hts : ∀ w ∈ wsL_law, w.before #[Value.ref zb] s = true)
    (hX : va_X zb L xs s s.heap) (hbl : zb < s.heap.size) (hq : 11 * q + 10 < L) (hL : L ≤ 5632) (hK : va_K D cls (tys T) s) (hG : GX g (fun q => s.heap.size ≤ q) s s.heap) (hN : NC s)
    {u : LSt} {v : MSt} {Bw : Nat → Nat → Nat} (hu : LIu u Bw) (hv : MR v.2.2.2.1 v.2.2.1 u.2.1 Bw) (hP : va_P D cls (LW T a u ++ MW T b v) H) (hD : va_D (fun q => s.heap.size ≤ q) (LW T a u ++ MW T b v)) (hS : va_S (fun q => s.heap.size ≤ q) s.heap H locs) (hcs : cells + 5 ≤ 603072 ∧ slots + 1106 ≤ 7219306)
    (hl : lv_has ls 9 [(0, .ref zb), (1, .ref (a 0)), (2, .ref (b 0)), (3, .ref (a 23)), (4, .ref (a 24)), (5, .int (nI (11 * q)))]) (hfz : xs (11 * q + 4) = 0)
    (kk : ∀ (u : LSt) (v : MSt) (Bw : Nat → Nat → Nat) (H : Heap) (locs : List Loc) (ls : Array Slot), LIu u Bw → MR v.2.2.2.1 v.2.2.1 u.2.1 Bw → va_P D cls (LW T a u ++ MW T b v) H → va_D (fun q => s.heap.size ≤ q) (LW T a u ++ MW T b v) → va_S (fun q => s.heap.size ≤ q) s.heap H locs → lv_has ls 9 [(0, .ref zb), (1, .ref (a 0)), (2, .ref (b 0)), (3, .ref (a 23)), (4, .ref (a 24)), (5, .int (nI (11 * q)))] → W p l e room_1 s m #[Value.ref zb] below meth c H locs (cells + 5) (slots + 1106) Q (F0 m 1670 ls [])) :
    W p l e room_1 s m #[Value.ref zb] below meth c H locs cells slots Q (F0 m 889 ls []) := by
  obtain ⟨F, N, B0, hd, tv, ml, cnt, k0, fb, o, oD⟩ := u
  obtain ⟨many, th, fb2, fl2, fm2, fk2⟩ := v
  have hu : LI F N fb k0 cnt Bw := hu
  have hv : MR fl2 fb2 N Bw := hv
  have hA : ∀ q : Nat, s.heap.size ≤ q → (fun q => s.heap.size ≤ q) q := fun q h => h
  have hbA : ¬ s.heap.size ≤ zb := Nat.not_le.mpr hbl
  obtain ⟨cc, r, N', B', hHC, hMC, hcc⟩ := ex_write l D T g a b hl9 hu hv (xs (11 * q + 1)) (xs (11 * q + 2)) (xs (11 * q + 3)) 0 (by decide)
  refine lv_aload_n hx hb dL_law_889 rfl (lv_at hl 1 rfl) ?_
  refine lv_aload_n hx hb dL_law_890 rfl (lv_at hl 0 rfl) ?_
  refine lv_iload hx hb dL_law_891 (lv_at hl 5 rfl) ?_
  refine lv_iconst (v := nI 1) hx hb dL_law_893 (by decide +kernel) ?_
  refine ln_add hx hb dL_law_894 ?_
  refine sc_ld hx hb hX hbl hbA hS ⟨by omega, hL⟩ dL_law_895 ?_
  refine lv_aload_n hx hb dL_law_896 rfl (lv_at hl 0 rfl) ?_
  refine lv_iload hx hb dL_law_897 (lv_at hl 5 rfl) ?_
  refine lv_iconst (v := nI 2) hx hb dL_law_899 (by decide +kernel) ?_
  refine ln_add hx hb dL_law_900 ?_
  refine sc_ld hx hb hX hbl hbA hS ⟨by omega, hL⟩ dL_law_901 ?_
  refine lv_aload_n hx hb dL_law_902 rfl (lv_at hl 0 rfl) ?_
  refine lv_iload hx hb dL_law_903 (lv_at hl 5 rfl) ?_
  refine lv_iconst (v := nI 3) hx hb dL_law_905 (by decide +kernel) ?_
  refine ln_add hx hb dL_law_906 ?_
  refine sc_ld hx hb hX hbl hbA hS ⟨by omega, hL⟩ dL_law_907 ?_
  refine lv_aload_n hx hb dL_law_908 rfl (lv_at hl 0 rfl) ?_
  refine lv_iload hx hb dL_law_909 (lv_at hl 5 rfl) ?_
  refine lv_iconst (v := nI 4) hx hb dL_law_911 (by decide +kernel) ?_
  refine ln_add hx hb dL_law_912 ?_
  refine sc_ld hx hb hX hbl hbA hS ⟨by omega, hL⟩ dL_law_913 ?_
  refine lv_if_eq (tgt := 921) hx hb dL_law_914 (by decide) (fun _ => ?_) (fun z => absurd hfz z)
  refine lv_iconst (v := nI 0) hx hb dL_law_921 (by decide +kernel) ?_
  refine lv_aload_n hx hb dL_law_922 rfl (lv_at hl 3 rfl) ?_
  refine mun_S (As := [.ref (a 0), .int (xs (11 * q + 1)), .int (xs (11 * q + 2)), .int (xs (11 * q + 3)), .int (nI 0), .ref (a 23)]) (rest := []) (wc := LW T a (F, N, B0, hd, tv, ml, cnt, k0, fb, o, oD)) (wr := MW T b (many, th, fb2, fl2, fm2, fk2)) ⟨hx, hb, hml, hown, hts⟩ (hHC H.size) (vx_cwSW 6 hts gL_law_L_write rfl rfl rfl (by decide +kernel) ⟨Nat.le_of_ble_eq_true rfl, Nat.le_of_ble_eq_true rfl⟩) hN hP hD hK hG hS hA (List.range 25) ((List.range 5).map (fun i => i + 25)) (ap_l (LW_len T a _)) (by decide) (ap_r (LW_len T a _) (MW_len T b _)) (by decide) (by decide) hcs rfl hl.1 (Nat.le_of_ble_eq_true rfl) dL_law_923 rfl (fun u1 H locs hq1 hP hD hS => ?_)
  obtain ⟨hu1, hn1, ho1⟩ := hq1
  refine lv_istore (lv' := [(6, .int (nI cc)), (0, .ref zb), (1, .ref (a 0)), (2, .ref (b 0)), (3, .ref (a 23)), (4, .ref (a 24)), (5, .int (nI (11 * q)))]) hx hb dL_law_926 hl (by decide) rfl (fun ls hl => ?_)
  refine lv_aload_n hx hb dL_law_928 rfl (lv_at hl 3 rfl) ?_
  refine lv_aload_n hx hb dL_law_929 rfl (lv_at hl 1 rfl) ?_
  refine lv_iload hx hb dL_law_930 (lv_at hl 6 rfl) ?_
  refine lv_iconst (v := nI 1) hx hb dL_law_932 (by decide +kernel) ?_
  refine ln_add hx hb dL_law_933 ?_
  refine sc_ld hx hb hX hbl hbA hS ⟨by omega, hL⟩ dL_law_934 ?_
  refine lv_aload_n hx hb dL_law_935 rfl (lv_at hl 1 rfl) ?_
  refine lv_iload hx hb dL_law_936 (lv_at hl 6 rfl) ?_
  refine lv_iconst (v := nI 2) hx hb dL_law_938 (by decide +kernel) ?_
  refine ln_add hx hb dL_law_939 ?_
  refine sc_ld hx hb hX hbl hbA hS ⟨by omega, hL⟩ dL_law_940 ?_
  refine lv_aload_n hx hb dL_law_941 rfl (lv_at hl 1 rfl) ?_
  refine lv_iload hx hb dL_law_942 (lv_at hl 6 rfl) ?_
  refine lv_iconst (v := nI 3) hx hb dL_law_944 (by decide +kernel) ?_
  refine ln_add hx hb dL_law_945 ?_
  refine sc_ld hx hb hX hbl hbA hS ⟨by omega, hL⟩ dL_law_946 ?_
  refine lv_aload_n hx hb dL_law_947 rfl (lv_at hl 1 rfl) ?_
  refine lv_iload hx hb dL_law_948 (lv_at hl 6 rfl) ?_
  refine lv_iconst (v := nI 4) hx hb dL_law_950 (by decide +kernel) ?_
  refine ln_add hx hb dL_law_951 ?_
  refine sc_ld hx hb hX hbl hbA hS ⟨by omega, hL⟩ dL_law_952 ?_
  refine lv_if_eq (tgt := 960) hx hb dL_law_953 (by decide) (fun _ => ?_) (fun z => absurd hfz z)
  refine lv_iconst (v := nI 0) hx hb dL_law_960 (by decide +kernel) ?_
  refine mu_V (As := [.int (xs (11 * q + 1)), .int (xs (11 * q + 2)), .int (xs (11 * q + 3)), .int (nI 0)]) (rest := []) (wc := MW T b (many, th, fb2, fl2, fm2, fk2)) (wr := LW T a u1) ⟨hx, hb, hml, hown, hts⟩ (hMC H.size) (cwV 4 hts gL_law_X6_write rfl rfl rfl (by decide +kernel) ⟨Nat.le_of_ble_eq_true rfl, Nat.le_of_ble_eq_true rfl⟩) (va_recv hK hP (ci := 3) (q0 := 0) rfl rfl) hP hD hK hG hS hA (List.range 5) ((List.range 25).map (fun i => i + 5)) (ap_l (MW_len T b _)) (by decide) (ap_r (MW_len T b _) (LW_len T a _)) (by decide) (by decide) hcs rfl hl.1 (Nat.le_of_ble_eq_true rfl) dL_law_961 rfl (fun v1 H locs hq2 hP hD hS => ?_)
  refine lv_istore (lv' := [(7, .int r), (6, .int (nI cc)), (0, .ref zb), (1, .ref (a 0)), (2, .ref (b 0)), (3, .ref (a 23)), (4, .ref (a 24)), (5, .int (nI (11 * q)))]) hx hb dL_law_964 hl (by decide) rfl (fun ls hl => ?_)
  refine lv_aload_n hx hb dL_law_966 rfl (lv_at hl 4 rfl) ?_
  refine ro_V (As := []) (rest := []) (wc := [(b 0, .inr (3, [.ref (b 1), .ref (b 2), .ref (b 3), .int (nI v1.1), .int v1.2.1, .ref (b 4)]))]) (r := .int v1.2.1) ⟨hx, hb, hml, hown, hts⟩ (c_X6_thrown l D T g (b 0) (b 1) (b 2) (b 3) (b 4) v1.1 v1.2.1) (cwV 0 hts gL_law_X6_thrown rfl rfl rfl (by decide +kernel) ⟨Nat.le_of_ble_eq_true rfl, Nat.le_of_ble_eq_true rfl⟩) (va_recv hK hP (ci := 3) (q0 := 25) rfl rfl) hP hK hG hS [25] rfl hcs rfl hl.1 (Nat.le_of_ble_eq_true rfl) dL_law_967 rfl ?_
  refine lv_iload hx hb dL_law_970 (lv_at hl 1 rfl) ?_
  refine lv_icmp_eq (tgt := 977) hx hb dL_law_972 (by decide) (fun _ => ?_) (fun z => absurd hq2.1 z)
  refine lv_iload hx hb dL_law_977 (lv_at hl 1 rfl) ?_
  refine ln_if_ne (tgt := 994) hx hb (by omega) dL_law_979 (by decide) (fun hz => ?_) (fun hz => ?_)
  · refine lv_goto (tgt := 1670) hx hb dL_law_994 (by decide) ?_
    exact kk u1 v1 B' H locs ls hu1 (MR_N hq2.2 hn1 (fun _ _ => rfl)) hP hD hS (lv_sub hl [2, 3, 4, 5, 6, 7] rfl)
  · refine lv_aload_n hx hb dL_law_982 rfl (lv_at hl 5 rfl) ?_
    refine lv_iconst (v := nI 0) hx hb dL_law_983 (by decide +kernel) ?_
    refine ld_o (f := uO u1) hx hb hK hP 23 rfl dL_law_984 ?_
    refine lv_iload hx hb dL_law_985 (lv_at hl 0 rfl) ?_
    refine lv_i2l (v := r.toInt64) hx hb dL_law_987 rfl ?_
    refine lc_eq hx hb (ho1 hz) dL_law_988 ?_
    refine ln_if_eq_t (tgt := 994) hx hb (by decide) rfl dL_law_989 (by decide) ?_
    refine lv_goto (tgt := 1670) hx hb dL_law_994 (by decide) ?_
    exact kk u1 v1 B' H locs ls hu1 (MR_N hq2.2 hn1 (fun _ _ => rfl)) hP hD hS (lv_sub hl [2, 3, 4, 5, 6, 7] rfl)
set_option maxHeartbeats 4000000 in
theorem st_write_1 (l : Launch) (D : va_G) (T : Nat → ClassId) (g : Nat → Nat) (a b : Nat → Nat) (hl9 : l.stackTraces = false) {p : Program} {e : Env} {s : State} {m : MethodId} {below : List Frame} {meth : Method} {c : Code} {H : Heap} {locs : List Loc} {cells slots : Nat} {Q : State → Prop} {ls : Array Slot} {zb L q : Nat} {xs : Nat → Int32}
    (hx : p.tables.exec = Jvm.exec) (hb : c.code = cL_law) (hml : c.maxLocals = 9) (hown : s.vm.findClass RL = some m.cls) (hts : ∀ w ∈ wsL_law, w.before #[Value.ref zb] s = true)
    (hX : va_X zb L xs s s.heap) (hbl : zb < s.heap.size) (hq : 11 * q + 10 < L) (hL : L ≤ 5632) (hK : va_K D cls (tys T) s) (hG : GX g (fun q => s.heap.size ≤ q) s s.heap) (hN : NC s)
    {u : LSt} {v : MSt} {Bw : Nat → Nat → Nat} (hu : LIu u Bw) (hv : MR v.2.2.2.1 v.2.2.1 u.2.1 Bw) (hP : va_P D cls (LW T a u ++ MW T b v) H) (hD : va_D (fun q => s.heap.size ≤ q) (LW T a u ++ MW T b v)) (hS : va_S (fun q => s.heap.size ≤ q) s.heap H locs) (hcs : cells + 5 ≤ 603072 ∧ slots + 1106 ≤ 7219306)
    (hl : lv_has ls 9 [(0, .ref zb), (1, .ref (a 0)), (2, .ref (b 0)), (3, .ref (a 23)), (4, .ref (a 24)), (5, .int (nI (11 * q)))]) (hfz : ¬ xs (11 * q + 4) = 0)
    (kk : ∀ (u : LSt) (v : MSt) (Bw : Nat → Nat → Nat) (H : Heap) (locs : List Loc) (ls : Array Slot), LIu u Bw → MR v.2.2.2.1 v.2.2.1 u.2.1 Bw → va_P D cls (LW T a u ++ MW T b v) H → va_D (fun q => s.heap.size ≤ q) (LW T a u ++ MW T b v) → va_S (fun q => s.heap.size ≤ q) s.heap H locs → lv_has ls 9 [(0, .ref zb), (1, .ref (a 0)), (2, .ref (b 0)), (3, .ref (a 23)), (4, .ref (a 24)), (5, .int (nI (11 * q)))] → W p l e room_1 s m #[Value.ref zb] below meth c H locs (cells + 5) (slots + 1106) Q (F0 m 1670 ls [])) :
    W p l e room_1 s m #[Value.ref zb] below meth c H locs cells slots Q (F0 m 889 ls []) := by
  obtain ⟨F, N, B0, hd, tv, ml, cnt, k0, fb, o, oD⟩ := u
  obtain ⟨many, th, fb2, fl2, fm2, fk2⟩ := v
  have hu : LI F N fb k0 cnt Bw := hu
  have hv : MR fl2 fb2 N Bw := hv
  have hA : ∀ q : Nat, s.heap.size ≤ q → (fun q => s.heap.size ≤ q) q := fun q h => h
  have hbA : ¬ s.heap.size ≤ zb := Nat.not_le.mpr hbl
  obtain ⟨cc, r, N', B', hHC, hMC, hcc⟩ := ex_write l D T g a b hl9 hu hv (xs (11 * q + 1)) (xs (11 * q + 2)) (xs (11 * q + 3)) 1 (by decide)
  refine lv_aload_n hx hb dL_law_889 rfl (lv_at hl 1 rfl) ?_
  refine lv_aload_n hx hb dL_law_890 rfl (lv_at hl 0 rfl) ?_
  refine lv_iload hx hb dL_law_891 (lv_at hl 5 rfl) ?_
  refine lv_iconst (v := nI 1) hx hb dL_law_893 (by decide +kernel) ?_
  refine ln_add hx hb dL_law_894 ?_
  refine sc_ld hx hb hX hbl hbA hS ⟨by omega, hL⟩ dL_law_895 ?_
  refine lv_aload_n hx hb dL_law_896 rfl (lv_at hl 0 rfl) ?_
  refine lv_iload hx hb dL_law_897 (lv_at hl 5 rfl) ?_
  refine lv_iconst (v := nI 2) hx hb dL_law_899 (by decide +kernel) ?_
  refine ln_add hx hb dL_law_900 ?_
  refine sc_ld hx hb hX hbl hbA hS ⟨by omega, hL⟩ dL_law_901 ?_
  refine lv_aload_n hx hb dL_law_902 rfl (lv_at hl 0 rfl) ?_
  refine lv_iload hx hb dL_law_903 (lv_at hl 5 rfl) ?_
  refine lv_iconst (v := nI 3) hx hb dL_law_905 (by decide +kernel) ?_
  refine ln_add hx hb dL_law_906 ?_
  refine sc_ld hx hb hX hbl hbA hS ⟨by omega, hL⟩ dL_law_907 ?_
  refine lv_aload_n hx hb dL_law_908 rfl (lv_at hl 0 rfl) ?_
  refine lv_iload hx hb dL_law_909 (lv_at hl 5 rfl) ?_
  refine lv_iconst (v := nI 4) hx hb dL_law_911 (by decide +kernel) ?_
  refine ln_add hx hb dL_law_912 ?_
  refine sc_ld hx hb hX hbl hbA hS ⟨by omega, hL⟩ dL_law_913 ?_
  refine lv_if_eq (tgt := 921) hx hb dL_law_914 (by decide) (fun z => absurd z hfz) (fun _ => ?_)
  refine lv_iconst (v := nI 1) hx hb dL_law_917 (by decide +kernel) ?_
  refine lv_goto (tgt := 922) hx hb dL_law_918 (by decide) ?_
  refine lv_aload_n hx hb dL_law_922 rfl (lv_at hl 3 rfl) ?_
  refine mun_S (As := [.ref (a 0), .int (xs (11 * q + 1)), .int (xs (11 * q + 2)), .int (xs (11 * q + 3)), .int (nI 1), .ref (a 23)]) (rest := []) (wc := LW T a (F, N, B0, hd, tv, ml, cnt, k0, fb, o, oD)) (wr := MW T b (many, th, fb2, fl2, fm2, fk2)) ⟨hx, hb, hml, hown, hts⟩ (hHC H.size) (vx_cwSW 6 hts gL_law_L_write rfl rfl rfl (by decide +kernel) ⟨Nat.le_of_ble_eq_true rfl, Nat.le_of_ble_eq_true rfl⟩) hN hP hD hK hG hS hA (List.range 25) ((List.range 5).map (fun i => i + 25)) (ap_l (LW_len T a _)) (by decide) (ap_r (LW_len T a _) (MW_len T b _)) (by decide) (by decide) hcs rfl hl.1 (Nat.le_of_ble_eq_true rfl) dL_law_923 rfl (fun u1 H locs hq1 hP hD hS => ?_)
  obtain ⟨hu1, hn1, ho1⟩ := hq1
  refine lv_istore (lv' := [(6, .int (nI cc)), (0, .ref zb), (1, .ref (a 0)), (2, .ref (b 0)), (3, .ref (a 23)), (4, .ref (a 24)), (5, .int (nI (11 * q)))]) hx hb dL_law_926 hl (by decide) rfl (fun ls hl => ?_)
  refine lv_aload_n hx hb dL_law_928 rfl (lv_at hl 3 rfl) ?_
  refine lv_aload_n hx hb dL_law_929 rfl (lv_at hl 1 rfl) ?_
  refine lv_iload hx hb dL_law_930 (lv_at hl 6 rfl) ?_
  refine lv_iconst (v := nI 1) hx hb dL_law_932 (by decide +kernel) ?_
  refine ln_add hx hb dL_law_933 ?_
  refine sc_ld hx hb hX hbl hbA hS ⟨by omega, hL⟩ dL_law_934 ?_
  refine lv_aload_n hx hb dL_law_935 rfl (lv_at hl 1 rfl) ?_
  refine lv_iload hx hb dL_law_936 (lv_at hl 6 rfl) ?_
  refine lv_iconst (v := nI 2) hx hb dL_law_938 (by decide +kernel) ?_
  refine ln_add hx hb dL_law_939 ?_
  refine sc_ld hx hb hX hbl hbA hS ⟨by omega, hL⟩ dL_law_940 ?_
  refine lv_aload_n hx hb dL_law_941 rfl (lv_at hl 1 rfl) ?_
  refine lv_iload hx hb dL_law_942 (lv_at hl 6 rfl) ?_
  refine lv_iconst (v := nI 3) hx hb dL_law_944 (by decide +kernel) ?_
  refine ln_add hx hb dL_law_945 ?_
  refine sc_ld hx hb hX hbl hbA hS ⟨by omega, hL⟩ dL_law_946 ?_
  refine lv_aload_n hx hb dL_law_947 rfl (lv_at hl 1 rfl) ?_
  refine lv_iload hx hb dL_law_948 (lv_at hl 6 rfl) ?_
  refine lv_iconst (v := nI 4) hx hb dL_law_950 (by decide +kernel) ?_
  refine ln_add hx hb dL_law_951 ?_
  refine sc_ld hx hb hX hbl hbA hS ⟨by omega, hL⟩ dL_law_952 ?_
  refine lv_if_eq (tgt := 960) hx hb dL_law_953 (by decide) (fun z => absurd z hfz) (fun _ => ?_)
  refine lv_iconst (v := nI 1) hx hb dL_law_956 (by decide +kernel) ?_
  refine lv_goto (tgt := 961) hx hb dL_law_957 (by decide) ?_
  refine mu_V (As := [.int (xs (11 * q + 1)), .int (xs (11 * q + 2)), .int (xs (11 * q + 3)), .int (nI 1)]) (rest := []) (wc := MW T b (many, th, fb2, fl2, fm2, fk2)) (wr := LW T a u1) ⟨hx, hb, hml, hown, hts⟩ (hMC H.size) (cwV 4 hts gL_law_X6_write rfl rfl rfl (by decide +kernel) ⟨Nat.le_of_ble_eq_true rfl, Nat.le_of_ble_eq_true rfl⟩) (va_recv hK hP (ci := 3) (q0 := 0) rfl rfl) hP hD hK hG hS hA (List.range 5) ((List.range 25).map (fun i => i + 5)) (ap_l (MW_len T b _)) (by decide) (ap_r (MW_len T b _) (LW_len T a _)) (by decide) (by decide) hcs rfl hl.1 (Nat.le_of_ble_eq_true rfl) dL_law_961 rfl (fun v1 H locs hq2 hP hD hS => ?_)
  refine lv_istore (lv' := [(7, .int r), (6, .int (nI cc)), (0, .ref zb), (1, .ref (a 0)), (2, .ref (b 0)), (3, .ref (a 23)), (4, .ref (a 24)), (5, .int (nI (11 * q)))]) hx hb dL_law_964 hl (by decide) rfl (fun ls hl => ?_)
  refine lv_aload_n hx hb dL_law_966 rfl (lv_at hl 4 rfl) ?_
  refine ro_V (As := []) (rest := []) (wc := [(b 0, .inr (3, [.ref (b 1), .ref (b 2), .ref (b 3), .int (nI v1.1), .int v1.2.1, .ref (b 4)]))]) (r := .int v1.2.1) ⟨hx, hb, hml, hown, hts⟩ (c_X6_thrown l D T g (b 0) (b 1) (b 2) (b 3) (b 4) v1.1 v1.2.1) (cwV 0 hts gL_law_X6_thrown rfl rfl rfl (by decide +kernel) ⟨Nat.le_of_ble_eq_true rfl, Nat.le_of_ble_eq_true rfl⟩) (va_recv hK hP (ci := 3) (q0 := 25) rfl rfl) hP hK hG hS [25] rfl hcs rfl hl.1 (Nat.le_of_ble_eq_true rfl) dL_law_967 rfl ?_
  refine lv_iload hx hb dL_law_970 (lv_at hl 1 rfl) ?_
  refine lv_icmp_eq (tgt := 977) hx hb dL_law_972 (by decide) (fun _ => ?_) (fun z => absurd hq2.1 z)
  refine lv_iload hx hb dL_law_977 (lv_at hl 1 rfl) ?_
  refine ln_if_ne (tgt := 994) hx hb (by omega) dL_law_979 (by decide) (fun hz => ?_) (fun hz => ?_)
  · refine lv_goto (tgt := 1670) hx hb dL_law_994 (by decide) ?_
    exact kk u1 v1 B' H locs ls hu1 (MR_N hq2.2 hn1 (fun _ _ => rfl)) hP hD hS (lv_sub hl [2, 3, 4, 5, 6, 7] rfl)
  · refine lv_aload_n hx hb dL_law_982 rfl (lv_at hl 5 rfl) ?_
    refine lv_iconst (v := nI 0) hx hb dL_law_983 (by decide +kernel) ?_
    refine ld_o (f := uO u1) hx hb hK hP 23 rfl dL_law_984 ?_
    refine lv_iload hx hb dL_law_985 (lv_at hl 0 rfl) ?_
    refine lv_i2l (v := r.toInt64) hx hb dL_law_987 rfl ?_
    refine lc_eq hx hb (ho1 hz) dL_law_988 ?_
    refine ln_if_eq_t (tgt := 994) hx hb (by decide) rfl dL_law_989 (by decide) ?_
    refine lv_goto (tgt := 1670) hx hb dL_law_994 (by decide) ?_
    exact kk u1 v1 B' H locs ls hu1 (MR_N hq2.2 hn1 (fun _ _ => rfl)) hP hD hS (lv_sub hl [2, 3, 4, 5, 6, 7] rfl)
set_option maxHeartbeats 4000000 in
theorem st_writeText_0 (l : Launch) (D : va_G) (T : Nat → ClassId) (g : Nat → Nat) (a b : Nat → Nat) (hl9 : l.stackTraces = false) {p : Program} {e : Env} {s : State} {m : MethodId} {below : List Frame} {meth : Method} {c : Code} {H : Heap} {locs : List Loc} {cells slots : Nat} {Q : State → Prop} {ls : Array Slot} {zb L q : Nat} {xs : Nat → Int32}
    (hx : p.tables.exec = Jvm.exec) (hb : c.code = cL_law) (hml : c.maxLocals = 9) (hown : s.vm.findClass RL = some m.cls) (hts : ∀ w ∈ wsL_law, w.before #[Value.ref zb] s = true)
    (hX : va_X zb L xs s s.heap) (hbl : zb < s.heap.size) (hq : 11 * q + 10 < L) (hL : L ≤ 5632) (hK : va_K D cls (tys T) s) (hG : GX g (fun q => s.heap.size ≤ q) s s.heap) (hN : NC s)
    {u : LSt} {v : MSt} {Bw : Nat → Nat → Nat} (hu : LIu u Bw) (hv : MR v.2.2.2.1 v.2.2.1 u.2.1 Bw) (hP : va_P D cls (LW T a u ++ MW T b v) H) (hD : va_D (fun q => s.heap.size ≤ q) (LW T a u ++ MW T b v)) (hS : va_S (fun q => s.heap.size ≤ q) s.heap H locs) (hcs : cells + 5 ≤ 603072 ∧ slots + 1106 ≤ 7219306)
    (hl : lv_has ls 9 [(0, .ref zb), (1, .ref (a 0)), (2, .ref (b 0)), (3, .ref (a 23)), (4, .ref (a 24)), (5, .int (nI (11 * q)))]) (hfz : xs (11 * q + 4) = 0)
    (kk : ∀ (u : LSt) (v : MSt) (Bw : Nat → Nat → Nat) (H : Heap) (locs : List Loc) (ls : Array Slot), LIu u Bw → MR v.2.2.2.1 v.2.2.1 u.2.1 Bw → va_P D cls (LW T a u ++ MW T b v) H → va_D (fun q => s.heap.size ≤ q) (LW T a u ++ MW T b v) → va_S (fun q => s.heap.size ≤ q) s.heap H locs → lv_has ls 9 [(0, .ref zb), (1, .ref (a 0)), (2, .ref (b 0)), (3, .ref (a 23)), (4, .ref (a 24)), (5, .int (nI (11 * q)))] → W p l e room_1 s m #[Value.ref zb] below meth c H locs (cells + 5) (slots + 1106) Q (F0 m 1670 ls [])) :
    W p l e room_1 s m #[Value.ref zb] below meth c H locs cells slots Q (F0 m 997 ls []) := by
  obtain ⟨F, N, B0, hd, tv, ml, cnt, k0, fb, o, oD⟩ := u
  obtain ⟨many, th, fb2, fl2, fm2, fk2⟩ := v
  have hu : LI F N fb k0 cnt Bw := hu
  have hv : MR fl2 fb2 N Bw := hv
  have hA : ∀ q : Nat, s.heap.size ≤ q → (fun q => s.heap.size ≤ q) q := fun q h => h
  have hbA : ¬ s.heap.size ≤ zb := Nat.not_le.mpr hbl
  obtain ⟨cc, r, N', B', hHC, hMC, hcc⟩ := ex_writeText l D T g a b hl9 hu hv (xs (11 * q + 1)) (xs (11 * q + 2)) (xs (11 * q + 3)) 0 (by decide)
  refine lv_aload_n hx hb dL_law_997 rfl (lv_at hl 1 rfl) ?_
  refine lv_aload_n hx hb dL_law_998 rfl (lv_at hl 0 rfl) ?_
  refine lv_iload hx hb dL_law_999 (lv_at hl 5 rfl) ?_
  refine lv_iconst (v := nI 1) hx hb dL_law_1001 (by decide +kernel) ?_
  refine ln_add hx hb dL_law_1002 ?_
  refine sc_ld hx hb hX hbl hbA hS ⟨by omega, hL⟩ dL_law_1003 ?_
  refine lv_aload_n hx hb dL_law_1004 rfl (lv_at hl 0 rfl) ?_
  refine lv_iload hx hb dL_law_1005 (lv_at hl 5 rfl) ?_
  refine lv_iconst (v := nI 2) hx hb dL_law_1007 (by decide +kernel) ?_
  refine ln_add hx hb dL_law_1008 ?_
  refine sc_ld hx hb hX hbl hbA hS ⟨by omega, hL⟩ dL_law_1009 ?_
  refine lv_aload_n hx hb dL_law_1010 rfl (lv_at hl 0 rfl) ?_
  refine lv_iload hx hb dL_law_1011 (lv_at hl 5 rfl) ?_
  refine lv_iconst (v := nI 3) hx hb dL_law_1013 (by decide +kernel) ?_
  refine ln_add hx hb dL_law_1014 ?_
  refine sc_ld hx hb hX hbl hbA hS ⟨by omega, hL⟩ dL_law_1015 ?_
  refine lv_aload_n hx hb dL_law_1016 rfl (lv_at hl 0 rfl) ?_
  refine lv_iload hx hb dL_law_1017 (lv_at hl 5 rfl) ?_
  refine lv_iconst (v := nI 4) hx hb dL_law_1019 (by decide +kernel) ?_
  refine ln_add hx hb dL_law_1020 ?_
  refine sc_ld hx hb hX hbl hbA hS ⟨by omega, hL⟩ dL_law_1021 ?_
  refine lv_if_eq (tgt := 1029) hx hb dL_law_1022 (by decide) (fun _ => ?_) (fun z => absurd hfz z)
  refine lv_iconst (v := nI 0) hx hb dL_law_1029 (by decide +kernel) ?_
  refine lv_aload_n hx hb dL_law_1030 rfl (lv_at hl 3 rfl) ?_
  refine mun_S (As := [.ref (a 0), .int (xs (11 * q + 1)), .int (xs (11 * q + 2)), .int (xs (11 * q + 3)), .int (nI 0), .ref (a 23)]) (rest := []) (wc := LW T a (F, N, B0, hd, tv, ml, cnt, k0, fb, o, oD)) (wr := MW T b (many, th, fb2, fl2, fm2, fk2)) ⟨hx, hb, hml, hown, hts⟩ (hHC H.size) (vx_cwSW 6 hts gL_law_L_writeText rfl rfl rfl (by decide +kernel) ⟨Nat.le_of_ble_eq_true rfl, Nat.le_of_ble_eq_true rfl⟩) hN hP hD hK hG hS hA (List.range 25) ((List.range 5).map (fun i => i + 25)) (ap_l (LW_len T a _)) (by decide) (ap_r (LW_len T a _) (MW_len T b _)) (by decide) (by decide) hcs rfl hl.1 (Nat.le_of_ble_eq_true rfl) dL_law_1031 rfl (fun u1 H locs hq1 hP hD hS => ?_)
  obtain ⟨hu1, hn1, ho1⟩ := hq1
  refine lv_istore (lv' := [(6, .int (nI cc)), (0, .ref zb), (1, .ref (a 0)), (2, .ref (b 0)), (3, .ref (a 23)), (4, .ref (a 24)), (5, .int (nI (11 * q)))]) hx hb dL_law_1034 hl (by decide) rfl (fun ls hl => ?_)
  refine lv_aload_n hx hb dL_law_1036 rfl (lv_at hl 3 rfl) ?_
  refine lv_aload_n hx hb dL_law_1037 rfl (lv_at hl 1 rfl) ?_
  refine lv_iload hx hb dL_law_1038 (lv_at hl 6 rfl) ?_
  refine lv_iconst (v := nI 1) hx hb dL_law_1040 (by decide +kernel) ?_
  refine ln_add hx hb dL_law_1041 ?_
  refine sc_ld hx hb hX hbl hbA hS ⟨by omega, hL⟩ dL_law_1042 ?_
  refine lv_aload_n hx hb dL_law_1043 rfl (lv_at hl 1 rfl) ?_
  refine lv_iload hx hb dL_law_1044 (lv_at hl 6 rfl) ?_
  refine lv_iconst (v := nI 2) hx hb dL_law_1046 (by decide +kernel) ?_
  refine ln_add hx hb dL_law_1047 ?_
  refine sc_ld hx hb hX hbl hbA hS ⟨by omega, hL⟩ dL_law_1048 ?_
  refine lv_aload_n hx hb dL_law_1049 rfl (lv_at hl 1 rfl) ?_
  refine lv_iload hx hb dL_law_1050 (lv_at hl 6 rfl) ?_
  refine lv_iconst (v := nI 3) hx hb dL_law_1052 (by decide +kernel) ?_
  refine ln_add hx hb dL_law_1053 ?_
  refine sc_ld hx hb hX hbl hbA hS ⟨by omega, hL⟩ dL_law_1054 ?_
  refine lv_aload_n hx hb dL_law_1055 rfl (lv_at hl 1 rfl) ?_
  refine lv_iload hx hb dL_law_1056 (lv_at hl 6 rfl) ?_
  refine lv_iconst (v := nI 4) hx hb dL_law_1058 (by decide +kernel) ?_
  refine ln_add hx hb dL_law_1059 ?_
  refine sc_ld hx hb hX hbl hbA hS ⟨by omega, hL⟩ dL_law_1060 ?_
  refine lv_if_eq (tgt := 1068) hx hb dL_law_1061 (by decide) (fun _ => ?_) (fun z => absurd hfz z)
  refine lv_iconst (v := nI 0) hx hb dL_law_1068 (by decide +kernel) ?_
  refine mu_V (As := [.int (xs (11 * q + 1)), .int (xs (11 * q + 2)), .int (xs (11 * q + 3)), .int (nI 0)]) (rest := []) (wc := MW T b (many, th, fb2, fl2, fm2, fk2)) (wr := LW T a u1) ⟨hx, hb, hml, hown, hts⟩ (hMC H.size) (cwV 4 hts gL_law_X6_writeText rfl rfl rfl (by decide +kernel) ⟨Nat.le_of_ble_eq_true rfl, Nat.le_of_ble_eq_true rfl⟩) (va_recv hK hP (ci := 3) (q0 := 0) rfl rfl) hP hD hK hG hS hA (List.range 5) ((List.range 25).map (fun i => i + 5)) (ap_l (MW_len T b _)) (by decide) (ap_r (MW_len T b _) (LW_len T a _)) (by decide) (by decide) hcs rfl hl.1 (Nat.le_of_ble_eq_true rfl) dL_law_1069 rfl (fun v1 H locs hq2 hP hD hS => ?_)
  refine lv_istore (lv' := [(7, .int r), (6, .int (nI cc)), (0, .ref zb), (1, .ref (a 0)), (2, .ref (b 0)), (3, .ref (a 23)), (4, .ref (a 24)), (5, .int (nI (11 * q)))]) hx hb dL_law_1072 hl (by decide) rfl (fun ls hl => ?_)
  refine lv_aload_n hx hb dL_law_1074 rfl (lv_at hl 4 rfl) ?_
  refine ro_V (As := []) (rest := []) (wc := [(b 0, .inr (3, [.ref (b 1), .ref (b 2), .ref (b 3), .int (nI v1.1), .int v1.2.1, .ref (b 4)]))]) (r := .int v1.2.1) ⟨hx, hb, hml, hown, hts⟩ (c_X6_thrown l D T g (b 0) (b 1) (b 2) (b 3) (b 4) v1.1 v1.2.1) (cwV 0 hts gL_law_X6_thrown rfl rfl rfl (by decide +kernel) ⟨Nat.le_of_ble_eq_true rfl, Nat.le_of_ble_eq_true rfl⟩) (va_recv hK hP (ci := 3) (q0 := 25) rfl rfl) hP hK hG hS [25] rfl hcs rfl hl.1 (Nat.le_of_ble_eq_true rfl) dL_law_1075 rfl ?_
  refine lv_iload hx hb dL_law_1078 (lv_at hl 1 rfl) ?_
  refine lv_icmp_eq (tgt := 1085) hx hb dL_law_1080 (by decide) (fun _ => ?_) (fun z => absurd hq2.1 z)
  refine lv_iload hx hb dL_law_1085 (lv_at hl 1 rfl) ?_
  refine ln_if_ne (tgt := 1102) hx hb (by omega) dL_law_1087 (by decide) (fun hz => ?_) (fun hz => ?_)
  · refine lv_goto (tgt := 1670) hx hb dL_law_1102 (by decide) ?_
    exact kk u1 v1 B' H locs ls hu1 (MR_N hq2.2 hn1 (fun _ _ => rfl)) hP hD hS (lv_sub hl [2, 3, 4, 5, 6, 7] rfl)
  · refine lv_aload_n hx hb dL_law_1090 rfl (lv_at hl 5 rfl) ?_
    refine lv_iconst (v := nI 0) hx hb dL_law_1091 (by decide +kernel) ?_
    refine ld_o (f := uO u1) hx hb hK hP 23 rfl dL_law_1092 ?_
    refine lv_iload hx hb dL_law_1093 (lv_at hl 0 rfl) ?_
    refine lv_i2l (v := r.toInt64) hx hb dL_law_1095 rfl ?_
    refine lc_eq hx hb (ho1 hz) dL_law_1096 ?_
    refine ln_if_eq_t (tgt := 1102) hx hb (by decide) rfl dL_law_1097 (by decide) ?_
    refine lv_goto (tgt := 1670) hx hb dL_law_1102 (by decide) ?_
    exact kk u1 v1 B' H locs ls hu1 (MR_N hq2.2 hn1 (fun _ _ => rfl)) hP hD hS (lv_sub hl [2, 3, 4, 5, 6, 7] rfl)
set_option maxHeartbeats 4000000 in
theorem st_writeText_1 (l : Launch) (D : va_G) (T : Nat → ClassId) (g : Nat → Nat) (a b : Nat → Nat) (hl9 : l.stackTraces = false) {p : Program} {e : Env} {s : State} {m : MethodId} {below : List Frame} {meth : Method} {c : Code} {H : Heap} {locs : List Loc} {cells slots : Nat} {Q : State → Prop} {ls : Array Slot} {zb L q : Nat} {xs : Nat → Int32}
    (hx : p.tables.exec = Jvm.exec) (hb : c.code = cL_law) (hml : c.maxLocals = 9) (hown : s.vm.findClass RL = some m.cls) (hts : ∀ w ∈ wsL_law, w.before #[Value.ref zb] s = true)
    (hX : va_X zb L xs s s.heap) (hbl : zb < s.heap.size) (hq : 11 * q + 10 < L) (hL : L ≤ 5632) (hK : va_K D cls (tys T) s) (hG : GX g (fun q => s.heap.size ≤ q) s s.heap) (hN : NC s)
    {u : LSt} {v : MSt} {Bw : Nat → Nat → Nat} (hu : LIu u Bw) (hv : MR v.2.2.2.1 v.2.2.1 u.2.1 Bw) (hP : va_P D cls (LW T a u ++ MW T b v) H) (hD : va_D (fun q => s.heap.size ≤ q) (LW T a u ++ MW T b v)) (hS : va_S (fun q => s.heap.size ≤ q) s.heap H locs) (hcs : cells + 5 ≤ 603072 ∧ slots + 1106 ≤ 7219306)
    (hl : lv_has ls 9 [(0, .ref zb), (1, .ref (a 0)), (2, .ref (b 0)), (3, .ref (a 23)), (4, .ref (a 24)), (5, .int (nI (11 * q)))]) (hfz : ¬ xs (11 * q + 4) = 0)
    (kk : ∀ (u : LSt) (v : MSt) (Bw : Nat → Nat → Nat) (H : Heap) (locs : List Loc) (ls : Array Slot), LIu u Bw → MR v.2.2.2.1 v.2.2.1 u.2.1 Bw → va_P D cls (LW T a u ++ MW T b v) H → va_D (fun q => s.heap.size ≤ q) (LW T a u ++ MW T b v) → va_S (fun q => s.heap.size ≤ q) s.heap H locs → lv_has ls 9 [(0, .ref zb), (1, .ref (a 0)), (2, .ref (b 0)), (3, .ref (a 23)), (4, .ref (a 24)), (5, .int (nI (11 * q)))] → W p l e room_1 s m #[Value.ref zb] below meth c H locs (cells + 5) (slots + 1106) Q (F0 m 1670 ls [])) :
    W p l e room_1 s m #[Value.ref zb] below meth c H locs cells slots Q (F0 m 997 ls []) := by
  obtain ⟨F, N, B0, hd, tv, ml, cnt, k0, fb, o, oD⟩ := u
  obtain ⟨many, th, fb2, fl2, fm2, fk2⟩ := v
  have hu : LI F N fb k0 cnt Bw := hu
  have hv : MR fl2 fb2 N Bw := hv
  have hA : ∀ q : Nat, s.heap.size ≤ q → (fun q => s.heap.size ≤ q) q := fun q h => h
  have hbA : ¬ s.heap.size ≤ zb := Nat.not_le.mpr hbl
  obtain ⟨cc, r, N', B', hHC, hMC, hcc⟩ := ex_writeText l D T g a b hl9 hu hv (xs (11 * q + 1)) (xs (11 * q + 2)) (xs (11 * q + 3)) 1 (by decide)
  refine lv_aload_n hx hb dL_law_997 rfl (lv_at hl 1 rfl) ?_
  refine lv_aload_n hx hb dL_law_998 rfl (lv_at hl 0 rfl) ?_
  refine lv_iload hx hb dL_law_999 (lv_at hl 5 rfl) ?_
  refine lv_iconst (v := nI 1) hx hb dL_law_1001 (by decide +kernel) ?_
  refine ln_add hx hb dL_law_1002 ?_
  refine sc_ld hx hb hX hbl hbA hS ⟨by omega, hL⟩ dL_law_1003 ?_
  refine lv_aload_n hx hb dL_law_1004 rfl (lv_at hl 0 rfl) ?_
  refine lv_iload hx hb dL_law_1005 (lv_at hl 5 rfl) ?_
  refine lv_iconst (v := nI 2) hx hb dL_law_1007 (by decide +kernel) ?_
  refine ln_add hx hb dL_law_1008 ?_
  refine sc_ld hx hb hX hbl hbA hS ⟨by omega, hL⟩ dL_law_1009 ?_
  refine lv_aload_n hx hb dL_law_1010 rfl (lv_at hl 0 rfl) ?_
  refine lv_iload hx hb dL_law_1011 (lv_at hl 5 rfl) ?_
  refine lv_iconst (v := nI 3) hx hb dL_law_1013 (by decide +kernel) ?_
  refine ln_add hx hb dL_law_1014 ?_
  refine sc_ld hx hb hX hbl hbA hS ⟨by omega, hL⟩ dL_law_1015 ?_
  refine lv_aload_n hx hb dL_law_1016 rfl (lv_at hl 0 rfl) ?_
  refine lv_iload hx hb dL_law_1017 (lv_at hl 5 rfl) ?_
  refine lv_iconst (v := nI 4) hx hb dL_law_1019 (by decide +kernel) ?_
  refine ln_add hx hb dL_law_1020 ?_
  refine sc_ld hx hb hX hbl hbA hS ⟨by omega, hL⟩ dL_law_1021 ?_
  refine lv_if_eq (tgt := 1029) hx hb dL_law_1022 (by decide) (fun z => absurd z hfz) (fun _ => ?_)
  refine lv_iconst (v := nI 1) hx hb dL_law_1025 (by decide +kernel) ?_
  refine lv_goto (tgt := 1030) hx hb dL_law_1026 (by decide) ?_
  refine lv_aload_n hx hb dL_law_1030 rfl (lv_at hl 3 rfl) ?_
  refine mun_S (As := [.ref (a 0), .int (xs (11 * q + 1)), .int (xs (11 * q + 2)), .int (xs (11 * q + 3)), .int (nI 1), .ref (a 23)]) (rest := []) (wc := LW T a (F, N, B0, hd, tv, ml, cnt, k0, fb, o, oD)) (wr := MW T b (many, th, fb2, fl2, fm2, fk2)) ⟨hx, hb, hml, hown, hts⟩ (hHC H.size) (vx_cwSW 6 hts gL_law_L_writeText rfl rfl rfl (by decide +kernel) ⟨Nat.le_of_ble_eq_true rfl, Nat.le_of_ble_eq_true rfl⟩) hN hP hD hK hG hS hA (List.range 25) ((List.range 5).map (fun i => i + 25)) (ap_l (LW_len T a _)) (by decide) (ap_r (LW_len T a _) (MW_len T b _)) (by decide) (by decide) hcs rfl hl.1 (Nat.le_of_ble_eq_true rfl) dL_law_1031 rfl (fun u1 H locs hq1 hP hD hS => ?_)
  obtain ⟨hu1, hn1, ho1⟩ := hq1
  refine lv_istore (lv' := [(6, .int (nI cc)), (0, .ref zb), (1, .ref (a 0)), (2, .ref (b 0)), (3, .ref (a 23)), (4, .ref (a 24)), (5, .int (nI (11 * q)))]) hx hb dL_law_1034 hl (by decide) rfl (fun ls hl => ?_)
  refine lv_aload_n hx hb dL_law_1036 rfl (lv_at hl 3 rfl) ?_
  refine lv_aload_n hx hb dL_law_1037 rfl (lv_at hl 1 rfl) ?_
  refine lv_iload hx hb dL_law_1038 (lv_at hl 6 rfl) ?_
  refine lv_iconst (v := nI 1) hx hb dL_law_1040 (by decide +kernel) ?_
  refine ln_add hx hb dL_law_1041 ?_
  refine sc_ld hx hb hX hbl hbA hS ⟨by omega, hL⟩ dL_law_1042 ?_
  refine lv_aload_n hx hb dL_law_1043 rfl (lv_at hl 1 rfl) ?_
  refine lv_iload hx hb dL_law_1044 (lv_at hl 6 rfl) ?_
  refine lv_iconst (v := nI 2) hx hb dL_law_1046 (by decide +kernel) ?_
  refine ln_add hx hb dL_law_1047 ?_
  refine sc_ld hx hb hX hbl hbA hS ⟨by omega, hL⟩ dL_law_1048 ?_
  refine lv_aload_n hx hb dL_law_1049 rfl (lv_at hl 1 rfl) ?_
  refine lv_iload hx hb dL_law_1050 (lv_at hl 6 rfl) ?_
  refine lv_iconst (v := nI 3) hx hb dL_law_1052 (by decide +kernel) ?_
  refine ln_add hx hb dL_law_1053 ?_
  refine sc_ld hx hb hX hbl hbA hS ⟨by omega, hL⟩ dL_law_1054 ?_
  refine lv_aload_n hx hb dL_law_1055 rfl (lv_at hl 1 rfl) ?_
  refine lv_iload hx hb dL_law_1056 (lv_at hl 6 rfl) ?_
  refine lv_iconst (v := nI 4) hx hb dL_law_1058 (by decide +kernel) ?_
  refine ln_add hx hb dL_law_1059 ?_
  refine sc_ld hx hb hX hbl hbA hS ⟨by omega, hL⟩ dL_law_1060 ?_
  refine lv_if_eq (tgt := 1068) hx hb dL_law_1061 (by decide) (fun z => absurd z hfz) (fun _ => ?_)
  refine lv_iconst (v := nI 1) hx hb dL_law_1064 (by decide +kernel) ?_
  refine lv_goto (tgt := 1069) hx hb dL_law_1065 (by decide) ?_
  refine mu_V (As := [.int (xs (11 * q + 1)), .int (xs (11 * q + 2)), .int (xs (11 * q + 3)), .int (nI 1)]) (rest := []) (wc := MW T b (many, th, fb2, fl2, fm2, fk2)) (wr := LW T a u1) ⟨hx, hb, hml, hown, hts⟩ (hMC H.size) (cwV 4 hts gL_law_X6_writeText rfl rfl rfl (by decide +kernel) ⟨Nat.le_of_ble_eq_true rfl, Nat.le_of_ble_eq_true rfl⟩) (va_recv hK hP (ci := 3) (q0 := 0) rfl rfl) hP hD hK hG hS hA (List.range 5) ((List.range 25).map (fun i => i + 5)) (ap_l (MW_len T b _)) (by decide) (ap_r (MW_len T b _) (LW_len T a _)) (by decide) (by decide) hcs rfl hl.1 (Nat.le_of_ble_eq_true rfl) dL_law_1069 rfl (fun v1 H locs hq2 hP hD hS => ?_)
  refine lv_istore (lv' := [(7, .int r), (6, .int (nI cc)), (0, .ref zb), (1, .ref (a 0)), (2, .ref (b 0)), (3, .ref (a 23)), (4, .ref (a 24)), (5, .int (nI (11 * q)))]) hx hb dL_law_1072 hl (by decide) rfl (fun ls hl => ?_)
  refine lv_aload_n hx hb dL_law_1074 rfl (lv_at hl 4 rfl) ?_
  refine ro_V (As := []) (rest := []) (wc := [(b 0, .inr (3, [.ref (b 1), .ref (b 2), .ref (b 3), .int (nI v1.1), .int v1.2.1, .ref (b 4)]))]) (r := .int v1.2.1) ⟨hx, hb, hml, hown, hts⟩ (c_X6_thrown l D T g (b 0) (b 1) (b 2) (b 3) (b 4) v1.1 v1.2.1) (cwV 0 hts gL_law_X6_thrown rfl rfl rfl (by decide +kernel) ⟨Nat.le_of_ble_eq_true rfl, Nat.le_of_ble_eq_true rfl⟩) (va_recv hK hP (ci := 3) (q0 := 25) rfl rfl) hP hK hG hS [25] rfl hcs rfl hl.1 (Nat.le_of_ble_eq_true rfl) dL_law_1075 rfl ?_
  refine lv_iload hx hb dL_law_1078 (lv_at hl 1 rfl) ?_
  refine lv_icmp_eq (tgt := 1085) hx hb dL_law_1080 (by decide) (fun _ => ?_) (fun z => absurd hq2.1 z)
  refine lv_iload hx hb dL_law_1085 (lv_at hl 1 rfl) ?_
  refine ln_if_ne (tgt := 1102) hx hb (by omega) dL_law_1087 (by decide) (fun hz => ?_) (fun hz => ?_)
  · refine lv_goto (tgt := 1670) hx hb dL_law_1102 (by decide) ?_
    exact kk u1 v1 B' H locs ls hu1 (MR_N hq2.2 hn1 (fun _ _ => rfl)) hP hD hS (lv_sub hl [2, 3, 4, 5, 6, 7] rfl)
  · refine lv_aload_n hx hb dL_law_1090 rfl (lv_at hl 5 rfl) ?_
    refine lv_iconst (v := nI 0) hx hb dL_law_1091 (by decide +kernel) ?_
    refine ld_o (f := uO u1) hx hb hK hP 23 rfl dL_law_1092 ?_
    refine lv_iload hx hb dL_law_1093 (lv_at hl 0 rfl) ?_
    refine lv_i2l (v := r.toInt64) hx hb dL_law_1095 rfl ?_
    refine lc_eq hx hb (ho1 hz) dL_law_1096 ?_
    refine ln_if_eq_t (tgt := 1102) hx hb (by decide) rfl dL_law_1097 (by decide) ?_
    refine lv_goto (tgt := 1670) hx hb dL_law_1102 (by decide) ?_
    exact kk u1 v1 B' H locs ls hu1 (MR_N hq2.2 hn1 (fun _ _ => rfl)) hP hD hS (lv_sub hl [2, 3, 4, 5, 6, 7] rfl)
set_option maxHeartbeats 4000000 in
theorem st_read (l : Launch) (D : va_G) (T : Nat → ClassId) (g : Nat → Nat) (a b : Nat → Nat) (hl9 : l.stackTraces = false) {p : Program} {e : Env} {s : State} {m : MethodId} {below : List Frame} {meth : Method} {c : Code} {H : Heap} {locs : List Loc} {cells slots : Nat} {Q : State → Prop} {ls : Array Slot} {zb L q : Nat} {xs : Nat → Int32}
    (hx : p.tables.exec = Jvm.exec) (hb : c.code = cL_law) (hml : c.maxLocals = 9) (hown : s.vm.findClass RL = some m.cls) (hts : ∀ w ∈ wsL_law, w.before #[Value.ref zb] s = true)
    (hX : va_X zb L xs s s.heap) (hbl : zb < s.heap.size) (hq : 11 * q + 10 < L) (hL : L ≤ 5632) (hK : va_K D cls (tys T) s) (hG : GX g (fun q => s.heap.size ≤ q) s s.heap) (hN : NC s)
    {u : LSt} {v : MSt} {Bw : Nat → Nat → Nat} (hu : LIu u Bw) (hv : MR v.2.2.2.1 v.2.2.1 u.2.1 Bw) (hP : va_P D cls (LW T a u ++ MW T b v) H) (hD : va_D (fun q => s.heap.size ≤ q) (LW T a u ++ MW T b v)) (hS : va_S (fun q => s.heap.size ≤ q) s.heap H locs) (hcs : cells + 5 ≤ 603072 ∧ slots + 1106 ≤ 7219306)
    (hl : lv_has ls 9 [(0, .ref zb), (1, .ref (a 0)), (2, .ref (b 0)), (3, .ref (a 23)), (4, .ref (a 24)), (5, .int (nI (11 * q)))])
    (kk : ∀ (u : LSt) (v : MSt) (Bw : Nat → Nat → Nat) (H : Heap) (locs : List Loc) (ls : Array Slot), LIu u Bw → MR v.2.2.2.1 v.2.2.1 u.2.1 Bw → va_P D cls (LW T a u ++ MW T b v) H → va_D (fun q => s.heap.size ≤ q) (LW T a u ++ MW T b v) → va_S (fun q => s.heap.size ≤ q) s.heap H locs → lv_has ls 9 [(0, .ref zb), (1, .ref (a 0)), (2, .ref (b 0)), (3, .ref (a 23)), (4, .ref (a 24)), (5, .int (nI (11 * q)))] → W p l e room_1 s m #[Value.ref zb] below meth c H locs (cells + 5) (slots + 1106) Q (F0 m 1670 ls [])) :
    W p l e room_1 s m #[Value.ref zb] below meth c H locs cells slots Q (F0 m 1105 ls []) := by
  obtain ⟨F, N, B0, hd, tv, ml, cnt, k0, fb, o, oD⟩ := u
  obtain ⟨many, th, fb2, fl2, fm2, fk2⟩ := v
  have hu : LI F N fb k0 cnt Bw := hu
  have hv : MR fl2 fb2 N Bw := hv
  have hA : ∀ q : Nat, s.heap.size ≤ q → (fun q => s.heap.size ≤ q) q := fun q h => h
  have hbA : ¬ s.heap.size ≤ zb := Nat.not_le.mpr hbl
  obtain ⟨cc, r, N', B', hHC, hMC, hcc⟩ := ex_read l D T g a b hl9 hu hv (xs (11 * q + 1)) (xs (11 * q + 2)) (xs (11 * q + 3))
  refine lv_aload_n hx hb dL_law_1105 rfl (lv_at hl 1 rfl) ?_
  refine lv_aload_n hx hb dL_law_1106 rfl (lv_at hl 0 rfl) ?_
  refine lv_iload hx hb dL_law_1107 (lv_at hl 5 rfl) ?_
  refine lv_iconst (v := nI 1) hx hb dL_law_1109 (by decide +kernel) ?_
  refine ln_add hx hb dL_law_1110 ?_
  refine sc_ld hx hb hX hbl hbA hS ⟨by omega, hL⟩ dL_law_1111 ?_
  refine lv_aload_n hx hb dL_law_1112 rfl (lv_at hl 0 rfl) ?_
  refine lv_iload hx hb dL_law_1113 (lv_at hl 5 rfl) ?_
  refine lv_iconst (v := nI 2) hx hb dL_law_1115 (by decide +kernel) ?_
  refine ln_add hx hb dL_law_1116 ?_
  refine sc_ld hx hb hX hbl hbA hS ⟨by omega, hL⟩ dL_law_1117 ?_
  refine lv_aload_n hx hb dL_law_1118 rfl (lv_at hl 0 rfl) ?_
  refine lv_iload hx hb dL_law_1119 (lv_at hl 5 rfl) ?_
  refine lv_iconst (v := nI 3) hx hb dL_law_1121 (by decide +kernel) ?_
  refine ln_add hx hb dL_law_1122 ?_
  refine sc_ld hx hb hX hbl hbA hS ⟨by omega, hL⟩ dL_law_1123 ?_
  refine lv_aload_n hx hb dL_law_1124 rfl (lv_at hl 3 rfl) ?_
  refine mun_S (As := [.ref (a 0), .int (xs (11 * q + 1)), .int (xs (11 * q + 2)), .int (xs (11 * q + 3)), .ref (a 23)]) (rest := []) (wc := LW T a (F, N, B0, hd, tv, ml, cnt, k0, fb, o, oD)) (wr := MW T b (many, th, fb2, fl2, fm2, fk2)) ⟨hx, hb, hml, hown, hts⟩ (hHC H.size) (vx_cwSW 5 hts gL_law_L_read rfl rfl rfl (by decide +kernel) ⟨Nat.le_of_ble_eq_true rfl, Nat.le_of_ble_eq_true rfl⟩) hN hP hD hK hG hS hA (List.range 25) ((List.range 5).map (fun i => i + 25)) (ap_l (LW_len T a _)) (by decide) (ap_r (LW_len T a _) (MW_len T b _)) (by decide) (by decide) hcs rfl hl.1 (Nat.le_of_ble_eq_true rfl) dL_law_1125 rfl (fun u1 H locs hq1 hP hD hS => ?_)
  obtain ⟨hu1, hn1, ho1⟩ := hq1
  refine lv_istore (lv' := [(6, .int (nI cc)), (0, .ref zb), (1, .ref (a 0)), (2, .ref (b 0)), (3, .ref (a 23)), (4, .ref (a 24)), (5, .int (nI (11 * q)))]) hx hb dL_law_1128 hl (by decide) rfl (fun ls hl => ?_)
  refine lv_aload_n hx hb dL_law_1130 rfl (lv_at hl 3 rfl) ?_
  refine lv_aload_n hx hb dL_law_1131 rfl (lv_at hl 1 rfl) ?_
  refine lv_iload hx hb dL_law_1132 (lv_at hl 6 rfl) ?_
  refine lv_iconst (v := nI 1) hx hb dL_law_1134 (by decide +kernel) ?_
  refine ln_add hx hb dL_law_1135 ?_
  refine sc_ld hx hb hX hbl hbA hS ⟨by omega, hL⟩ dL_law_1136 ?_
  refine lv_aload_n hx hb dL_law_1137 rfl (lv_at hl 1 rfl) ?_
  refine lv_iload hx hb dL_law_1138 (lv_at hl 6 rfl) ?_
  refine lv_iconst (v := nI 2) hx hb dL_law_1140 (by decide +kernel) ?_
  refine ln_add hx hb dL_law_1141 ?_
  refine sc_ld hx hb hX hbl hbA hS ⟨by omega, hL⟩ dL_law_1142 ?_
  refine lv_aload_n hx hb dL_law_1143 rfl (lv_at hl 1 rfl) ?_
  refine lv_iload hx hb dL_law_1144 (lv_at hl 6 rfl) ?_
  refine lv_iconst (v := nI 3) hx hb dL_law_1146 (by decide +kernel) ?_
  refine ln_add hx hb dL_law_1147 ?_
  refine sc_ld hx hb hX hbl hbA hS ⟨by omega, hL⟩ dL_law_1148 ?_
  refine mu_V (As := [.int (xs (11 * q + 1)), .int (xs (11 * q + 2)), .int (xs (11 * q + 3))]) (rest := []) (wc := MW T b (many, th, fb2, fl2, fm2, fk2)) (wr := LW T a u1) ⟨hx, hb, hml, hown, hts⟩ (hMC H.size) (cwV 3 hts gL_law_X6_read rfl rfl rfl (by decide +kernel) ⟨Nat.le_of_ble_eq_true rfl, Nat.le_of_ble_eq_true rfl⟩) (va_recv hK hP (ci := 3) (q0 := 0) rfl rfl) hP hD hK hG hS hA (List.range 5) ((List.range 25).map (fun i => i + 5)) (ap_l (MW_len T b _)) (by decide) (ap_r (MW_len T b _) (LW_len T a _)) (by decide) (by decide) hcs rfl hl.1 (Nat.le_of_ble_eq_true rfl) dL_law_1149 rfl (fun v1 H locs hq2 hP hD hS => ?_)
  refine lv_istore (lv' := [(7, .int r), (6, .int (nI cc)), (0, .ref zb), (1, .ref (a 0)), (2, .ref (b 0)), (3, .ref (a 23)), (4, .ref (a 24)), (5, .int (nI (11 * q)))]) hx hb dL_law_1152 hl (by decide) rfl (fun ls hl => ?_)
  refine lv_aload_n hx hb dL_law_1154 rfl (lv_at hl 4 rfl) ?_
  refine ro_V (As := []) (rest := []) (wc := [(b 0, .inr (3, [.ref (b 1), .ref (b 2), .ref (b 3), .int (nI v1.1), .int v1.2.1, .ref (b 4)]))]) (r := .int v1.2.1) ⟨hx, hb, hml, hown, hts⟩ (c_X6_thrown l D T g (b 0) (b 1) (b 2) (b 3) (b 4) v1.1 v1.2.1) (cwV 0 hts gL_law_X6_thrown rfl rfl rfl (by decide +kernel) ⟨Nat.le_of_ble_eq_true rfl, Nat.le_of_ble_eq_true rfl⟩) (va_recv hK hP (ci := 3) (q0 := 25) rfl rfl) hP hK hG hS [25] rfl hcs rfl hl.1 (Nat.le_of_ble_eq_true rfl) dL_law_1155 rfl ?_
  refine lv_iload hx hb dL_law_1158 (lv_at hl 1 rfl) ?_
  refine lv_icmp_eq (tgt := 1165) hx hb dL_law_1160 (by decide) (fun _ => ?_) (fun z => absurd hq2.1 z)
  refine lv_iload hx hb dL_law_1165 (lv_at hl 1 rfl) ?_
  refine ln_if_ne (tgt := 1182) hx hb (by omega) dL_law_1167 (by decide) (fun hz => ?_) (fun hz => ?_)
  · refine lv_goto (tgt := 1670) hx hb dL_law_1182 (by decide) ?_
    exact kk u1 v1 B' H locs ls hu1 (MR_N hq2.2 hn1 (fun _ _ => rfl)) hP hD hS (lv_sub hl [2, 3, 4, 5, 6, 7] rfl)
  · refine lv_aload_n hx hb dL_law_1170 rfl (lv_at hl 5 rfl) ?_
    refine lv_iconst (v := nI 0) hx hb dL_law_1171 (by decide +kernel) ?_
    refine ld_o (f := uO u1) hx hb hK hP 23 rfl dL_law_1172 ?_
    refine lv_iload hx hb dL_law_1173 (lv_at hl 0 rfl) ?_
    refine lv_i2l (v := r.toInt64) hx hb dL_law_1175 rfl ?_
    refine lc_eq hx hb (ho1 hz) dL_law_1176 ?_
    refine ln_if_eq_t (tgt := 1182) hx hb (by decide) rfl dL_law_1177 (by decide) ?_
    refine lv_goto (tgt := 1670) hx hb dL_law_1182 (by decide) ?_
    exact kk u1 v1 B' H locs ls hu1 (MR_N hq2.2 hn1 (fun _ _ => rfl)) hP hD hS (lv_sub hl [2, 3, 4, 5, 6, 7] rfl)
set_option maxHeartbeats 4000000 in
theorem st_look (l : Launch) (D : va_G) (T : Nat → ClassId) (g : Nat → Nat) (a b : Nat → Nat) (hl9 : l.stackTraces = false) {p : Program} {e : Env} {s : State} {m : MethodId} {below : List Frame} {meth : Method} {c : Code} {H : Heap} {locs : List Loc} {cells slots : Nat} {Q : State → Prop} {ls : Array Slot} {zb L q : Nat} {xs : Nat → Int32}
    (hx : p.tables.exec = Jvm.exec) (hb : c.code = cL_law) (hml : c.maxLocals = 9) (hown : s.vm.findClass RL = some m.cls) (hts : ∀ w ∈ wsL_law, w.before #[Value.ref zb] s = true)
    (hX : va_X zb L xs s s.heap) (hbl : zb < s.heap.size) (hq : 11 * q + 10 < L) (hL : L ≤ 5632) (hK : va_K D cls (tys T) s) (hG : GX g (fun q => s.heap.size ≤ q) s s.heap) (hN : NC s)
    {u : LSt} {v : MSt} {Bw : Nat → Nat → Nat} (hu : LIu u Bw) (hv : MR v.2.2.2.1 v.2.2.1 u.2.1 Bw) (hP : va_P D cls (LW T a u ++ MW T b v) H) (hD : va_D (fun q => s.heap.size ≤ q) (LW T a u ++ MW T b v)) (hS : va_S (fun q => s.heap.size ≤ q) s.heap H locs) (hcs : cells + 5 ≤ 603072 ∧ slots + 1106 ≤ 7219306)
    (hl : lv_has ls 9 [(0, .ref zb), (1, .ref (a 0)), (2, .ref (b 0)), (3, .ref (a 23)), (4, .ref (a 24)), (5, .int (nI (11 * q)))])
    (kk : ∀ (u : LSt) (v : MSt) (Bw : Nat → Nat → Nat) (H : Heap) (locs : List Loc) (ls : Array Slot), LIu u Bw → MR v.2.2.2.1 v.2.2.1 u.2.1 Bw → va_P D cls (LW T a u ++ MW T b v) H → va_D (fun q => s.heap.size ≤ q) (LW T a u ++ MW T b v) → va_S (fun q => s.heap.size ≤ q) s.heap H locs → lv_has ls 9 [(0, .ref zb), (1, .ref (a 0)), (2, .ref (b 0)), (3, .ref (a 23)), (4, .ref (a 24)), (5, .int (nI (11 * q)))] → W p l e room_1 s m #[Value.ref zb] below meth c H locs (cells + 5) (slots + 1106) Q (F0 m 1670 ls [])) :
    W p l e room_1 s m #[Value.ref zb] below meth c H locs cells slots Q (F0 m 1185 ls []) := by
  obtain ⟨F, N, B0, hd, tv, ml, cnt, k0, fb, o, oD⟩ := u
  obtain ⟨many, th, fb2, fl2, fm2, fk2⟩ := v
  have hu : LI F N fb k0 cnt Bw := hu
  have hv : MR fl2 fb2 N Bw := hv
  have hA : ∀ q : Nat, s.heap.size ≤ q → (fun q => s.heap.size ≤ q) q := fun q h => h
  have hbA : ¬ s.heap.size ≤ zb := Nat.not_le.mpr hbl
  obtain ⟨cc, r, N', B', hHC, hMC, hcc⟩ := ex_look l D T g a b hl9 hu hv (xs (11 * q + 1)) (xs (11 * q + 2))
  refine lv_aload_n hx hb dL_law_1185 rfl (lv_at hl 1 rfl) ?_
  refine lv_aload_n hx hb dL_law_1186 rfl (lv_at hl 0 rfl) ?_
  refine lv_iload hx hb dL_law_1187 (lv_at hl 5 rfl) ?_
  refine lv_iconst (v := nI 1) hx hb dL_law_1189 (by decide +kernel) ?_
  refine ln_add hx hb dL_law_1190 ?_
  refine sc_ld hx hb hX hbl hbA hS ⟨by omega, hL⟩ dL_law_1191 ?_
  refine lv_aload_n hx hb dL_law_1192 rfl (lv_at hl 0 rfl) ?_
  refine lv_iload hx hb dL_law_1193 (lv_at hl 5 rfl) ?_
  refine lv_iconst (v := nI 2) hx hb dL_law_1195 (by decide +kernel) ?_
  refine ln_add hx hb dL_law_1196 ?_
  refine sc_ld hx hb hX hbl hbA hS ⟨by omega, hL⟩ dL_law_1197 ?_
  refine lv_aload_n hx hb dL_law_1198 rfl (lv_at hl 3 rfl) ?_
  refine mun_S (As := [.ref (a 0), .int (xs (11 * q + 1)), .int (xs (11 * q + 2)), .ref (a 23)]) (rest := []) (wc := LW T a (F, N, B0, hd, tv, ml, cnt, k0, fb, o, oD)) (wr := MW T b (many, th, fb2, fl2, fm2, fk2)) ⟨hx, hb, hml, hown, hts⟩ (hHC H.size) (vx_cwSW 4 hts gL_law_L_look rfl rfl rfl (by decide +kernel) ⟨Nat.le_of_ble_eq_true rfl, Nat.le_of_ble_eq_true rfl⟩) hN hP hD hK hG hS hA (List.range 25) ((List.range 5).map (fun i => i + 25)) (ap_l (LW_len T a _)) (by decide) (ap_r (LW_len T a _) (MW_len T b _)) (by decide) (by decide) hcs rfl hl.1 (Nat.le_of_ble_eq_true rfl) dL_law_1199 rfl (fun u1 H locs hq1 hP hD hS => ?_)
  obtain ⟨hu1, hn1, ho1⟩ := hq1
  refine lv_istore (lv' := [(6, .int (nI cc)), (0, .ref zb), (1, .ref (a 0)), (2, .ref (b 0)), (3, .ref (a 23)), (4, .ref (a 24)), (5, .int (nI (11 * q)))]) hx hb dL_law_1202 hl (by decide) rfl (fun ls hl => ?_)
  refine lv_aload_n hx hb dL_law_1204 rfl (lv_at hl 3 rfl) ?_
  refine lv_aload_n hx hb dL_law_1205 rfl (lv_at hl 1 rfl) ?_
  refine lv_iload hx hb dL_law_1206 (lv_at hl 6 rfl) ?_
  refine lv_iconst (v := nI 1) hx hb dL_law_1208 (by decide +kernel) ?_
  refine ln_add hx hb dL_law_1209 ?_
  refine sc_ld hx hb hX hbl hbA hS ⟨by omega, hL⟩ dL_law_1210 ?_
  refine lv_aload_n hx hb dL_law_1211 rfl (lv_at hl 1 rfl) ?_
  refine lv_iload hx hb dL_law_1212 (lv_at hl 6 rfl) ?_
  refine lv_iconst (v := nI 2) hx hb dL_law_1214 (by decide +kernel) ?_
  refine ln_add hx hb dL_law_1215 ?_
  refine sc_ld hx hb hX hbl hbA hS ⟨by omega, hL⟩ dL_law_1216 ?_
  refine mu_V (As := [.int (xs (11 * q + 1)), .int (xs (11 * q + 2))]) (rest := []) (wc := MW T b (many, th, fb2, fl2, fm2, fk2)) (wr := LW T a u1) ⟨hx, hb, hml, hown, hts⟩ (hMC H.size) (cwV 2 hts gL_law_X6_look rfl rfl rfl (by decide +kernel) ⟨Nat.le_of_ble_eq_true rfl, Nat.le_of_ble_eq_true rfl⟩) (va_recv hK hP (ci := 3) (q0 := 0) rfl rfl) hP hD hK hG hS hA (List.range 5) ((List.range 25).map (fun i => i + 5)) (ap_l (MW_len T b _)) (by decide) (ap_r (MW_len T b _) (LW_len T a _)) (by decide) (by decide) hcs rfl hl.1 (Nat.le_of_ble_eq_true rfl) dL_law_1217 rfl (fun v1 H locs hq2 hP hD hS => ?_)
  refine lv_istore (lv' := [(7, .int r), (6, .int (nI cc)), (0, .ref zb), (1, .ref (a 0)), (2, .ref (b 0)), (3, .ref (a 23)), (4, .ref (a 24)), (5, .int (nI (11 * q)))]) hx hb dL_law_1220 hl (by decide) rfl (fun ls hl => ?_)
  refine lv_aload_n hx hb dL_law_1222 rfl (lv_at hl 4 rfl) ?_
  refine ro_V (As := []) (rest := []) (wc := [(b 0, .inr (3, [.ref (b 1), .ref (b 2), .ref (b 3), .int (nI v1.1), .int v1.2.1, .ref (b 4)]))]) (r := .int v1.2.1) ⟨hx, hb, hml, hown, hts⟩ (c_X6_thrown l D T g (b 0) (b 1) (b 2) (b 3) (b 4) v1.1 v1.2.1) (cwV 0 hts gL_law_X6_thrown rfl rfl rfl (by decide +kernel) ⟨Nat.le_of_ble_eq_true rfl, Nat.le_of_ble_eq_true rfl⟩) (va_recv hK hP (ci := 3) (q0 := 25) rfl rfl) hP hK hG hS [25] rfl hcs rfl hl.1 (Nat.le_of_ble_eq_true rfl) dL_law_1223 rfl ?_
  refine lv_iload hx hb dL_law_1226 (lv_at hl 1 rfl) ?_
  refine lv_icmp_eq (tgt := 1233) hx hb dL_law_1228 (by decide) (fun _ => ?_) (fun z => absurd hq2.1 z)
  refine lv_iload hx hb dL_law_1233 (lv_at hl 1 rfl) ?_
  refine ln_if_ne (tgt := 1250) hx hb (by omega) dL_law_1235 (by decide) (fun hz => ?_) (fun hz => ?_)
  · refine lv_goto (tgt := 1670) hx hb dL_law_1250 (by decide) ?_
    exact kk u1 v1 B' H locs ls hu1 (MR_N hq2.2 hn1 (fun _ _ => rfl)) hP hD hS (lv_sub hl [2, 3, 4, 5, 6, 7] rfl)
  · refine lv_aload_n hx hb dL_law_1238 rfl (lv_at hl 5 rfl) ?_
    refine lv_iconst (v := nI 0) hx hb dL_law_1239 (by decide +kernel) ?_
    refine ld_o (f := uO u1) hx hb hK hP 23 rfl dL_law_1240 ?_
    refine lv_iload hx hb dL_law_1241 (lv_at hl 0 rfl) ?_
    refine lv_i2l (v := r.toInt64) hx hb dL_law_1243 rfl ?_
    refine lc_eq hx hb (ho1 hz) dL_law_1244 ?_
    refine ln_if_eq_t (tgt := 1250) hx hb (by decide) rfl dL_law_1245 (by decide) ?_
    refine lv_goto (tgt := 1670) hx hb dL_law_1250 (by decide) ?_
    exact kk u1 v1 B' H locs ls hu1 (MR_N hq2.2 hn1 (fun _ _ => rfl)) hP hD hS (lv_sub hl [2, 3, 4, 5, 6, 7] rfl)
set_option maxHeartbeats 4000000 in
theorem st_letters (l : Launch) (D : va_G) (T : Nat → ClassId) (g : Nat → Nat) (a b : Nat → Nat) (hl9 : l.stackTraces = false) {p : Program} {e : Env} {s : State} {m : MethodId} {below : List Frame} {meth : Method} {c : Code} {H : Heap} {locs : List Loc} {cells slots : Nat} {Q : State → Prop} {ls : Array Slot} {zb L q : Nat} {xs : Nat → Int32}
    (hx : p.tables.exec = Jvm.exec) (hb : c.code = cL_law) (hml : c.maxLocals = 9) (hown : s.vm.findClass RL = some m.cls) (hts : ∀ w ∈ wsL_law, w.before #[Value.ref zb] s = true)
    (hX : va_X zb L xs s s.heap) (hbl : zb < s.heap.size) (hq : 11 * q + 10 < L) (hL : L ≤ 5632) (hK : va_K D cls (tys T) s) (hG : GX g (fun q => s.heap.size ≤ q) s s.heap) (hN : NC s)
    {u : LSt} {v : MSt} {Bw : Nat → Nat → Nat} (hu : LIu u Bw) (hv : MR v.2.2.2.1 v.2.2.1 u.2.1 Bw) (hP : va_P D cls (LW T a u ++ MW T b v) H) (hD : va_D (fun q => s.heap.size ≤ q) (LW T a u ++ MW T b v)) (hS : va_S (fun q => s.heap.size ≤ q) s.heap H locs) (hcs : cells + 5 ≤ 603072 ∧ slots + 1106 ≤ 7219306)
    (hl : lv_has ls 9 [(0, .ref zb), (1, .ref (a 0)), (2, .ref (b 0)), (3, .ref (a 23)), (4, .ref (a 24)), (5, .int (nI (11 * q)))])
    (kk : ∀ (u : LSt) (v : MSt) (Bw : Nat → Nat → Nat) (H : Heap) (locs : List Loc) (ls : Array Slot), LIu u Bw → MR v.2.2.2.1 v.2.2.1 u.2.1 Bw → va_P D cls (LW T a u ++ MW T b v) H → va_D (fun q => s.heap.size ≤ q) (LW T a u ++ MW T b v) → va_S (fun q => s.heap.size ≤ q) s.heap H locs → lv_has ls 9 [(0, .ref zb), (1, .ref (a 0)), (2, .ref (b 0)), (3, .ref (a 23)), (4, .ref (a 24)), (5, .int (nI (11 * q)))] → W p l e room_1 s m #[Value.ref zb] below meth c H locs (cells + 5) (slots + 1106) Q (F0 m 1670 ls [])) :
    W p l e room_1 s m #[Value.ref zb] below meth c H locs cells slots Q (F0 m 1253 ls []) := by
  obtain ⟨F, N, B0, hd, tv, ml, cnt, k0, fb, o, oD⟩ := u
  obtain ⟨many, th, fb2, fl2, fm2, fk2⟩ := v
  have hu : LI F N fb k0 cnt Bw := hu
  have hv : MR fl2 fb2 N Bw := hv
  have hA : ∀ q : Nat, s.heap.size ≤ q → (fun q => s.heap.size ≤ q) q := fun q h => h
  have hbA : ¬ s.heap.size ≤ zb := Nat.not_le.mpr hbl
  obtain ⟨cc, r, N', B', hHC, hMC, hcc⟩ := ex_letters l D T g a b hl9 hu hv (xs (11 * q + 1)) (xs (11 * q + 2))
  refine lv_aload_n hx hb dL_law_1253 rfl (lv_at hl 1 rfl) ?_
  refine lv_aload_n hx hb dL_law_1254 rfl (lv_at hl 0 rfl) ?_
  refine lv_iload hx hb dL_law_1255 (lv_at hl 5 rfl) ?_
  refine lv_iconst (v := nI 1) hx hb dL_law_1257 (by decide +kernel) ?_
  refine ln_add hx hb dL_law_1258 ?_
  refine sc_ld hx hb hX hbl hbA hS ⟨by omega, hL⟩ dL_law_1259 ?_
  refine lv_aload_n hx hb dL_law_1260 rfl (lv_at hl 0 rfl) ?_
  refine lv_iload hx hb dL_law_1261 (lv_at hl 5 rfl) ?_
  refine lv_iconst (v := nI 2) hx hb dL_law_1263 (by decide +kernel) ?_
  refine ln_add hx hb dL_law_1264 ?_
  refine sc_ld hx hb hX hbl hbA hS ⟨by omega, hL⟩ dL_law_1265 ?_
  refine lv_aload_n hx hb dL_law_1266 rfl (lv_at hl 3 rfl) ?_
  refine mun_S (As := [.ref (a 0), .int (xs (11 * q + 1)), .int (xs (11 * q + 2)), .ref (a 23)]) (rest := []) (wc := LW T a (F, N, B0, hd, tv, ml, cnt, k0, fb, o, oD)) (wr := MW T b (many, th, fb2, fl2, fm2, fk2)) ⟨hx, hb, hml, hown, hts⟩ (hHC H.size) (vx_cwSW 4 hts gL_law_L_letters rfl rfl rfl (by decide +kernel) ⟨Nat.le_of_ble_eq_true rfl, Nat.le_of_ble_eq_true rfl⟩) hN hP hD hK hG hS hA (List.range 25) ((List.range 5).map (fun i => i + 25)) (ap_l (LW_len T a _)) (by decide) (ap_r (LW_len T a _) (MW_len T b _)) (by decide) (by decide) hcs rfl hl.1 (Nat.le_of_ble_eq_true rfl) dL_law_1267 rfl (fun u1 H locs hq1 hP hD hS => ?_)
  obtain ⟨hu1, hn1, ho1⟩ := hq1
  refine lv_istore (lv' := [(6, .int (nI cc)), (0, .ref zb), (1, .ref (a 0)), (2, .ref (b 0)), (3, .ref (a 23)), (4, .ref (a 24)), (5, .int (nI (11 * q)))]) hx hb dL_law_1270 hl (by decide) rfl (fun ls hl => ?_)
  refine lv_aload_n hx hb dL_law_1272 rfl (lv_at hl 3 rfl) ?_
  refine lv_aload_n hx hb dL_law_1273 rfl (lv_at hl 1 rfl) ?_
  refine lv_iload hx hb dL_law_1274 (lv_at hl 6 rfl) ?_
  refine lv_iconst (v := nI 1) hx hb dL_law_1276 (by decide +kernel) ?_
  refine ln_add hx hb dL_law_1277 ?_
  refine sc_ld hx hb hX hbl hbA hS ⟨by omega, hL⟩ dL_law_1278 ?_
  refine lv_aload_n hx hb dL_law_1279 rfl (lv_at hl 1 rfl) ?_
  refine lv_iload hx hb dL_law_1280 (lv_at hl 6 rfl) ?_
  refine lv_iconst (v := nI 2) hx hb dL_law_1282 (by decide +kernel) ?_
  refine ln_add hx hb dL_law_1283 ?_
  refine sc_ld hx hb hX hbl hbA hS ⟨by omega, hL⟩ dL_law_1284 ?_
  refine mu_V (As := [.int (xs (11 * q + 1)), .int (xs (11 * q + 2))]) (rest := []) (wc := MW T b (many, th, fb2, fl2, fm2, fk2)) (wr := LW T a u1) ⟨hx, hb, hml, hown, hts⟩ (hMC H.size) (cwV 2 hts gL_law_X6_letters rfl rfl rfl (by decide +kernel) ⟨Nat.le_of_ble_eq_true rfl, Nat.le_of_ble_eq_true rfl⟩) (va_recv hK hP (ci := 3) (q0 := 0) rfl rfl) hP hD hK hG hS hA (List.range 5) ((List.range 25).map (fun i => i + 5)) (ap_l (MW_len T b _)) (by decide) (ap_r (MW_len T b _) (LW_len T a _)) (by decide) (by decide) hcs rfl hl.1 (Nat.le_of_ble_eq_true rfl) dL_law_1285 rfl (fun v1 H locs hq2 hP hD hS => ?_)
  refine lv_istore (lv' := [(7, .int r), (6, .int (nI cc)), (0, .ref zb), (1, .ref (a 0)), (2, .ref (b 0)), (3, .ref (a 23)), (4, .ref (a 24)), (5, .int (nI (11 * q)))]) hx hb dL_law_1288 hl (by decide) rfl (fun ls hl => ?_)
  refine lv_aload_n hx hb dL_law_1290 rfl (lv_at hl 4 rfl) ?_
  refine ro_V (As := []) (rest := []) (wc := [(b 0, .inr (3, [.ref (b 1), .ref (b 2), .ref (b 3), .int (nI v1.1), .int v1.2.1, .ref (b 4)]))]) (r := .int v1.2.1) ⟨hx, hb, hml, hown, hts⟩ (c_X6_thrown l D T g (b 0) (b 1) (b 2) (b 3) (b 4) v1.1 v1.2.1) (cwV 0 hts gL_law_X6_thrown rfl rfl rfl (by decide +kernel) ⟨Nat.le_of_ble_eq_true rfl, Nat.le_of_ble_eq_true rfl⟩) (va_recv hK hP (ci := 3) (q0 := 25) rfl rfl) hP hK hG hS [25] rfl hcs rfl hl.1 (Nat.le_of_ble_eq_true rfl) dL_law_1291 rfl ?_
  refine lv_iload hx hb dL_law_1294 (lv_at hl 1 rfl) ?_
  refine lv_icmp_eq (tgt := 1301) hx hb dL_law_1296 (by decide) (fun _ => ?_) (fun z => absurd hq2.1 z)
  refine lv_iload hx hb dL_law_1301 (lv_at hl 1 rfl) ?_
  refine ln_if_ne (tgt := 1318) hx hb (by omega) dL_law_1303 (by decide) (fun hz => ?_) (fun hz => ?_)
  · refine lv_goto (tgt := 1670) hx hb dL_law_1318 (by decide) ?_
    exact kk u1 v1 B' H locs ls hu1 (MR_N hq2.2 hn1 (fun _ _ => rfl)) hP hD hS (lv_sub hl [2, 3, 4, 5, 6, 7] rfl)
  · refine lv_aload_n hx hb dL_law_1306 rfl (lv_at hl 5 rfl) ?_
    refine lv_iconst (v := nI 0) hx hb dL_law_1307 (by decide +kernel) ?_
    refine ld_o (f := uO u1) hx hb hK hP 23 rfl dL_law_1308 ?_
    refine lv_iload hx hb dL_law_1309 (lv_at hl 0 rfl) ?_
    refine lv_i2l (v := r.toInt64) hx hb dL_law_1311 rfl ?_
    refine lc_eq hx hb (ho1 hz) dL_law_1312 ?_
    refine ln_if_eq_t (tgt := 1318) hx hb (by decide) rfl dL_law_1313 (by decide) ?_
    refine lv_goto (tgt := 1670) hx hb dL_law_1318 (by decide) ?_
    exact kk u1 v1 B' H locs ls hu1 (MR_N hq2.2 hn1 (fun _ _ => rfl)) hP hD hS (lv_sub hl [2, 3, 4, 5, 6, 7] rfl)
set_option maxHeartbeats 4000000 in
theorem st_isWritten (l : Launch) (D : va_G) (T : Nat → ClassId) (g : Nat → Nat) (a b : Nat → Nat) (hl9 : l.stackTraces = false) {p : Program} {e : Env} {s : State} {m : MethodId} {below : List Frame} {meth : Method} {c : Code} {H : Heap} {locs : List Loc} {cells slots : Nat} {Q : State → Prop} {ls : Array Slot} {zb L q : Nat} {xs : Nat → Int32}
    (hx : p.tables.exec = Jvm.exec) (hb : c.code = cL_law) (hml : c.maxLocals = 9) (hown : s.vm.findClass RL = some m.cls) (hts : ∀ w ∈ wsL_law, w.before #[Value.ref zb] s = true)
    (hX : va_X zb L xs s s.heap) (hbl : zb < s.heap.size) (hq : 11 * q + 10 < L) (hL : L ≤ 5632) (hK : va_K D cls (tys T) s) (hG : GX g (fun q => s.heap.size ≤ q) s s.heap) (hN : NC s)
    {u : LSt} {v : MSt} {Bw : Nat → Nat → Nat} (hu : LIu u Bw) (hv : MR v.2.2.2.1 v.2.2.1 u.2.1 Bw) (hP : va_P D cls (LW T a u ++ MW T b v) H) (hD : va_D (fun q => s.heap.size ≤ q) (LW T a u ++ MW T b v)) (hS : va_S (fun q => s.heap.size ≤ q) s.heap H locs) (hcs : cells + 5 ≤ 603072 ∧ slots + 1106 ≤ 7219306)
    (hl : lv_has ls 9 [(0, .ref zb), (1, .ref (a 0)), (2, .ref (b 0)), (3, .ref (a 23)), (4, .ref (a 24)), (5, .int (nI (11 * q)))])
    (kk : ∀ (u : LSt) (v : MSt) (Bw : Nat → Nat → Nat) (H : Heap) (locs : List Loc) (ls : Array Slot), LIu u Bw → MR v.2.2.2.1 v.2.2.1 u.2.1 Bw → va_P D cls (LW T a u ++ MW T b v) H → va_D (fun q => s.heap.size ≤ q) (LW T a u ++ MW T b v) → va_S (fun q => s.heap.size ≤ q) s.heap H locs → lv_has ls 9 [(0, .ref zb), (1, .ref (a 0)), (2, .ref (b 0)), (3, .ref (a 23)), (4, .ref (a 24)), (5, .int (nI (11 * q)))] → W p l e room_1 s m #[Value.ref zb] below meth c H locs (cells + 5) (slots + 1106) Q (F0 m 1670 ls [])) :
    W p l e room_1 s m #[Value.ref zb] below meth c H locs cells slots Q (F0 m 1321 ls []) := by
  obtain ⟨F, N, B0, hd, tv, ml, cnt, k0, fb, o, oD⟩ := u
  obtain ⟨many, th, fb2, fl2, fm2, fk2⟩ := v
  have hu : LI F N fb k0 cnt Bw := hu
  have hv : MR fl2 fb2 N Bw := hv
  have hA : ∀ q : Nat, s.heap.size ≤ q → (fun q => s.heap.size ≤ q) q := fun q h => h
  have hbA : ¬ s.heap.size ≤ zb := Nat.not_le.mpr hbl
  obtain ⟨cc, r, N', B', hHC, hMC, hcc⟩ := ex_isWritten l D T g a b hl9 hu hv (xs (11 * q + 1)) (xs (11 * q + 2))
  refine lv_aload_n hx hb dL_law_1321 rfl (lv_at hl 1 rfl) ?_
  refine lv_aload_n hx hb dL_law_1322 rfl (lv_at hl 0 rfl) ?_
  refine lv_iload hx hb dL_law_1323 (lv_at hl 5 rfl) ?_
  refine lv_iconst (v := nI 1) hx hb dL_law_1325 (by decide +kernel) ?_
  refine ln_add hx hb dL_law_1326 ?_
  refine sc_ld hx hb hX hbl hbA hS ⟨by omega, hL⟩ dL_law_1327 ?_
  refine lv_aload_n hx hb dL_law_1328 rfl (lv_at hl 0 rfl) ?_
  refine lv_iload hx hb dL_law_1329 (lv_at hl 5 rfl) ?_
  refine lv_iconst (v := nI 2) hx hb dL_law_1331 (by decide +kernel) ?_
  refine ln_add hx hb dL_law_1332 ?_
  refine sc_ld hx hb hX hbl hbA hS ⟨by omega, hL⟩ dL_law_1333 ?_
  refine lv_aload_n hx hb dL_law_1334 rfl (lv_at hl 3 rfl) ?_
  refine mun_S (As := [.ref (a 0), .int (xs (11 * q + 1)), .int (xs (11 * q + 2)), .ref (a 23)]) (rest := []) (wc := LW T a (F, N, B0, hd, tv, ml, cnt, k0, fb, o, oD)) (wr := MW T b (many, th, fb2, fl2, fm2, fk2)) ⟨hx, hb, hml, hown, hts⟩ (hHC H.size) (vx_cwSW 4 hts gL_law_L_isWritten rfl rfl rfl (by decide +kernel) ⟨Nat.le_of_ble_eq_true rfl, Nat.le_of_ble_eq_true rfl⟩) hN hP hD hK hG hS hA (List.range 25) ((List.range 5).map (fun i => i + 25)) (ap_l (LW_len T a _)) (by decide) (ap_r (LW_len T a _) (MW_len T b _)) (by decide) (by decide) hcs rfl hl.1 (Nat.le_of_ble_eq_true rfl) dL_law_1335 rfl (fun u1 H locs hq1 hP hD hS => ?_)
  obtain ⟨hu1, hn1, ho1⟩ := hq1
  refine lv_istore (lv' := [(6, .int (nI cc)), (0, .ref zb), (1, .ref (a 0)), (2, .ref (b 0)), (3, .ref (a 23)), (4, .ref (a 24)), (5, .int (nI (11 * q)))]) hx hb dL_law_1338 hl (by decide) rfl (fun ls hl => ?_)
  refine lv_aload_n hx hb dL_law_1340 rfl (lv_at hl 3 rfl) ?_
  refine lv_aload_n hx hb dL_law_1341 rfl (lv_at hl 1 rfl) ?_
  refine lv_iload hx hb dL_law_1342 (lv_at hl 6 rfl) ?_
  refine lv_iconst (v := nI 1) hx hb dL_law_1344 (by decide +kernel) ?_
  refine ln_add hx hb dL_law_1345 ?_
  refine sc_ld hx hb hX hbl hbA hS ⟨by omega, hL⟩ dL_law_1346 ?_
  refine lv_aload_n hx hb dL_law_1347 rfl (lv_at hl 1 rfl) ?_
  refine lv_iload hx hb dL_law_1348 (lv_at hl 6 rfl) ?_
  refine lv_iconst (v := nI 2) hx hb dL_law_1350 (by decide +kernel) ?_
  refine ln_add hx hb dL_law_1351 ?_
  refine sc_ld hx hb hX hbl hbA hS ⟨by omega, hL⟩ dL_law_1352 ?_
  refine mu_V (As := [.int (xs (11 * q + 1)), .int (xs (11 * q + 2))]) (rest := []) (wc := MW T b (many, th, fb2, fl2, fm2, fk2)) (wr := LW T a u1) ⟨hx, hb, hml, hown, hts⟩ (hMC H.size) (cwV 2 hts gL_law_X6_isWritten rfl rfl rfl (by decide +kernel) ⟨Nat.le_of_ble_eq_true rfl, Nat.le_of_ble_eq_true rfl⟩) (va_recv hK hP (ci := 3) (q0 := 0) rfl rfl) hP hD hK hG hS hA (List.range 5) ((List.range 25).map (fun i => i + 5)) (ap_l (MW_len T b _)) (by decide) (ap_r (MW_len T b _) (LW_len T a _)) (by decide) (by decide) hcs rfl hl.1 (Nat.le_of_ble_eq_true rfl) dL_law_1353 rfl (fun v1 H locs hq2 hP hD hS => ?_)
  refine lv_istore (lv' := [(7, .int (bI r)), (6, .int (nI cc)), (0, .ref zb), (1, .ref (a 0)), (2, .ref (b 0)), (3, .ref (a 23)), (4, .ref (a 24)), (5, .int (nI (11 * q)))]) hx hb dL_law_1356 hl (by decide) rfl (fun ls hl => ?_)
  refine lv_aload_n hx hb dL_law_1358 rfl (lv_at hl 4 rfl) ?_
  refine ro_V (As := []) (rest := []) (wc := [(b 0, .inr (3, [.ref (b 1), .ref (b 2), .ref (b 3), .int (nI v1.1), .int v1.2.1, .ref (b 4)]))]) (r := .int v1.2.1) ⟨hx, hb, hml, hown, hts⟩ (c_X6_thrown l D T g (b 0) (b 1) (b 2) (b 3) (b 4) v1.1 v1.2.1) (cwV 0 hts gL_law_X6_thrown rfl rfl rfl (by decide +kernel) ⟨Nat.le_of_ble_eq_true rfl, Nat.le_of_ble_eq_true rfl⟩) (va_recv hK hP (ci := 3) (q0 := 25) rfl rfl) hP hK hG hS [25] rfl hcs rfl hl.1 (Nat.le_of_ble_eq_true rfl) dL_law_1359 rfl ?_
  refine lv_iload hx hb dL_law_1362 (lv_at hl 1 rfl) ?_
  refine lv_icmp_eq (tgt := 1369) hx hb dL_law_1364 (by decide) (fun _ => ?_) (fun z => absurd hq2.1 z)
  refine lv_iload hx hb dL_law_1369 (lv_at hl 1 rfl) ?_
  refine ln_if_ne (tgt := 1393) hx hb (by omega) dL_law_1371 (by decide) (fun hz => ?_) (fun hz => ?_)
  · refine lv_goto (tgt := 1670) hx hb dL_law_1393 (by decide) ?_
    exact kk u1 v1 B' H locs ls hu1 (MR_N hq2.2 hn1 (fun _ _ => rfl)) hP hD hS (lv_sub hl [2, 3, 4, 5, 6, 7] rfl)
  · refine lv_aload_n hx hb dL_law_1374 rfl (lv_at hl 5 rfl) ?_
    refine lv_iconst (v := nI 0) hx hb dL_law_1375 (by decide +kernel) ?_
    refine ld_o (f := uO u1) hx hb hK hP 23 rfl dL_law_1376 ?_
    refine lv_iload hx hb dL_law_1377 (lv_at hl 0 rfl) ?_
    cases r with
    | true =>
      have ho2 : uO u1 0 = lN 1 := ho1 hz
      refine ln_if_eq_f (a := 1) (tgt := 1386) hx hb (by decide) (by decide) dL_law_1379 (by decide) ?_
      refine lv_lconst (v := lN 1) hx hb dL_law_1382 (by decide +kernel) ?_
      refine lv_goto (tgt := 1387) hx hb dL_law_1383 (by decide) ?_
      refine lc_eq hx hb ho2 dL_law_1387 ?_
      refine ln_if_eq_t (a := 0) (tgt := 1393) hx hb (by decide) rfl dL_law_1388 (by decide) ?_
      refine lv_goto (tgt := 1670) hx hb dL_law_1393 (by decide) ?_
      exact kk u1 v1 B' H locs ls hu1 (MR_N hq2.2 hn1 (fun _ _ => rfl)) hP hD hS (lv_sub hl [2, 3, 4, 5, 6, 7] rfl)
    | false =>
      have ho2 : uO u1 0 = lN 0 := ho1 hz
      refine ln_if_eq_t (a := 0) (tgt := 1386) hx hb (by decide) rfl dL_law_1379 (by decide) ?_
      refine lv_lconst (v := lN 0) hx hb dL_law_1386 (by decide +kernel) ?_
      refine lc_eq hx hb ho2 dL_law_1387 ?_
      refine ln_if_eq_t (a := 0) (tgt := 1393) hx hb (by decide) rfl dL_law_1388 (by decide) ?_
      refine lv_goto (tgt := 1670) hx hb dL_law_1393 (by decide) ?_
      exact kk u1 v1 B' H locs ls hu1 (MR_N hq2.2 hn1 (fun _ _ => rfl)) hP hD hS (lv_sub hl [2, 3, 4, 5, 6, 7] rfl)
set_option maxHeartbeats 4000000 in
theorem st_plain (l : Launch) (D : va_G) (T : Nat → ClassId) (g : Nat → Nat) (a b : Nat → Nat) (hl9 : l.stackTraces = false) {p : Program} {e : Env} {s : State} {m : MethodId} {below : List Frame} {meth : Method} {c : Code} {H : Heap} {locs : List Loc} {cells slots : Nat} {Q : State → Prop} {ls : Array Slot} {zb L q : Nat} {xs : Nat → Int32}
    (hx : p.tables.exec = Jvm.exec) (hb : c.code = cL_law) (hml : c.maxLocals = 9) (hown : s.vm.findClass RL = some m.cls) (hts : ∀ w ∈ wsL_law, w.before #[Value.ref zb] s = true)
    (hX : va_X zb L xs s s.heap) (hbl : zb < s.heap.size) (hq : 11 * q + 10 < L) (hL : L ≤ 5632) (hK : va_K D cls (tys T) s) (hG : GX g (fun q => s.heap.size ≤ q) s s.heap) (hN : NC s)
    {u : LSt} {v : MSt} {Bw : Nat → Nat → Nat} (hu : LIu u Bw) (hv : MR v.2.2.2.1 v.2.2.1 u.2.1 Bw) (hP : va_P D cls (LW T a u ++ MW T b v) H) (hD : va_D (fun q => s.heap.size ≤ q) (LW T a u ++ MW T b v)) (hS : va_S (fun q => s.heap.size ≤ q) s.heap H locs) (hcs : cells + 5 ≤ 603072 ∧ slots + 1106 ≤ 7219306)
    (hl : lv_has ls 9 [(0, .ref zb), (1, .ref (a 0)), (2, .ref (b 0)), (3, .ref (a 23)), (4, .ref (a 24)), (5, .int (nI (11 * q)))])
    (kk : ∀ (u : LSt) (v : MSt) (Bw : Nat → Nat → Nat) (H : Heap) (locs : List Loc) (ls : Array Slot), LIu u Bw → MR v.2.2.2.1 v.2.2.1 u.2.1 Bw → va_P D cls (LW T a u ++ MW T b v) H → va_D (fun q => s.heap.size ≤ q) (LW T a u ++ MW T b v) → va_S (fun q => s.heap.size ≤ q) s.heap H locs → lv_has ls 9 [(0, .ref zb), (1, .ref (a 0)), (2, .ref (b 0)), (3, .ref (a 23)), (4, .ref (a 24)), (5, .int (nI (11 * q)))] → W p l e room_1 s m #[Value.ref zb] below meth c H locs (cells + 5) (slots + 1106) Q (F0 m 1670 ls [])) :
    W p l e room_1 s m #[Value.ref zb] below meth c H locs cells slots Q (F0 m 1396 ls []) := by
  obtain ⟨F, N, B0, hd, tv, ml, cnt, k0, fb, o, oD⟩ := u
  obtain ⟨many, th, fb2, fl2, fm2, fk2⟩ := v
  have hu : LI F N fb k0 cnt Bw := hu
  have hv : MR fl2 fb2 N Bw := hv
  have hA : ∀ q : Nat, s.heap.size ≤ q → (fun q => s.heap.size ≤ q) q := fun q h => h
  have hbA : ¬ s.heap.size ≤ zb := Nat.not_le.mpr hbl
  obtain ⟨cc, r, N', B', hHC, hMC, hcc⟩ := ex_plain l D T g a b hl9 hu hv (xs (11 * q + 1)) (xs (11 * q + 2))
  refine lv_aload_n hx hb dL_law_1396 rfl (lv_at hl 1 rfl) ?_
  refine lv_aload_n hx hb dL_law_1397 rfl (lv_at hl 0 rfl) ?_
  refine lv_iload hx hb dL_law_1398 (lv_at hl 5 rfl) ?_
  refine lv_iconst (v := nI 1) hx hb dL_law_1400 (by decide +kernel) ?_
  refine ln_add hx hb dL_law_1401 ?_
  refine sc_ld hx hb hX hbl hbA hS ⟨by omega, hL⟩ dL_law_1402 ?_
  refine lv_aload_n hx hb dL_law_1403 rfl (lv_at hl 0 rfl) ?_
  refine lv_iload hx hb dL_law_1404 (lv_at hl 5 rfl) ?_
  refine lv_iconst (v := nI 2) hx hb dL_law_1406 (by decide +kernel) ?_
  refine ln_add hx hb dL_law_1407 ?_
  refine sc_ld hx hb hX hbl hbA hS ⟨by omega, hL⟩ dL_law_1408 ?_
  refine lv_aload_n hx hb dL_law_1409 rfl (lv_at hl 3 rfl) ?_
  refine mun_S (As := [.ref (a 0), .int (xs (11 * q + 1)), .int (xs (11 * q + 2)), .ref (a 23)]) (rest := []) (wc := LW T a (F, N, B0, hd, tv, ml, cnt, k0, fb, o, oD)) (wr := MW T b (many, th, fb2, fl2, fm2, fk2)) ⟨hx, hb, hml, hown, hts⟩ (hHC H.size) (vx_cwSW 4 hts gL_law_L_plain rfl rfl rfl (by decide +kernel) ⟨Nat.le_of_ble_eq_true rfl, Nat.le_of_ble_eq_true rfl⟩) hN hP hD hK hG hS hA (List.range 25) ((List.range 5).map (fun i => i + 25)) (ap_l (LW_len T a _)) (by decide) (ap_r (LW_len T a _) (MW_len T b _)) (by decide) (by decide) hcs rfl hl.1 (Nat.le_of_ble_eq_true rfl) dL_law_1410 rfl (fun u1 H locs hq1 hP hD hS => ?_)
  obtain ⟨hu1, hn1, ho1⟩ := hq1
  refine lv_istore (lv' := [(6, .int (nI cc)), (0, .ref zb), (1, .ref (a 0)), (2, .ref (b 0)), (3, .ref (a 23)), (4, .ref (a 24)), (5, .int (nI (11 * q)))]) hx hb dL_law_1413 hl (by decide) rfl (fun ls hl => ?_)
  refine lv_aload_n hx hb dL_law_1415 rfl (lv_at hl 3 rfl) ?_
  refine lv_aload_n hx hb dL_law_1416 rfl (lv_at hl 1 rfl) ?_
  refine lv_iload hx hb dL_law_1417 (lv_at hl 6 rfl) ?_
  refine lv_iconst (v := nI 1) hx hb dL_law_1419 (by decide +kernel) ?_
  refine ln_add hx hb dL_law_1420 ?_
  refine sc_ld hx hb hX hbl hbA hS ⟨by omega, hL⟩ dL_law_1421 ?_
  refine lv_aload_n hx hb dL_law_1422 rfl (lv_at hl 1 rfl) ?_
  refine lv_iload hx hb dL_law_1423 (lv_at hl 6 rfl) ?_
  refine lv_iconst (v := nI 2) hx hb dL_law_1425 (by decide +kernel) ?_
  refine ln_add hx hb dL_law_1426 ?_
  refine sc_ld hx hb hX hbl hbA hS ⟨by omega, hL⟩ dL_law_1427 ?_
  refine mu_V (As := [.int (xs (11 * q + 1)), .int (xs (11 * q + 2))]) (rest := []) (wc := MW T b (many, th, fb2, fl2, fm2, fk2)) (wr := LW T a u1) ⟨hx, hb, hml, hown, hts⟩ (hMC H.size) (cwV 2 hts gL_law_X6_plain rfl rfl rfl (by decide +kernel) ⟨Nat.le_of_ble_eq_true rfl, Nat.le_of_ble_eq_true rfl⟩) (va_recv hK hP (ci := 3) (q0 := 0) rfl rfl) hP hD hK hG hS hA (List.range 5) ((List.range 25).map (fun i => i + 5)) (ap_l (MW_len T b _)) (by decide) (ap_r (MW_len T b _) (LW_len T a _)) (by decide) (by decide) hcs rfl hl.1 (Nat.le_of_ble_eq_true rfl) dL_law_1428 rfl (fun v1 H locs hq2 hP hD hS => ?_)
  refine lv_istore (lv' := [(7, .int r), (6, .int (nI cc)), (0, .ref zb), (1, .ref (a 0)), (2, .ref (b 0)), (3, .ref (a 23)), (4, .ref (a 24)), (5, .int (nI (11 * q)))]) hx hb dL_law_1431 hl (by decide) rfl (fun ls hl => ?_)
  refine lv_aload_n hx hb dL_law_1433 rfl (lv_at hl 4 rfl) ?_
  refine ro_V (As := []) (rest := []) (wc := [(b 0, .inr (3, [.ref (b 1), .ref (b 2), .ref (b 3), .int (nI v1.1), .int v1.2.1, .ref (b 4)]))]) (r := .int v1.2.1) ⟨hx, hb, hml, hown, hts⟩ (c_X6_thrown l D T g (b 0) (b 1) (b 2) (b 3) (b 4) v1.1 v1.2.1) (cwV 0 hts gL_law_X6_thrown rfl rfl rfl (by decide +kernel) ⟨Nat.le_of_ble_eq_true rfl, Nat.le_of_ble_eq_true rfl⟩) (va_recv hK hP (ci := 3) (q0 := 25) rfl rfl) hP hK hG hS [25] rfl hcs rfl hl.1 (Nat.le_of_ble_eq_true rfl) dL_law_1434 rfl ?_
  refine lv_iload hx hb dL_law_1437 (lv_at hl 1 rfl) ?_
  refine lv_icmp_eq (tgt := 1444) hx hb dL_law_1439 (by decide) (fun _ => ?_) (fun z => absurd hq2.1 z)
  refine lv_iload hx hb dL_law_1444 (lv_at hl 1 rfl) ?_
  refine ln_if_ne (tgt := 1461) hx hb (by omega) dL_law_1446 (by decide) (fun hz => ?_) (fun hz => ?_)
  · refine lv_goto (tgt := 1670) hx hb dL_law_1461 (by decide) ?_
    exact kk u1 v1 B' H locs ls hu1 (MR_N hq2.2 hn1 (fun _ _ => rfl)) hP hD hS (lv_sub hl [2, 3, 4, 5, 6, 7] rfl)
  · refine lv_aload_n hx hb dL_law_1449 rfl (lv_at hl 5 rfl) ?_
    refine lv_iconst (v := nI 0) hx hb dL_law_1450 (by decide +kernel) ?_
    refine ld_o (f := uO u1) hx hb hK hP 23 rfl dL_law_1451 ?_
    refine lv_iload hx hb dL_law_1452 (lv_at hl 0 rfl) ?_
    refine lv_i2l (v := r.toInt64) hx hb dL_law_1454 rfl ?_
    refine lc_eq hx hb (ho1 hz) dL_law_1455 ?_
    refine ln_if_eq_t (tgt := 1461) hx hb (by decide) rfl dL_law_1456 (by decide) ?_
    refine lv_goto (tgt := 1670) hx hb dL_law_1461 (by decide) ?_
    exact kk u1 v1 B' H locs ls hu1 (MR_N hq2.2 hn1 (fun _ _ => rfl)) hP hD hS (lv_sub hl [2, 3, 4, 5, 6, 7] rfl)
set_option maxHeartbeats 4000000 in
theorem st_letterShare (l : Launch) (D : va_G) (T : Nat → ClassId) (g : Nat → Nat) (a b : Nat → Nat) (hl9 : l.stackTraces = false) {p : Program} {e : Env} {s : State} {m : MethodId} {below : List Frame} {meth : Method} {c : Code} {H : Heap} {locs : List Loc} {cells slots : Nat} {Q : State → Prop} {ls : Array Slot} {zb L q : Nat} {xs : Nat → Int32}
    (hx : p.tables.exec = Jvm.exec) (hb : c.code = cL_law) (hml : c.maxLocals = 9) (hown : s.vm.findClass RL = some m.cls) (hts : ∀ w ∈ wsL_law, w.before #[Value.ref zb] s = true)
    (hX : va_X zb L xs s s.heap) (hbl : zb < s.heap.size) (hq : 11 * q + 10 < L) (hL : L ≤ 5632) (hK : va_K D cls (tys T) s) (hG : GX g (fun q => s.heap.size ≤ q) s s.heap) (hN : NC s)
    {u : LSt} {v : MSt} {Bw : Nat → Nat → Nat} (hu : LIu u Bw) (hv : MR v.2.2.2.1 v.2.2.1 u.2.1 Bw) (hP : va_P D cls (LW T a u ++ MW T b v) H) (hD : va_D (fun q => s.heap.size ≤ q) (LW T a u ++ MW T b v)) (hS : va_S (fun q => s.heap.size ≤ q) s.heap H locs) (hcs : cells + 5 ≤ 603072 ∧ slots + 1106 ≤ 7219306)
    (hl : lv_has ls 9 [(0, .ref zb), (1, .ref (a 0)), (2, .ref (b 0)), (3, .ref (a 23)), (4, .ref (a 24)), (5, .int (nI (11 * q)))])
    (kk : ∀ (u : LSt) (v : MSt) (Bw : Nat → Nat → Nat) (H : Heap) (locs : List Loc) (ls : Array Slot), LIu u Bw → MR v.2.2.2.1 v.2.2.1 u.2.1 Bw → va_P D cls (LW T a u ++ MW T b v) H → va_D (fun q => s.heap.size ≤ q) (LW T a u ++ MW T b v) → va_S (fun q => s.heap.size ≤ q) s.heap H locs → lv_has ls 9 [(0, .ref zb), (1, .ref (a 0)), (2, .ref (b 0)), (3, .ref (a 23)), (4, .ref (a 24)), (5, .int (nI (11 * q)))] → W p l e room_1 s m #[Value.ref zb] below meth c H locs (cells + 5) (slots + 1106) Q (F0 m 1670 ls [])) :
    W p l e room_1 s m #[Value.ref zb] below meth c H locs cells slots Q (F0 m 1464 ls []) := by
  obtain ⟨F, N, B0, hd, tv, ml, cnt, k0, fb, o, oD⟩ := u
  obtain ⟨many, th, fb2, fl2, fm2, fk2⟩ := v
  have hu : LI F N fb k0 cnt Bw := hu
  have hv : MR fl2 fb2 N Bw := hv
  have hA : ∀ q : Nat, s.heap.size ≤ q → (fun q => s.heap.size ≤ q) q := fun q h => h
  have hbA : ¬ s.heap.size ≤ zb := Nat.not_le.mpr hbl
  obtain ⟨cc, r, N', B', hHC, hMC, hcc⟩ := ex_letterShare l D T g a b hl9 hu hv (xs (11 * q + 1)) (xs (11 * q + 2))
  refine lv_aload_n hx hb dL_law_1464 rfl (lv_at hl 1 rfl) ?_
  refine lv_aload_n hx hb dL_law_1465 rfl (lv_at hl 0 rfl) ?_
  refine lv_iload hx hb dL_law_1466 (lv_at hl 5 rfl) ?_
  refine lv_iconst (v := nI 1) hx hb dL_law_1468 (by decide +kernel) ?_
  refine ln_add hx hb dL_law_1469 ?_
  refine sc_ld hx hb hX hbl hbA hS ⟨by omega, hL⟩ dL_law_1470 ?_
  refine lv_aload_n hx hb dL_law_1471 rfl (lv_at hl 0 rfl) ?_
  refine lv_iload hx hb dL_law_1472 (lv_at hl 5 rfl) ?_
  refine lv_iconst (v := nI 2) hx hb dL_law_1474 (by decide +kernel) ?_
  refine ln_add hx hb dL_law_1475 ?_
  refine sc_ld hx hb hX hbl hbA hS ⟨by omega, hL⟩ dL_law_1476 ?_
  refine lv_aload hx hb dL_law_1477 (lv_at hl 4 rfl) ?_
  refine mun_S (As := [.ref (a 0), .int (xs (11 * q + 1)), .int (xs (11 * q + 2)), .ref (a 24)]) (rest := []) (wc := LW T a (F, N, B0, hd, tv, ml, cnt, k0, fb, o, oD)) (wr := MW T b (many, th, fb2, fl2, fm2, fk2)) ⟨hx, hb, hml, hown, hts⟩ (hHC H.size) (vx_cwSW 4 hts gL_law_L_letterShare rfl rfl rfl (by decide +kernel) ⟨Nat.le_of_ble_eq_true rfl, Nat.le_of_ble_eq_true rfl⟩) hN hP hD hK hG hS hA (List.range 25) ((List.range 5).map (fun i => i + 25)) (ap_l (LW_len T a _)) (by decide) (ap_r (LW_len T a _) (MW_len T b _)) (by decide) (by decide) hcs rfl hl.1 (Nat.le_of_ble_eq_true rfl) dL_law_1479 rfl (fun u1 H locs hq1 hP hD hS => ?_)
  obtain ⟨hu1, hn1, ho1⟩ := hq1
  refine lv_istore (lv' := [(6, .int (nI cc)), (0, .ref zb), (1, .ref (a 0)), (2, .ref (b 0)), (3, .ref (a 23)), (4, .ref (a 24)), (5, .int (nI (11 * q)))]) hx hb dL_law_1482 hl (by decide) rfl (fun ls hl => ?_)
  refine lv_aload_n hx hb dL_law_1484 rfl (lv_at hl 3 rfl) ?_
  refine lv_aload_n hx hb dL_law_1485 rfl (lv_at hl 1 rfl) ?_
  refine lv_iload hx hb dL_law_1486 (lv_at hl 6 rfl) ?_
  refine lv_iconst (v := nI 1) hx hb dL_law_1488 (by decide +kernel) ?_
  refine ln_add hx hb dL_law_1489 ?_
  refine sc_ld hx hb hX hbl hbA hS ⟨by omega, hL⟩ dL_law_1490 ?_
  refine lv_aload_n hx hb dL_law_1491 rfl (lv_at hl 1 rfl) ?_
  refine lv_iload hx hb dL_law_1492 (lv_at hl 6 rfl) ?_
  refine lv_iconst (v := nI 2) hx hb dL_law_1494 (by decide +kernel) ?_
  refine ln_add hx hb dL_law_1495 ?_
  refine sc_ld hx hb hX hbl hbA hS ⟨by omega, hL⟩ dL_law_1496 ?_
  refine mu_V (As := [.int (xs (11 * q + 1)), .int (xs (11 * q + 2))]) (rest := []) (wc := MW T b (many, th, fb2, fl2, fm2, fk2)) (wr := LW T a u1) ⟨hx, hb, hml, hown, hts⟩ (hMC H.size) (cwV 2 hts gL_law_X6_letterShare rfl rfl rfl (by decide +kernel) ⟨Nat.le_of_ble_eq_true rfl, Nat.le_of_ble_eq_true rfl⟩) (va_recv hK hP (ci := 3) (q0 := 0) rfl rfl) hP hD hK hG hS hA (List.range 5) ((List.range 25).map (fun i => i + 5)) (ap_l (MW_len T b _)) (by decide) (ap_r (MW_len T b _) (LW_len T a _)) (by decide) (by decide) hcs rfl hl.1 (Nat.le_of_ble_eq_true rfl) dL_law_1497 rfl (fun v1 H locs hq2 hP hD hS => ?_)
  refine lv_fstore (lv' := [(7, .float r), (6, .int (nI cc)), (0, .ref zb), (1, .ref (a 0)), (2, .ref (b 0)), (3, .ref (a 23)), (4, .ref (a 24)), (5, .int (nI (11 * q)))]) hx hb dL_law_1500 hl (by decide) rfl (fun ls hl => ?_)
  refine lv_aload_n hx hb dL_law_1502 rfl (lv_at hl 4 rfl) ?_
  refine ro_V (As := []) (rest := []) (wc := [(b 0, .inr (3, [.ref (b 1), .ref (b 2), .ref (b 3), .int (nI v1.1), .int v1.2.1, .ref (b 4)]))]) (r := .int v1.2.1) ⟨hx, hb, hml, hown, hts⟩ (c_X6_thrown l D T g (b 0) (b 1) (b 2) (b 3) (b 4) v1.1 v1.2.1) (cwV 0 hts gL_law_X6_thrown rfl rfl rfl (by decide +kernel) ⟨Nat.le_of_ble_eq_true rfl, Nat.le_of_ble_eq_true rfl⟩) (va_recv hK hP (ci := 3) (q0 := 25) rfl rfl) hP hK hG hS [25] rfl hcs rfl hl.1 (Nat.le_of_ble_eq_true rfl) dL_law_1503 rfl ?_
  refine lv_iload hx hb dL_law_1506 (lv_at hl 1 rfl) ?_
  refine lv_icmp_eq (tgt := 1513) hx hb dL_law_1508 (by decide) (fun _ => ?_) (fun z => absurd hq2.1 z)
  refine lv_iload hx hb dL_law_1513 (lv_at hl 1 rfl) ?_
  refine ln_if_ne (tgt := 1551) hx hb (by omega) dL_law_1515 (by decide) (fun hz => ?_) (fun hz => ?_)
  · refine lv_goto (tgt := 1670) hx hb dL_law_1551 (by decide) ?_
    exact kk u1 v1 B' H locs ls hu1 (MR_N hq2.2 hn1 (fun _ _ => rfl)) hP hD hS (lv_sub hl [2, 3, 4, 5, 6, 7] rfl)
  · refine lv_aload hx hb dL_law_1518 (lv_at hl 6 rfl) ?_
    refine lv_iconst (v := nI 0) hx hb dL_law_1520 (by decide +kernel) ?_
    refine ld_d (f := uD u1) hx hb hK hP 24 rfl dL_law_1521 ?_
    refine lv_fload hx hb dL_law_1522 (lv_at hl 0 rfl) ?_
    refine lv_f2d hx hb dL_law_1524 (ho1 hz).2.1 ?_
    refine dc_eq hx hb (by rw [(ho1 hz).1]; exact (ho1 hz).2.2) dL_law_1525 ?_
    refine ln_if_eq_t (tgt := 1551) hx hb (by decide) rfl dL_law_1526 (by decide) ?_
    refine lv_goto (tgt := 1670) hx hb dL_law_1551 (by decide) ?_
    exact kk u1 v1 B' H locs ls hu1 (MR_N hq2.2 hn1 (fun _ _ => rfl)) hP hD hS (lv_sub hl [2, 3, 4, 5, 6, 7] rfl)
set_option maxHeartbeats 4000000 in
theorem st_growth (l : Launch) (D : va_G) (T : Nat → ClassId) (g : Nat → Nat) (a b : Nat → Nat) (hl9 : l.stackTraces = false) {p : Program} {e : Env} {s : State} {m : MethodId} {below : List Frame} {meth : Method} {c : Code} {H : Heap} {locs : List Loc} {cells slots : Nat} {Q : State → Prop} {ls : Array Slot} {zb L q : Nat} {xs : Nat → Int32}
    (hx : p.tables.exec = Jvm.exec) (hb : c.code = cL_law) (hml : c.maxLocals = 9) (hown : s.vm.findClass RL = some m.cls) (hts : ∀ w ∈ wsL_law, w.before #[Value.ref zb] s = true)
    (hX : va_X zb L xs s s.heap) (hbl : zb < s.heap.size) (hq : 11 * q + 10 < L) (hL : L ≤ 5632) (hK : va_K D cls (tys T) s) (hG : GX g (fun q => s.heap.size ≤ q) s s.heap) (hN : NC s)
    {u : LSt} {v : MSt} {Bw : Nat → Nat → Nat} (hu : LIu u Bw) (hv : MR v.2.2.2.1 v.2.2.1 u.2.1 Bw) (hP : va_P D cls (LW T a u ++ MW T b v) H) (hD : va_D (fun q => s.heap.size ≤ q) (LW T a u ++ MW T b v)) (hS : va_S (fun q => s.heap.size ≤ q) s.heap H locs) (hcs : cells + 5 ≤ 603072 ∧ slots + 1106 ≤ 7219306)
    (hl : lv_has ls 9 [(0, .ref zb), (1, .ref (a 0)), (2, .ref (b 0)), (3, .ref (a 23)), (4, .ref (a 24)), (5, .int (nI (11 * q)))])
    (kk : ∀ (u : LSt) (v : MSt) (Bw : Nat → Nat → Nat) (H : Heap) (locs : List Loc) (ls : Array Slot), LIu u Bw → MR v.2.2.2.1 v.2.2.1 u.2.1 Bw → va_P D cls (LW T a u ++ MW T b v) H → va_D (fun q => s.heap.size ≤ q) (LW T a u ++ MW T b v) → va_S (fun q => s.heap.size ≤ q) s.heap H locs → lv_has ls 9 [(0, .ref zb), (1, .ref (a 0)), (2, .ref (b 0)), (3, .ref (a 23)), (4, .ref (a 24)), (5, .int (nI (11 * q)))] → W p l e room_1 s m #[Value.ref zb] below meth c H locs (cells + 5) (slots + 1106) Q (F0 m 1670 ls [])) :
    W p l e room_1 s m #[Value.ref zb] below meth c H locs cells slots Q (F0 m 1554 ls []) := by
  obtain ⟨F, N, B0, hd, tv, ml, cnt, k0, fb, o, oD⟩ := u
  obtain ⟨many, th, fb2, fl2, fm2, fk2⟩ := v
  have hu : LI F N fb k0 cnt Bw := hu
  have hv : MR fl2 fb2 N Bw := hv
  have hA : ∀ q : Nat, s.heap.size ≤ q → (fun q => s.heap.size ≤ q) q := fun q h => h
  have hbA : ¬ s.heap.size ≤ zb := Nat.not_le.mpr hbl
  obtain ⟨cc, r, N', B', hHC, hMC, hcc⟩ := ex_growth l D T g a b hl9 hu hv (xs (11 * q + 1)) (xs (11 * q + 2))
  refine lv_aload_n hx hb dL_law_1554 rfl (lv_at hl 1 rfl) ?_
  refine lv_aload_n hx hb dL_law_1555 rfl (lv_at hl 0 rfl) ?_
  refine lv_iload hx hb dL_law_1556 (lv_at hl 5 rfl) ?_
  refine lv_iconst (v := nI 1) hx hb dL_law_1558 (by decide +kernel) ?_
  refine ln_add hx hb dL_law_1559 ?_
  refine sc_ld hx hb hX hbl hbA hS ⟨by omega, hL⟩ dL_law_1560 ?_
  refine lv_aload_n hx hb dL_law_1561 rfl (lv_at hl 0 rfl) ?_
  refine lv_iload hx hb dL_law_1562 (lv_at hl 5 rfl) ?_
  refine lv_iconst (v := nI 2) hx hb dL_law_1564 (by decide +kernel) ?_
  refine ln_add hx hb dL_law_1565 ?_
  refine sc_ld hx hb hX hbl hbA hS ⟨by omega, hL⟩ dL_law_1566 ?_
  refine lv_aload hx hb dL_law_1567 (lv_at hl 4 rfl) ?_
  refine mun_S (As := [.ref (a 0), .int (xs (11 * q + 1)), .int (xs (11 * q + 2)), .ref (a 24)]) (rest := []) (wc := LW T a (F, N, B0, hd, tv, ml, cnt, k0, fb, o, oD)) (wr := MW T b (many, th, fb2, fl2, fm2, fk2)) ⟨hx, hb, hml, hown, hts⟩ (hHC H.size) (vx_cwSW 4 hts gL_law_L_growth rfl rfl rfl (by decide +kernel) ⟨Nat.le_of_ble_eq_true rfl, Nat.le_of_ble_eq_true rfl⟩) hN hP hD hK hG hS hA (List.range 25) ((List.range 5).map (fun i => i + 25)) (ap_l (LW_len T a _)) (by decide) (ap_r (LW_len T a _) (MW_len T b _)) (by decide) (by decide) hcs rfl hl.1 (Nat.le_of_ble_eq_true rfl) dL_law_1569 rfl (fun u1 H locs hq1 hP hD hS => ?_)
  obtain ⟨hu1, hn1, ho1⟩ := hq1
  refine lv_istore (lv' := [(6, .int (nI cc)), (0, .ref zb), (1, .ref (a 0)), (2, .ref (b 0)), (3, .ref (a 23)), (4, .ref (a 24)), (5, .int (nI (11 * q)))]) hx hb dL_law_1572 hl (by decide) rfl (fun ls hl => ?_)
  refine lv_aload_n hx hb dL_law_1574 rfl (lv_at hl 3 rfl) ?_
  refine lv_aload_n hx hb dL_law_1575 rfl (lv_at hl 1 rfl) ?_
  refine lv_iload hx hb dL_law_1576 (lv_at hl 6 rfl) ?_
  refine lv_iconst (v := nI 1) hx hb dL_law_1578 (by decide +kernel) ?_
  refine ln_add hx hb dL_law_1579 ?_
  refine sc_ld hx hb hX hbl hbA hS ⟨by omega, hL⟩ dL_law_1580 ?_
  refine lv_aload_n hx hb dL_law_1581 rfl (lv_at hl 1 rfl) ?_
  refine lv_iload hx hb dL_law_1582 (lv_at hl 6 rfl) ?_
  refine lv_iconst (v := nI 2) hx hb dL_law_1584 (by decide +kernel) ?_
  refine ln_add hx hb dL_law_1585 ?_
  refine sc_ld hx hb hX hbl hbA hS ⟨by omega, hL⟩ dL_law_1586 ?_
  refine mu_V (As := [.int (xs (11 * q + 1)), .int (xs (11 * q + 2))]) (rest := []) (wc := MW T b (many, th, fb2, fl2, fm2, fk2)) (wr := LW T a u1) ⟨hx, hb, hml, hown, hts⟩ (hMC H.size) (cwV 2 hts gL_law_X6_growth rfl rfl rfl (by decide +kernel) ⟨Nat.le_of_ble_eq_true rfl, Nat.le_of_ble_eq_true rfl⟩) (va_recv hK hP (ci := 3) (q0 := 0) rfl rfl) hP hD hK hG hS hA (List.range 5) ((List.range 25).map (fun i => i + 5)) (ap_l (MW_len T b _)) (by decide) (ap_r (MW_len T b _) (LW_len T a _)) (by decide) (by decide) hcs rfl hl.1 (Nat.le_of_ble_eq_true rfl) dL_law_1587 rfl (fun v1 H locs hq2 hP hD hS => ?_)
  refine lv_dstore (lv' := [(7, .double r), (6, .int (nI cc)), (0, .ref zb), (1, .ref (a 0)), (2, .ref (b 0)), (3, .ref (a 23)), (4, .ref (a 24)), (5, .int (nI (11 * q)))]) hx hb dL_law_1590 hl (by decide) rfl (fun ls hl => ?_)
  refine lv_aload_n hx hb dL_law_1592 rfl (lv_at hl 4 rfl) ?_
  refine ro_V (As := []) (rest := []) (wc := [(b 0, .inr (3, [.ref (b 1), .ref (b 2), .ref (b 3), .int (nI v1.1), .int v1.2.1, .ref (b 4)]))]) (r := .int v1.2.1) ⟨hx, hb, hml, hown, hts⟩ (c_X6_thrown l D T g (b 0) (b 1) (b 2) (b 3) (b 4) v1.1 v1.2.1) (cwV 0 hts gL_law_X6_thrown rfl rfl rfl (by decide +kernel) ⟨Nat.le_of_ble_eq_true rfl, Nat.le_of_ble_eq_true rfl⟩) (va_recv hK hP (ci := 3) (q0 := 25) rfl rfl) hP hK hG hS [25] rfl hcs rfl hl.1 (Nat.le_of_ble_eq_true rfl) dL_law_1593 rfl ?_
  refine lv_iload hx hb dL_law_1596 (lv_at hl 1 rfl) ?_
  refine lv_icmp_eq (tgt := 1603) hx hb dL_law_1598 (by decide) (fun _ => ?_) (fun z => absurd hq2.1 z)
  refine lv_iload hx hb dL_law_1603 (lv_at hl 1 rfl) ?_
  refine ln_if_ne (tgt := 1640) hx hb (by omega) dL_law_1605 (by decide) (fun hz => ?_) (fun hz => ?_)
  · refine lv_goto (tgt := 1670) hx hb dL_law_1640 (by decide) ?_
    exact kk u1 v1 B' H locs ls hu1 (MR_N hq2.2 hn1 (fun _ _ => rfl)) hP hD hS (lv_sub hl [2, 3, 4, 5, 6, 7] rfl)
  · refine lv_aload hx hb dL_law_1608 (lv_at hl 6 rfl) ?_
    refine lv_iconst (v := nI 0) hx hb dL_law_1610 (by decide +kernel) ?_
    refine ld_d (f := uD u1) hx hb hK hP 24 rfl dL_law_1611 ?_
    refine lv_dload hx hb dL_law_1612 (lv_at hl 0 rfl) ?_
    refine dc_eq hx hb (by rw [(ho1 hz).1]; exact (ho1 hz).2) dL_law_1614 ?_
    refine ln_if_eq_t (tgt := 1640) hx hb (by decide) rfl dL_law_1615 (by decide) ?_
    refine lv_goto (tgt := 1670) hx hb dL_law_1640 (by decide) ?_
    exact kk u1 v1 B' H locs ls hu1 (MR_N hq2.2 hn1 (fun _ _ => rfl)) hP hD hS (lv_sub hl [2, 3, 4, 5, 6, 7] rfl)
