set_option maxHeartbeats 4000000 in
set_option maxRecDepth 100000 in
theorem c_J4_append_a (l : Launch) (D : va_G) (T : Nat → ClassId) (g : Nat → Nat) (sz : Nat) (t0 : Nat) (tv : Nat) (ml : Int32) (cnt : Nat) (cap : Nat) (fb : Nat → Int32) (x : Nat) (hx9 : x < 128) (hm : cnt < cap ∧ cap ≤ 574) : MU l yJ4_append_cf468 wsJ4_append_cf468 ({ frames := 2, cells := 0, slots := 0, locals := 43 } : Room) D T g [.ref t0, .int (nI x)] [(t0, .inr (4, [.ref tv, .int (nI 0), .int ml, .int (nI cnt)])), (tv, .inl (T 1, cap, .inl fb))] sz (fun u : Unit => some (.ref t0)) (fun u : Unit => True) (fun u : Unit => [(t0, .inr (4, [.ref tv, .int (nI 0), .int ml, .int (nI (cnt + 1))])), (tv, .inl (T 1, cap, .inl (upd fb cnt (nI x))))]) 0 0 := by
  refine Met.ofW (cc := cJ4_append_cf468) (maxL := 2) (ret := (some (.object "java/lang/StringBuilder"))) (by decide) rfl ?_
  intro p e s m args below meth c s₁ B hml hv
  obtain ⟨rfl, hsz, hP, hK, hD0, hG⟩ := hv
  have hx := B.exec
  have hb := B.bytes
  have hr := B.returns
  have hts := atoms_spec (ws := wsJ4_append_cf468) B.pre
  have hown : s.vm.findClass RJ4 = some m.cls := findClass_of_methodNamed B.named
  have hlocks := B.notSynchronized
  subst hsz
  have hD := hD0.self (sz := s.heap.size)
  generalize hAe : va_A [(t0, .inr (4, [.ref tv, .int (nI 0), .int ml, .int (nI cnt)])), (tv, .inl (T 1, cap, .inl fb))] s.heap.size = A at hD hG ⊢
  have hA : ∀ q : Nat, s.heap.size ≤ q → A q := fun q h => by rw [← hAe]; exact Or.inr h
  have hS : va_S A s.heap s.heap [] := va_S.rf
  have hP : va_P D cls [(t0, .inr (4, [.ref tv, .int (nI 0), .int ml, .int (nI cnt)])), (tv, .inl (T 1, cap, .inl fb))] s.heap := hP
  have hl := lv_entry ([.ref t0, .int (nI x)]) (n := 2) (Nat.le_of_ble_eq_true rfl)
  rw [lg_entry_eq]
  generalize (lg_sl ([.ref t0, .int (nI x)]) ++ List.replicate (2 - (lg_sl ([.ref t0, .int (nI x)])).length) Slot.unset).toArray = ls at hl ⊢
  have hl : lv_has ls 2 [(0, .ref t0), (1, .int (nI x))] := hl
  refine lv_aload_n hx hb dJ4_append_cf468_0 rfl (lv_at hl 0 rfl) ?_
  refine lv_iload_n hx hb dJ4_append_cf468_1 rfl (lv_at hl 1 rfl) ?_
  refine mu_SU (va_classAt hK (ci := 4) rfl) (As := [.int (nI x)]) (rest := []) (wc := [(t0, .inr (4, [.ref tv, .int (nI 0), .int ml, .int (nI cnt)])), (tv, .inl (T 1, cap, .inl fb))]) (wr := []) ⟨hx, hb, hml, hown, hts⟩ (c_J5_append_a l D T g s.heap.size t0 tv ml cnt cap fb x hx9 hm) (va_cwSU 1 hts gJ4_append_cf468_J5_append_3fe6f_s50 rfl rfl rfl (by decide +kernel) ⟨Nat.le_of_ble_eq_true rfl, Nat.le_of_ble_eq_true rfl⟩) (va_recv hK hP (ci := 4) (q0 := 0) rfl rfl) hP hD hK hG hS hA [0, 1] [] rfl (by decide) rfl (by decide) (by decide) ⟨Nat.le_of_ble_eq_true rfl, Nat.le_of_ble_eq_true rfl⟩ rfl hl.1 (Nat.le_of_ble_eq_true rfl) dJ4_append_cf468_2 rfl (fun u H locs hq1 hP hD hS => ?_)
  have hP : va_P D cls [(t0, .inr (4, [.ref tv, .int (nI 0), .int ml, .int (nI (cnt + 1))])), (tv, .inl (T 1, cap, .inl (upd fb cnt (nI x))))] H := hP
  have hD : va_D A [(t0, .inr (4, [.ref tv, .int (nI 0), .int ml, .int (nI (cnt + 1))])), (tv, .inl (T 1, cap, .inl (upd fb cnt (nI x))))] := hD
  refine W.eq (g2 := F0 m 5 ls [.ref t0]) rfl ?_
  refine lv_pop hx hb dJ4_append_cf468_5 rfl ?_
  refine lv_aload_n hx hb dJ4_append_cf468_6 rfl (lv_at hl 0 rfl) ?_
  have hP9 := hP.sub (ws' := [(t0, .inr (4, [.ref tv, .int (nI 0), .int ml, .int (nI (cnt + 1))])), (tv, .inl (T 1, cap, .inl (upd fb cnt (nI x))))]) [0, 1] rfl
  have hD9 := hD.sub (ws' := [(t0, .inr (4, [.ref tv, .int (nI 0), .int ml, .int (nI (cnt + 1))])), (tv, .inl (T 1, cap, .inl (upd fb cnt (nI x))))]) [0, 1] (by decide) rfl
  exact W.aret (v := .ref t0) hx hb hr (Or.inl ⟨_, rfl⟩) (Or.inr ⟨_, rfl⟩) (fun t ht hW => ⟨⟨(), rfl, trivial, (by rw [ht]; exact hP9), va_K.moved hW.alike hK, hD9⟩, hS.F ht⟩) hS.2.2 dJ4_append_cf468_7
set_option maxHeartbeats 4000000 in
set_option maxRecDepth 100000 in
theorem c_J4_append_b (l : Launch) (D : va_G) (T : Nat → ClassId) (g : Nat → Nat) (sz : Nat) (t0 : Nat) (tv : Nat) (ml : Int32) (cnt : Nat) (cap : Nat) (fb : Nat → Int32) (x : Nat) (hfit9 : sb_Fit fb) (hx9 : x < 128) (hm : cnt = cap ∧ cap ≤ 574) : MU l yJ4_append_cf468 wsJ4_append_cf468 ({ frames := 5, cells := 1, slots := 2 * cap + 2, locals := 135 } : Room) D T g [.ref t0, .int (nI x)] [(t0, .inr (4, [.ref tv, .int (nI 0), .int ml, .int (nI cnt)])), (tv, .inl (T 1, cap, .inl fb))] sz (fun u : Nat × (Nat → Int32) => some (.ref t0)) (fun u : Nat × (Nat → Int32) => sb_Fit u.2 ∧ ∀ j, j < cap → u.2 j = fb j) (fun u : Nat × (Nat → Int32) => [(t0, .inr (4, [.ref u.1, .int (nI 0), .int ml, .int (nI (cnt + 1))])), (u.1, .inl (T 1, 2 * cap + 2, .inl (upd u.2 cnt (nI x))))]) 1 (2 * cap + 2) := by
  refine Met.ofW (cc := cJ4_append_cf468) (maxL := 2) (ret := (some (.object "java/lang/StringBuilder"))) (by decide) rfl ?_
  intro p e s m args below meth c s₁ B hml hv
  obtain ⟨rfl, hsz, hP, hK, hD0, hG⟩ := hv
  have hx := B.exec
  have hb := B.bytes
  have hr := B.returns
  have hts := atoms_spec (ws := wsJ4_append_cf468) B.pre
  have hown : s.vm.findClass RJ4 = some m.cls := findClass_of_methodNamed B.named
  have hlocks := B.notSynchronized
  subst hsz
  have hD := hD0.self (sz := s.heap.size)
  generalize hAe : va_A [(t0, .inr (4, [.ref tv, .int (nI 0), .int ml, .int (nI cnt)])), (tv, .inl (T 1, cap, .inl fb))] s.heap.size = A at hD hG ⊢
  have hA : ∀ q : Nat, s.heap.size ≤ q → A q := fun q h => by rw [← hAe]; exact Or.inr h
  have hS : va_S A s.heap s.heap [] := va_S.rf
  have hP : va_P D cls [(t0, .inr (4, [.ref tv, .int (nI 0), .int ml, .int (nI cnt)])), (tv, .inl (T 1, cap, .inl fb))] s.heap := hP
  have hl := lv_entry ([.ref t0, .int (nI x)]) (n := 2) (Nat.le_of_ble_eq_true rfl)
  rw [lg_entry_eq]
  generalize (lg_sl ([.ref t0, .int (nI x)]) ++ List.replicate (2 - (lg_sl ([.ref t0, .int (nI x)])).length) Slot.unset).toArray = ls at hl ⊢
  have hl : lv_has ls 2 [(0, .ref t0), (1, .int (nI x))] := hl
  refine lv_aload_n hx hb dJ4_append_cf468_0 rfl (lv_at hl 0 rfl) ?_
  refine lv_iload_n hx hb dJ4_append_cf468_1 rfl (lv_at hl 1 rfl) ?_
  refine mu_SU (va_classAt hK (ci := 4) rfl) (As := [.int (nI x)]) (rest := []) (wc := [(t0, .inr (4, [.ref tv, .int (nI 0), .int ml, .int (nI cnt)])), (tv, .inl (T 1, cap, .inl fb))]) (wr := []) ⟨hx, hb, hml, hown, hts⟩ (c_J5_append_b l D T g s.heap.size t0 tv ml cnt cap fb x hfit9 hx9 hm) (va_cwSU 1 hts gJ4_append_cf468_J5_append_3fe6f_s50 rfl rfl rfl (by decide +kernel) ⟨Nat.le_of_ble_eq_true rfl, Nat.le_of_ble_eq_true rfl⟩) (va_recv hK hP (ci := 4) (q0 := 0) rfl rfl) hP hD hK hG hS hA [0, 1] [] rfl (by decide) rfl (by decide) (by decide) ⟨Nat.le_of_ble_eq_true rfl, Nat.le_of_eq (Nat.zero_add _)⟩ rfl hl.1 (Nat.le_of_ble_eq_true rfl) dJ4_append_cf468_2 rfl (fun u H locs hq3 hP hD hS => ?_)
  obtain ⟨q8_1, F8_2⟩ := u
  refine W.widen (k := 1) (n := 2 * cap + 2) (Nat.le_of_eq (Nat.zero_add _)) (Nat.le_of_eq (Nat.zero_add _)) ?_
  have hP : va_P D cls [(t0, .inr (4, [.ref q8_1, .int (nI 0), .int ml, .int (nI (cnt + 1))])), (q8_1, .inl (T 1, 2 * cap + 2, .inl (upd F8_2 cnt (nI x))))] H := hP
  have hD : va_D A [(t0, .inr (4, [.ref q8_1, .int (nI 0), .int ml, .int (nI (cnt + 1))])), (q8_1, .inl (T 1, 2 * cap + 2, .inl (upd F8_2 cnt (nI x))))] := hD
  have hq3 : sb_Fit F8_2 ∧ ∀ j, j < cap → F8_2 j = fb j := hq3
  refine W.eq (g2 := F0 m 5 ls [.ref t0]) rfl ?_
  refine lv_pop hx hb dJ4_append_cf468_5 rfl ?_
  refine lv_aload_n hx hb dJ4_append_cf468_6 rfl (lv_at hl 0 rfl) ?_
  have hP9 := hP.sub (ws' := [(t0, .inr (4, [.ref q8_1, .int (nI 0), .int ml, .int (nI (cnt + 1))])), (q8_1, .inl (T 1, 2 * cap + 2, .inl (upd F8_2 cnt (nI x))))]) [0, 1] rfl
  have hD9 := hD.sub (ws' := [(t0, .inr (4, [.ref q8_1, .int (nI 0), .int ml, .int (nI (cnt + 1))])), (q8_1, .inl (T 1, 2 * cap + 2, .inl (upd F8_2 cnt (nI x))))]) [0, 1] (by decide) rfl
  exact W.aret (v := .ref t0) hx hb hr (Or.inl ⟨_, rfl⟩) (Or.inr ⟨_, rfl⟩) (fun t ht hW => ⟨⟨(q8_1, F8_2), rfl, show sb_Fit F8_2 ∧ ∀ j, j < cap → F8_2 j = fb j from hq3, (by rw [ht]; exact hP9), va_K.moved hW.alike hK, hD9⟩, hS.F ht⟩) hS.2.2 dJ4_append_cf468_7
set_option maxHeartbeats 4000000 in
set_option maxRecDepth 100000 in
theorem c_J5_setLength (l : Launch) (D : va_G) (T : Nat → ClassId) (g : Nat → Nat) (sz : Nat) (t0 : Nat) (tv : Nat) (ml : Int32) (cnt : Nat) (cap : Nat) (fb : Nat → Int32) (hm : cap ≤ 574 ∧ cnt ≤ 574) : MU l yJ5_setLength_d00df wsJ5_setLength_d00df ({ frames := 1, cells := 0, slots := 0, locals := 22 } : Room) D T g [.ref t0, .int (nI 0)] [(t0, .inr (4, [.ref tv, .int (nI 0), .int ml, .int (nI cnt)])), (tv, .inl (T 1, cap, .inl fb))] sz (fun u : Int32 => none) (fun u : Int32 => True) (fun u : Int32 => [(t0, .inr (4, [.ref tv, .int (nI 0), .int u, .int (nI 0)])), (tv, .inl (T 1, cap, .inl fb))]) 0 0 := by
  refine Met.ofW (cc := cJ5_setLength_d00df) (maxL := 2) (ret := none) (by decide) rfl ?_
  intro p e s m args below meth c s₁ B hml hv
  obtain ⟨rfl, hsz, hP, hK, hD0, hG⟩ := hv
  have hx := B.exec
  have hb := B.bytes
  have hr := B.returns
  have hts := atoms_spec (ws := wsJ5_setLength_d00df) B.pre
  have hown : s.vm.findClass RJ5 = some m.cls := findClass_of_methodNamed B.named
  have hlocks := B.notSynchronized
  have hi_J4 : ∀ w ∈ wsJ40, w ∈ wsJ5_setLength_d00df := by decide +kernel
  subst hsz
  have hD := hD0.self (sz := s.heap.size)
  generalize hAe : va_A [(t0, .inr (4, [.ref tv, .int (nI 0), .int ml, .int (nI cnt)])), (tv, .inl (T 1, cap, .inl fb))] s.heap.size = A at hD hG ⊢
  have hA : ∀ q : Nat, s.heap.size ≤ q → A q := fun q h => by rw [← hAe]; exact Or.inr h
  have hS : va_S A s.heap s.heap [] := va_S.rf
  have hP : va_P D cls [(t0, .inr (4, [.ref tv, .int (nI 0), .int ml, .int (nI cnt)])), (tv, .inl (T 1, cap, .inl fb))] s.heap := hP
  have hl := lv_entry ([.ref t0, .int (nI 0)]) (n := 2) (Nat.le_of_ble_eq_true rfl)
  rw [lg_entry_eq]
  generalize (lg_sl ([.ref t0, .int (nI 0)]) ++ List.replicate (2 - (lg_sl ([.ref t0, .int (nI 0)])).length) Slot.unset).toArray = ls at hl ⊢
  have hl : lv_has ls 2 [(0, .ref t0), (1, .int (nI 0))] := hl
  refine lv_iload_n hx hb dJ5_setLength_d00df_0 rfl (lv_at hl 1 rfl) ?_
  refine ln_if_ge_t (tgt := 13) hx hb (by omega) dJ5_setLength_d00df_1 (by decide) ?_
  refine lv_aload_n hx hb dJ5_setLength_d00df_13 rfl (lv_at hl 0 rfl) ?_
  refine lv_iload_n hx hb dJ5_setLength_d00df_14 rfl (lv_at hl 1 rfl) ?_
  refine rv_U (As := [.int (nI 0)]) (rest := []) (wc := [(t0, .inr (4, [.ref tv, .int (nI 0), .int ml, .int (nI cnt)])), (tv, .inl (T 1, cap, .inl fb))]) ⟨hx, hb, hml, hown, hts⟩ (c_J5_ensure_a l D T g t0 tv ml cnt cap fb 0 (by omega)) (va_cwU 1 hts gJ5_setLength_d00df_J5_ensureCapacityInternal_d00df_u100J4 rfl rfl rfl rfl (by decide +kernel) ⟨Nat.le_of_ble_eq_true rfl, Nat.le_of_ble_eq_true rfl⟩) (va_recv hK hP (ci := 4) (q0 := 0) rfl rfl) hP hK hG hS [0, 1] rfl ⟨Nat.zero_le _, Nat.zero_le _⟩ rfl hl.1 (Nat.le_of_ble_eq_true rfl) dJ5_setLength_d00df_15 rfl ?_
  refine lv_aload_n hx hb dJ5_setLength_d00df_18 rfl (lv_at hl 0 rfl) ?_
  refine va_get (D := D) (ci := 4) (v := .int (nI cnt)) (C := RJ4) (T := TJ4) (N := 4) hx hb hts hi_J4 hown hK hP 0 rfl rfl 3 (by decide) (hts _ (List.mem_of_getElem? (i := 4) rfl)) (fun _ h9 => h9) rfl dJ5_setLength_d00df_19 ?_
  refine lv_iload_n hx hb dJ5_setLength_d00df_22 rfl (lv_at hl 1 rfl) ?_
  refine ln_icmp_ge_t (tgt := 63) hx hb ⟨by omega, by omega⟩ (Nat.zero_le _) dJ5_setLength_d00df_23 (by decide) ?_
  refine lv_aload_n hx hb dJ5_setLength_d00df_63 rfl (lv_at hl 0 rfl) ?_
  refine va_get (D := D) (ci := 4) (v := .int (nI cnt)) (C := RJ4) (T := TJ4) (N := 4) hx hb hts hi_J4 hown hK hP 0 rfl rfl 3 (by decide) (hts _ (List.mem_of_getElem? (i := 4) rfl)) (fun _ h9 => h9) rfl dJ5_setLength_d00df_64 ?_
  refine lv_iload_n hx hb dJ5_setLength_d00df_67 rfl (lv_at hl 1 rfl) ?_
  refine ln_icmp_le (tgt := 76) hx hb ⟨by omega, by omega⟩ dJ5_setLength_d00df_68 (by decide) (fun c_68 => ?_) (fun c_68 => ?_)
  · refine lv_aload_n hx hb dJ5_setLength_d00df_76 rfl (lv_at hl 0 rfl) ?_
    refine lv_iload_n hx hb dJ5_setLength_d00df_77 rfl (lv_at hl 1 rfl) ?_
    refine va_put (D := D) (ci := 4) (v := .int (nI 0)) (ty := .int) (C := RJ4) (T := TJ4) (N := 4) hx hb hts hi_J4 tyJ4 tyJ4_ok nmJ4 hown hK hP hD hS 0 rfl rfl 3 (by decide) (hts _ (List.mem_of_getElem? (i := 4) rfl)) (fun _ h9 => h9) rfl (by decide +kernel) rfl rfl (Nat.le_of_ble_eq_true rfl) dJ5_setLength_d00df_78 (fun H locs hP hD hS => ?_)
    have hP : va_P D cls [(t0, .inr (4, [.ref tv, .int (nI 0), .int ml, .int (nI 0)])), (tv, .inl (T 1, cap, .inl fb))] H := hP
    have hD : va_D A [(t0, .inr (4, [.ref tv, .int (nI 0), .int ml, .int (nI 0)])), (tv, .inl (T 1, cap, .inl fb))] := hD
    have hP9 := hP.sub (ws' := [(t0, .inr (4, [.ref tv, .int (nI 0), .int ml, .int (nI 0)])), (tv, .inl (T 1, cap, .inl fb))]) [0, 1] rfl
    have hD9 := hD.sub (ws' := [(t0, .inr (4, [.ref tv, .int (nI 0), .int ml, .int (nI 0)])), (tv, .inl (T 1, cap, .inl fb))]) [0, 1] (by decide) rfl
    exact W.vret hx hb hr (fun t ht hW => ⟨⟨ml, rfl, trivial, (by rw [ht]; exact hP9), va_K.moved hW.alike hK, hD9⟩, hS.F ht⟩) hS.2.2 dJ5_setLength_d00df_81
  · refine lv_aload_n hx hb dJ5_setLength_d00df_71 rfl (lv_at hl 0 rfl) ?_
    refine lv_iconst (v := (nI 1)) hx hb dJ5_setLength_d00df_72 (by decide +kernel) ?_
    refine va_put (D := D) (ci := 4) (v := .int (nI 1)) (ty := .boolean) (C := RJ4) (T := TJ4) (N := 4) hx hb hts hi_J4 tyJ4 tyJ4_ok nmJ4 hown hK hP hD hS 0 rfl rfl 2 (by decide) (hts _ (List.mem_of_getElem? (i := 6) rfl)) (fun _ h9 => h9) rfl (by decide +kernel) rfl rfl (Nat.le_of_ble_eq_true rfl) dJ5_setLength_d00df_73 (fun H locs hP hD hS => ?_)
    have hP : va_P D cls [(t0, .inr (4, [.ref tv, .int (nI 0), .int (nI 1), .int (nI cnt)])), (tv, .inl (T 1, cap, .inl fb))] H := hP
    have hD : va_D A [(t0, .inr (4, [.ref tv, .int (nI 0), .int (nI 1), .int (nI cnt)])), (tv, .inl (T 1, cap, .inl fb))] := hD
    refine lv_aload_n hx hb dJ5_setLength_d00df_76 rfl (lv_at hl 0 rfl) ?_
    refine lv_iload_n hx hb dJ5_setLength_d00df_77 rfl (lv_at hl 1 rfl) ?_
    refine va_put (D := D) (ci := 4) (v := .int (nI 0)) (ty := .int) (C := RJ4) (T := TJ4) (N := 4) hx hb hts hi_J4 tyJ4 tyJ4_ok nmJ4 hown hK hP hD hS 0 rfl rfl 3 (by decide) (hts _ (List.mem_of_getElem? (i := 4) rfl)) (fun _ h9 => h9) rfl (by decide +kernel) rfl rfl (Nat.le_of_ble_eq_true rfl) dJ5_setLength_d00df_78 (fun H locs hP hD hS => ?_)
    have hP : va_P D cls [(t0, .inr (4, [.ref tv, .int (nI 0), .int (nI 1), .int (nI 0)])), (tv, .inl (T 1, cap, .inl fb))] H := hP
    have hD : va_D A [(t0, .inr (4, [.ref tv, .int (nI 0), .int (nI 1), .int (nI 0)])), (tv, .inl (T 1, cap, .inl fb))] := hD
    have hP9 := hP.sub (ws' := [(t0, .inr (4, [.ref tv, .int (nI 0), .int (nI 1), .int (nI 0)])), (tv, .inl (T 1, cap, .inl fb))]) [0, 1] rfl
    have hD9 := hD.sub (ws' := [(t0, .inr (4, [.ref tv, .int (nI 0), .int (nI 1), .int (nI 0)])), (tv, .inl (T 1, cap, .inl fb))]) [0, 1] (by decide) rfl
    exact W.vret hx hb hr (fun t ht hW => ⟨⟨(nI 1), rfl, trivial, (by rw [ht]; exact hP9), va_K.moved hW.alike hK, hD9⟩, hS.F ht⟩) hS.2.2 dJ5_setLength_d00df_81
set_option maxHeartbeats 4000000 in
set_option maxRecDepth 100000 in
theorem c_J4_setLength (l : Launch) (D : va_G) (T : Nat → ClassId) (g : Nat → Nat) (sz : Nat) (t0 : Nat) (tv : Nat) (ml : Int32) (cnt : Nat) (cap : Nat) (fb : Nat → Int32) (hm : cap ≤ 574 ∧ cnt ≤ 574) : MU l yJ4_setLength_d00df wsJ4_setLength_d00df ({ frames := 2, cells := 0, slots := 0, locals := 43 } : Room) D T g [.ref t0, .int (nI 0)] [(t0, .inr (4, [.ref tv, .int (nI 0), .int ml, .int (nI cnt)])), (tv, .inl (T 1, cap, .inl fb))] sz (fun u : Int32 => none) (fun u : Int32 => True) (fun u : Int32 => [(t0, .inr (4, [.ref tv, .int (nI 0), .int u, .int (nI 0)])), (tv, .inl (T 1, cap, .inl fb))]) 0 0 := by
  refine Met.ofW (cc := cJ4_setLength_d00df) (maxL := 2) (ret := none) (by decide) rfl ?_
  intro p e s m args below meth c s₁ B hml hv
  obtain ⟨rfl, hsz, hP, hK, hD0, hG⟩ := hv
  have hx := B.exec
  have hb := B.bytes
  have hr := B.returns
  have hts := atoms_spec (ws := wsJ4_setLength_d00df) B.pre
  have hown : s.vm.findClass RJ4 = some m.cls := findClass_of_methodNamed B.named
  have hlocks := B.notSynchronized
  subst hsz
  have hD := hD0.self (sz := s.heap.size)
  generalize hAe : va_A [(t0, .inr (4, [.ref tv, .int (nI 0), .int ml, .int (nI cnt)])), (tv, .inl (T 1, cap, .inl fb))] s.heap.size = A at hD hG ⊢
  have hA : ∀ q : Nat, s.heap.size ≤ q → A q := fun q h => by rw [← hAe]; exact Or.inr h
  have hS : va_S A s.heap s.heap [] := va_S.rf
  have hP : va_P D cls [(t0, .inr (4, [.ref tv, .int (nI 0), .int ml, .int (nI cnt)])), (tv, .inl (T 1, cap, .inl fb))] s.heap := hP
  have hl := lv_entry ([.ref t0, .int (nI 0)]) (n := 2) (Nat.le_of_ble_eq_true rfl)
  rw [lg_entry_eq]
  generalize (lg_sl ([.ref t0, .int (nI 0)]) ++ List.replicate (2 - (lg_sl ([.ref t0, .int (nI 0)])).length) Slot.unset).toArray = ls at hl ⊢
  have hl : lv_has ls 2 [(0, .ref t0), (1, .int (nI 0))] := hl
  refine lv_aload_n hx hb dJ4_setLength_d00df_0 rfl (lv_at hl 0 rfl) ?_
  refine lv_iload_n hx hb dJ4_setLength_d00df_1 rfl (lv_at hl 1 rfl) ?_
  refine mu_SU (va_classAt hK (ci := 4) rfl) (As := [.int (nI 0)]) (rest := []) (wc := [(t0, .inr (4, [.ref tv, .int (nI 0), .int ml, .int (nI cnt)])), (tv, .inl (T 1, cap, .inl fb))]) (wr := []) ⟨hx, hb, hml, hown, hts⟩ (c_J5_setLength l D T g s.heap.size t0 tv ml cnt cap fb hm) (va_cwSU 1 hts gJ4_setLength_d00df_J5_setLength_d00df_s333 rfl rfl rfl (by decide +kernel) ⟨Nat.le_of_ble_eq_true rfl, Nat.le_of_ble_eq_true rfl⟩) (va_recv hK hP (ci := 4) (q0 := 0) rfl rfl) hP hD hK hG hS hA [0, 1] [] rfl (by decide) rfl (by decide) (by decide) ⟨Nat.le_of_ble_eq_true rfl, Nat.le_of_ble_eq_true rfl⟩ rfl hl.1 (Nat.le_of_ble_eq_true rfl) dJ4_setLength_d00df_2 rfl (fun u H locs hq2 hP hD hS => ?_)
  obtain ⟨ml2_1, hu9⟩ : ∃ z, z = u := ⟨_, rfl⟩
  subst hu9
  have hP : va_P D cls [(t0, .inr (4, [.ref tv, .int (nI 0), .int ml2_1, .int (nI 0)])), (tv, .inl (T 1, cap, .inl fb))] H := hP
  have hD : va_D A [(t0, .inr (4, [.ref tv, .int (nI 0), .int ml2_1, .int (nI 0)])), (tv, .inl (T 1, cap, .inl fb))] := hD
  refine W.eq (g2 := F0 m 5 ls []) rfl ?_
  have hP9 := hP.sub (ws' := [(t0, .inr (4, [.ref tv, .int (nI 0), .int ml2_1, .int (nI 0)])), (tv, .inl (T 1, cap, .inl fb))]) [0, 1] rfl
  have hD9 := hD.sub (ws' := [(t0, .inr (4, [.ref tv, .int (nI 0), .int ml2_1, .int (nI 0)])), (tv, .inl (T 1, cap, .inl fb))]) [0, 1] (by decide) rfl
  exact W.vret hx hb hr (fun t ht hW => ⟨⟨ml2_1, rfl, trivial, (by rw [ht]; exact hP9), va_K.moved hW.alike hK, hD9⟩, hS.F ht⟩) hS.2.2 dJ4_setLength_d00df_5
set_option maxHeartbeats 4000000 in
set_option maxRecDepth 100000 in
theorem c_X2_becomeCodes (l : Launch) (D : va_G) (T : Nat → ClassId) (g : Nat → Nat) (sz : Nat) (h0 : Nat) (q0 : Nat) (f : Nat → Int32) (n : Nat) (t0 : Nat) (tv : Nat) (ml : Int32) (cnt : Nat) (cap : Nat) (fb : Nat → Int32) (w : Nat → Nat) (htb : TB fb cap cnt w) (hc : cnt ≤ 440) : MU l yX2_becomeCodes wsX2_becomeCodes ({ frames := 4, cells := 0, slots := 0, locals := 88 } : Room) D T g [.ref h0, .ref t0] [(h0, .inr (0, [.ref q0, .int (nI n)])), (q0, .inl (T 0, 440, .inl f)), (t0, .inr (4, [.ref tv, .int (nI 0), .int ml, .int (nI cnt)])), (tv, .inl (T 1, cap, .inl fb))] sz (fun u : Nat → Int32 => none) (fun u : Nat → Int32 => RB u cnt w) (fun u : Nat → Int32 => [(h0, .inr (0, [.ref q0, .int (nI cnt)])), (q0, .inl (T 0, 440, .inl u)), (t0, .inr (4, [.ref tv, .int (nI 0), .int ml, .int (nI cnt)])), (tv, .inl (T 1, cap, .inl fb))]) 0 0 := by
  refine Met.ofW (cc := cX2_becomeCodes) (maxL := 3) (ret := none) (by decide) rfl ?_
  intro p e s m args below meth c s₁ B hml hv
  obtain ⟨rfl, hsz, hP, hK, hD0, hG⟩ := hv
  have hx := B.exec
  have hb := B.bytes
  have hr := B.returns
  have hts := atoms_spec (ws := wsX2_becomeCodes) B.pre
  have hown : s.vm.findClass RX2 = some m.cls := findClass_of_methodNamed B.named
  have hlocks := B.notSynchronized
  subst hsz
  have hD := hD0.self (sz := s.heap.size)
  generalize hAe : va_A [(h0, .inr (0, [.ref q0, .int (nI n)])), (q0, .inl (T 0, 440, .inl f)), (t0, .inr (4, [.ref tv, .int (nI 0), .int ml, .int (nI cnt)])), (tv, .inl (T 1, cap, .inl fb))] s.heap.size = A at hD hG ⊢
  have hA : ∀ q : Nat, s.heap.size ≤ q → A q := fun q h => by rw [← hAe]; exact Or.inr h
  have hS : va_S A s.heap s.heap [] := va_S.rf
  have hP : va_P D cls [(h0, .inr (0, [.ref q0, .int (nI n)])), (q0, .inl (T 0, 440, .inl f)), (t0, .inr (4, [.ref tv, .int (nI 0), .int ml, .int (nI cnt)])), (tv, .inl (T 1, cap, .inl fb))] s.heap := hP
  have hl := lv_entry ([.ref h0, .ref t0]) (n := 3) (Nat.le_of_ble_eq_true rfl)
  rw [lg_entry_eq]
  generalize (lg_sl ([.ref h0, .ref t0]) ++ List.replicate (3 - (lg_sl ([.ref h0, .ref t0])).length) Slot.unset).toArray = ls at hl ⊢
  have hl : lv_has ls 3 [(0, .ref h0), (1, .ref t0)] := hl
  have hw9 := htb.2.2.2
  refine lv_aload_n hx hb dX2_becomeCodes_0 rfl (lv_at hl 0 rfl) ?_
  refine mu_V (As := []) (rest := []) (wc := [(h0, .inr (0, [.ref q0, .int (nI n)])), (q0, .inl (T 0, 440, .inl f))]) (wr := [(t0, .inr (4, [.ref tv, .int (nI 0), .int ml, .int (nI cnt)])), (tv, .inl (T 1, cap, .inl fb))]) ⟨hx, hb, hml, hown, hts⟩ (c_X2_clear l D T g s.heap.size h0 q0 f n) (cwV 0 hts gX2_becomeCodes_X2_clear rfl rfl rfl (by decide +kernel) ⟨Nat.le_of_ble_eq_true rfl, Nat.le_of_ble_eq_true rfl⟩) (va_recv hK hP (ci := 0) (q0 := 0) rfl rfl) hP hD hK hG hS hA [0, 1] [2, 3] rfl (by decide) rfl (by decide) (by decide) ⟨Nat.le_of_ble_eq_true rfl, Nat.le_of_ble_eq_true rfl⟩ rfl hl.1 (Nat.le_of_ble_eq_true rfl) dX2_becomeCodes_1 rfl (fun u H locs hq1 hP hD hS => ?_)
  have hP : va_P D cls [(t0, .inr (4, [.ref tv, .int (nI 0), .int ml, .int (nI cnt)])), (tv, .inl (T 1, cap, .inl fb)), (h0, .inr (0, [.ref q0, .int (nI 0)])), (q0, .inl (T 0, 440, .inl f))] H := hP
  have hD : va_D A [(t0, .inr (4, [.ref tv, .int (nI 0), .int ml, .int (nI cnt)])), (tv, .inl (T 1, cap, .inl fb)), (h0, .inr (0, [.ref q0, .int (nI 0)])), (q0, .inl (T 0, 440, .inl f))] := hD
  refine W.eq (g2 := F0 m 4 ls []) rfl ?_
  refine lv_iconst (v := (nI 0)) hx hb dX2_becomeCodes_4 (by decide +kernel) ?_
  refine lv_istore_n (lv' := [(2, .int (nI 0)), (0, .ref h0), (1, .ref t0)]) hx hb dX2_becomeCodes_5 rfl hl (by decide) rfl (fun ls hl => ?_)
  have K2 : ∀ (N9 : Nat) (i : Nat) (F : Nat → Int32), (i ≤ cnt) → (RB F i w) → cnt - i < N9 → ∀ (H : Heap) (locs : List Loc), va_P D cls [(h0, .inr (0, [.ref q0, .int (nI i)])), (q0, .inl (T 0, 440, .inl F)), (t0, .inr (4, [.ref tv, .int (nI 0), .int ml, .int (nI cnt)])), (tv, .inl (T 1, cap, .inl fb))] H → va_D A [(h0, .inr (0, [.ref q0, .int (nI i)])), (q0, .inl (T 0, 440, .inl F)), (t0, .inr (4, [.ref tv, .int (nI 0), .int ml, .int (nI cnt)])), (tv, .inl (T 1, cap, .inl fb))] → va_S A s.heap H locs → ∀ ls : Array Slot, lv_has ls 3 [(0, .ref h0), (1, .ref t0), (2, .int (nI i))] → W p l e (headSpec wsX2_becomeCodes ({ frames := 4, cells := 0, slots := 0, locals := 88 } : Room)).room s m ([.ref h0, .ref t0] : List Value).toArray below meth c H locs 0 0 (MQ below (QM D T A (fun u : Nat → Int32 => none) (fun u : Nat → Int32 => RB u cnt w) (fun u : Nat → Int32 => [(h0, .inr (0, [.ref q0, .int (nI cnt)])), (q0, .inl (T 0, 440, .inl u)), (t0, .inr (4, [.ref tv, .int (nI 0), .int ml, .int (nI cnt)])), (tv, .inl (T 1, cap, .inl fb))])) ([.ref h0, .ref t0] : List Value).toArray s 0 0 A) (F0 m 6 ls []) := by
    intro N9
    induction N9 with
    | zero => intro i F hi hF h9; exact absurd h9 (Nat.not_lt_zero _)
    | succ N9 ih =>
      intro i F hi hF h9 H locs hP hD hS ls hl
      refine lv_iload_n hx hb dX2_becomeCodes_6 rfl (lv_at hl 2 rfl) ?_
      refine lv_aload_n hx hb dX2_becomeCodes_7 rfl (lv_at hl 1 rfl) ?_
      refine ro_V (As := []) (rest := [.int (nI i)]) (wc := [(t0, .inr (4, [.ref tv, .int (nI 0), .int ml, .int (nI cnt)])), (tv, .inl (T 1, cap, .inl fb))]) (r := .int (nI cnt)) ⟨hx, hb, hml, hown, hts⟩ (c_J4_length l D T g t0 tv ml cnt cap fb) (cwV 0 hts gX2_becomeCodes_J4_length_8abf5 rfl rfl rfl (by decide +kernel) ⟨Nat.le_of_ble_eq_true rfl, Nat.le_of_ble_eq_true rfl⟩) (va_recv hK hP (ci := 4) (q0 := 2) rfl rfl) hP hK hG hS [2, 3] rfl ⟨Nat.zero_le _, Nat.zero_le _⟩ rfl hl.1 (Nat.le_of_ble_eq_true rfl) dX2_becomeCodes_8 rfl ?_
      refine ln_icmp_ge (tgt := 29) hx hb ⟨by omega, by omega⟩ dX2_becomeCodes_11 (by decide) (fun c_11 => ?_) (fun c_11 => ?_)
      · have e9 : cnt = i := by omega
        rw [← e9] at hP hD hF
        have hP9 := hP.sub (ws' := [(h0, .inr (0, [.ref q0, .int (nI cnt)])), (q0, .inl (T 0, 440, .inl F)), (t0, .inr (4, [.ref tv, .int (nI 0), .int ml, .int (nI cnt)])), (tv, .inl (T 1, cap, .inl fb))]) [0, 1, 2, 3] rfl
        have hD9 := hD.sub (ws' := [(h0, .inr (0, [.ref q0, .int (nI cnt)])), (q0, .inl (T 0, 440, .inl F)), (t0, .inr (4, [.ref tv, .int (nI 0), .int ml, .int (nI cnt)])), (tv, .inl (T 1, cap, .inl fb))]) [0, 1, 2, 3] (by decide) rfl
        exact W.vret hx hb hr (fun t ht hW => ⟨⟨F, rfl, hF, (by rw [ht]; exact hP9), va_K.moved hW.alike hK, hD9⟩, hS.F ht⟩) hS.2.2 dX2_becomeCodes_29
      · refine lv_aload_n hx hb dX2_becomeCodes_14 rfl (lv_at hl 0 rfl) ?_
        refine lv_aload_n hx hb dX2_becomeCodes_15 rfl (lv_at hl 1 rfl) ?_
        refine lv_iload_n hx hb dX2_becomeCodes_16 rfl (lv_at hl 2 rfl) ?_
        refine ro_V (As := [.int (nI i)]) (rest := [.ref h0]) (wc := [(t0, .inr (4, [.ref tv, .int (nI 0), .int ml, .int (nI cnt)])), (tv, .inl (T 1, cap, .inl fb))]) (r := .int (nI (w i))) ⟨hx, hb, hml, hown, hts⟩ (c_J4_charAt l D T g t0 tv ml cnt cap fb i w (htb) (by omega)) (cwV 1 hts gX2_becomeCodes_J4_charAt_5068e rfl rfl rfl (by decide +kernel) ⟨Nat.le_of_ble_eq_true rfl, Nat.le_of_ble_eq_true rfl⟩) (va_recv hK hP (ci := 4) (q0 := 2) rfl rfl) hP hK hG hS [2, 3] rfl ⟨Nat.zero_le _, Nat.zero_le _⟩ rfl hl.1 (Nat.le_of_ble_eq_true rfl) dX2_becomeCodes_17 rfl ?_
        refine mu_V (As := [.int (nI (w i))]) (rest := []) (wc := [(h0, .inr (0, [.ref q0, .int (nI i)])), (q0, .inl (T 0, 440, .inl F))]) (wr := [(t0, .inr (4, [.ref tv, .int (nI 0), .int ml, .int (nI cnt)])), (tv, .inl (T 1, cap, .inl fb))]) ⟨hx, hb, hml, hown, hts⟩ (c_X2_append l D T g H.size h0 q0 F i (nI (w i)) (by omega)) (cwV 1 hts gX2_becomeCodes_X2_append rfl rfl rfl (by decide +kernel) ⟨Nat.le_of_ble_eq_true rfl, Nat.le_of_ble_eq_true rfl⟩) (va_recv hK hP (ci := 0) (q0 := 0) rfl rfl) hP hD hK hG hS hA [0, 1] [2, 3] rfl (by decide) rfl (by decide) (by decide) ⟨Nat.le_of_ble_eq_true rfl, Nat.le_of_ble_eq_true rfl⟩ rfl hl.1 (Nat.le_of_ble_eq_true rfl) dX2_becomeCodes_20 rfl (fun u H locs hq3 hP hD hS => ?_)
        have hP : va_P D cls [(t0, .inr (4, [.ref tv, .int (nI 0), .int ml, .int (nI cnt)])), (tv, .inl (T 1, cap, .inl fb)), (h0, .inr (0, [.ref q0, .int (nI (i + 1))])), (q0, .inl (T 0, 440, .inl (upd F i (nI (w i)))))] H := hP
        have hD : va_D A [(t0, .inr (4, [.ref tv, .int (nI 0), .int ml, .int (nI cnt)])), (tv, .inl (T 1, cap, .inl fb)), (h0, .inr (0, [.ref q0, .int (nI (i + 1))])), (q0, .inl (T 0, 440, .inl (upd F i (nI (w i)))))] := hD
        refine W.eq (g2 := F0 m 23 ls []) rfl ?_
        refine lv_iinc (v := (nI (i + 1))) (lv' := [(2, .int (nI (i + 1))), (0, .ref h0), (1, .ref t0)]) hx hb dX2_becomeCodes_23 hl (k := 2) rfl (ni_inc1 _) (by decide) rfl (fun ls hl => ?_)
        refine lv_goto (tgt := 6) hx hb dX2_becomeCodes_26 (by decide) ?_
        exact ih (i + 1) (upd F i (nI (w i))) (by omega) (RB_next hF (by omega) rfl (by have := (hw9 i (by omega)).2; omega)) (by omega) _ _ (hP.sub (ws' := [(h0, .inr (0, [.ref q0, .int (nI (i + 1))])), (q0, .inl (T 0, 440, .inl (upd F i (nI (w i))))), (t0, .inr (4, [.ref tv, .int (nI 0), .int ml, .int (nI cnt)])), (tv, .inl (T 1, cap, .inl fb))]) [2, 3, 0, 1] rfl) (hD.sub (ws' := [(h0, .inr (0, [.ref q0, .int (nI (i + 1))])), (q0, .inl (T 0, 440, .inl (upd F i (nI (w i))))), (t0, .inr (4, [.ref tv, .int (nI 0), .int ml, .int (nI cnt)])), (tv, .inl (T 1, cap, .inl fb))]) [2, 3, 0, 1] (by decide) rfl) hS ls (lv_sub hl [1, 2, 0] rfl)
  exact K2 _ 0 f (by omega) (RB_zero _ _) (Nat.lt_succ_self _) H locs (hP.sub (ws' := [(h0, .inr (0, [.ref q0, .int (nI 0)])), (q0, .inl (T 0, 440, .inl f)), (t0, .inr (4, [.ref tv, .int (nI 0), .int ml, .int (nI cnt)])), (tv, .inl (T 1, cap, .inl fb))]) [2, 3, 0, 1] rfl) (hD.sub (ws' := [(h0, .inr (0, [.ref q0, .int (nI 0)])), (q0, .inl (T 0, 440, .inl f)), (t0, .inr (4, [.ref tv, .int (nI 0), .int ml, .int (nI cnt)])), (tv, .inl (T 1, cap, .inl fb))]) [2, 3, 0, 1] (by decide) rfl) hS ls (lv_sub hl [1, 2, 0] rfl)
set_option maxHeartbeats 4000000 in
set_option maxRecDepth 100000 in
theorem c_X2_hasCodes (l : Launch) (D : va_G) (T : Nat → ClassId) (g : Nat → Nat) (h0 : Nat) (q0 : Nat) (f : Nat → Int32) (n : Nat) (t0 : Nat) (tv : Nat) (ml : Int32) (cap : Nat) (fb : Nat → Int32) (b : Nat → Nat) (hb9 : RB f n b) (htb : TB fb cap n b) : RO l yX2_hasCodes wsX2_hasCodes ({ frames := 4, cells := 0, slots := 0, locals := 88 } : Room) D T g [.ref h0, .ref t0] [(h0, .inr (0, [.ref q0, .int (nI n)])), (q0, .inl (T 0, 440, .inl f)), (t0, .inr (4, [.ref tv, .int (nI 0), .int ml, .int (nI n)])), (tv, .inl (T 1, cap, .inl fb))] (.int (nI 1)) := by
  refine Met.ofW (cc := cX2_hasCodes) (maxL := 3) (ret := (some .boolean)) (by decide) rfl ?_
  intro p e s m args below meth c s₁ B hml hv
  obtain ⟨rfl, hP, hK, hG⟩ := hv
  have hx := B.exec
  have hb := B.bytes
  have hr := B.returns
  have hts := atoms_spec (ws := wsX2_hasCodes) B.pre
  have hown : s.vm.findClass RX2 = some m.cls := findClass_of_methodNamed B.named
  have hlocks := B.notSynchronized
  have hi_X2 : ∀ w ∈ wsX20, w ∈ wsX2_hasCodes := by decide +kernel
  have hS : va_S (fun _ => False) s.heap s.heap [] := va_S.rf
  have hl := lv_entry ([.ref h0, .ref t0]) (n := 3) (Nat.le_of_ble_eq_true rfl)
  rw [lg_entry_eq]
  generalize (lg_sl ([.ref h0, .ref t0]) ++ List.replicate (3 - (lg_sl ([.ref h0, .ref t0])).length) Slot.unset).toArray = ls at hl ⊢
  have hl : lv_has ls 3 [(0, .ref h0), (1, .ref t0)] := hl
  have hn := hb9.1
  have hw9 := htb.2.2.2
  refine lv_aload_n hx hb dX2_hasCodes_0 rfl (lv_at hl 0 rfl) ?_
  refine va_get (D := D) (ci := 0) (v := .int (nI n)) (C := RX2) (T := TX2) (N := 2) hx hb hts hi_X2 hown hK hP 0 rfl rfl 1 (by decide) (hts _ (List.mem_of_getElem? (i := 1) rfl)) (fun _ h9 => h9) rfl dX2_hasCodes_1 ?_
  refine lv_aload_n hx hb dX2_hasCodes_4 rfl (lv_at hl 1 rfl) ?_
  refine ro_V (As := []) (rest := [.int (nI n)]) (wc := [(t0, .inr (4, [.ref tv, .int (nI 0), .int ml, .int (nI n)])), (tv, .inl (T 1, cap, .inl fb))]) (r := .int (nI n)) ⟨hx, hb, hml, hown, hts⟩ (c_J4_length l D T g t0 tv ml n cap fb) (cwV 0 hts gX2_hasCodes_J4_length_8abf5 rfl rfl rfl (by decide +kernel) ⟨Nat.le_of_ble_eq_true rfl, Nat.le_of_ble_eq_true rfl⟩) (va_recv hK hP (ci := 4) (q0 := 2) rfl rfl) hP hK hG hS [2, 3] rfl ⟨Nat.zero_le _, Nat.zero_le _⟩ rfl hl.1 (Nat.le_of_ble_eq_true rfl) dX2_hasCodes_5 rfl ?_
  refine ln_icmp_eq_t (tgt := 13) hx hb ⟨by omega, by omega⟩ (rfl) dX2_hasCodes_8 (by decide) ?_
  refine lv_iconst (v := (nI 0)) hx hb dX2_hasCodes_13 (by decide +kernel) ?_
  refine lv_istore_n (lv' := [(2, .int (nI 0)), (0, .ref h0), (1, .ref t0)]) hx hb dX2_hasCodes_14 rfl hl (by decide) rfl (fun ls hl => ?_)
  have K1 : ∀ (N9 : Nat) (i : Nat), (i ≤ n) → n - i < N9 → ∀ ls : Array Slot, lv_has ls 3 [(0, .ref h0), (1, .ref t0), (2, .int (nI i))] → W p l e (headSpec wsX2_hasCodes ({ frames := 4, cells := 0, slots := 0, locals := 88 } : Room)).room s m ([.ref h0, .ref t0] : List Value).toArray below meth c s.heap [] 0 0 (MQ below (k2_QcV (.int (nI 1))) ([.ref h0, .ref t0] : List Value).toArray s 0 0 (fun _ => False)) (F0 m 15 ls []) := by
    intro N9
    induction N9 with
    | zero => intro i hi h9; exact absurd h9 (Nat.not_lt_zero _)
    | succ N9 ih =>
      intro i hi h9 ls hl
      refine lv_iload_n hx hb dX2_hasCodes_15 rfl (lv_at hl 2 rfl) ?_
      refine lv_aload_n hx hb dX2_hasCodes_16 rfl (lv_at hl 1 rfl) ?_
      refine ro_V (As := []) (rest := [.int (nI i)]) (wc := [(t0, .inr (4, [.ref tv, .int (nI 0), .int ml, .int (nI n)])), (tv, .inl (T 1, cap, .inl fb))]) (r := .int (nI n)) ⟨hx, hb, hml, hown, hts⟩ (c_J4_length l D T g t0 tv ml n cap fb) (cwV 0 hts gX2_hasCodes_J4_length_8abf5 rfl rfl rfl (by decide +kernel) ⟨Nat.le_of_ble_eq_true rfl, Nat.le_of_ble_eq_true rfl⟩) (va_recv hK hP (ci := 4) (q0 := 2) rfl rfl) hP hK hG hS [2, 3] rfl ⟨Nat.zero_le _, Nat.zero_le _⟩ rfl hl.1 (Nat.le_of_ble_eq_true rfl) dX2_hasCodes_17 rfl ?_
      refine ln_icmp_ge (tgt := 44) hx hb ⟨by omega, by omega⟩ dX2_hasCodes_20 (by decide) (fun c_20 => ?_) (fun c_20 => ?_)
      · refine lv_iconst (v := (nI 1)) hx hb dX2_hasCodes_44 (by decide +kernel) ?_
        exact W.zret (v := (nI 1)) (ty := .boolean) hx hb hr (rfl) (fun t ht hW => ⟨(congrArg (fun z => Outcome.returned (some (Value.int z))) (show (nI 1) = (nI 1) from rfl)), ht⟩) (fun q h => nomatch h) dX2_hasCodes_45
      · refine lv_aload_n hx hb dX2_hasCodes_23 rfl (lv_at hl 0 rfl) ?_
        refine lv_iload_n hx hb dX2_hasCodes_24 rfl (lv_at hl 2 rfl) ?_
        refine ro_V (As := [.int (nI i)]) (rest := []) (wc := [(h0, .inr (0, [.ref q0, .int (nI n)])), (q0, .inl (T 0, 440, .inl f))]) (r := .int (nI (b i))) ⟨hx, hb, hml, hown, hts⟩ (c_X2_atB l D T g h0 q0 f n i b (hb9) (by omega)) (cwV 1 hts gX2_hasCodes_X2_at rfl rfl rfl (by decide +kernel) ⟨Nat.le_of_ble_eq_true rfl, Nat.le_of_ble_eq_true rfl⟩) (va_recv hK hP (ci := 0) (q0 := 0) rfl rfl) hP hK hG hS [0, 1] rfl ⟨Nat.zero_le _, Nat.zero_le _⟩ rfl hl.1 (Nat.le_of_ble_eq_true rfl) dX2_hasCodes_25 rfl ?_
        refine lv_aload_n hx hb dX2_hasCodes_28 rfl (lv_at hl 1 rfl) ?_
        refine lv_iload_n hx hb dX2_hasCodes_29 rfl (lv_at hl 2 rfl) ?_
        refine ro_V (As := [.int (nI i)]) (rest := [.int (nI (b i))]) (wc := [(t0, .inr (4, [.ref tv, .int (nI 0), .int ml, .int (nI n)])), (tv, .inl (T 1, cap, .inl fb))]) (r := .int (nI (b i))) ⟨hx, hb, hml, hown, hts⟩ (c_J4_charAt l D T g t0 tv ml n cap fb i b (htb) (by omega)) (cwV 1 hts gX2_hasCodes_J4_charAt_5068e rfl rfl rfl (by decide +kernel) ⟨Nat.le_of_ble_eq_true rfl, Nat.le_of_ble_eq_true rfl⟩) (va_recv hK hP (ci := 4) (q0 := 2) rfl rfl) hP hK hG hS [2, 3] rfl ⟨Nat.zero_le _, Nat.zero_le _⟩ rfl hl.1 (Nat.le_of_ble_eq_true rfl) dX2_hasCodes_30 rfl ?_
        have hx1 := (hw9 i (by omega)).2
        refine ln_icmp_eq_t (tgt := 38) hx hb ⟨by omega, by omega⟩ (rfl) dX2_hasCodes_33 (by decide) ?_
        refine lv_iinc (v := (nI (i + 1))) (lv' := [(2, .int (nI (i + 1))), (0, .ref h0), (1, .ref t0)]) hx hb dX2_hasCodes_38 hl (k := 2) rfl (ni_inc1 _) (by decide) rfl (fun ls hl => ?_)
        refine lv_goto (tgt := 15) hx hb dX2_hasCodes_41 (by decide) ?_
        exact ih (i + 1) (by omega) (by omega) ls (lv_sub hl [1, 2, 0] rfl)
  exact K1 _ 0 (by omega) (Nat.lt_succ_self _) ls (lv_sub hl [1, 2, 0] rfl)
set_option maxHeartbeats 4000000 in
set_option maxRecDepth 100000 in
/-- writes a row into the text -/
theorem c_X4_writeSigns (l : Launch) (D : va_G) (T : Nat → ClassId) (g : Nat → Nat) (sz : Nat) (h0 : Nat) (q0 : Nat) (f : Nat → Int32) (n : Nat) (k : Nat) (fl : Nat) (t0 : Nat) (tv : Nat) (ml : Int32) (cnt : Nat) (k0 : Nat) (fb : Nat → Int32) (b : Nat → Nat) (hb9 : RB f n b) (htb : sb_Fit fb) (hk : k < 3) (hk0 : k0 ≤ 5) (hn : n ≤ 320 ∧ fl < 2 ∧ cnt ≤ 574) : MU l yX4_writeSigns wsX4_writeSigns ({ frames := 6, cells := lvL k0 (lnN k n fl) - k0, slots := slL (lvL k0 (lnN k n fl)) - slL k0, locals := 156 } : Room) D T g [.ref h0, .ref (g k), .int (nI fl), .ref t0] [(h0, .inr (0, [.ref q0, .int (nI n)])), (q0, .inl (T 0, 440, .inl f)), (t0, .inr (4, [.ref tv, .int (nI 0), .int ml, .int (nI cnt)])), (tv, .inl (T 1, capL k0, .inl fb))] sz (fun u : Nat × Int32 × (Nat → Int32) => none) (fun u : Nat × Int32 × (Nat → Int32) => TB u.2.2 (capL (lvL k0 (lnN k n fl))) (lnN k n fl) (wrA k n b)) (fun u : Nat × Int32 × (Nat → Int32) => [(h0, .inr (0, [.ref q0, .int (nI n)])), (q0, .inl (T 0, 440, .inl f)), (t0, .inr (4, [.ref u.1, .int (nI 0), .int u.2.1, .int (nI (lnN k n fl))])), (u.1, .inl (T 1, capL (lvL k0 (lnN k n fl)), .inl u.2.2))]) (lvL k0 (lnN k n fl) - k0) (slL (lvL k0 (lnN k n fl)) - slL k0) := by
  refine Met.ofW (cc := cX4_writeSigns) (maxL := 6) (ret := none) (by decide) rfl ?_
  intro p e s m args below meth c s₁ B hml hv
  obtain ⟨rfl, hsz, hP, hK, hD0, hG⟩ := hv
  have hx := B.exec
  have hb := B.bytes
  have hr := B.returns
  have hts := atoms_spec (ws := wsX4_writeSigns) B.pre
  have hown : s.vm.findClass RX4 = some m.cls := findClass_of_methodNamed B.named
  have hlocks := B.notSynchronized
  have hi_X2 : ∀ w ∈ wsX20, w ∈ wsX4_writeSigns := by decide +kernel
  subst hsz
  have hD := hD0.self (sz := s.heap.size)
  generalize hAe : va_A [(h0, .inr (0, [.ref q0, .int (nI n)])), (q0, .inl (T 0, 440, .inl f)), (t0, .inr (4, [.ref tv, .int (nI 0), .int ml, .int (nI cnt)])), (tv, .inl (T 1, capL k0, .inl fb))] s.heap.size = A at hD hG ⊢
  have hA : ∀ q : Nat, s.heap.size ≤ q → A q := fun q h => by rw [← hAe]; exact Or.inr h
  have hS : va_S A s.heap s.heap [] := va_S.rf
  have hP : va_P D cls [(h0, .inr (0, [.ref q0, .int (nI n)])), (q0, .inl (T 0, 440, .inl f)), (t0, .inr (4, [.ref tv, .int (nI 0), .int ml, .int (nI cnt)])), (tv, .inl (T 1, capL k0, .inl fb))] s.heap := hP
  have hl := lv_entry ([.ref h0, .ref (g k), .int (nI fl), .ref t0]) (n := 6) (Nat.le_of_ble_eq_true rfl)
  rw [lg_entry_eq]
  generalize (lg_sl ([.ref h0, .ref (g k), .int (nI fl), .ref t0]) ++ List.replicate (6 - (lg_sl ([.ref h0, .ref (g k), .int (nI fl), .ref t0])).length) Slot.unset).toArray = ls at hl ⊢
  have hl : lv_has ls 6 [(0, .ref h0), (1, .ref (g k)), (2, .int (nI fl)), (3, .ref t0)] := hl
  have hle := lnN_le (k := k) (fl := fl) hn.1
  have hcp0 := capL_le hk0
  refine lv_aload_n hx hb dX4_writeSigns_0 rfl (lv_at hl 0 rfl) ?_
  refine va_getN (D := D) (ci := 0) (v := .int (nI n)) (C := RX2) (T := TX2) (N := 2) hx hb hts hi_X2 hown hK hP 0 rfl rfl 1 (by decide) (va_Nw.use rfl (hG.2.2.2.2.2.2.2.1 _ (List.mem_of_getElem? (i := 2) rfl))) (fun _ h9 => h9) rfl dX4_writeSigns_1 ?_
  refine lv_aload_n hx hb dX4_writeSigns_4 rfl (lv_at hl 1 rfl) ?_
  refine lv_iload_n hx hb dX4_writeSigns_5 rfl (lv_at hl 2 rfl) ?_
  refine ro_S (As := [.int (nI n), .ref (g k), .int (nI fl)]) (rest := []) (wc := []) (r := .int (nI (lnN k n fl))) ⟨hx, hb, hml, hown, hts⟩ (c_X4_lengthOf l D T g n k fl hk (by omega)) (va_cwS 3 hts gX4_writeSigns_X4_lengthOf rfl rfl rfl (by decide +kernel) ⟨Nat.le_of_ble_eq_true rfl, Nat.le_of_ble_eq_true rfl⟩) hP hK hG hS [] rfl ⟨Nat.zero_le _, Nat.zero_le _⟩ rfl hl.1 (Nat.le_of_ble_eq_true rfl) dX4_writeSigns_6 rfl ?_
  refine lv_istore (lv' := [(4, .int (nI (lnN k n fl))), (0, .ref h0), (1, .ref (g k)), (2, .int (nI fl)), (3, .ref t0)]) hx hb dX4_writeSigns_9 hl (by decide) rfl (fun ls hl => ?_)
  refine lv_aload_n hx hb dX4_writeSigns_11 rfl (lv_at hl 4 rfl) ?_
  refine lv_iconst (v := (nI 0)) hx hb dX4_writeSigns_12 (by decide +kernel) ?_
  refine mu_V (As := [.int (nI 0)]) (rest := []) (wc := [(t0, .inr (4, [.ref tv, .int (nI 0), .int ml, .int (nI cnt)])), (tv, .inl (T 1, capL k0, .inl fb))]) (wr := [(h0, .inr (0, [.ref q0, .int (nI n)])), (q0, .inl (T 0, 440, .inl f))]) ⟨hx, hb, hml, hown, hts⟩ (c_J4_setLength l D T g s.heap.size t0 tv ml cnt (capL k0) fb (by omega)) (cwV 1 hts gX4_writeSigns_J4_setLength_d00df rfl rfl rfl (by decide +kernel) ⟨Nat.le_of_ble_eq_true rfl, Nat.le_of_ble_eq_true rfl⟩) (va_recv hK hP (ci := 4) (q0 := 2) rfl rfl) hP hD hK hG hS hA [2, 3] [0, 1] rfl (by decide) rfl (by decide) (by decide) ⟨Nat.zero_le _, Nat.zero_le _⟩ rfl hl.1 (Nat.le_of_ble_eq_true rfl) dX4_writeSigns_13 rfl (fun u H locs hq2 hP hD hS => ?_)
  obtain ⟨ml2_1, hu9⟩ : ∃ z, z = u := ⟨_, rfl⟩
  subst hu9
  have hP : va_P D cls [(h0, .inr (0, [.ref q0, .int (nI n)])), (q0, .inl (T 0, 440, .inl f)), (t0, .inr (4, [.ref tv, .int (nI 0), .int ml2_1, .int (nI 0)])), (tv, .inl (T 1, (capL k0), .inl fb))] H := hP
  have hD : va_D A [(h0, .inr (0, [.ref q0, .int (nI n)])), (q0, .inl (T 0, 440, .inl f)), (t0, .inr (4, [.ref tv, .int (nI 0), .int ml2_1, .int (nI 0)])), (tv, .inl (T 1, (capL k0), .inl fb))] := hD
  refine W.eq (g2 := F0 m 16 ls []) rfl ?_
  refine lv_iconst (v := (nI 0)) hx hb dX4_writeSigns_16 (by decide +kernel) ?_
  refine lv_istore (lv' := [(5, .int (nI 0)), (4, .int (nI (lnN k n fl))), (0, .ref h0), (1, .ref (g k)), (2, .int (nI fl)), (3, .ref t0)]) hx hb dX4_writeSigns_17 hl (by decide) rfl (fun ls hl => ?_)
  have K3 : ∀ (N9 : Nat) (i : Nat) (tv1 : Nat) (fb1 : Nat → Int32), (i ≤ lnN k n fl) → (TB fb1 (capL (lvL k0 i)) i (wrA k n b)) → lnN k n fl - i < N9 → ∀ (H : Heap) (locs : List Loc), va_P D cls [(h0, .inr (0, [.ref q0, .int (nI n)])), (q0, .inl (T 0, 440, .inl f)), (t0, .inr (4, [.ref tv1, .int (nI 0), .int ml2_1, .int (nI i)])), (tv1, .inl (T 1, capL (lvL k0 i), .inl fb1))] H → va_D A [(h0, .inr (0, [.ref q0, .int (nI n)])), (q0, .inl (T 0, 440, .inl f)), (t0, .inr (4, [.ref tv1, .int (nI 0), .int ml2_1, .int (nI i)])), (tv1, .inl (T 1, capL (lvL k0 i), .inl fb1))] → va_S A s.heap H locs → ∀ ls : Array Slot, lv_has ls 6 [(0, .ref h0), (1, .ref (g k)), (3, .ref t0), (4, .int (nI (lnN k n fl))), (5, .int (nI i))] → W p l e (headSpec wsX4_writeSigns ({ frames := 6, cells := lvL k0 (lnN k n fl) - k0, slots := slL (lvL k0 (lnN k n fl)) - slL k0, locals := 156 } : Room)).room s m ([.ref h0, .ref (g k), .int (nI fl), .ref t0] : List Value).toArray below meth c H locs (lvL k0 i - k0) (slL (lvL k0 i) - slL k0) (MQ below (QM D T A (fun u : Nat × Int32 × (Nat → Int32) => none) (fun u : Nat × Int32 × (Nat → Int32) => TB u.2.2 (capL (lvL k0 (lnN k n fl))) (lnN k n fl) (wrA k n b)) (fun u : Nat × Int32 × (Nat → Int32) => [(h0, .inr (0, [.ref q0, .int (nI n)])), (q0, .inl (T 0, 440, .inl f)), (t0, .inr (4, [.ref u.1, .int (nI 0), .int u.2.1, .int (nI (lnN k n fl))])), (u.1, .inl (T 1, capL (lvL k0 (lnN k n fl)), .inl u.2.2))])) ([.ref h0, .ref (g k), .int (nI fl), .ref t0] : List Value).toArray s (lvL k0 (lnN k n fl) - k0) (slL (lvL k0 (lnN k n fl)) - slL k0) A) (F0 m 19 ls []) := by
    intro N9
    induction N9 with
    | zero => intro i tv1 fb1 hi hT h9; exact absurd h9 (Nat.not_lt_zero _)
    | succ N9 ih =>
      intro i tv1 fb1 hi hT h9 H locs hP hD hS ls hl
      refine lv_iload hx hb dX4_writeSigns_19 (lv_at hl 4 rfl) ?_
      refine lv_iload hx hb dX4_writeSigns_21 (lv_at hl 3 rfl) ?_
      refine ln_icmp_ge (tgt := 45) hx hb ⟨by omega, by omega⟩ dX4_writeSigns_23 (by decide) (fun c_23 => ?_) (fun c_23 => ?_)
      · have e9 : i = lnN k n fl := by omega
        rw [e9] at hP hD hT
        have hP9 := hP.sub (ws' := [(h0, .inr (0, [.ref q0, .int (nI n)])), (q0, .inl (T 0, 440, .inl f)), (t0, .inr (4, [.ref tv1, .int (nI 0), .int ml2_1, .int (nI (lnN k n fl))])), (tv1, .inl (T 1, capL (lvL k0 (lnN k n fl)), .inl fb1))]) [0, 1, 2, 3] rfl
        have hD9 := hD.sub (ws' := [(h0, .inr (0, [.ref q0, .int (nI n)])), (q0, .inl (T 0, 440, .inl f)), (t0, .inr (4, [.ref tv1, .int (nI 0), .int ml2_1, .int (nI (lnN k n fl))])), (tv1, .inl (T 1, capL (lvL k0 (lnN k n fl)), .inl fb1))]) [0, 1, 2, 3] (by decide) rfl
        refine W.widen (k := lvL k0 (lnN k n fl) - k0) (n := slL (lvL k0 (lnN k n fl)) - slL k0) (by rw [e9]; exact Nat.le_refl _) (by rw [e9]; exact Nat.le_refl _) ?_
        exact W.vret hx hb hr (fun t ht hW => ⟨⟨(tv1, ml2_1, fb1), rfl, show TB fb1 (capL (lvL k0 (lnN k n fl))) (lnN k n fl) (wrA k n b) from hT, (by rw [ht]; exact hP9), va_K.moved hW.alike hK, hD9⟩, hS.F ht⟩) hS.2.2 dX4_writeSigns_45
      · have hge := lvL_ge k0 i
        have hle5 := lvL_le hk0 i (by omega)
        have hcp := capL_le hle5
        have hm1 := lvL_mono k0 (show i + 1 ≤ lnN k n fl from by omega)
        have hm2 := slL_mono hm1
        have hs1 := slL_mono hge
        have hm3 := lvL_mono k0 (show i ≤ lnN k n fl from by omega)
        have hm4 := slL_mono hm3
        have hci := lvL_cap k0 i
        have hw9 := wrA_lt k n b i
        by_cases hs6 : i = capL (lvL k0 i)
        · have e6 := lvL_y hs6
          have e7 : slL (lvL k0 (i + 1)) = slL (lvL k0 i) + (2 * capL (lvL k0 i) + 2) := by rw [e6]; rfl
          have e8 : capL (lvL k0 (i + 1)) = 2 * capL (lvL k0 i) + 2 := by rw [e6]; rfl
          have hge := lvL_ge k0 i
          have hle5 := lvL_le hk0 i (by omega)
          have hcp := capL_le hle5
          have hm1 := lvL_mono k0 (show i + 1 ≤ lnN k n fl from by omega)
          have hm2 := slL_mono hm1
          have hs1 := slL_mono hge
          have hm3 := lvL_mono k0 (show i ≤ lnN k n fl from by omega)
          have hm4 := slL_mono hm3
          have hci := lvL_cap k0 i
          have hw9 := wrA_lt k n b i
          refine lv_aload_n hx hb dX4_writeSigns_26 rfl (lv_at hl 2 rfl) ?_
          refine lv_aload_n hx hb dX4_writeSigns_27 rfl (lv_at hl 0 rfl) ?_
          refine lv_aload_n hx hb dX4_writeSigns_28 rfl (lv_at hl 1 rfl) ?_
          refine lv_iload hx hb dX4_writeSigns_29 (lv_at hl 4 rfl) ?_
          refine ro_S (R := (headSpec wsX4_writeSigns ({ frames := 6, cells := lvL k0 (lnN k n fl) - k0, slots := slL (lvL k0 (lnN k n fl)) - slL k0, locals := 156 } : Room)).room) (As := [.ref h0, .ref (g k), .int (nI i)]) (rest := [.ref t0]) (wc := [(h0, .inr (0, [.ref q0, .int (nI n)])), (q0, .inl (T 0, 440, .inl f))]) (r := .int (nI (wrA k n b i))) ⟨hx, hb, hml, hown, hts⟩ (c_X4_writtenAt l D T g h0 q0 f n k i b (hb9) hk (by omega)) (va_cwS 3 hts gX4_writeSigns_X4_writtenAt rfl rfl rfl (by decide +kernel) ⟨Nat.le_of_ble_eq_true rfl, Nat.le_of_ble_eq_true rfl⟩) hP hK hG hS [0, 1] rfl ⟨by show _ ≤ lvL k0 (lnN k n fl) - k0; omega, by show _ ≤ slL (lvL k0 (lnN k n fl)) - slL k0; omega⟩ rfl hl.1 (Nat.le_of_ble_eq_true rfl) dX4_writeSigns_31 rfl ?_
          refine lv_i2c hx hb dX4_writeSigns_34 (v := (nI (wrA k n b i))) (i2cN (by omega)) ?_
          refine mu_V (As := [.int (nI (wrA k n b i))]) (rest := []) (wc := [(t0, .inr (4, [.ref tv1, .int (nI 0), .int ml2_1, .int (nI i)])), (tv1, .inl (T 1, capL (lvL k0 i), .inl fb1))]) (wr := [(h0, .inr (0, [.ref q0, .int (nI n)])), (q0, .inl (T 0, 440, .inl f))]) ⟨hx, hb, hml, hown, hts⟩ (c_J4_append_b l D T g H.size t0 tv1 ml2_1 i (capL (lvL k0 i)) fb1 (wrA k n b i) (hT.1) (by omega) (by omega)) (cwV 1 hts gX4_writeSigns_J4_append_cf468 rfl rfl rfl (by decide +kernel) ⟨Nat.le_of_ble_eq_true rfl, Nat.le_of_ble_eq_true rfl⟩) (va_recv hK hP (ci := 4) (q0 := 2) rfl rfl) hP hD hK hG hS hA [2, 3] [0, 1] rfl (by decide) rfl (by decide) (by decide) ⟨by show _ ≤ lvL k0 (lnN k n fl) - k0; omega, by show _ ≤ slL (lvL k0 (lnN k n fl)) - slL k0; omega⟩ rfl hl.1 (Nat.le_of_ble_eq_true rfl) dX4_writeSigns_35 rfl (fun u H locs hq6 hP hD hS => ?_)
          obtain ⟨q8_4, F8_5⟩ := u
          refine W.widen (k := (lvL k0 i - k0) + 1) (n := (slL (lvL k0 i) - slL k0) + (2 * (capL (lvL k0 i)) + 2)) (by omega) (by omega) ?_
          have hP : va_P D cls [(h0, .inr (0, [.ref q0, .int (nI n)])), (q0, .inl (T 0, 440, .inl f)), (t0, .inr (4, [.ref q8_4, .int (nI 0), .int ml2_1, .int (nI (i + 1))])), (q8_4, .inl (T 1, 2 * (capL (lvL k0 i)) + 2, .inl (upd F8_5 i (nI (wrA k n b i)))))] H := hP
          have hD : va_D A [(h0, .inr (0, [.ref q0, .int (nI n)])), (q0, .inl (T 0, 440, .inl f)), (t0, .inr (4, [.ref q8_4, .int (nI 0), .int ml2_1, .int (nI (i + 1))])), (q8_4, .inl (T 1, 2 * (capL (lvL k0 i)) + 2, .inl (upd F8_5 i (nI (wrA k n b i)))))] := hD
          have hq6 : sb_Fit F8_5 ∧ ∀ j, j < (capL (lvL k0 i)) → F8_5 j = fb1 j := hq6
          refine W.eq (g2 := F0 m 38 ls [.ref t0]) rfl ?_
          refine lv_pop hx hb dX4_writeSigns_38 rfl ?_
          refine lv_iinc (v := (nI (i + 1))) (lv' := [(5, .int (nI (i + 1))), (0, .ref h0), (1, .ref (g k)), (3, .ref t0), (4, .int (nI (lnN k n fl)))]) hx hb dX4_writeSigns_39 hl (k := 4) rfl (ni_inc1 _) (by decide) rfl (fun ls hl => ?_)
          refine lv_goto (tgt := 19) hx hb dX4_writeSigns_42 (by decide) ?_
          have hT1 : TB (upd F8_5 i (nI (wrA k n b i))) (capL (lvL k0 (i + 1))) (i + 1) (wrA k n b) := ⟨sb_fitU hq6.1 (fit8 _ (wrA_lt k n b i)), by rw [e8]; omega, capL_le (lvL_le hk0 _ (by omega)), fun j hj => by
            by_cases e9 : j = i
            · rw [e9, pk_us]; exact ⟨rfl, wrA_lt k n b i⟩
            · rw [pk_un e9, hq6.2 j (by omega)]; exact hT.2.2.2 j (by omega)⟩
          refine W.widen (k := lvL k0 (i + 1) - k0) (n := slL (lvL k0 (i + 1)) - slL k0) (by omega) (by omega) ?_
          exact ih (i + 1) q8_4 (upd F8_5 i (nI (wrA k n b i))) (by omega) (hT1) (by omega) _ _ (by rw [e8]; exact hP.sub (ws' := [(h0, .inr (0, [.ref q0, .int (nI n)])), (q0, .inl (T 0, 440, .inl f)), (t0, .inr (4, [.ref q8_4, .int (nI 0), .int ml2_1, .int (nI (i + 1))])), (q8_4, .inl (T 1, 2 * (capL (lvL k0 i)) + 2, .inl (upd F8_5 i (nI (wrA k n b i)))))]) [0, 1, 2, 3] rfl) (by rw [e8]; exact hD.sub (ws' := [(h0, .inr (0, [.ref q0, .int (nI n)])), (q0, .inl (T 0, 440, .inl f)), (t0, .inr (4, [.ref q8_4, .int (nI 0), .int ml2_1, .int (nI (i + 1))])), (q8_4, .inl (T 1, 2 * (capL (lvL k0 i)) + 2, .inl (upd F8_5 i (nI (wrA k n b i)))))]) [0, 1, 2, 3] (by decide) rfl) hS ls (lv_sub hl [1, 2, 3, 4, 0] rfl)
        · have e6 := lvL_n hs6
          have hge := lvL_ge k0 i
          have hle5 := lvL_le hk0 i (by omega)
          have hcp := capL_le hle5
          have hm1 := lvL_mono k0 (show i + 1 ≤ lnN k n fl from by omega)
          have hm2 := slL_mono hm1
          have hs1 := slL_mono hge
          have hm3 := lvL_mono k0 (show i ≤ lnN k n fl from by omega)
          have hm4 := slL_mono hm3
          have hci := lvL_cap k0 i
          have hw9 := wrA_lt k n b i
          refine lv_aload_n hx hb dX4_writeSigns_26 rfl (lv_at hl 2 rfl) ?_
          refine lv_aload_n hx hb dX4_writeSigns_27 rfl (lv_at hl 0 rfl) ?_
          refine lv_aload_n hx hb dX4_writeSigns_28 rfl (lv_at hl 1 rfl) ?_
          refine lv_iload hx hb dX4_writeSigns_29 (lv_at hl 4 rfl) ?_
          refine ro_S (R := (headSpec wsX4_writeSigns ({ frames := 6, cells := lvL k0 (lnN k n fl) - k0, slots := slL (lvL k0 (lnN k n fl)) - slL k0, locals := 156 } : Room)).room) (As := [.ref h0, .ref (g k), .int (nI i)]) (rest := [.ref t0]) (wc := [(h0, .inr (0, [.ref q0, .int (nI n)])), (q0, .inl (T 0, 440, .inl f))]) (r := .int (nI (wrA k n b i))) ⟨hx, hb, hml, hown, hts⟩ (c_X4_writtenAt l D T g h0 q0 f n k i b (hb9) hk (by omega)) (va_cwS 3 hts gX4_writeSigns_X4_writtenAt rfl rfl rfl (by decide +kernel) ⟨Nat.le_of_ble_eq_true rfl, Nat.le_of_ble_eq_true rfl⟩) hP hK hG hS [0, 1] rfl ⟨by show _ ≤ lvL k0 (lnN k n fl) - k0; omega, by show _ ≤ slL (lvL k0 (lnN k n fl)) - slL k0; omega⟩ rfl hl.1 (Nat.le_of_ble_eq_true rfl) dX4_writeSigns_31 rfl ?_
          refine lv_i2c hx hb dX4_writeSigns_34 (v := (nI (wrA k n b i))) (i2cN (by omega)) ?_
          refine mu_V (As := [.int (nI (wrA k n b i))]) (rest := []) (wc := [(t0, .inr (4, [.ref tv1, .int (nI 0), .int ml2_1, .int (nI i)])), (tv1, .inl (T 1, capL (lvL k0 i), .inl fb1))]) (wr := [(h0, .inr (0, [.ref q0, .int (nI n)])), (q0, .inl (T 0, 440, .inl f))]) ⟨hx, hb, hml, hown, hts⟩ (c_J4_append_a l D T g H.size t0 tv1 ml2_1 i (capL (lvL k0 i)) fb1 (wrA k n b i) (by omega) (by omega)) (cwV 1 hts gX4_writeSigns_J4_append_cf468 rfl rfl rfl (by decide +kernel) ⟨Nat.le_of_ble_eq_true rfl, Nat.le_of_ble_eq_true rfl⟩) (va_recv hK hP (ci := 4) (q0 := 2) rfl rfl) hP hD hK hG hS hA [2, 3] [0, 1] rfl (by decide) rfl (by decide) (by decide) ⟨by show _ ≤ lvL k0 (lnN k n fl) - k0; omega, by show _ ≤ slL (lvL k0 (lnN k n fl)) - slL k0; omega⟩ rfl hl.1 (Nat.le_of_ble_eq_true rfl) dX4_writeSigns_35 rfl (fun u H locs hq7 hP hD hS => ?_)
          have hP : va_P D cls [(h0, .inr (0, [.ref q0, .int (nI n)])), (q0, .inl (T 0, 440, .inl f)), (t0, .inr (4, [.ref tv1, .int (nI 0), .int ml2_1, .int (nI (i + 1))])), (tv1, .inl (T 1, (capL (lvL k0 i)), .inl (upd fb1 i (nI (wrA k n b i)))))] H := hP
          have hD : va_D A [(h0, .inr (0, [.ref q0, .int (nI n)])), (q0, .inl (T 0, 440, .inl f)), (t0, .inr (4, [.ref tv1, .int (nI 0), .int ml2_1, .int (nI (i + 1))])), (tv1, .inl (T 1, (capL (lvL k0 i)), .inl (upd fb1 i (nI (wrA k n b i)))))] := hD
          refine W.eq (g2 := F0 m 38 ls [.ref t0]) rfl ?_
          refine lv_pop hx hb dX4_writeSigns_38 rfl ?_
          refine lv_iinc (v := (nI (i + 1))) (lv' := [(5, .int (nI (i + 1))), (0, .ref h0), (1, .ref (g k)), (3, .ref t0), (4, .int (nI (lnN k n fl)))]) hx hb dX4_writeSigns_39 hl (k := 4) rfl (ni_inc1 _) (by decide) rfl (fun ls hl => ?_)
          refine lv_goto (tgt := 19) hx hb dX4_writeSigns_42 (by decide) ?_
          have hT1 : TB (upd fb1 i (nI (wrA k n b i))) (capL (lvL k0 (i + 1))) (i + 1) (wrA k n b) := ⟨sb_fitU hT.1 (fit8 _ (wrA_lt k n b i)), by rw [e6]; omega, capL_le (lvL_le hk0 _ (by omega)), fun j hj => by
            by_cases e9 : j = i
            · rw [e9, pk_us]; exact ⟨rfl, wrA_lt k n b i⟩
            · rw [pk_un e9]; exact hT.2.2.2 j (by omega)⟩
          have e7 : slL (lvL k0 (i + 1)) = slL (lvL k0 i) := by rw [e6]
          refine W.widen (k := lvL k0 (i + 1) - k0) (n := slL (lvL k0 (i + 1)) - slL k0) (by omega) (by omega) ?_
          exact ih (i + 1) tv1 (upd fb1 i (nI (wrA k n b i))) (by omega) (hT1) (by omega) _ _ (by rw [e6]; exact hP.sub (ws' := [(h0, .inr (0, [.ref q0, .int (nI n)])), (q0, .inl (T 0, 440, .inl f)), (t0, .inr (4, [.ref tv1, .int (nI 0), .int ml2_1, .int (nI (i + 1))])), (tv1, .inl (T 1, (capL (lvL k0 i)), .inl (upd fb1 i (nI (wrA k n b i)))))]) [0, 1, 2, 3] rfl) (by rw [e6]; exact hD.sub (ws' := [(h0, .inr (0, [.ref q0, .int (nI n)])), (q0, .inl (T 0, 440, .inl f)), (t0, .inr (4, [.ref tv1, .int (nI 0), .int ml2_1, .int (nI (i + 1))])), (tv1, .inl (T 1, (capL (lvL k0 i)), .inl (upd fb1 i (nI (wrA k n b i)))))]) [0, 1, 2, 3] (by decide) rfl) hS ls (lv_sub hl [1, 2, 3, 4, 0] rfl)
  refine W.widen (k := lvL k0 0 - k0) (n := slL (lvL k0 0) - slL k0) (Nat.zero_le _) (Nat.zero_le _) ?_
  exact K3 _ 0 tv fb (by omega) (⟨htb, Nat.zero_le _, by have := capL_le hk0; exact this, fun j hj => absurd hj (Nat.not_lt_zero _)⟩) (Nat.lt_succ_self _) H locs (hP.sub (ws' := [(h0, .inr (0, [.ref q0, .int (nI n)])), (q0, .inl (T 0, 440, .inl f)), (t0, .inr (4, [.ref tv, .int (nI 0), .int ml2_1, .int (nI 0)])), (tv, .inl (T 1, (capL k0), .inl fb))]) [0, 1, 2, 3] rfl) (hD.sub (ws' := [(h0, .inr (0, [.ref q0, .int (nI n)])), (q0, .inl (T 0, 440, .inl f)), (t0, .inr (4, [.ref tv, .int (nI 0), .int ml2_1, .int (nI 0)])), (tv, .inl (T 1, (capL k0), .inl fb))]) [0, 1, 2, 3] (by decide) rfl) hS ls (lv_sub hl [2, 3, 5, 1, 0] rfl)
