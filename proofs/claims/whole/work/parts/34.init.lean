set_option maxHeartbeats 4000000 in
set_option maxRecDepth 100000 in
/-- a new row -/
theorem c_X2_init (l : Launch) (D : va_G) (T : Nat → ClassId) (g : Nat → Nat) (sz : Nat) (h0 : Nat) : MU l yX2_init wsX2_init ({ frames := 1, cells := 1, slots := 440, locals := 40 } : Room) D T g [.ref h0] [(h0, .inr (0, [.null, .int (nI 0)]))] sz (fun u : Nat => none) (fun u : Nat => True) (fun u : Nat => [(h0, .inr (0, [.ref u, .int (nI 0)])), (u, .inl (T 0, 440, .inl (fun _ => 0)))]) 1 440 := by
  refine Met.ofW (cc := cX2_init) (maxL := 1) (ret := none) (by decide) rfl ?_
  intro p e s m args below meth c s₁ B hml hv
  obtain ⟨rfl, hsz, hP, hK, hD0, hG⟩ := hv
  have hx := B.exec
  have hb := B.bytes
  have hr := B.returns
  have hts := atoms_spec (ws := wsX2_init) B.pre
  have hown : s.vm.findClass RX2 = some m.cls := findClass_of_methodNamed B.named
  have hlocks := B.notSynchronized
  have hin : meth.name = "<init>" := (name_of_methodNamed B.named B.method).1
  have hi_X2 : ∀ w ∈ wsX20, w ∈ wsX2_init := by decide +kernel
  subst hsz
  have hD := hD0.self (sz := s.heap.size)
  generalize hAe : va_A [(h0, .inr (0, [.null, .int (nI 0)]))] s.heap.size = A at hD hG ⊢
  have hA : ∀ q : Nat, s.heap.size ≤ q → A q := fun q h => by rw [← hAe]; exact Or.inr h
  have hS : va_S A s.heap s.heap [] := va_S.rf
  have hP : va_P D cls [(h0, .inr (0, [.null, .int (nI 0)]))] s.heap := hP
  have hl := lv_entry ([.ref h0]) (n := 1) (Nat.le_of_ble_eq_true rfl)
  rw [lg_entry_eq]
  generalize (lg_sl ([.ref h0]) ++ List.replicate (1 - (lg_sl ([.ref h0])).length) Slot.unset).toArray = ls at hl ⊢
  have hl : lv_has ls 1 [(0, .ref h0)] := hl
  refine lv_aload_n hx hb dX2_init_0 rfl (lv_at hl 0 rfl) ?_
  refine W.objInit hx hb hown (hts _ (List.mem_of_getElem? (i := 1) rfl)) (hts _ (List.mem_of_getElem? (i := 2) rfl)) (hts _ (List.mem_of_getElem? (i := 3) rfl)) rfl (hl.1.trans hml.symm) rfl dX2_init_1 (Nat.le_of_ble_eq_true rfl) (Nat.le_of_ble_eq_true rfl) ?_
  refine W.eq (g2 := F0 m 4 ls []) rfl ?_
  refine lv_aload_n hx hb dX2_init_4 rfl (lv_at hl 0 rfl) ?_
  refine lv_sipush (v := (nI 440)) hx hb dX2_init_5 (by decide +kernel) ?_
  refine va_newa (atype := .int) (ty := .int) (N' := 440) (a0 := (440, .inl (fun _ => 0))) hx hb (hts _ (List.mem_of_getElem? (i := 4) rfl)) rfl hK hP hD hS hA (fun _ => rfl) (nI_pos (by omega)) (nI_clamp (by omega)) (by decide) (Nat.le_of_ble_eq_true rfl) (Nat.le_of_ble_eq_true rfl) dX2_init_8 (fun qn1 cA9 H hK9 hP hD hS => ?_)
  have hcA := newa_id0 hK9
  subst hcA
  have hP : va_P D cls [(h0, .inr (0, [.null, .int (nI 0)])), (qn1, .inl (T 0, 440, .inl (fun _ => 0)))] H := hP
  have hD : va_D A [(h0, .inr (0, [.null, .int (nI 0)])), (qn1, .inl (T 0, 440, .inl (fun _ => 0)))] := hD
  refine W.widen (k := 1) (n := 440) (Nat.le_of_ble_eq_true rfl) (Nat.le_of_ble_eq_true rfl) ?_
  refine va_putF (D := D) (ci := 0) (v := .ref qn1) (ty := .array .int) (C := RX2) (T := TX2) (N := 2) hx hb hts hi_X2 tyX2 tyX2_ok nmX2 hown hK hP hD hS 0 rfl rfl 0 (by decide) (hts _ (List.mem_of_getElem? (i := 5) rfl)) (fun _ h9 => h9) rfl hin rfl (by decide +kernel) rfl rfl (Nat.le_of_ble_eq_true rfl) dX2_init_10 (fun H locs hP hD hS => ?_)
  have hP : va_P D cls [(h0, .inr (0, [.ref qn1, .int (nI 0)])), (qn1, .inl (T 0, 440, .inl (fun _ => 0)))] H := hP
  have hD : va_D A [(h0, .inr (0, [.ref qn1, .int (nI 0)])), (qn1, .inl (T 0, 440, .inl (fun _ => 0)))] := hD
  refine lv_aload_n hx hb dX2_init_13 rfl (lv_at hl 0 rfl) ?_
  refine lv_iconst (v := (nI 0)) hx hb dX2_init_14 (by decide +kernel) ?_
  refine va_put (D := D) (ci := 0) (v := .int (nI 0)) (ty := .int) (C := RX2) (T := TX2) (N := 2) hx hb hts hi_X2 tyX2 tyX2_ok nmX2 hown hK hP hD hS 0 rfl rfl 1 (by decide) (hts _ (List.mem_of_getElem? (i := 6) rfl)) (fun _ h9 => h9) rfl (by decide +kernel) rfl rfl (Nat.le_of_ble_eq_true rfl) dX2_init_15 (fun H locs hP hD hS => ?_)
  have hP : va_P D cls [(h0, .inr (0, [.ref qn1, .int (nI 0)])), (qn1, .inl (T 0, 440, .inl (fun _ => 0)))] H := hP
  have hD : va_D A [(h0, .inr (0, [.ref qn1, .int (nI 0)])), (qn1, .inl (T 0, 440, .inl (fun _ => 0)))] := hD
  have hP9 := hP.sub (ws' := [(h0, .inr (0, [.ref qn1, .int (nI 0)])), (qn1, .inl (T 0, 440, .inl (fun _ => 0)))]) [0, 1] rfl
  have hD9 := hD.sub (ws' := [(h0, .inr (0, [.ref qn1, .int (nI 0)])), (qn1, .inl (T 0, 440, .inl (fun _ => 0)))]) [0, 1] (by decide) rfl
  exact W.vret hx hb hr (fun t ht hW => ⟨⟨qn1, rfl, trivial, (by rw [ht]; exact hP9), va_K.moved hW.alike hK, hD9⟩, hS.F ht⟩) hS.2.2 dX2_init_18
set_option maxHeartbeats 4000000 in
set_option maxRecDepth 100000 in
/-- a new reader -/
theorem c_X1_init (l : Launch) (D : va_G) (T : Nat → ClassId) (g : Nat → Nat) (sz : Nat) (r0 : Nat) : MU l yX1_init wsX1_init ({ frames := 2, cells := 2, slots := 442, locals := 60 } : Room) D T g [.ref r0] [(r0, .inr (1, [.null, .int (nI 0), .int (nI 0)]))] sz (fun u : Nat × Nat => none) (fun u : Nat × Nat => True) (fun u : Nat × Nat => [(r0, .inr (1, [.ref u.1, .int (nI 0), .int (nI 0)])), (u.1, .inr (0, [.ref u.2, .int (nI 0)])), (u.2, .inl (T 0, 440, .inl (fun _ => 0)))]) 2 442 := by
  refine Met.ofW (cc := cX1_init) (maxL := 1) (ret := none) (by decide) rfl ?_
  intro p e s m args below meth c s₁ B hml hv
  obtain ⟨rfl, hsz, hP, hK, hD0, hG⟩ := hv
  have hx := B.exec
  have hb := B.bytes
  have hr := B.returns
  have hts := atoms_spec (ws := wsX1_init) B.pre
  have hown : s.vm.findClass RX1 = some m.cls := findClass_of_methodNamed B.named
  have hlocks := B.notSynchronized
  have hin : meth.name = "<init>" := (name_of_methodNamed B.named B.method).1
  have hi_X1 : ∀ w ∈ wsX10, w ∈ wsX1_init := by decide +kernel
  have hi_X2 : ∀ w ∈ wsX20, w ∈ wsX1_init := by decide +kernel
  subst hsz
  have hD := hD0.self (sz := s.heap.size)
  generalize hAe : va_A [(r0, .inr (1, [.null, .int (nI 0), .int (nI 0)]))] s.heap.size = A at hD hG ⊢
  have hA : ∀ q : Nat, s.heap.size ≤ q → A q := fun q h => by rw [← hAe]; exact Or.inr h
  have hS : va_S A s.heap s.heap [] := va_S.rf
  have hP : va_P D cls [(r0, .inr (1, [.null, .int (nI 0), .int (nI 0)]))] s.heap := hP
  have hl := lv_entry ([.ref r0]) (n := 1) (Nat.le_of_ble_eq_true rfl)
  rw [lg_entry_eq]
  generalize (lg_sl ([.ref r0]) ++ List.replicate (1 - (lg_sl ([.ref r0])).length) Slot.unset).toArray = ls at hl ⊢
  have hl : lv_has ls 1 [(0, .ref r0)] := hl
  refine lv_aload_n hx hb dX1_init_0 rfl (lv_at hl 0 rfl) ?_
  refine W.objInit hx hb hown (hts _ (List.mem_of_getElem? (i := 1) rfl)) (hts _ (List.mem_of_getElem? (i := 2) rfl)) (hts _ (List.mem_of_getElem? (i := 3) rfl)) rfl (hl.1.trans hml.symm) rfl dX1_init_1 (Nat.le_of_ble_eq_true rfl) (Nat.le_of_ble_eq_true rfl) ?_
  refine W.eq (g2 := F0 m 4 ls []) rfl ?_
  refine lv_aload_n hx hb dX1_init_4 rfl (lv_at hl 0 rfl) ?_
  refine va_new (C := RX2) (T := TX2) (N := 2) (ci := 0) (fs := [.null, .int (nI 0)]) hx hb hts hi_X2 tyX2 tyX2_ok hown (hts _ (List.mem_of_getElem? (i := 4) rfl)) (hts _ (List.mem_of_getElem? (i := 5) rfl)) (hts _ (List.mem_of_getElem? (i := 6) rfl)) hK hP hD hS hA rfl (fun j hj => by have h9 : j = 0 ∨ j = 1 := (by omega); rcases h9 with rfl | rfl <;> rfl) (Nat.le_of_ble_eq_true rfl) (Nat.le_of_ble_eq_true rfl) dX1_init_5 (fun qo1 H hP hD hS => ?_)
  have hP : va_P D cls [(r0, .inr (1, [.null, .int (nI 0), .int (nI 0)])), (qo1, .inr (0, [.null, .int (nI 0)]))] H := hP
  have hD : va_D A [(r0, .inr (1, [.null, .int (nI 0), .int (nI 0)])), (qo1, .inr (0, [.null, .int (nI 0)]))] := hD
  refine W.widen (k := 1) (n := 2) (Nat.le_of_ble_eq_true rfl) (Nat.le_of_ble_eq_true rfl) ?_
  refine lv_dup hx hb dX1_init_8 rfl ?_
  refine mu_IN (As := []) (rest := [.ref qo1, .ref r0]) (wc := [(qo1, .inr (0, [.null, .int (nI 0)]))]) (wr := [(r0, .inr (1, [.null, .int (nI 0), .int (nI 0)]))]) ⟨hx, hb, hml, hown, hts⟩ (c_X2_init l D T g H.size qo1) ⟨va_cnB 0 hts gX1_init_X2_init_n11 rfl rfl rfl (hG.2.2.2.2.2.2.2.2.1 _ (List.mem_of_getElem? (i := 2) rfl)) (hts _ (List.mem_of_getElem? (i := 6) rfl)) (by decide +kernel) ⟨Nat.le_of_ble_eq_true rfl, Nat.le_of_ble_eq_true rfl⟩, rfl, (hts _ (List.mem_of_getElem? (i := 10) rfl))⟩ hP hD hK hG hS hA [1] [0] rfl (by decide) rfl (by decide) (by decide) ⟨Nat.le_of_ble_eq_true rfl, Nat.le_of_ble_eq_true rfl⟩ rfl hl.1 (Nat.le_of_ble_eq_true rfl) dX1_init_9 rfl (fun u H locs hq3 hP hD hS => ?_)
  obtain ⟨q1_2, hu9⟩ : ∃ z, z = u := ⟨_, rfl⟩
  subst hu9
  refine W.widen (k := 2) (n := 442) (by omega) (by omega) ?_
  have hP : va_P D cls [(r0, .inr (1, [.null, .int (nI 0), .int (nI 0)])), (qo1, .inr (0, [.ref q1_2, .int (nI 0)])), (q1_2, .inl (T 0, 440, .inl (fun _ => 0)))] H := hP
  have hD : va_D A [(r0, .inr (1, [.null, .int (nI 0), .int (nI 0)])), (qo1, .inr (0, [.ref q1_2, .int (nI 0)])), (q1_2, .inl (T 0, 440, .inl (fun _ => 0)))] := hD
  refine W.eq (g2 := F0 m 12 ls [.ref qo1, .ref r0]) rfl ?_
  refine va_putF (D := D) (ci := 1) (v := .ref qo1) (ty := .object "Letterloom$Row") (C := RX1) (T := TX1) (N := 3) hx hb hts hi_X1 tyX1 tyX1_ok nmX1 hown hK hP hD hS 0 rfl rfl 0 (by decide) (hts _ (List.mem_of_getElem? (i := 7) rfl)) (fun _ h9 => h9) rfl hin rfl (by decide +kernel) rfl rfl (Nat.le_of_ble_eq_true rfl) dX1_init_12 (fun H locs hP hD hS => ?_)
  have hP : va_P D cls [(r0, .inr (1, [.ref qo1, .int (nI 0), .int (nI 0)])), (qo1, .inr (0, [.ref q1_2, .int (nI 0)])), (q1_2, .inl (T 0, 440, .inl (fun _ => 0)))] H := hP
  have hD : va_D A [(r0, .inr (1, [.ref qo1, .int (nI 0), .int (nI 0)])), (qo1, .inr (0, [.ref q1_2, .int (nI 0)])), (q1_2, .inl (T 0, 440, .inl (fun _ => 0)))] := hD
  refine lv_aload_n hx hb dX1_init_15 rfl (lv_at hl 0 rfl) ?_
  refine lv_iconst (v := (nI 0)) hx hb dX1_init_16 (by decide +kernel) ?_
  refine va_put (D := D) (ci := 1) (v := .int (nI 0)) (ty := .int) (C := RX1) (T := TX1) (N := 3) hx hb hts hi_X1 tyX1 tyX1_ok nmX1 hown hK hP hD hS 0 rfl rfl 1 (by decide) (hts _ (List.mem_of_getElem? (i := 8) rfl)) (fun _ h9 => h9) rfl (by decide +kernel) rfl rfl (Nat.le_of_ble_eq_true rfl) dX1_init_17 (fun H locs hP hD hS => ?_)
  have hP : va_P D cls [(r0, .inr (1, [.ref qo1, .int (nI 0), .int (nI 0)])), (qo1, .inr (0, [.ref q1_2, .int (nI 0)])), (q1_2, .inl (T 0, 440, .inl (fun _ => 0)))] H := hP
  have hD : va_D A [(r0, .inr (1, [.ref qo1, .int (nI 0), .int (nI 0)])), (qo1, .inr (0, [.ref q1_2, .int (nI 0)])), (q1_2, .inl (T 0, 440, .inl (fun _ => 0)))] := hD
  refine lv_aload_n hx hb dX1_init_20 rfl (lv_at hl 0 rfl) ?_
  refine lv_iconst (v := (nI 0)) hx hb dX1_init_21 (by decide +kernel) ?_
  refine va_put (D := D) (ci := 1) (v := .int (nI 0)) (ty := .int) (C := RX1) (T := TX1) (N := 3) hx hb hts hi_X1 tyX1 tyX1_ok nmX1 hown hK hP hD hS 0 rfl rfl 2 (by decide) (hts _ (List.mem_of_getElem? (i := 9) rfl)) (fun _ h9 => h9) rfl (by decide +kernel) rfl rfl (Nat.le_of_ble_eq_true rfl) dX1_init_22 (fun H locs hP hD hS => ?_)
  have hP : va_P D cls [(r0, .inr (1, [.ref qo1, .int (nI 0), .int (nI 0)])), (qo1, .inr (0, [.ref q1_2, .int (nI 0)])), (q1_2, .inl (T 0, 440, .inl (fun _ => 0)))] H := hP
  have hD : va_D A [(r0, .inr (1, [.ref qo1, .int (nI 0), .int (nI 0)])), (qo1, .inr (0, [.ref q1_2, .int (nI 0)])), (q1_2, .inl (T 0, 440, .inl (fun _ => 0)))] := hD
  have hP9 := hP.sub (ws' := [(r0, .inr (1, [.ref qo1, .int (nI 0), .int (nI 0)])), (qo1, .inr (0, [.ref q1_2, .int (nI 0)])), (q1_2, .inl (T 0, 440, .inl (fun _ => 0)))]) [0, 1, 2] rfl
  have hD9 := hD.sub (ws' := [(r0, .inr (1, [.ref qo1, .int (nI 0), .int (nI 0)])), (qo1, .inr (0, [.ref q1_2, .int (nI 0)])), (q1_2, .inl (T 0, 440, .inl (fun _ => 0)))]) [0, 1, 2] (by decide) rfl
  exact W.vret hx hb hr (fun t ht hW => ⟨⟨(qo1, q1_2), rfl, trivial, (by rw [ht]; exact hP9), va_K.moved hW.alike hK, hD9⟩, hS.F ht⟩) hS.2.2 dX1_init_25
set_option maxHeartbeats 4000000 in
set_option maxRecDepth 100000 in
/-- a new text -/
theorem c_J5_init (l : Launch) (D : va_G) (T : Nat → ClassId) (g : Nat → Nat) (sz : Nat) (t0 : Nat) : MU l yJ5_init_d00df wsJ5_init_d00df ({ frames := 1, cells := 1, slots := 16, locals := 40 } : Room) D T g [.ref t0, .int (nI 16)] [(t0, .inr (4, [.null, .int (nI 0), .int (nI 0), .int (nI 0)]))] sz (fun u : Nat => none) (fun u : Nat => True) (fun u : Nat => [(t0, .inr (4, [.ref u, .int (nI 0), .int (nI 0), .int (nI 0)])), (u, .inl (T 1, 16, .inl (fun _ => 0)))]) 1 16 := by
  refine Met.ofW (cc := cJ5_init_d00df) (maxL := 2) (ret := none) (by decide) rfl ?_
  intro p e s m args below meth c s₁ B hml hv
  obtain ⟨rfl, hsz, hP, hK, hD0, hG⟩ := hv
  have hx := B.exec
  have hb := B.bytes
  have hr := B.returns
  have hts := atoms_spec (ws := wsJ5_init_d00df) B.pre
  have hown : s.vm.findClass RJ5 = some m.cls := findClass_of_methodNamed B.named
  have hlocks := B.notSynchronized
  have hin : meth.name = "<init>" := (name_of_methodNamed B.named B.method).1
  have hi_J4 : ∀ w ∈ wsJ40, w ∈ wsJ5_init_d00df := by decide +kernel
  subst hsz
  have hD := hD0.self (sz := s.heap.size)
  generalize hAe : va_A [(t0, .inr (4, [.null, .int (nI 0), .int (nI 0), .int (nI 0)]))] s.heap.size = A at hD hG ⊢
  have hA : ∀ q : Nat, s.heap.size ≤ q → A q := fun q h => by rw [← hAe]; exact Or.inr h
  have hS : va_S A s.heap s.heap [] := va_S.rf
  have hP : va_P D cls [(t0, .inr (4, [.null, .int (nI 0), .int (nI 0), .int (nI 0)]))] s.heap := hP
  have hl := lv_entry ([.ref t0, .int (nI 16)]) (n := 2) (Nat.le_of_ble_eq_true rfl)
  rw [lg_entry_eq]
  generalize (lg_sl ([.ref t0, .int (nI 16)]) ++ List.replicate (2 - (lg_sl ([.ref t0, .int (nI 16)])).length) Slot.unset).toArray = ls at hl ⊢
  have hl : lv_has ls 2 [(0, .ref t0), (1, .int (nI 16))] := hl
  refine lv_aload_n hx hb dJ5_init_d00df_0 rfl (lv_at hl 0 rfl) ?_
  refine W.objInit hx hb hown (hts _ (List.mem_of_getElem? (i := 1) rfl)) (hts _ (List.mem_of_getElem? (i := 2) rfl)) (hts _ (List.mem_of_getElem? (i := 3) rfl)) rfl (hl.1.trans hml.symm) rfl dJ5_init_d00df_1 (Nat.le_of_ble_eq_true rfl) (Nat.le_of_ble_eq_true rfl) ?_
  refine W.eq (g2 := F0 m 4 ls []) rfl ?_
  refine va_gets hx hb hG.2.2.2.1 hS hown (hts _ (List.mem_of_getElem? (i := 4) rfl)) (fun _ h9 => h9) dJ5_init_d00df_4 ?_
  refine W.eq (g2 := F0 m 7 ls [.int (nI 1)]) rfl ?_
  refine ln_if_eq_f (tgt := 25) hx hb (by omega) (by decide) dJ5_init_d00df_7 (by decide) ?_
  refine lv_aload_n hx hb dJ5_init_d00df_10 rfl (lv_at hl 0 rfl) ?_
  refine lv_iload_n hx hb dJ5_init_d00df_11 rfl (lv_at hl 1 rfl) ?_
  refine va_newa (atype := .byte) (ty := .byte) (N' := 16) (a0 := (16, .inl (fun _ => 0))) hx hb (hts _ (List.mem_of_getElem? (i := 5) rfl)) rfl hK hP hD hS hA (fun _ => rfl) (nI_pos (by omega)) (nI_clamp (by omega)) (by decide) (Nat.le_of_ble_eq_true rfl) (Nat.le_of_ble_eq_true rfl) dJ5_init_d00df_12 (fun qn1 cA9 H hK9 hP hD hS => ?_)
  have hcA := newa_id1 hK9
  subst hcA
  have hP : va_P D cls [(t0, .inr (4, [.null, .int (nI 0), .int (nI 0), .int (nI 0)])), (qn1, .inl (T 1, 16, .inl (fun _ => 0)))] H := hP
  have hD : va_D A [(t0, .inr (4, [.null, .int (nI 0), .int (nI 0), .int (nI 0)])), (qn1, .inl (T 1, 16, .inl (fun _ => 0)))] := hD
  refine W.widen (k := 1) (n := 16) (Nat.le_of_ble_eq_true rfl) (Nat.le_of_ble_eq_true rfl) ?_
  refine va_put (D := D) (ci := 4) (v := .ref qn1) (ty := .array .byte) (C := RJ4) (T := TJ4) (N := 4) hx hb hts hi_J4 tyJ4 tyJ4_ok nmJ4 hown hK hP hD hS 0 rfl rfl 0 (by decide) (hts _ (List.mem_of_getElem? (i := 6) rfl)) (fun _ h9 => h9) rfl (by decide +kernel) rfl rfl (Nat.le_of_ble_eq_true rfl) dJ5_init_d00df_14 (fun H locs hP hD hS => ?_)
  have hP : va_P D cls [(t0, .inr (4, [.ref qn1, .int (nI 0), .int (nI 0), .int (nI 0)])), (qn1, .inl (T 1, 16, .inl (fun _ => 0)))] H := hP
  have hD : va_D A [(t0, .inr (4, [.ref qn1, .int (nI 0), .int (nI 0), .int (nI 0)])), (qn1, .inl (T 1, 16, .inl (fun _ => 0)))] := hD
  refine lv_aload_n hx hb dJ5_init_d00df_17 rfl (lv_at hl 0 rfl) ?_
  refine lv_iconst (v := (nI 0)) hx hb dJ5_init_d00df_18 (by decide +kernel) ?_
  refine va_put (D := D) (ci := 4) (v := .int (nI 0)) (ty := .byte) (C := RJ4) (T := TJ4) (N := 4) hx hb hts hi_J4 tyJ4 tyJ4_ok nmJ4 hown hK hP hD hS 0 rfl rfl 1 (by decide) (hts _ (List.mem_of_getElem? (i := 7) rfl)) (fun _ h9 => h9) rfl (by decide +kernel) rfl rfl (Nat.le_of_ble_eq_true rfl) dJ5_init_d00df_19 (fun H locs hP hD hS => ?_)
  have hP : va_P D cls [(t0, .inr (4, [.ref qn1, .int (nI 0), .int (nI 0), .int (nI 0)])), (qn1, .inl (T 1, 16, .inl (fun _ => 0)))] H := hP
  have hD : va_D A [(t0, .inr (4, [.ref qn1, .int (nI 0), .int (nI 0), .int (nI 0)])), (qn1, .inl (T 1, 16, .inl (fun _ => 0)))] := hD
  refine lv_goto (tgt := 38) hx hb dJ5_init_d00df_22 (by decide) ?_
  have hP9 := hP.sub (ws' := [(t0, .inr (4, [.ref qn1, .int (nI 0), .int (nI 0), .int (nI 0)])), (qn1, .inl (T 1, 16, .inl (fun _ => 0)))]) [0, 1] rfl
  have hD9 := hD.sub (ws' := [(t0, .inr (4, [.ref qn1, .int (nI 0), .int (nI 0), .int (nI 0)])), (qn1, .inl (T 1, 16, .inl (fun _ => 0)))]) [0, 1] (by decide) rfl
  exact W.vret hx hb hr (fun t ht hW => ⟨⟨qn1, rfl, trivial, (by rw [ht]; exact hP9), va_K.moved hW.alike hK, hD9⟩, hS.F ht⟩) hS.2.2 dJ5_init_d00df_38
set_option maxHeartbeats 4000000 in
set_option maxRecDepth 100000 in
theorem c_J4_init (l : Launch) (D : va_G) (T : Nat → ClassId) (g : Nat → Nat) (sz : Nat) (t0 : Nat) : MU l yJ4_init_da8c8 wsJ4_init_da8c8 ({ frames := 2, cells := 1, slots := 16, locals := 61 } : Room) D T g [.ref t0] [(t0, .inr (4, [.null, .int (nI 0), .int (nI 0), .int (nI 0)]))] sz (fun u : Nat => none) (fun u : Nat => True) (fun u : Nat => [(t0, .inr (4, [.ref u, .int (nI 0), .int (nI 0), .int (nI 0)])), (u, .inl (T 1, 16, .inl (fun _ => 0)))]) 1 16 := by
  refine Met.ofW (cc := cJ4_init_da8c8) (maxL := 1) (ret := none) (by decide) rfl ?_
  intro p e s m args below meth c s₁ B hml hv
  obtain ⟨rfl, hsz, hP, hK, hD0, hG⟩ := hv
  have hx := B.exec
  have hb := B.bytes
  have hr := B.returns
  have hts := atoms_spec (ws := wsJ4_init_da8c8) B.pre
  have hown : s.vm.findClass RJ4 = some m.cls := findClass_of_methodNamed B.named
  have hlocks := B.notSynchronized
  have hin : meth.name = "<init>" := (name_of_methodNamed B.named B.method).1
  subst hsz
  have hD := hD0.self (sz := s.heap.size)
  generalize hAe : va_A [(t0, .inr (4, [.null, .int (nI 0), .int (nI 0), .int (nI 0)]))] s.heap.size = A at hD hG ⊢
  have hA : ∀ q : Nat, s.heap.size ≤ q → A q := fun q h => by rw [← hAe]; exact Or.inr h
  have hS : va_S A s.heap s.heap [] := va_S.rf
  have hP : va_P D cls [(t0, .inr (4, [.null, .int (nI 0), .int (nI 0), .int (nI 0)]))] s.heap := hP
  have hl := lv_entry ([.ref t0]) (n := 1) (Nat.le_of_ble_eq_true rfl)
  rw [lg_entry_eq]
  generalize (lg_sl ([.ref t0]) ++ List.replicate (1 - (lg_sl ([.ref t0])).length) Slot.unset).toArray = ls at hl ⊢
  have hl : lv_has ls 1 [(0, .ref t0)] := hl
  refine lv_aload_n hx hb dJ4_init_da8c8_0 rfl (lv_at hl 0 rfl) ?_
  refine lv_bipush (v := (nI 16)) hx hb dJ4_init_da8c8_1 (by decide +kernel) ?_
  refine mu_I (As := [.int (nI 16)]) (rest := []) (wc := [(t0, .inr (4, [.null, .int (nI 0), .int (nI 0), .int (nI 0)]))]) (wr := []) ⟨hx, hb, hml, hown, hts⟩ (c_J5_init l D T g s.heap.size t0) (cwI 1 hts gJ4_init_da8c8_J5_init_d00df rfl rfl rfl (hts _ (List.mem_of_getElem? (i := 3) rfl)) (hts _ (List.mem_of_getElem? (i := 1) rfl)) (hts _ (List.mem_of_getElem? (i := 2) rfl)) rfl (by decide +kernel) ⟨Nat.le_of_ble_eq_true rfl, Nat.le_of_ble_eq_true rfl⟩) hP hD hK hG hS hA [0] [] rfl (by decide) rfl (by decide) (by decide) ⟨Nat.le_of_ble_eq_true rfl, Nat.le_of_ble_eq_true rfl⟩ rfl hl.1 (Nat.le_of_ble_eq_true rfl) dJ4_init_da8c8_3 rfl (fun u H locs hq2 hP hD hS => ?_)
  obtain ⟨tv_1, hu9⟩ : ∃ z, z = u := ⟨_, rfl⟩
  subst hu9
  refine W.widen (k := 1) (n := 16) (Nat.le_of_eq (Nat.zero_add _)) (Nat.le_of_eq (Nat.zero_add _)) ?_
  have hP : va_P D cls [(t0, .inr (4, [.ref tv_1, .int (nI 0), .int (nI 0), .int (nI 0)])), (tv_1, .inl (T 1, 16, .inl (fun _ => 0)))] H := hP
  have hD : va_D A [(t0, .inr (4, [.ref tv_1, .int (nI 0), .int (nI 0), .int (nI 0)])), (tv_1, .inl (T 1, 16, .inl (fun _ => 0)))] := hD
  refine W.eq (g2 := F0 m 6 ls []) rfl ?_
  have hP9 := hP.sub (ws' := [(t0, .inr (4, [.ref tv_1, .int (nI 0), .int (nI 0), .int (nI 0)])), (tv_1, .inl (T 1, 16, .inl (fun _ => 0)))]) [0, 1] rfl
  have hD9 := hD.sub (ws' := [(t0, .inr (4, [.ref tv_1, .int (nI 0), .int (nI 0), .int (nI 0)])), (tv_1, .inl (T 1, 16, .inl (fun _ => 0)))]) [0, 1] (by decide) rfl
  exact W.vret hx hb hr (fun t ht hW => ⟨⟨tv_1, rfl, trivial, (by rw [ht]; exact hP9), va_K.moved hW.alike hK, hD9⟩, hS.F ht⟩) hS.2.2 dJ4_init_da8c8_6
set_option maxHeartbeats 4000000 in
set_option maxRecDepth 100000 in
/-- a new reference -/
theorem c_X6_init (l : Launch) (D : va_G) (T : Nat → ClassId) (g : Nat → Nat) (sz : Nat) (m0 : Nat) : MU l yX6_init wsX6_init ({ frames := 1, cells := 4, slots := 2846, locals := 40 } : Room) D T g [.ref m0] [(m0, .inr (3, [.null, .null, .null, .int (nI 0), .int (nI 0), .null]))] sz (fun u : Nat × Nat × Nat × Nat => none) (fun u : Nat × Nat × Nat × Nat => True) (fun u : Nat × Nat × Nat × Nat => [(m0, .inr (3, [.ref u.1, .ref u.2.1, .ref u.2.2.1, .int (nI 0), .int (nI 0), .ref u.2.2.2])), (u.1, .inl (T 0, 1920, .inl (fun _ => 0))), (u.2.1, .inl (T 0, 6, .inl (fun _ => 0))), (u.2.2.1, .inl (T 0, 600, .inl (fun _ => 0))), (u.2.2.2, .inl (T 0, 320, .inl (fun _ => 0)))]) 4 2846 := by
  refine Met.ofW (cc := cX6_init) (maxL := 1) (ret := none) (by decide) rfl ?_
  intro p e s m args below meth c s₁ B hml hv
  obtain ⟨rfl, hsz, hP, hK, hD0, hG⟩ := hv
  have hx := B.exec
  have hb := B.bytes
  have hr := B.returns
  have hts := atoms_spec (ws := wsX6_init) B.pre
  have hown : s.vm.findClass RX6 = some m.cls := findClass_of_methodNamed B.named
  have hlocks := B.notSynchronized
  have hin : meth.name = "<init>" := (name_of_methodNamed B.named B.method).1
  have hi_X6 : ∀ w ∈ wsX60, w ∈ wsX6_init := by decide +kernel
  subst hsz
  have hD := hD0.self (sz := s.heap.size)
  generalize hAe : va_A [(m0, .inr (3, [.null, .null, .null, .int (nI 0), .int (nI 0), .null]))] s.heap.size = A at hD hG ⊢
  have hA : ∀ q : Nat, s.heap.size ≤ q → A q := fun q h => by rw [← hAe]; exact Or.inr h
  have hS : va_S A s.heap s.heap [] := va_S.rf
  have hP : va_P D cls [(m0, .inr (3, [.null, .null, .null, .int (nI 0), .int (nI 0), .null]))] s.heap := hP
  have hl := lv_entry ([.ref m0]) (n := 1) (Nat.le_of_ble_eq_true rfl)
  rw [lg_entry_eq]
  generalize (lg_sl ([.ref m0]) ++ List.replicate (1 - (lg_sl ([.ref m0])).length) Slot.unset).toArray = ls at hl ⊢
  have hl : lv_has ls 1 [(0, .ref m0)] := hl
  refine lv_aload_n hx hb dX6_init_0 rfl (lv_at hl 0 rfl) ?_
  refine W.objInit hx hb hown (hts _ (List.mem_of_getElem? (i := 1) rfl)) (hts _ (List.mem_of_getElem? (i := 2) rfl)) (hts _ (List.mem_of_getElem? (i := 3) rfl)) rfl (hl.1.trans hml.symm) rfl dX6_init_1 (Nat.le_of_ble_eq_true rfl) (Nat.le_of_ble_eq_true rfl) ?_
  refine W.eq (g2 := F0 m 4 ls []) rfl ?_
  refine lv_aload_n hx hb dX6_init_4 rfl (lv_at hl 0 rfl) ?_
  refine lv_sipush (v := (nI 1920)) hx hb dX6_init_5 (by decide +kernel) ?_
  refine va_newa (atype := .int) (ty := .int) (N' := 1920) (a0 := (1920, .inl (fun _ => 0))) hx hb (hts _ (List.mem_of_getElem? (i := 4) rfl)) rfl hK hP hD hS hA (fun _ => rfl) (nI_pos (by omega)) (nI_clamp (by omega)) (by decide) (Nat.le_of_ble_eq_true rfl) (Nat.le_of_ble_eq_true rfl) dX6_init_8 (fun qn1 cA9 H hK9 hP hD hS => ?_)
  have hcA := newa_id0 hK9
  subst hcA
  have hP : va_P D cls [(m0, .inr (3, [.null, .null, .null, .int (nI 0), .int (nI 0), .null])), (qn1, .inl (T 0, 1920, .inl (fun _ => 0)))] H := hP
  have hD : va_D A [(m0, .inr (3, [.null, .null, .null, .int (nI 0), .int (nI 0), .null])), (qn1, .inl (T 0, 1920, .inl (fun _ => 0)))] := hD
  refine W.widen (k := 1) (n := 1920) (Nat.le_of_ble_eq_true rfl) (Nat.le_of_ble_eq_true rfl) ?_
  refine va_put (D := D) (ci := 3) (v := .ref qn1) (ty := .array .int) (C := RX6) (T := TX6) (N := 6) hx hb hts hi_X6 tyX6 tyX6_ok nmX6 hown hK hP hD hS 0 rfl rfl 0 (by decide) (hts _ (List.mem_of_getElem? (i := 5) rfl)) (fun _ h9 => h9) rfl (by decide +kernel) rfl rfl (Nat.le_of_ble_eq_true rfl) dX6_init_10 (fun H locs hP hD hS => ?_)
  have hP : va_P D cls [(m0, .inr (3, [.ref qn1, .null, .null, .int (nI 0), .int (nI 0), .null])), (qn1, .inl (T 0, 1920, .inl (fun _ => 0)))] H := hP
  have hD : va_D A [(m0, .inr (3, [.ref qn1, .null, .null, .int (nI 0), .int (nI 0), .null])), (qn1, .inl (T 0, 1920, .inl (fun _ => 0)))] := hD
  refine lv_aload_n hx hb dX6_init_13 rfl (lv_at hl 0 rfl) ?_
  refine lv_bipush (v := (nI 6)) hx hb dX6_init_14 (by decide +kernel) ?_
  refine va_newa (atype := .int) (ty := .int) (N' := 6) (a0 := (6, .inl (fun _ => 0))) hx hb (hts _ (List.mem_of_getElem? (i := 4) rfl)) rfl hK hP hD hS hA (fun _ => rfl) (nI_pos (by omega)) (nI_clamp (by omega)) (by decide) (Nat.le_of_ble_eq_true rfl) (Nat.le_of_ble_eq_true rfl) dX6_init_16 (fun qn2 cA9 H hK9 hP hD hS => ?_)
  have hcA := newa_id0 hK9
  subst hcA
  have hP : va_P D cls [(m0, .inr (3, [.ref qn1, .null, .null, .int (nI 0), .int (nI 0), .null])), (qn1, .inl (T 0, 1920, .inl (fun _ => 0))), (qn2, .inl (T 0, 6, .inl (fun _ => 0)))] H := hP
  have hD : va_D A [(m0, .inr (3, [.ref qn1, .null, .null, .int (nI 0), .int (nI 0), .null])), (qn1, .inl (T 0, 1920, .inl (fun _ => 0))), (qn2, .inl (T 0, 6, .inl (fun _ => 0)))] := hD
  refine W.widen (k := 2) (n := 1926) (Nat.le_of_ble_eq_true rfl) (Nat.le_of_ble_eq_true rfl) ?_
  refine va_put (D := D) (ci := 3) (v := .ref qn2) (ty := .array .int) (C := RX6) (T := TX6) (N := 6) hx hb hts hi_X6 tyX6 tyX6_ok nmX6 hown hK hP hD hS 0 rfl rfl 1 (by decide) (hts _ (List.mem_of_getElem? (i := 6) rfl)) (fun _ h9 => h9) rfl (by decide +kernel) rfl rfl (Nat.le_of_ble_eq_true rfl) dX6_init_18 (fun H locs hP hD hS => ?_)
  have hP : va_P D cls [(m0, .inr (3, [.ref qn1, .ref qn2, .null, .int (nI 0), .int (nI 0), .null])), (qn1, .inl (T 0, 1920, .inl (fun _ => 0))), (qn2, .inl (T 0, 6, .inl (fun _ => 0)))] H := hP
  have hD : va_D A [(m0, .inr (3, [.ref qn1, .ref qn2, .null, .int (nI 0), .int (nI 0), .null])), (qn1, .inl (T 0, 1920, .inl (fun _ => 0))), (qn2, .inl (T 0, 6, .inl (fun _ => 0)))] := hD
  refine lv_aload_n hx hb dX6_init_21 rfl (lv_at hl 0 rfl) ?_
  refine lv_sipush (v := (nI 600)) hx hb dX6_init_22 (by decide +kernel) ?_
  refine va_newa (atype := .int) (ty := .int) (N' := 600) (a0 := (600, .inl (fun _ => 0))) hx hb (hts _ (List.mem_of_getElem? (i := 4) rfl)) rfl hK hP hD hS hA (fun _ => rfl) (nI_pos (by omega)) (nI_clamp (by omega)) (by decide) (Nat.le_of_ble_eq_true rfl) (Nat.le_of_ble_eq_true rfl) dX6_init_25 (fun qn3 cA9 H hK9 hP hD hS => ?_)
  have hcA := newa_id0 hK9
  subst hcA
  have hP : va_P D cls [(m0, .inr (3, [.ref qn1, .ref qn2, .null, .int (nI 0), .int (nI 0), .null])), (qn1, .inl (T 0, 1920, .inl (fun _ => 0))), (qn2, .inl (T 0, 6, .inl (fun _ => 0))), (qn3, .inl (T 0, 600, .inl (fun _ => 0)))] H := hP
  have hD : va_D A [(m0, .inr (3, [.ref qn1, .ref qn2, .null, .int (nI 0), .int (nI 0), .null])), (qn1, .inl (T 0, 1920, .inl (fun _ => 0))), (qn2, .inl (T 0, 6, .inl (fun _ => 0))), (qn3, .inl (T 0, 600, .inl (fun _ => 0)))] := hD
  refine W.widen (k := 3) (n := 2526) (Nat.le_of_ble_eq_true rfl) (Nat.le_of_ble_eq_true rfl) ?_
  refine va_put (D := D) (ci := 3) (v := .ref qn3) (ty := .array .int) (C := RX6) (T := TX6) (N := 6) hx hb hts hi_X6 tyX6 tyX6_ok nmX6 hown hK hP hD hS 0 rfl rfl 2 (by decide) (hts _ (List.mem_of_getElem? (i := 7) rfl)) (fun _ h9 => h9) rfl (by decide +kernel) rfl rfl (Nat.le_of_ble_eq_true rfl) dX6_init_27 (fun H locs hP hD hS => ?_)
  have hP : va_P D cls [(m0, .inr (3, [.ref qn1, .ref qn2, .ref qn3, .int (nI 0), .int (nI 0), .null])), (qn1, .inl (T 0, 1920, .inl (fun _ => 0))), (qn2, .inl (T 0, 6, .inl (fun _ => 0))), (qn3, .inl (T 0, 600, .inl (fun _ => 0)))] H := hP
  have hD : va_D A [(m0, .inr (3, [.ref qn1, .ref qn2, .ref qn3, .int (nI 0), .int (nI 0), .null])), (qn1, .inl (T 0, 1920, .inl (fun _ => 0))), (qn2, .inl (T 0, 6, .inl (fun _ => 0))), (qn3, .inl (T 0, 600, .inl (fun _ => 0)))] := hD
  refine lv_aload_n hx hb dX6_init_30 rfl (lv_at hl 0 rfl) ?_
  refine lv_sipush (v := (nI 320)) hx hb dX6_init_31 (by decide +kernel) ?_
  refine va_newa (atype := .int) (ty := .int) (N' := 320) (a0 := (320, .inl (fun _ => 0))) hx hb (hts _ (List.mem_of_getElem? (i := 4) rfl)) rfl hK hP hD hS hA (fun _ => rfl) (nI_pos (by omega)) (nI_clamp (by omega)) (by decide) (Nat.le_of_ble_eq_true rfl) (Nat.le_of_ble_eq_true rfl) dX6_init_34 (fun qn4 cA9 H hK9 hP hD hS => ?_)
  have hcA := newa_id0 hK9
  subst hcA
  have hP : va_P D cls [(m0, .inr (3, [.ref qn1, .ref qn2, .ref qn3, .int (nI 0), .int (nI 0), .null])), (qn1, .inl (T 0, 1920, .inl (fun _ => 0))), (qn2, .inl (T 0, 6, .inl (fun _ => 0))), (qn3, .inl (T 0, 600, .inl (fun _ => 0))), (qn4, .inl (T 0, 320, .inl (fun _ => 0)))] H := hP
  have hD : va_D A [(m0, .inr (3, [.ref qn1, .ref qn2, .ref qn3, .int (nI 0), .int (nI 0), .null])), (qn1, .inl (T 0, 1920, .inl (fun _ => 0))), (qn2, .inl (T 0, 6, .inl (fun _ => 0))), (qn3, .inl (T 0, 600, .inl (fun _ => 0))), (qn4, .inl (T 0, 320, .inl (fun _ => 0)))] := hD
  refine W.widen (k := 4) (n := 2846) (Nat.le_of_ble_eq_true rfl) (Nat.le_of_ble_eq_true rfl) ?_
  refine va_put (D := D) (ci := 3) (v := .ref qn4) (ty := .array .int) (C := RX6) (T := TX6) (N := 6) hx hb hts hi_X6 tyX6 tyX6_ok nmX6 hown hK hP hD hS 0 rfl rfl 5 (by decide) (hts _ (List.mem_of_getElem? (i := 8) rfl)) (fun _ h9 => h9) rfl (by decide +kernel) rfl rfl (Nat.le_of_ble_eq_true rfl) dX6_init_36 (fun H locs hP hD hS => ?_)
  have hP : va_P D cls [(m0, .inr (3, [.ref qn1, .ref qn2, .ref qn3, .int (nI 0), .int (nI 0), .ref qn4])), (qn1, .inl (T 0, 1920, .inl (fun _ => 0))), (qn2, .inl (T 0, 6, .inl (fun _ => 0))), (qn3, .inl (T 0, 600, .inl (fun _ => 0))), (qn4, .inl (T 0, 320, .inl (fun _ => 0)))] H := hP
  have hD : va_D A [(m0, .inr (3, [.ref qn1, .ref qn2, .ref qn3, .int (nI 0), .int (nI 0), .ref qn4])), (qn1, .inl (T 0, 1920, .inl (fun _ => 0))), (qn2, .inl (T 0, 6, .inl (fun _ => 0))), (qn3, .inl (T 0, 600, .inl (fun _ => 0))), (qn4, .inl (T 0, 320, .inl (fun _ => 0)))] := hD
  have hP9 := hP.sub (ws' := [(m0, .inr (3, [.ref qn1, .ref qn2, .ref qn3, .int (nI 0), .int (nI 0), .ref qn4])), (qn1, .inl (T 0, 1920, .inl (fun _ => 0))), (qn2, .inl (T 0, 6, .inl (fun _ => 0))), (qn3, .inl (T 0, 600, .inl (fun _ => 0))), (qn4, .inl (T 0, 320, .inl (fun _ => 0)))]) [0, 1, 2, 3, 4] rfl
  have hD9 := hD.sub (ws' := [(m0, .inr (3, [.ref qn1, .ref qn2, .ref qn3, .int (nI 0), .int (nI 0), .ref qn4])), (qn1, .inl (T 0, 1920, .inl (fun _ => 0))), (qn2, .inl (T 0, 6, .inl (fun _ => 0))), (qn3, .inl (T 0, 600, .inl (fun _ => 0))), (qn4, .inl (T 0, 320, .inl (fun _ => 0)))]) [0, 1, 2, 3, 4] (by decide) rfl
  exact W.vret hx hb hr (fun t ht hW => ⟨⟨(qn1, qn2, qn3, qn4), rfl, trivial, (by rw [ht]; exact hP9), va_K.moved hW.alike hK, hD9⟩, hS.F ht⟩) hS.2.2 dX6_init_39
