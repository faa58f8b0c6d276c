set_option maxHeartbeats 4000000 in
set_option maxRecDepth 100000 in
/-- a byte of a row -/
theorem c_X2_at (l : Launch) (D : va_G) (T : Nat → ClassId) (g : Nat → Nat) (h0 : Nat) (q0 : Nat) (f : Nat → Int32) (n : Nat) (i : Nat) (b : Nat → Nat) (hb9 : RB f n b) (hi : i < 2 ^ 31) : RO l yX2_at wsX2_at ({ frames := 0, cells := 0, slots := 0, locals := 0 } : Room) D T g [.ref h0, .int (nI i)] [(h0, .inr (0, [.ref q0, .int (nI n)])), (q0, .inl (T 0, 440, .inl f))] (.int (nI (atN n b i))) := by
  refine Met.ofW (cc := cX2_at) (maxL := 2) (ret := (some .int)) (by decide) rfl ?_
  intro p e s m args below meth c s₁ B hml hv
  obtain ⟨rfl, hP, hK, hG⟩ := hv
  have hx := B.exec
  have hb := B.bytes
  have hr := B.returns
  have hts := atoms_spec (ws := wsX2_at) B.pre
  have hown : s.vm.findClass RX2 = some m.cls := findClass_of_methodNamed B.named
  have hlocks := B.notSynchronized
  have hi_X2 : ∀ w ∈ wsX20, w ∈ wsX2_at := by decide +kernel
  have hS : va_S (fun _ => False) s.heap s.heap [] := va_S.rf
  have hl := lv_entry ([.ref h0, .int (nI i)]) (n := 2) (Nat.le_of_ble_eq_true rfl)
  rw [lg_entry_eq]
  generalize (lg_sl ([.ref h0, .int (nI i)]) ++ List.replicate (2 - (lg_sl ([.ref h0, .int (nI i)])).length) Slot.unset).toArray = ls at hl ⊢
  have hl : lv_has ls 2 [(0, .ref h0), (1, .int (nI i))] := hl
  have hn := hb9.1
  refine lv_iload_n hx hb dX2_at_0 rfl (lv_at hl 1 rfl) ?_
  refine ln_if_lt_f (tgt := 30) hx hb (by omega) dX2_at_1 (by decide) ?_
  refine lv_iload_n hx hb dX2_at_4 rfl (lv_at hl 1 rfl) ?_
  refine lv_aload_n hx hb dX2_at_5 rfl (lv_at hl 0 rfl) ?_
  refine va_get (D := D) (ci := 0) (v := .int (nI n)) (C := RX2) (T := TX2) (N := 2) hx hb hts hi_X2 hown hK hP 0 rfl rfl 1 (by decide) (hts _ (List.mem_of_getElem? (i := 1) rfl)) (fun _ h9 => h9) rfl dX2_at_6 ?_
  refine ln_icmp_ge (tgt := 30) hx hb ⟨by omega, by omega⟩ dX2_at_9 (by decide) (fun c_9 => ?_) (fun c_9 => ?_)
  · refine lv_iconst (v := (nI 0)) hx hb dX2_at_30 (by decide +kernel) ?_
    exact W.iret (v := (nI 0)) hx hb hr (fun t ht hW => ⟨(congrArg (fun z => Outcome.returned (some (Value.int z))) (show (nI 0) = (nI (atN n b i)) from congrArg nI (atN_out (by omega)).symm)), ht⟩) (fun q h => nomatch h) dX2_at_31
  · refine lv_iload_n hx hb dX2_at_12 rfl (lv_at hl 1 rfl) ?_
    refine lv_aload_n hx hb dX2_at_13 rfl (lv_at hl 0 rfl) ?_
    refine va_get (D := D) (ci := 0) (v := .ref q0) (C := RX2) (T := TX2) (N := 2) hx hb hts hi_X2 hown hK hP 0 rfl rfl 0 (by decide) (hts _ (List.mem_of_getElem? (i := 2) rfl)) (fun _ h9 => h9) rfl dX2_at_14 ?_
    refine va_alen hx hb hK hP 1 0 rfl rfl (v := nI 440) rfl dX2_at_17 ?_
    refine ln_icmp_ge_f (tgt := 30) hx hb ⟨by omega, by omega⟩ (by omega) dX2_at_18 (by decide) ?_
    refine lv_aload_n hx hb dX2_at_21 rfl (lv_at hl 0 rfl) ?_
    refine va_get (D := D) (ci := 0) (v := .ref q0) (C := RX2) (T := TX2) (N := 2) hx hb hts hi_X2 hown hK hP 0 rfl rfl 0 (by decide) (hts _ (List.mem_of_getElem? (i := 2) rfl)) (fun _ h9 => h9) rfl dX2_at_22 ?_
    refine lv_iload_n hx hb dX2_at_25 rfl (lv_at hl 1 rfl) ?_
    refine ln_iald hx hb hK hP 1 0 rfl rfl ⟨by omega, by omega⟩ dX2_at_26 ?_
    rw [show f i = nI (b i) from (hb9.2 i (by omega)).1]
    refine lv_goto (tgt := 31) hx hb dX2_at_27 (by decide) ?_
    exact W.iret (v := (nI (b i))) hx hb hr (fun t ht hW => ⟨(congrArg (fun z => Outcome.returned (some (Value.int z))) (show (nI (b i)) = (nI (atN n b i)) from congrArg nI (atN_in (by omega)).symm)), ht⟩) (fun q h => nomatch h) dX2_at_31
set_option maxHeartbeats 4000000 in
set_option maxRecDepth 100000 in
/-- a number of a row -/
theorem c_X2_atI (l : Launch) (D : va_G) (T : Nat → ClassId) (g : Nat → Nat) (h0 : Nat) (q0 : Nat) (f : Nat → Int32) (n : Nat) (i : Nat) (hi : i < n ∧ n ≤ 440) : RO l yX2_at wsX2_at ({ frames := 0, cells := 0, slots := 0, locals := 0 } : Room) D T g [.ref h0, .int (nI i)] [(h0, .inr (0, [.ref q0, .int (nI n)])), (q0, .inl (T 0, 440, .inl f))] (.int (f i)) := by
  refine Met.ofW (cc := cX2_at) (maxL := 2) (ret := (some .int)) (by decide) rfl ?_
  intro p e s m args below meth c s₁ B hml hv
  obtain ⟨rfl, hP, hK, hG⟩ := hv
  have hx := B.exec
  have hb := B.bytes
  have hr := B.returns
  have hts := atoms_spec (ws := wsX2_at) B.pre
  have hown : s.vm.findClass RX2 = some m.cls := findClass_of_methodNamed B.named
  have hlocks := B.notSynchronized
  have hi_X2 : ∀ w ∈ wsX20, w ∈ wsX2_at := by decide +kernel
  have hS : va_S (fun _ => False) s.heap s.heap [] := va_S.rf
  have hl := lv_entry ([.ref h0, .int (nI i)]) (n := 2) (Nat.le_of_ble_eq_true rfl)
  rw [lg_entry_eq]
  generalize (lg_sl ([.ref h0, .int (nI i)]) ++ List.replicate (2 - (lg_sl ([.ref h0, .int (nI i)])).length) Slot.unset).toArray = ls at hl ⊢
  have hl : lv_has ls 2 [(0, .ref h0), (1, .int (nI i))] := hl
  refine lv_iload_n hx hb dX2_at_0 rfl (lv_at hl 1 rfl) ?_
  refine ln_if_lt_f (tgt := 30) hx hb (by omega) dX2_at_1 (by decide) ?_
  refine lv_iload_n hx hb dX2_at_4 rfl (lv_at hl 1 rfl) ?_
  refine lv_aload_n hx hb dX2_at_5 rfl (lv_at hl 0 rfl) ?_
  refine va_get (D := D) (ci := 0) (v := .int (nI n)) (C := RX2) (T := TX2) (N := 2) hx hb hts hi_X2 hown hK hP 0 rfl rfl 1 (by decide) (hts _ (List.mem_of_getElem? (i := 1) rfl)) (fun _ h9 => h9) rfl dX2_at_6 ?_
  refine ln_icmp_ge_f (tgt := 30) hx hb ⟨by omega, by omega⟩ (by omega) dX2_at_9 (by decide) ?_
  refine lv_iload_n hx hb dX2_at_12 rfl (lv_at hl 1 rfl) ?_
  refine lv_aload_n hx hb dX2_at_13 rfl (lv_at hl 0 rfl) ?_
  refine va_get (D := D) (ci := 0) (v := .ref q0) (C := RX2) (T := TX2) (N := 2) hx hb hts hi_X2 hown hK hP 0 rfl rfl 0 (by decide) (hts _ (List.mem_of_getElem? (i := 2) rfl)) (fun _ h9 => h9) rfl dX2_at_14 ?_
  refine va_alen hx hb hK hP 1 0 rfl rfl (v := nI 440) rfl dX2_at_17 ?_
  refine ln_icmp_ge_f (tgt := 30) hx hb ⟨by omega, by omega⟩ (by omega) dX2_at_18 (by decide) ?_
  refine lv_aload_n hx hb dX2_at_21 rfl (lv_at hl 0 rfl) ?_
  refine va_get (D := D) (ci := 0) (v := .ref q0) (C := RX2) (T := TX2) (N := 2) hx hb hts hi_X2 hown hK hP 0 rfl rfl 0 (by decide) (hts _ (List.mem_of_getElem? (i := 2) rfl)) (fun _ h9 => h9) rfl dX2_at_22 ?_
  refine lv_iload_n hx hb dX2_at_25 rfl (lv_at hl 1 rfl) ?_
  refine ln_iald hx hb hK hP 1 0 rfl rfl ⟨by omega, by omega⟩ dX2_at_26 ?_
  refine lv_goto (tgt := 31) hx hb dX2_at_27 (by decide) ?_
  exact W.iret (v := (f i)) hx hb hr (fun t ht hW => ⟨(congrArg (fun z => Outcome.returned (some (Value.int z))) (show (f i) = (f i) from rfl)), ht⟩) (fun q h => nomatch h) dX2_at_31
set_option maxHeartbeats 4000000 in
set_option maxRecDepth 100000 in
theorem c_X2_clear (l : Launch) (D : va_G) (T : Nat → ClassId) (g : Nat → Nat) (sz : Nat) (h0 : Nat) (q0 : Nat) (f : Nat → Int32) (n : Nat) : MU l yX2_clear wsX2_clear ({ frames := 0, cells := 0, slots := 0, locals := 0 } : Room) D T g [.ref h0] [(h0, .inr (0, [.ref q0, .int (nI n)])), (q0, .inl (T 0, 440, .inl f))] sz (fun u : Unit => none) (fun u : Unit => True) (fun u : Unit => [(h0, .inr (0, [.ref q0, .int (nI 0)])), (q0, .inl (T 0, 440, .inl f))]) 0 0 := by
  refine Met.ofW (cc := cX2_clear) (maxL := 1) (ret := none) (by decide) rfl ?_
  intro p e s m args below meth c s₁ B hml hv
  obtain ⟨rfl, hsz, hP, hK, hD0, hG⟩ := hv
  have hx := B.exec
  have hb := B.bytes
  have hr := B.returns
  have hts := atoms_spec (ws := wsX2_clear) B.pre
  have hown : s.vm.findClass RX2 = some m.cls := findClass_of_methodNamed B.named
  have hlocks := B.notSynchronized
  have hi_X2 : ∀ w ∈ wsX20, w ∈ wsX2_clear := by decide +kernel
  subst hsz
  have hD := hD0.self (sz := s.heap.size)
  generalize hAe : va_A [(h0, .inr (0, [.ref q0, .int (nI n)])), (q0, .inl (T 0, 440, .inl f))] s.heap.size = A at hD hG ⊢
  have hA : ∀ q : Nat, s.heap.size ≤ q → A q := fun q h => by rw [← hAe]; exact Or.inr h
  have hS : va_S A s.heap s.heap [] := va_S.rf
  have hP : va_P D cls [(h0, .inr (0, [.ref q0, .int (nI n)])), (q0, .inl (T 0, 440, .inl f))] s.heap := hP
  have hl := lv_entry ([.ref h0]) (n := 1) (Nat.le_of_ble_eq_true rfl)
  rw [lg_entry_eq]
  generalize (lg_sl ([.ref h0]) ++ List.replicate (1 - (lg_sl ([.ref h0])).length) Slot.unset).toArray = ls at hl ⊢
  have hl : lv_has ls 1 [(0, .ref h0)] := hl
  refine lv_aload_n hx hb dX2_clear_0 rfl (lv_at hl 0 rfl) ?_
  refine lv_iconst (v := (nI 0)) hx hb dX2_clear_1 (by decide +kernel) ?_
  refine va_put (D := D) (ci := 0) (v := .int (nI 0)) (ty := .int) (C := RX2) (T := TX2) (N := 2) hx hb hts hi_X2 tyX2 tyX2_ok nmX2 hown hK hP hD hS 0 rfl rfl 1 (by decide) (hts _ (List.mem_of_getElem? (i := 1) rfl)) (fun _ h9 => h9) rfl (by decide +kernel) rfl rfl (Nat.le_of_ble_eq_true rfl) dX2_clear_2 (fun H locs hP hD hS => ?_)
  have hP : va_P D cls [(h0, .inr (0, [.ref q0, .int (nI 0)])), (q0, .inl (T 0, 440, .inl f))] H := hP
  have hD : va_D A [(h0, .inr (0, [.ref q0, .int (nI 0)])), (q0, .inl (T 0, 440, .inl f))] := hD
  have hP9 := hP.sub (ws' := [(h0, .inr (0, [.ref q0, .int (nI 0)])), (q0, .inl (T 0, 440, .inl f))]) [0, 1] rfl
  have hD9 := hD.sub (ws' := [(h0, .inr (0, [.ref q0, .int (nI 0)])), (q0, .inl (T 0, 440, .inl f))]) [0, 1] (by decide) rfl
  exact W.vret hx hb hr (fun t ht hW => ⟨⟨(), rfl, trivial, (by rw [ht]; exact hP9), va_K.moved hW.alike hK, hD9⟩, hS.F ht⟩) hS.2.2 dX2_clear_5
set_option maxHeartbeats 4000000 in
set_option maxRecDepth 100000 in
theorem c_X2_append (l : Launch) (D : va_G) (T : Nat → ClassId) (g : Nat → Nat) (sz : Nat) (h0 : Nat) (q0 : Nat) (f : Nat → Int32) (n : Nat) (x : Int32) (hn : n < 440) : MU l yX2_append wsX2_append ({ frames := 0, cells := 0, slots := 0, locals := 0 } : Room) D T g [.ref h0, .int x] [(h0, .inr (0, [.ref q0, .int (nI n)])), (q0, .inl (T 0, 440, .inl f))] sz (fun u : Unit => none) (fun u : Unit => True) (fun u : Unit => [(h0, .inr (0, [.ref q0, .int (nI (n + 1))])), (q0, .inl (T 0, 440, .inl (upd f n x)))]) 0 0 := by
  refine Met.ofW (cc := cX2_append) (maxL := 2) (ret := none) (by decide) rfl ?_
  intro p e s m args below meth c s₁ B hml hv
  obtain ⟨rfl, hsz, hP, hK, hD0, hG⟩ := hv
  have hx := B.exec
  have hb := B.bytes
  have hr := B.returns
  have hts := atoms_spec (ws := wsX2_append) B.pre
  have hown : s.vm.findClass RX2 = some m.cls := findClass_of_methodNamed B.named
  have hlocks := B.notSynchronized
  have hi_X2 : ∀ w ∈ wsX20, w ∈ wsX2_append := by decide +kernel
  subst hsz
  have hD := hD0.self (sz := s.heap.size)
  generalize hAe : va_A [(h0, .inr (0, [.ref q0, .int (nI n)])), (q0, .inl (T 0, 440, .inl f))] s.heap.size = A at hD hG ⊢
  have hA : ∀ q : Nat, s.heap.size ≤ q → A q := fun q h => by rw [← hAe]; exact Or.inr h
  have hS : va_S A s.heap s.heap [] := va_S.rf
  have hP : va_P D cls [(h0, .inr (0, [.ref q0, .int (nI n)])), (q0, .inl (T 0, 440, .inl f))] s.heap := hP
  have hl := lv_entry ([.ref h0, .int x]) (n := 2) (Nat.le_of_ble_eq_true rfl)
  rw [lg_entry_eq]
  generalize (lg_sl ([.ref h0, .int x]) ++ List.replicate (2 - (lg_sl ([.ref h0, .int x])).length) Slot.unset).toArray = ls at hl ⊢
  have hl : lv_has ls 2 [(0, .ref h0), (1, .int x)] := hl
  refine lv_aload_n hx hb dX2_append_0 rfl (lv_at hl 0 rfl) ?_
  refine va_get (D := D) (ci := 0) (v := .int (nI n)) (C := RX2) (T := TX2) (N := 2) hx hb hts hi_X2 hown hK hP 0 rfl rfl 1 (by decide) (hts _ (List.mem_of_getElem? (i := 1) rfl)) (fun _ h9 => h9) rfl dX2_append_1 ?_
  refine ln_if_lt_f (tgt := 39) hx hb (by omega) dX2_append_4 (by decide) ?_
  refine lv_aload_n hx hb dX2_append_7 rfl (lv_at hl 0 rfl) ?_
  refine va_get (D := D) (ci := 0) (v := .int (nI n)) (C := RX2) (T := TX2) (N := 2) hx hb hts hi_X2 hown hK hP 0 rfl rfl 1 (by decide) (hts _ (List.mem_of_getElem? (i := 1) rfl)) (fun _ h9 => h9) rfl dX2_append_8 ?_
  refine lv_aload_n hx hb dX2_append_11 rfl (lv_at hl 0 rfl) ?_
  refine va_get (D := D) (ci := 0) (v := .ref q0) (C := RX2) (T := TX2) (N := 2) hx hb hts hi_X2 hown hK hP 0 rfl rfl 0 (by decide) (hts _ (List.mem_of_getElem? (i := 2) rfl)) (fun _ h9 => h9) rfl dX2_append_12 ?_
  refine va_alen hx hb hK hP 1 0 rfl rfl (v := nI 440) rfl dX2_append_15 ?_
  refine ln_icmp_ge_f (tgt := 39) hx hb ⟨by omega, by omega⟩ (by omega) dX2_append_16 (by decide) ?_
  refine lv_aload_n hx hb dX2_append_19 rfl (lv_at hl 0 rfl) ?_
  refine va_get (D := D) (ci := 0) (v := .ref q0) (C := RX2) (T := TX2) (N := 2) hx hb hts hi_X2 hown hK hP 0 rfl rfl 0 (by decide) (hts _ (List.mem_of_getElem? (i := 2) rfl)) (fun _ h9 => h9) rfl dX2_append_20 ?_
  refine lv_aload_n hx hb dX2_append_23 rfl (lv_at hl 0 rfl) ?_
  refine va_get (D := D) (ci := 0) (v := .int (nI n)) (C := RX2) (T := TX2) (N := 2) hx hb hts hi_X2 hown hK hP 0 rfl rfl 1 (by decide) (hts _ (List.mem_of_getElem? (i := 1) rfl)) (fun _ h9 => h9) rfl dX2_append_24 ?_
  refine lv_iload_n hx hb dX2_append_27 rfl (lv_at hl 1 rfl) ?_
  refine ln_iast hx hb hK hP hD hS 1 0 rfl rfl ⟨by omega, by omega⟩ dX2_append_28 (fun H locs hP hD hS => ?_)
  have hP : va_P D cls [(h0, .inr (0, [.ref q0, .int (nI n)])), (q0, .inl (T 0, 440, .inl (upd f n x)))] H := hP
  have hD : va_D A [(h0, .inr (0, [.ref q0, .int (nI n)])), (q0, .inl (T 0, 440, .inl (upd f n x)))] := hD
  refine lv_aload_n hx hb dX2_append_29 rfl (lv_at hl 0 rfl) ?_
  refine lv_dup hx hb dX2_append_30 rfl ?_
  refine va_get (D := D) (ci := 0) (v := .int (nI n)) (C := RX2) (T := TX2) (N := 2) hx hb hts hi_X2 hown hK hP 0 rfl rfl 1 (by decide) (hts _ (List.mem_of_getElem? (i := 1) rfl)) (fun _ h9 => h9) rfl dX2_append_31 ?_
  refine lv_iconst (v := (nI 1)) hx hb dX2_append_34 (by decide +kernel) ?_
  refine ln_add hx hb dX2_append_35 ?_
  refine va_put (D := D) (ci := 0) (v := .int (nI (n + 1))) (ty := .int) (C := RX2) (T := TX2) (N := 2) hx hb hts hi_X2 tyX2 tyX2_ok nmX2 hown hK hP hD hS 0 rfl rfl 1 (by decide) (hts _ (List.mem_of_getElem? (i := 1) rfl)) (fun _ h9 => h9) rfl (by decide +kernel) rfl rfl (Nat.le_of_ble_eq_true rfl) dX2_append_36 (fun H locs hP hD hS => ?_)
  have hP : va_P D cls [(h0, .inr (0, [.ref q0, .int (nI (n + 1))])), (q0, .inl (T 0, 440, .inl (upd f n x)))] H := hP
  have hD : va_D A [(h0, .inr (0, [.ref q0, .int (nI (n + 1))])), (q0, .inl (T 0, 440, .inl (upd f n x)))] := hD
  have hP9 := hP.sub (ws' := [(h0, .inr (0, [.ref q0, .int (nI (n + 1))])), (q0, .inl (T 0, 440, .inl (upd f n x)))]) [0, 1] rfl
  have hD9 := hD.sub (ws' := [(h0, .inr (0, [.ref q0, .int (nI (n + 1))])), (q0, .inl (T 0, 440, .inl (upd f n x)))]) [0, 1] (by decide) rfl
  exact W.vret hx hb hr (fun t ht hW => ⟨⟨(), rfl, trivial, (by rw [ht]; exact hP9), va_K.moved hW.alike hK, hD9⟩, hS.F ht⟩) hS.2.2 dX2_append_39
set_option maxHeartbeats 4000000 in
set_option maxRecDepth 100000 in
theorem c_X2_replace (l : Launch) (D : va_G) (T : Nat → ClassId) (g : Nat → Nat) (sz : Nat) (h0 : Nat) (q0 : Nat) (f : Nat → Int32) (n : Nat) (i : Nat) (x : Int32) (hi : i < n ∧ n ≤ 440) : MU l yX2_replace wsX2_replace ({ frames := 0, cells := 0, slots := 0, locals := 0 } : Room) D T g [.ref h0, .int (nI i), .int x] [(h0, .inr (0, [.ref q0, .int (nI n)])), (q0, .inl (T 0, 440, .inl f))] sz (fun u : Unit => none) (fun u : Unit => True) (fun u : Unit => [(h0, .inr (0, [.ref q0, .int (nI n)])), (q0, .inl (T 0, 440, .inl (upd f i x)))]) 0 0 := by
  refine Met.ofW (cc := cX2_replace) (maxL := 3) (ret := none) (by decide) rfl ?_
  intro p e s m args below meth c s₁ B hml hv
  obtain ⟨rfl, hsz, hP, hK, hD0, hG⟩ := hv
  have hx := B.exec
  have hb := B.bytes
  have hr := B.returns
  have hts := atoms_spec (ws := wsX2_replace) B.pre
  have hown : s.vm.findClass RX2 = some m.cls := findClass_of_methodNamed B.named
  have hlocks := B.notSynchronized
  have hi_X2 : ∀ w ∈ wsX20, w ∈ wsX2_replace := by decide +kernel
  subst hsz
  have hD := hD0.self (sz := s.heap.size)
  generalize hAe : va_A [(h0, .inr (0, [.ref q0, .int (nI n)])), (q0, .inl (T 0, 440, .inl f))] s.heap.size = A at hD hG ⊢
  have hA : ∀ q : Nat, s.heap.size ≤ q → A q := fun q h => by rw [← hAe]; exact Or.inr h
  have hS : va_S A s.heap s.heap [] := va_S.rf
  have hP : va_P D cls [(h0, .inr (0, [.ref q0, .int (nI n)])), (q0, .inl (T 0, 440, .inl f))] s.heap := hP
  have hl := lv_entry ([.ref h0, .int (nI i), .int x]) (n := 3) (Nat.le_of_ble_eq_true rfl)
  rw [lg_entry_eq]
  generalize (lg_sl ([.ref h0, .int (nI i), .int x]) ++ List.replicate (3 - (lg_sl ([.ref h0, .int (nI i), .int x])).length) Slot.unset).toArray = ls at hl ⊢
  have hl : lv_has ls 3 [(0, .ref h0), (1, .int (nI i)), (2, .int x)] := hl
  refine lv_iload_n hx hb dX2_replace_0 rfl (lv_at hl 1 rfl) ?_
  refine ln_if_lt_f (tgt := 28) hx hb (by omega) dX2_replace_1 (by decide) ?_
  refine lv_iload_n hx hb dX2_replace_4 rfl (lv_at hl 1 rfl) ?_
  refine lv_aload_n hx hb dX2_replace_5 rfl (lv_at hl 0 rfl) ?_
  refine va_get (D := D) (ci := 0) (v := .int (nI n)) (C := RX2) (T := TX2) (N := 2) hx hb hts hi_X2 hown hK hP 0 rfl rfl 1 (by decide) (hts _ (List.mem_of_getElem? (i := 1) rfl)) (fun _ h9 => h9) rfl dX2_replace_6 ?_
  refine ln_icmp_ge_f (tgt := 28) hx hb ⟨by omega, by omega⟩ (by omega) dX2_replace_9 (by decide) ?_
  refine lv_iload_n hx hb dX2_replace_12 rfl (lv_at hl 1 rfl) ?_
  refine lv_aload_n hx hb dX2_replace_13 rfl (lv_at hl 0 rfl) ?_
  refine va_get (D := D) (ci := 0) (v := .ref q0) (C := RX2) (T := TX2) (N := 2) hx hb hts hi_X2 hown hK hP 0 rfl rfl 0 (by decide) (hts _ (List.mem_of_getElem? (i := 2) rfl)) (fun _ h9 => h9) rfl dX2_replace_14 ?_
  refine va_alen hx hb hK hP 1 0 rfl rfl (v := nI 440) rfl dX2_replace_17 ?_
  refine ln_icmp_ge_f (tgt := 28) hx hb ⟨by omega, by omega⟩ (by omega) dX2_replace_18 (by decide) ?_
  refine lv_aload_n hx hb dX2_replace_21 rfl (lv_at hl 0 rfl) ?_
  refine va_get (D := D) (ci := 0) (v := .ref q0) (C := RX2) (T := TX2) (N := 2) hx hb hts hi_X2 hown hK hP 0 rfl rfl 0 (by decide) (hts _ (List.mem_of_getElem? (i := 2) rfl)) (fun _ h9 => h9) rfl dX2_replace_22 ?_
  refine lv_iload_n hx hb dX2_replace_25 rfl (lv_at hl 1 rfl) ?_
  refine lv_iload_n hx hb dX2_replace_26 rfl (lv_at hl 2 rfl) ?_
  refine ln_iast hx hb hK hP hD hS 1 0 rfl rfl ⟨by omega, by omega⟩ dX2_replace_27 (fun H locs hP hD hS => ?_)
  have hP : va_P D cls [(h0, .inr (0, [.ref q0, .int (nI n)])), (q0, .inl (T 0, 440, .inl (upd f i x)))] H := hP
  have hD : va_D A [(h0, .inr (0, [.ref q0, .int (nI n)])), (q0, .inl (T 0, 440, .inl (upd f i x)))] := hD
  have hP9 := hP.sub (ws' := [(h0, .inr (0, [.ref q0, .int (nI n)])), (q0, .inl (T 0, 440, .inl (upd f i x)))]) [0, 1] rfl
  have hD9 := hD.sub (ws' := [(h0, .inr (0, [.ref q0, .int (nI n)])), (q0, .inl (T 0, 440, .inl (upd f i x)))]) [0, 1] (by decide) rfl
  exact W.vret hx hb hr (fun t ht hW => ⟨⟨(), rfl, trivial, (by rw [ht]; exact hP9), va_K.moved hW.alike hK, hD9⟩, hS.F ht⟩) hS.2.2 dX2_replace_28
set_option maxHeartbeats 4000000 in
set_option maxRecDepth 100000 in
theorem c_X2_cutTo (l : Launch) (D : va_G) (T : Nat → ClassId) (g : Nat → Nat) (sz : Nat) (h0 : Nat) (q0 : Nat) (f : Nat → Int32) (n : Nat) (m9 : Nat) (hm : m9 ≤ n ∧ n ≤ 440) : MU l yX2_cutTo wsX2_cutTo ({ frames := 0, cells := 0, slots := 0, locals := 0 } : Room) D T g [.ref h0, .int (nI m9)] [(h0, .inr (0, [.ref q0, .int (nI n)])), (q0, .inl (T 0, 440, .inl f))] sz (fun u : Unit => none) (fun u : Unit => True) (fun u : Unit => [(h0, .inr (0, [.ref q0, .int (nI m9)])), (q0, .inl (T 0, 440, .inl f))]) 0 0 := by
  refine Met.ofW (cc := cX2_cutTo) (maxL := 2) (ret := none) (by decide) rfl ?_
  intro p e s m args below meth c s₁ B hml hv
  obtain ⟨rfl, hsz, hP, hK, hD0, hG⟩ := hv
  have hx := B.exec
  have hb := B.bytes
  have hr := B.returns
  have hts := atoms_spec (ws := wsX2_cutTo) B.pre
  have hown : s.vm.findClass RX2 = some m.cls := findClass_of_methodNamed B.named
  have hlocks := B.notSynchronized
  have hi_X2 : ∀ w ∈ wsX20, w ∈ wsX2_cutTo := by decide +kernel
  subst hsz
  have hD := hD0.self (sz := s.heap.size)
  generalize hAe : va_A [(h0, .inr (0, [.ref q0, .int (nI n)])), (q0, .inl (T 0, 440, .inl f))] s.heap.size = A at hD hG ⊢
  have hA : ∀ q : Nat, s.heap.size ≤ q → A q := fun q h => by rw [← hAe]; exact Or.inr h
  have hS : va_S A s.heap s.heap [] := va_S.rf
  have hP : va_P D cls [(h0, .inr (0, [.ref q0, .int (nI n)])), (q0, .inl (T 0, 440, .inl f))] s.heap := hP
  have hl := lv_entry ([.ref h0, .int (nI m9)]) (n := 2) (Nat.le_of_ble_eq_true rfl)
  rw [lg_entry_eq]
  generalize (lg_sl ([.ref h0, .int (nI m9)]) ++ List.replicate (2 - (lg_sl ([.ref h0, .int (nI m9)])).length) Slot.unset).toArray = ls at hl ⊢
  have hl : lv_has ls 2 [(0, .ref h0), (1, .int (nI m9))] := hl
  refine lv_iload_n hx hb dX2_cutTo_0 rfl (lv_at hl 1 rfl) ?_
  refine ln_if_lt_f (tgt := 17) hx hb (by omega) dX2_cutTo_1 (by decide) ?_
  refine lv_iload_n hx hb dX2_cutTo_4 rfl (lv_at hl 1 rfl) ?_
  refine lv_aload_n hx hb dX2_cutTo_5 rfl (lv_at hl 0 rfl) ?_
  refine va_get (D := D) (ci := 0) (v := .int (nI n)) (C := RX2) (T := TX2) (N := 2) hx hb hts hi_X2 hown hK hP 0 rfl rfl 1 (by decide) (hts _ (List.mem_of_getElem? (i := 1) rfl)) (fun _ h9 => h9) rfl dX2_cutTo_6 ?_
  refine ln_icmp_ge (tgt := 17) hx hb ⟨by omega, by omega⟩ dX2_cutTo_9 (by decide) (fun c_9 => ?_) (fun c_9 => ?_)
  · have hP9 := hP.sub (ws' := [(h0, .inr (0, [.ref q0, .int (nI n)])), (q0, .inl (T 0, 440, .inl f))]) [0, 1] rfl
    have hD9 := hD.sub (ws' := [(h0, .inr (0, [.ref q0, .int (nI n)])), (q0, .inl (T 0, 440, .inl f))]) [0, 1] (by decide) rfl
    rw [show n = m9 from by omega] at hP9 hD9
    exact W.vret hx hb hr (fun t ht hW => ⟨⟨(), rfl, trivial, (by rw [ht]; exact hP9), va_K.moved hW.alike hK, hD9⟩, hS.F ht⟩) hS.2.2 dX2_cutTo_17
  · refine lv_aload_n hx hb dX2_cutTo_12 rfl (lv_at hl 0 rfl) ?_
    refine lv_iload_n hx hb dX2_cutTo_13 rfl (lv_at hl 1 rfl) ?_
    refine va_put (D := D) (ci := 0) (v := .int (nI m9)) (ty := .int) (C := RX2) (T := TX2) (N := 2) hx hb hts hi_X2 tyX2 tyX2_ok nmX2 hown hK hP hD hS 0 rfl rfl 1 (by decide) (hts _ (List.mem_of_getElem? (i := 1) rfl)) (fun _ h9 => h9) rfl (by decide +kernel) rfl rfl (Nat.le_of_ble_eq_true rfl) dX2_cutTo_14 (fun H locs hP hD hS => ?_)
    have hP : va_P D cls [(h0, .inr (0, [.ref q0, .int (nI m9)])), (q0, .inl (T 0, 440, .inl f))] H := hP
    have hD : va_D A [(h0, .inr (0, [.ref q0, .int (nI m9)])), (q0, .inl (T 0, 440, .inl f))] := hD
    have hP9 := hP.sub (ws' := [(h0, .inr (0, [.ref q0, .int (nI m9)])), (q0, .inl (T 0, 440, .inl f))]) [0, 1] rfl
    have hD9 := hD.sub (ws' := [(h0, .inr (0, [.ref q0, .int (nI m9)])), (q0, .inl (T 0, 440, .inl f))]) [0, 1] (by decide) rfl
    exact W.vret hx hb hr (fun t ht hW => ⟨⟨(), rfl, trivial, (by rw [ht]; exact hP9), va_K.moved hW.alike hK, hD9⟩, hS.F ht⟩) hS.2.2 dX2_cutTo_17
