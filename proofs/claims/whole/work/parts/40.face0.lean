set_option maxHeartbeats 4000000 in
set_option maxRecDepth 100000 in
/-- a row by its number -/
theorem c_X5_rowAt (l : Launch) (D : va_G) (T : Nat → ClassId) (g : Nat → Nat) (lo : Nat) (ra : Nat) (d0 : Nat) (b0 : Nat) (t0 : Nat) (r0 : Nat) (rd : Nat → Nat) (i : Nat) (hi : i < 6) : RO l yX5_rowAt wsX5_rowAt ({ frames := 0, cells := 0, slots := 0, locals := 0 } : Room) D T g [.ref lo, .int (nI i)] [(lo, .inr (2, [.ref ra, .ref d0, .ref b0, .ref t0, .ref r0])), (ra, .inl (T 2, 6, .inr (.inr (.inr (.inr (fun j => some (rd j)))))))] (.ref (rd i)) := by
  refine Met.ofW (cc := cX5_rowAt) (maxL := 2) (ret := (some (.object "Letterloom$Row"))) (by decide) rfl ?_
  intro p e s m args below meth c s₁ B hml hv
  obtain ⟨rfl, hP, hK, hG⟩ := hv
  have hx := B.exec
  have hb := B.bytes
  have hr := B.returns
  have hts := atoms_spec (ws := wsX5_rowAt) B.pre
  have hown : s.vm.findClass RX5 = some m.cls := findClass_of_methodNamed B.named
  have hlocks := B.notSynchronized
  have hi_X5 : ∀ w ∈ wsX50, w ∈ wsX5_rowAt := by decide +kernel
  have hS : va_S (fun _ => False) s.heap s.heap [] := va_S.rf
  have hl := lv_entry ([.ref lo, .int (nI i)]) (n := 2) (Nat.le_of_ble_eq_true rfl)
  rw [lg_entry_eq]
  generalize (lg_sl ([.ref lo, .int (nI i)]) ++ List.replicate (2 - (lg_sl ([.ref lo, .int (nI i)])).length) Slot.unset).toArray = ls at hl ⊢
  have hl : lv_has ls 2 [(0, .ref lo), (1, .int (nI i))] := hl
  refine lv_iload_n hx hb dX5_rowAt_0 rfl (lv_at hl 1 rfl) ?_
  refine ln_if_lt_f (tgt := 13) hx hb (by omega) dX5_rowAt_1 (by decide) ?_
  refine lv_iload_n hx hb dX5_rowAt_4 rfl (lv_at hl 1 rfl) ?_
  refine lv_aload_n hx hb dX5_rowAt_5 rfl (lv_at hl 0 rfl) ?_
  refine va_get (D := D) (ci := 2) (v := .ref ra) (C := RX5) (T := TX5) (N := 5) hx hb hts hi_X5 hown hK hP 0 rfl rfl 0 (by decide) (hts _ (List.mem_of_getElem? (i := 3) rfl)) (fun _ h9 => h9) rfl dX5_rowAt_6 ?_
  refine va_alen hx hb hK hP 1 2 rfl rfl (v := nI 6) rfl dX5_rowAt_9 ?_
  refine ln_icmp_lt_t (tgt := 23) hx hb ⟨by omega, by omega⟩ (hi) dX5_rowAt_10 (by decide) ?_
  refine lv_aload_n hx hb dX5_rowAt_23 rfl (lv_at hl 0 rfl) ?_
  refine va_get (D := D) (ci := 2) (v := .ref ra) (C := RX5) (T := TX5) (N := 5) hx hb hts hi_X5 hown hK hP 0 rfl rfl 0 (by decide) (hts _ (List.mem_of_getElem? (i := 3) rfl)) (fun _ h9 => h9) rfl dX5_rowAt_24 ?_
  refine lv_iload_n hx hb dX5_rowAt_27 rfl (lv_at hl 1 rfl) ?_
  refine ln_aald hx hb hK hP 1 2 rfl rfl ⟨by omega, by omega⟩ dX5_rowAt_28 ?_
  exact W.aret (v := .ref (rd i)) hx hb hr (Or.inl ⟨_, rfl⟩) (Or.inr ⟨_, rfl⟩) (fun t ht hW => ⟨(congrArg (fun z => Outcome.returned (some (Value.ref z))) (show (rd i) = (rd i) from rfl)), ht⟩) (fun q h => nomatch h) dX5_rowAt_29
set_option maxHeartbeats 4000000 in
set_option maxRecDepth 100000 in
/-- no such row -/
theorem c_X5_rowAt_x (l : Launch) (D : va_G) (T : Nat → ClassId) (g : Nat → Nat) (sz : Nat) (hl9 : l.stackTraces = false) (lo : Nat) (ra : Nat) (d0 : Nat) (b0 : Nat) (t0 : Nat) (r0 : Nat) (rd : Nat → Nat) (i : Int32) (hi : i < 0 ∨ ¬ i < nI 6) : TX l yX5_rowAt wsX5_rowAt ({ frames := 6, cells := 1, slots := 6, locals := 90 } : Room) D T g [.ref lo, .int i] [(lo, .inr (2, [.ref ra, .ref d0, .ref b0, .ref t0, .ref r0])), (ra, .inl (T 2, 6, .inr (.inr (.inr (.inr (fun j => some (rd j)))))))] sz "java/lang/IndexOutOfBoundsException" (fun u : Unit => True) (fun u : Unit => [(lo, .inr (2, [.ref ra, .ref d0, .ref b0, .ref t0, .ref r0])), (ra, .inl (T 2, 6, .inr (.inr (.inr (.inr (fun j => some (rd j)))))))]) 1 6 := by
  refine vx_ofW (cc := cX5_rowAt) (maxL := 2) (ret := (some (.object "Letterloom$Row"))) (by decide) rfl ?_
  intro p e s m args below meth c s₁ B hml ht hv
  obtain ⟨rfl, hsz, hP, hK, hD0, hG⟩ := hv
  have hx := B.exec
  have hb := B.bytes
  have hr := B.returns
  have hts := atoms_spec (ws := wsX5_rowAt) B.pre
  have hown : s.vm.findClass RX5 = some m.cls := findClass_of_methodNamed B.named
  have hlocks := B.notSynchronized
  have hi_X5 : ∀ w ∈ wsX50, w ∈ wsX5_rowAt := by decide +kernel
  subst hsz
  have hD := hD0.self (sz := s.heap.size)
  generalize hAe : va_A [(lo, .inr (2, [.ref ra, .ref d0, .ref b0, .ref t0, .ref r0])), (ra, .inl (T 2, 6, .inr (.inr (.inr (.inr (fun j => some (rd j)))))))] s.heap.size = A at hD hG ⊢
  have hA : ∀ q : Nat, s.heap.size ≤ q → A q := fun q h => by rw [← hAe]; exact Or.inr h
  have hS : va_S A s.heap s.heap [] := va_S.rf
  have hP : va_P D cls [(lo, .inr (2, [.ref ra, .ref d0, .ref b0, .ref t0, .ref r0])), (ra, .inl (T 2, 6, .inr (.inr (.inr (.inr (fun j => some (rd j)))))))] s.heap := hP
  have hl := lv_entry ([.ref lo, .int i]) (n := 2) (Nat.le_of_ble_eq_true rfl)
  rw [lg_entry_eq]
  generalize (lg_sl ([.ref lo, .int i]) ++ List.replicate (2 - (lg_sl ([.ref lo, .int i])).length) Slot.unset).toArray = ls at hl ⊢
  have hl : lv_has ls 2 [(0, .ref lo), (1, .int i)] := hl
  refine lv_iload_n hx hb dX5_rowAt_0 rfl (lv_at hl 1 rfl) ?_
  refine lv_if_lt (tgt := 13) hx hb dX5_rowAt_1 (by decide) (fun c_1 => ?_) (fun c_1 => ?_)
  · refine tx_throw (T := T) (D := D) (g := g) (text := "no such row") (is := 197) (ik := 82) (ic := 86) (E := "java/lang/IndexOutOfBoundsException") (ws := [(lo, .inr (2, [.ref ra, .ref d0, .ref b0, .ref t0, .ref r0])), (ra, .inl (T 2, 6, .inr (.inr (.inr (.inr (fun j => some (rd j)))))))]) hl9 hx hb hown hts (by decide) (List.mem_of_getElem? (i := 1) rfl) (List.mem_of_getElem? (i := 2) rfl) (fun _ h => List.mem_cons_of_mem _ (List.mem_append_right _ h)) (by decide) hP hD hK hG hS (hl.1.trans hml.symm) dX5_rowAt_13 dX5_rowAt_16 dX5_rowAt_17 dX5_rowAt_19 dX5_rowAt_22 ht (Nat.le_of_ble_eq_true rfl) (Nat.le_of_ble_eq_true rfl) (Nat.le_of_ble_eq_true rfl) (Nat.le_of_ble_eq_true rfl) hlocks (fun t hMA hFF => ?_) (Nat.le_of_ble_eq_true rfl) (Nat.le_of_ble_eq_true rfl)
    obtain ⟨hP, hK9, hD⟩ := hMA
    exact ⟨rfl, ⟨(), trivial, hP.sub (ws' := [(lo, .inr (2, [.ref ra, .ref d0, .ref b0, .ref t0, .ref r0])), (ra, .inl (T 2, 6, .inr (.inr (.inr (.inr (fun j => some (rd j)))))))]) [0, 1] rfl, hK9, hD.sub (ws' := [(lo, .inr (2, [.ref ra, .ref d0, .ref b0, .ref t0, .ref r0])), (ra, .inl (T 2, 6, .inr (.inr (.inr (.inr (fun j => some (rd j)))))))]) [0, 1] (by decide) rfl⟩, hFF⟩
  · refine lv_iload_n hx hb dX5_rowAt_4 rfl (lv_at hl 1 rfl) ?_
    refine lv_aload_n hx hb dX5_rowAt_5 rfl (lv_at hl 0 rfl) ?_
    refine va_get (D := D) (ci := 2) (v := .ref ra) (C := RX5) (T := TX5) (N := 5) hx hb hts hi_X5 hown hK hP 0 rfl rfl 0 (by decide) (hts _ (List.mem_of_getElem? (i := 3) rfl)) (fun _ h9 => h9) rfl dX5_rowAt_6 ?_
    refine va_alen hx hb hK hP 1 2 rfl rfl (v := nI 6) rfl dX5_rowAt_9 ?_
    refine lv_icmp_lt (tgt := 23) hx hb dX5_rowAt_10 (by decide) (fun q9 => absurd q9 (hi.elim (fun z => absurd z c_1) id)) (fun _ => ?_)
    refine tx_throw (T := T) (D := D) (g := g) (text := "no such row") (is := 197) (ik := 82) (ic := 86) (E := "java/lang/IndexOutOfBoundsException") (ws := [(lo, .inr (2, [.ref ra, .ref d0, .ref b0, .ref t0, .ref r0])), (ra, .inl (T 2, 6, .inr (.inr (.inr (.inr (fun j => some (rd j)))))))]) hl9 hx hb hown hts (by decide) (List.mem_of_getElem? (i := 1) rfl) (List.mem_of_getElem? (i := 2) rfl) (fun _ h => List.mem_cons_of_mem _ (List.mem_append_right _ h)) (by decide) hP hD hK hG hS (hl.1.trans hml.symm) dX5_rowAt_13 dX5_rowAt_16 dX5_rowAt_17 dX5_rowAt_19 dX5_rowAt_22 ht (Nat.le_of_ble_eq_true rfl) (Nat.le_of_ble_eq_true rfl) (Nat.le_of_ble_eq_true rfl) (Nat.le_of_ble_eq_true rfl) hlocks (fun t hMA hFF => ?_) (Nat.le_of_ble_eq_true rfl) (Nat.le_of_ble_eq_true rfl)
    obtain ⟨hP, hK9, hD⟩ := hMA
    exact ⟨rfl, ⟨(), trivial, hP.sub (ws' := [(lo, .inr (2, [.ref ra, .ref d0, .ref b0, .ref t0, .ref r0])), (ra, .inl (T 2, 6, .inr (.inr (.inr (.inr (fun j => some (rd j)))))))]) [0, 1] rfl, hK9, hD.sub (ws' := [(lo, .inr (2, [.ref ra, .ref d0, .ref b0, .ref t0, .ref r0])), (ra, .inl (T 2, 6, .inr (.inr (.inr (.inr (fun j => some (rd j)))))))]) [0, 1] (by decide) rfl⟩, hFF⟩
set_option maxHeartbeats 4000000 in
set_option maxRecDepth 100000 in
theorem c_X5_kindAt (l : Launch) (D : va_G) (T : Nat → ClassId) (g : Nat → Nat) (k : Nat) (hk : k < 3) : RO l yX5_kindAt wsX5_kindAt ({ frames := 0, cells := 0, slots := 0, locals := 0 } : Room) D T g [.int (nI k)] [] (.ref (g k)) := by
  refine Met.ofW (cc := cX5_kindAt) (maxL := 1) (ret := (some (.object "Letterloom$Kind"))) (by decide) rfl ?_
  intro p e s m args below meth c s₁ B hml hv
  obtain ⟨rfl, hP, hK, hG⟩ := hv
  have hx := B.exec
  have hb := B.bytes
  have hr := B.returns
  have hts := atoms_spec (ws := wsX5_kindAt) B.pre
  have hown : s.vm.findClass RX5 = some m.cls := findClass_of_methodNamed B.named
  have hlocks := B.notSynchronized
  have hS : va_S (fun _ => False) s.heap s.heap [] := va_S.rf
  have hl := lv_entry ([.int (nI k)]) (n := 1) (Nat.le_of_ble_eq_true rfl)
  rw [lg_entry_eq]
  generalize (lg_sl ([.int (nI k)]) ++ List.replicate (1 - (lg_sl ([.int (nI k)])).length) Slot.unset).toArray = ls at hl ⊢
  have hl : lv_has ls 1 [(0, .int (nI k))] := hl
  refine lv_iload_n hx hb dX5_kindAt_0 rfl (lv_at hl 0 rfl) ?_
  refine ln_if_lt_f (tgt := 12) hx hb (by omega) dX5_kindAt_1 (by decide) ?_
  refine lv_iload_n hx hb dX5_kindAt_4 rfl (lv_at hl 0 rfl) ?_
  refine va_gets hx hb hG.2.1 hS hown (hts _ (List.mem_of_getElem? (i := 3) rfl)) (fun _ h9 => h9) dX5_kindAt_5 ?_
  refine va_tlen hx hb hG.2.2.1 hS (v := nI 3) rfl dX5_kindAt_8 ?_
  refine ln_icmp_lt_t (tgt := 22) hx hb ⟨by omega, by omega⟩ (hk) dX5_kindAt_9 (by decide) ?_
  refine va_gets hx hb hG.2.1 hS hown (hts _ (List.mem_of_getElem? (i := 3) rfl)) (fun _ h9 => h9) dX5_kindAt_22 ?_
  refine lv_iload_n hx hb dX5_kindAt_25 rfl (lv_at hl 0 rfl) ?_
  refine vb_tq hx hb hG.2.2.1 hS (vp_in_nI (by omega) (by decide)) (v := .ref (g k)) (by rw [nI_clamp (by omega)]) dX5_kindAt_26 ?_
  exact W.aret (v := .ref (g k)) hx hb hr (Or.inl ⟨_, rfl⟩) (Or.inr ⟨_, rfl⟩) (fun t ht hW => ⟨(congrArg (fun z => Outcome.returned (some (Value.ref z))) (show (g k) = (g k) from rfl)), ht⟩) (fun q h => nomatch h) dX5_kindAt_27
set_option maxHeartbeats 4000000 in
set_option maxRecDepth 100000 in
theorem c_X5_kindAt_x (l : Launch) (D : va_G) (T : Nat → ClassId) (g : Nat → Nat) (sz : Nat) (hl9 : l.stackTraces = false) (k : Int32) (hi : k < 0 ∨ ¬ k < nI 3) : TX l yX5_kindAt wsX5_kindAt ({ frames := 6, cells := 1, slots := 6, locals := 90 } : Room) D T g [.int k] [] sz "java/lang/IllegalArgumentException" (fun u : Unit => True) (fun u : Unit => []) 1 6 := by
  refine vx_ofW (cc := cX5_kindAt) (maxL := 1) (ret := (some (.object "Letterloom$Kind"))) (by decide) rfl ?_
  intro p e s m args below meth c s₁ B hml ht hv
  obtain ⟨rfl, hsz, hP, hK, hD0, hG⟩ := hv
  have hx := B.exec
  have hb := B.bytes
  have hr := B.returns
  have hts := atoms_spec (ws := wsX5_kindAt) B.pre
  have hown : s.vm.findClass RX5 = some m.cls := findClass_of_methodNamed B.named
  have hlocks := B.notSynchronized
  subst hsz
  have hD := hD0.self (sz := s.heap.size)
  generalize hAe : va_A [] s.heap.size = A at hD hG ⊢
  have hA : ∀ q : Nat, s.heap.size ≤ q → A q := fun q h => by rw [← hAe]; exact Or.inr h
  have hS : va_S A s.heap s.heap [] := va_S.rf
  have hP : va_P D cls [] s.heap := hP
  have hl := lv_entry ([.int k]) (n := 1) (Nat.le_of_ble_eq_true rfl)
  rw [lg_entry_eq]
  generalize (lg_sl ([.int k]) ++ List.replicate (1 - (lg_sl ([.int k])).length) Slot.unset).toArray = ls at hl ⊢
  have hl : lv_has ls 1 [(0, .int k)] := hl
  refine lv_iload_n hx hb dX5_kindAt_0 rfl (lv_at hl 0 rfl) ?_
  refine lv_if_lt (tgt := 12) hx hb dX5_kindAt_1 (by decide) (fun c_1 => ?_) (fun c_1 => ?_)
  · refine tx_throw (T := T) (D := D) (g := g) (text := "no such kind") (is := 199) (ik := 55) (ic := 59) (E := "java/lang/IllegalArgumentException") (ws := []) hl9 hx hb hown hts (by decide) (List.mem_of_getElem? (i := 1) rfl) (List.mem_of_getElem? (i := 2) rfl) (fun _ h => List.mem_cons_of_mem _ (List.mem_append_right _ h)) (by decide) hP hD hK hG hS (hl.1.trans hml.symm) dX5_kindAt_12 dX5_kindAt_15 dX5_kindAt_16 dX5_kindAt_18 dX5_kindAt_21 ht (Nat.le_of_ble_eq_true rfl) (Nat.le_of_ble_eq_true rfl) (Nat.le_of_ble_eq_true rfl) (Nat.le_of_ble_eq_true rfl) hlocks (fun t hMA hFF => ?_) (Nat.le_of_ble_eq_true rfl) (Nat.le_of_ble_eq_true rfl)
    obtain ⟨hP, hK9, hD⟩ := hMA
    exact ⟨rfl, ⟨(), trivial, hP.sub (ws' := []) [] rfl, hK9, hD.sub (ws' := []) [] (by decide) rfl⟩, hFF⟩
  · refine lv_iload_n hx hb dX5_kindAt_4 rfl (lv_at hl 0 rfl) ?_
    refine va_gets hx hb hG.2.1 hS hown (hts _ (List.mem_of_getElem? (i := 3) rfl)) (fun _ h9 => h9) dX5_kindAt_5 ?_
    refine va_tlen hx hb hG.2.2.1 hS (v := nI 3) rfl dX5_kindAt_8 ?_
    refine lv_icmp_lt (tgt := 22) hx hb dX5_kindAt_9 (by decide) (fun q9 => absurd q9 (hi.elim (fun z => absurd z c_1) id)) (fun _ => ?_)
    refine tx_throw (T := T) (D := D) (g := g) (text := "no such kind") (is := 199) (ik := 55) (ic := 59) (E := "java/lang/IllegalArgumentException") (ws := []) hl9 hx hb hown hts (by decide) (List.mem_of_getElem? (i := 1) rfl) (List.mem_of_getElem? (i := 2) rfl) (fun _ h => List.mem_cons_of_mem _ (List.mem_append_right _ h)) (by decide) hP hD hK hG hS (hl.1.trans hml.symm) dX5_kindAt_12 dX5_kindAt_15 dX5_kindAt_16 dX5_kindAt_18 dX5_kindAt_21 ht (Nat.le_of_ble_eq_true rfl) (Nat.le_of_ble_eq_true rfl) (Nat.le_of_ble_eq_true rfl) (Nat.le_of_ble_eq_true rfl) hlocks (fun t hMA hFF => ?_) (Nat.le_of_ble_eq_true rfl) (Nat.le_of_ble_eq_true rfl)
    obtain ⟨hP, hK9, hD⟩ := hMA
    exact ⟨rfl, ⟨(), trivial, hP.sub (ws' := []) [] rfl, hK9, hD.sub (ws' := []) [] (by decide) rfl⟩, hFF⟩
set_option maxHeartbeats 4000000 in
set_option maxRecDepth 100000 in
theorem c_X5_checkPlace (l : Launch) (D : va_G) (T : Nat → ClassId) (g : Nat → Nat) (p9 : Nat) (n : Nat) (hp : p9 < n ∧ n < 1000) : RV l yX5_checkPlace wsX5_checkPlace ({ frames := 0, cells := 0, slots := 0, locals := 0 } : Room) D T g [.int (nI p9), .int (nI n)] [] := by
  refine Met.ofW (cc := cX5_checkPlace) (maxL := 2) (ret := none) (by decide) rfl ?_
  intro p e s m args below meth c s₁ B hml hv
  obtain ⟨rfl, hP, hK, hG⟩ := hv
  have hx := B.exec
  have hb := B.bytes
  have hr := B.returns
  have hts := atoms_spec (ws := wsX5_checkPlace) B.pre
  have hown : s.vm.findClass RX5 = some m.cls := findClass_of_methodNamed B.named
  have hlocks := B.notSynchronized
  have hS : va_S (fun _ => False) s.heap s.heap [] := va_S.rf
  have hl := lv_entry ([.int (nI p9), .int (nI n)]) (n := 2) (Nat.le_of_ble_eq_true rfl)
  rw [lg_entry_eq]
  generalize (lg_sl ([.int (nI p9), .int (nI n)]) ++ List.replicate (2 - (lg_sl ([.int (nI p9), .int (nI n)])).length) Slot.unset).toArray = ls at hl ⊢
  have hl : lv_has ls 2 [(0, .int (nI p9)), (1, .int (nI n))] := hl
  refine lv_iload_n hx hb dX5_checkPlace_0 rfl (lv_at hl 0 rfl) ?_
  refine ln_if_lt_f (tgt := 9) hx hb (by omega) dX5_checkPlace_1 (by decide) ?_
  refine lv_iload_n hx hb dX5_checkPlace_4 rfl (lv_at hl 0 rfl) ?_
  refine lv_iload_n hx hb dX5_checkPlace_5 rfl (lv_at hl 1 rfl) ?_
  refine ln_icmp_lt_t (tgt := 19) hx hb ⟨by omega, by omega⟩ (hp.1) dX5_checkPlace_6 (by decide) ?_
  exact W.vret hx hb hr (fun t ht hW => ⟨rfl, trivial, ht⟩) (fun q h => nomatch h) dX5_checkPlace_19
set_option maxHeartbeats 4000000 in
set_option maxRecDepth 100000 in
theorem c_X5_checkPlace_x (l : Launch) (D : va_G) (T : Nat → ClassId) (g : Nat → Nat) (sz : Nat) (hl9 : l.stackTraces = false) (p9 : Int32) (n : Nat) (hi : p9 < 0 ∨ ¬ p9 < nI n) : TX l yX5_checkPlace wsX5_checkPlace ({ frames := 6, cells := 1, slots := 6, locals := 90 } : Room) D T g [.int p9, .int (nI n)] [] sz "java/lang/IndexOutOfBoundsException" (fun u : Unit => True) (fun u : Unit => []) 1 6 := by
  refine vx_ofW (cc := cX5_checkPlace) (maxL := 2) (ret := none) (by decide) rfl ?_
  intro p e s m args below meth c s₁ B hml ht hv
  obtain ⟨rfl, hsz, hP, hK, hD0, hG⟩ := hv
  have hx := B.exec
  have hb := B.bytes
  have hr := B.returns
  have hts := atoms_spec (ws := wsX5_checkPlace) B.pre
  have hown : s.vm.findClass RX5 = some m.cls := findClass_of_methodNamed B.named
  have hlocks := B.notSynchronized
  subst hsz
  have hD := hD0.self (sz := s.heap.size)
  generalize hAe : va_A [] s.heap.size = A at hD hG ⊢
  have hA : ∀ q : Nat, s.heap.size ≤ q → A q := fun q h => by rw [← hAe]; exact Or.inr h
  have hS : va_S A s.heap s.heap [] := va_S.rf
  have hP : va_P D cls [] s.heap := hP
  have hl := lv_entry ([.int p9, .int (nI n)]) (n := 2) (Nat.le_of_ble_eq_true rfl)
  rw [lg_entry_eq]
  generalize (lg_sl ([.int p9, .int (nI n)]) ++ List.replicate (2 - (lg_sl ([.int p9, .int (nI n)])).length) Slot.unset).toArray = ls at hl ⊢
  have hl : lv_has ls 2 [(0, .int p9), (1, .int (nI n))] := hl
  refine lv_iload_n hx hb dX5_checkPlace_0 rfl (lv_at hl 0 rfl) ?_
  refine lv_if_lt (tgt := 9) hx hb dX5_checkPlace_1 (by decide) (fun c_1 => ?_) (fun c_1 => ?_)
  · refine tx_throw (T := T) (D := D) (g := g) (text := "no such place") (is := 201) (ik := 82) (ic := 86) (E := "java/lang/IndexOutOfBoundsException") (ws := []) hl9 hx hb hown hts (by decide) (List.mem_of_getElem? (i := 1) rfl) (List.mem_of_getElem? (i := 2) rfl) (fun _ h => List.mem_cons_of_mem _ (List.mem_append_right _ h)) (by decide) hP hD hK hG hS (hl.1.trans hml.symm) dX5_checkPlace_9 dX5_checkPlace_12 dX5_checkPlace_13 dX5_checkPlace_15 dX5_checkPlace_18 ht (Nat.le_of_ble_eq_true rfl) (Nat.le_of_ble_eq_true rfl) (Nat.le_of_ble_eq_true rfl) (Nat.le_of_ble_eq_true rfl) hlocks (fun t hMA hFF => ?_) (Nat.le_of_ble_eq_true rfl) (Nat.le_of_ble_eq_true rfl)
    obtain ⟨hP, hK9, hD⟩ := hMA
    exact ⟨rfl, ⟨(), trivial, hP.sub (ws' := []) [] rfl, hK9, hD.sub (ws' := []) [] (by decide) rfl⟩, hFF⟩
  · refine lv_iload_n hx hb dX5_checkPlace_4 rfl (lv_at hl 0 rfl) ?_
    refine lv_iload_n hx hb dX5_checkPlace_5 rfl (lv_at hl 1 rfl) ?_
    refine lv_icmp_lt (tgt := 19) hx hb dX5_checkPlace_6 (by decide) (fun q9 => absurd q9 (hi.elim (fun z => absurd z c_1) id)) (fun _ => ?_)
    refine tx_throw (T := T) (D := D) (g := g) (text := "no such place") (is := 201) (ik := 82) (ic := 86) (E := "java/lang/IndexOutOfBoundsException") (ws := []) hl9 hx hb hown hts (by decide) (List.mem_of_getElem? (i := 1) rfl) (List.mem_of_getElem? (i := 2) rfl) (fun _ h => List.mem_cons_of_mem _ (List.mem_append_right _ h)) (by decide) hP hD hK hG hS (hl.1.trans hml.symm) dX5_checkPlace_9 dX5_checkPlace_12 dX5_checkPlace_13 dX5_checkPlace_15 dX5_checkPlace_18 ht (Nat.le_of_ble_eq_true rfl) (Nat.le_of_ble_eq_true rfl) (Nat.le_of_ble_eq_true rfl) (Nat.le_of_ble_eq_true rfl) hlocks (fun t hMA hFF => ?_) (Nat.le_of_ble_eq_true rfl) (Nat.le_of_ble_eq_true rfl)
    obtain ⟨hP, hK9, hD⟩ := hMA
    exact ⟨rfl, ⟨(), trivial, hP.sub (ws' := []) [] rfl, hK9, hD.sub (ws' := []) [] (by decide) rfl⟩, hFF⟩
set_option maxHeartbeats 4000000 in
set_option maxRecDepth 100000 in
theorem c_X5_checkByte (l : Launch) (D : va_G) (T : Nat → ClassId) (g : Nat → Nat) (v : Nat) (hv9 : v < 256) : RV l yX5_checkByte wsX5_checkByte ({ frames := 0, cells := 0, slots := 0, locals := 0 } : Room) D T g [.int (nI v)] [] := by
  refine Met.ofW (cc := cX5_checkByte) (maxL := 1) (ret := none) (by decide) rfl ?_
  intro p e s m args below meth c s₁ B hml hv
  obtain ⟨rfl, hP, hK, hG⟩ := hv
  have hx := B.exec
  have hb := B.bytes
  have hr := B.returns
  have hts := atoms_spec (ws := wsX5_checkByte) B.pre
  have hown : s.vm.findClass RX5 = some m.cls := findClass_of_methodNamed B.named
  have hlocks := B.notSynchronized
  have hS : va_S (fun _ => False) s.heap s.heap [] := va_S.rf
  have hl := lv_entry ([.int (nI v)]) (n := 1) (Nat.le_of_ble_eq_true rfl)
  rw [lg_entry_eq]
  generalize (lg_sl ([.int (nI v)]) ++ List.replicate (1 - (lg_sl ([.int (nI v)])).length) Slot.unset).toArray = ls at hl ⊢
  have hl : lv_has ls 1 [(0, .int (nI v))] := hl
  refine lv_iload_n hx hb dX5_checkByte_0 rfl (lv_at hl 0 rfl) ?_
  refine ln_if_lt_f (tgt := 11) hx hb (by omega) dX5_checkByte_1 (by decide) ?_
  refine lv_iload_n hx hb dX5_checkByte_4 rfl (lv_at hl 0 rfl) ?_
  refine lv_sipush (v := (nI 255)) hx hb dX5_checkByte_5 (by decide +kernel) ?_
  refine ln_icmp_le_t (tgt := 21) hx hb ⟨by omega, by omega⟩ (by omega) dX5_checkByte_8 (by decide) ?_
  exact W.vret hx hb hr (fun t ht hW => ⟨rfl, trivial, ht⟩) (fun q h => nomatch h) dX5_checkByte_21
set_option maxHeartbeats 4000000 in
set_option maxRecDepth 100000 in
theorem c_X5_checkByte_x (l : Launch) (D : va_G) (T : Nat → ClassId) (g : Nat → Nat) (sz : Nat) (hl9 : l.stackTraces = false) (v : Int32) (hi : v < 0 ∨ ¬ v ≤ nI 255) : TX l yX5_checkByte wsX5_checkByte ({ frames := 6, cells := 1, slots := 6, locals := 90 } : Room) D T g [.int v] [] sz "java/lang/IllegalArgumentException" (fun u : Unit => True) (fun u : Unit => []) 1 6 := by
  refine vx_ofW (cc := cX5_checkByte) (maxL := 1) (ret := none) (by decide) rfl ?_
  intro p e s m args below meth c s₁ B hml ht hv
  obtain ⟨rfl, hsz, hP, hK, hD0, hG⟩ := hv
  have hx := B.exec
  have hb := B.bytes
  have hr := B.returns
  have hts := atoms_spec (ws := wsX5_checkByte) B.pre
  have hown : s.vm.findClass RX5 = some m.cls := findClass_of_methodNamed B.named
  have hlocks := B.notSynchronized
  subst hsz
  have hD := hD0.self (sz := s.heap.size)
  generalize hAe : va_A [] s.heap.size = A at hD hG ⊢
  have hA : ∀ q : Nat, s.heap.size ≤ q → A q := fun q h => by rw [← hAe]; exact Or.inr h
  have hS : va_S A s.heap s.heap [] := va_S.rf
  have hP : va_P D cls [] s.heap := hP
  have hl := lv_entry ([.int v]) (n := 1) (Nat.le_of_ble_eq_true rfl)
  rw [lg_entry_eq]
  generalize (lg_sl ([.int v]) ++ List.replicate (1 - (lg_sl ([.int v])).length) Slot.unset).toArray = ls at hl ⊢
  have hl : lv_has ls 1 [(0, .int v)] := hl
  refine lv_iload_n hx hb dX5_checkByte_0 rfl (lv_at hl 0 rfl) ?_
  refine lv_if_lt (tgt := 11) hx hb dX5_checkByte_1 (by decide) (fun c_1 => ?_) (fun c_1 => ?_)
  · refine tx_throw (T := T) (D := D) (g := g) (text := "not a byte of 0 to 255") (is := 203) (ik := 55) (ic := 59) (E := "java/lang/IllegalArgumentException") (ws := []) hl9 hx hb hown hts (by decide) (List.mem_of_getElem? (i := 1) rfl) (List.mem_of_getElem? (i := 2) rfl) (fun _ h => List.mem_cons_of_mem _ (List.mem_append_right _ h)) (by decide) hP hD hK hG hS (hl.1.trans hml.symm) dX5_checkByte_11 dX5_checkByte_14 dX5_checkByte_15 dX5_checkByte_17 dX5_checkByte_20 ht (Nat.le_of_ble_eq_true rfl) (Nat.le_of_ble_eq_true rfl) (Nat.le_of_ble_eq_true rfl) (Nat.le_of_ble_eq_true rfl) hlocks (fun t hMA hFF => ?_) (Nat.le_of_ble_eq_true rfl) (Nat.le_of_ble_eq_true rfl)
    obtain ⟨hP, hK9, hD⟩ := hMA
    exact ⟨rfl, ⟨(), trivial, hP.sub (ws' := []) [] rfl, hK9, hD.sub (ws' := []) [] (by decide) rfl⟩, hFF⟩
  · refine lv_iload_n hx hb dX5_checkByte_4 rfl (lv_at hl 0 rfl) ?_
    refine lv_sipush (v := (nI 255)) hx hb dX5_checkByte_5 (by decide +kernel) ?_
    refine lv_icmp_le (tgt := 21) hx hb dX5_checkByte_8 (by decide) (fun q9 => absurd q9 (hi.elim (fun z => absurd z c_1) id)) (fun _ => ?_)
    refine tx_throw (T := T) (D := D) (g := g) (text := "not a byte of 0 to 255") (is := 203) (ik := 55) (ic := 59) (E := "java/lang/IllegalArgumentException") (ws := []) hl9 hx hb hown hts (by decide) (List.mem_of_getElem? (i := 1) rfl) (List.mem_of_getElem? (i := 2) rfl) (fun _ h => List.mem_cons_of_mem _ (List.mem_append_right _ h)) (by decide) hP hD hK hG hS (hl.1.trans hml.symm) dX5_checkByte_11 dX5_checkByte_14 dX5_checkByte_15 dX5_checkByte_17 dX5_checkByte_20 ht (Nat.le_of_ble_eq_true rfl) (Nat.le_of_ble_eq_true rfl) (Nat.le_of_ble_eq_true rfl) (Nat.le_of_ble_eq_true rfl) hlocks (fun t hMA hFF => ?_) (Nat.le_of_ble_eq_true rfl) (Nat.le_of_ble_eq_true rfl)
    obtain ⟨hP, hK9, hD⟩ := hMA
    exact ⟨rfl, ⟨(), trivial, hP.sub (ws' := []) [] rfl, hK9, hD.sub (ws' := []) [] (by decide) rfl⟩, hFF⟩
set_option maxHeartbeats 4000000 in
set_option maxRecDepth 100000 in
theorem c_X5_checkRoom (l : Launch) (D : va_G) (T : Nat → ClassId) (g : Nat → Nat) (m9 : Nat) (hm : m9 ≤ 320) : RV l yX5_checkRoom wsX5_checkRoom ({ frames := 0, cells := 0, slots := 0, locals := 0 } : Room) D T g [.int (nI m9)] [] := by
  refine Met.ofW (cc := cX5_checkRoom) (maxL := 1) (ret := none) (by decide) rfl ?_
  intro p e s m args below meth c s₁ B hml hv
  obtain ⟨rfl, hP, hK, hG⟩ := hv
  have hx := B.exec
  have hb := B.bytes
  have hr := B.returns
  have hts := atoms_spec (ws := wsX5_checkRoom) B.pre
  have hown : s.vm.findClass RX5 = some m.cls := findClass_of_methodNamed B.named
  have hlocks := B.notSynchronized
  have hS : va_S (fun _ => False) s.heap s.heap [] := va_S.rf
  have hl := lv_entry ([.int (nI m9)]) (n := 1) (Nat.le_of_ble_eq_true rfl)
  rw [lg_entry_eq]
  generalize (lg_sl ([.int (nI m9)]) ++ List.replicate (1 - (lg_sl ([.int (nI m9)])).length) Slot.unset).toArray = ls at hl ⊢
  have hl : lv_has ls 1 [(0, .int (nI m9))] := hl
  refine lv_iload_n hx hb dX5_checkRoom_0 rfl (lv_at hl 0 rfl) ?_
  refine lv_sipush (v := (nI 320)) hx hb dX5_checkRoom_1 (by decide +kernel) ?_
  refine ln_icmp_le_t (tgt := 17) hx hb ⟨by omega, by omega⟩ (hm) dX5_checkRoom_4 (by decide) ?_
  exact W.vret hx hb hr (fun t ht hW => ⟨rfl, trivial, ht⟩) (fun q h => nomatch h) dX5_checkRoom_17
set_option maxHeartbeats 4000000 in
set_option maxRecDepth 100000 in
theorem c_X5_checkRoom_x (l : Launch) (D : va_G) (T : Nat → ClassId) (g : Nat → Nat) (sz : Nat) (hl9 : l.stackTraces = false) (m9 : Nat) (hm : 320 < m9 ∧ m9 < 1000) : TX l yX5_checkRoom wsX5_checkRoom ({ frames := 6, cells := 1, slots := 6, locals := 90 } : Room) D T g [.int (nI m9)] [] sz "java/lang/IllegalStateException" (fun u : Unit => True) (fun u : Unit => []) 1 6 := by
  refine vx_ofW (cc := cX5_checkRoom) (maxL := 1) (ret := none) (by decide) rfl ?_
  intro p e s m args below meth c s₁ B hml ht hv
  obtain ⟨rfl, hsz, hP, hK, hD0, hG⟩ := hv
  have hx := B.exec
  have hb := B.bytes
  have hr := B.returns
  have hts := atoms_spec (ws := wsX5_checkRoom) B.pre
  have hown : s.vm.findClass RX5 = some m.cls := findClass_of_methodNamed B.named
  have hlocks := B.notSynchronized
  subst hsz
  have hD := hD0.self (sz := s.heap.size)
  generalize hAe : va_A [] s.heap.size = A at hD hG ⊢
  have hA : ∀ q : Nat, s.heap.size ≤ q → A q := fun q h => by rw [← hAe]; exact Or.inr h
  have hS : va_S A s.heap s.heap [] := va_S.rf
  have hP : va_P D cls [] s.heap := hP
  have hl := lv_entry ([.int (nI m9)]) (n := 1) (Nat.le_of_ble_eq_true rfl)
  rw [lg_entry_eq]
  generalize (lg_sl ([.int (nI m9)]) ++ List.replicate (1 - (lg_sl ([.int (nI m9)])).length) Slot.unset).toArray = ls at hl ⊢
  have hl : lv_has ls 1 [(0, .int (nI m9))] := hl
  refine lv_iload_n hx hb dX5_checkRoom_0 rfl (lv_at hl 0 rfl) ?_
  refine lv_sipush (v := (nI 320)) hx hb dX5_checkRoom_1 (by decide +kernel) ?_
  refine ln_icmp_le_f (tgt := 17) hx hb ⟨by omega, by omega⟩ (by omega) dX5_checkRoom_4 (by decide) ?_
  refine tx_throw (T := T) (D := D) (g := g) (text := "the row would have more than 320 bytes") (is := 207) (ik := 205) (ic := 209) (E := "java/lang/IllegalStateException") (ws := []) hl9 hx hb hown hts (by decide) (List.mem_of_getElem? (i := 1) rfl) (List.mem_of_getElem? (i := 2) rfl) (fun _ h => List.mem_cons_of_mem _ (List.mem_append_right _ h)) (by decide) hP hD hK hG hS (hl.1.trans hml.symm) dX5_checkRoom_7 dX5_checkRoom_10 dX5_checkRoom_11 dX5_checkRoom_13 dX5_checkRoom_16 ht (Nat.le_of_ble_eq_true rfl) (Nat.le_of_ble_eq_true rfl) (Nat.le_of_ble_eq_true rfl) (Nat.le_of_ble_eq_true rfl) hlocks (fun t hMA hFF => ?_) (Nat.le_of_ble_eq_true rfl) (Nat.le_of_ble_eq_true rfl)
  obtain ⟨hP, hK9, hD⟩ := hMA
  exact ⟨rfl, ⟨(), trivial, hP.sub (ws' := []) [] rfl, hK9, hD.sub (ws' := []) [] (by decide) rfl⟩, hFF⟩
set_option maxHeartbeats 4000000 in
set_option maxRecDepth 100000 in
theorem c_X5_checkNotEmpty (l : Launch) (D : va_G) (T : Nat → ClassId) (g : Nat → Nat) (h0 : Nat) (q0 : Nat) (f : Nat → Int32) (n : Nat) (hn : 0 < n ∧ n < 1000) : RV l yX5_checkNotEmpty wsX5_checkNotEmpty ({ frames := 0, cells := 0, slots := 0, locals := 0 } : Room) D T g [.ref h0] [(h0, .inr (0, [.ref q0, .int (nI n)])), (q0, .inl (T 0, 440, .inl f))] := by
  refine Met.ofW (cc := cX5_checkNotEmpty) (maxL := 1) (ret := none) (by decide) rfl ?_
  intro p e s m args below meth c s₁ B hml hv
  obtain ⟨rfl, hP, hK, hG⟩ := hv
  have hx := B.exec
  have hb := B.bytes
  have hr := B.returns
  have hts := atoms_spec (ws := wsX5_checkNotEmpty) B.pre
  have hown : s.vm.findClass RX5 = some m.cls := findClass_of_methodNamed B.named
  have hlocks := B.notSynchronized
  have hi_X2 : ∀ w ∈ wsX20, w ∈ wsX5_checkNotEmpty := by decide +kernel
  have hS : va_S (fun _ => False) s.heap s.heap [] := va_S.rf
  have hl := lv_entry ([.ref h0]) (n := 1) (Nat.le_of_ble_eq_true rfl)
  rw [lg_entry_eq]
  generalize (lg_sl ([.ref h0]) ++ List.replicate (1 - (lg_sl ([.ref h0])).length) Slot.unset).toArray = ls at hl ⊢
  have hl : lv_has ls 1 [(0, .ref h0)] := hl
  refine lv_aload_n hx hb dX5_checkNotEmpty_0 rfl (lv_at hl 0 rfl) ?_
  refine va_getN (D := D) (ci := 0) (v := .int (nI n)) (C := RX2) (T := TX2) (N := 2) hx hb hts hi_X2 hown hK hP 0 rfl rfl 1 (by decide) (va_Nw.use rfl (hG.2.2.2.2.2.2.2.1 _ (List.mem_of_getElem? (i := 0) rfl))) (fun _ h9 => h9) rfl dX5_checkNotEmpty_1 ?_
  refine ln_if_ne_t (tgt := 17) hx hb (by omega) (by omega) dX5_checkNotEmpty_4 (by decide) ?_
  exact W.vret hx hb hr (fun t ht hW => ⟨rfl, trivial, ht⟩) (fun q h => nomatch h) dX5_checkNotEmpty_17
set_option maxHeartbeats 4000000 in
set_option maxRecDepth 100000 in
theorem c_X5_checkNotEmpty_x (l : Launch) (D : va_G) (T : Nat → ClassId) (g : Nat → Nat) (sz : Nat) (hl9 : l.stackTraces = false) (h0 : Nat) (q0 : Nat) (f : Nat → Int32) (n : Nat) (hn : n = 0) : TX l yX5_checkNotEmpty wsX5_checkNotEmpty ({ frames := 6, cells := 1, slots := 6, locals := 90 } : Room) D T g [.ref h0] [(h0, .inr (0, [.ref q0, .int (nI n)])), (q0, .inl (T 0, 440, .inl f))] sz "java/lang/ArithmeticException" (fun u : Unit => True) (fun u : Unit => [(h0, .inr (0, [.ref q0, .int (nI n)])), (q0, .inl (T 0, 440, .inl f))]) 1 6 := by
  refine vx_ofW (cc := cX5_checkNotEmpty) (maxL := 1) (ret := none) (by decide) rfl ?_
  intro p e s m args below meth c s₁ B hml ht hv
  obtain ⟨rfl, hsz, hP, hK, hD0, hG⟩ := hv
  have hx := B.exec
  have hb := B.bytes
  have hr := B.returns
  have hts := atoms_spec (ws := wsX5_checkNotEmpty) B.pre
  have hown : s.vm.findClass RX5 = some m.cls := findClass_of_methodNamed B.named
  have hlocks := B.notSynchronized
  have hi_X2 : ∀ w ∈ wsX20, w ∈ wsX5_checkNotEmpty := by decide +kernel
  subst hsz
  have hD := hD0.self (sz := s.heap.size)
  generalize hAe : va_A [(h0, .inr (0, [.ref q0, .int (nI n)])), (q0, .inl (T 0, 440, .inl f))] s.heap.size = A at hD hG ⊢
  have hA : ∀ q : Nat, s.heap.size ≤ q → A q := fun q h => by rw [← hAe]; exact Or.inr h
  have hS : va_S A s.heap s.heap [] := va_S.rf
  have hP : va_P D cls [(h0, .inr (0, [.ref q0, .int (nI n)])), (q0, .inl (T 0, 440, .inl f))] s.heap := hP
  have hl := lv_entry ([.ref h0]) (n := 1) (Nat.le_of_ble_eq_true rfl)
  rw [lg_entry_eq]
  generalize (lg_sl ([.ref h0]) ++ List.replicate (1 - (lg_sl ([.ref h0])).length) Slot.unset).toArray = ls at hl ⊢
  have hl : lv_has ls 1 [(0, .ref h0)] := hl
  refine lv_aload_n hx hb dX5_checkNotEmpty_0 rfl (lv_at hl 0 rfl) ?_
  refine va_getN (D := D) (ci := 0) (v := .int (nI n)) (C := RX2) (T := TX2) (N := 2) hx hb hts hi_X2 hown hK hP 0 rfl rfl 1 (by decide) (va_Nw.use rfl (hG.2.2.2.2.2.2.2.1 _ (List.mem_of_getElem? (i := 0) rfl))) (fun _ h9 => h9) rfl dX5_checkNotEmpty_1 ?_
  refine ln_if_ne_f (tgt := 17) hx hb (by omega) (by omega) dX5_checkNotEmpty_4 (by decide) ?_
  refine tx_throw (T := T) (D := D) (g := g) (text := "the row is empty") (is := 212) (ik := 210) (ic := 214) (E := "java/lang/ArithmeticException") (ws := [(h0, .inr (0, [.ref q0, .int (nI n)])), (q0, .inl (T 0, 440, .inl f))]) hl9 hx hb hown hts (by decide) (List.mem_of_getElem? (i := 1) rfl) (List.mem_of_getElem? (i := 2) rfl) (fun _ h => List.mem_cons_of_mem _ (List.mem_append_right _ h)) (by decide) hP hD hK hG hS (hl.1.trans hml.symm) dX5_checkNotEmpty_7 dX5_checkNotEmpty_10 dX5_checkNotEmpty_11 dX5_checkNotEmpty_13 dX5_checkNotEmpty_16 ht (Nat.le_of_ble_eq_true rfl) (Nat.le_of_ble_eq_true rfl) (Nat.le_of_ble_eq_true rfl) (Nat.le_of_ble_eq_true rfl) hlocks (fun t hMA hFF => ?_) (Nat.le_of_ble_eq_true rfl) (Nat.le_of_ble_eq_true rfl)
  obtain ⟨hP, hK9, hD⟩ := hMA
  exact ⟨rfl, ⟨(), trivial, hP.sub (ws' := [(h0, .inr (0, [.ref q0, .int (nI n)])), (q0, .inl (T 0, 440, .inl f))]) [0, 1] rfl, hK9, hD.sub (ws' := [(h0, .inr (0, [.ref q0, .int (nI n)])), (q0, .inl (T 0, 440, .inl f))]) [0, 1] (by decide) rfl⟩, hFF⟩
