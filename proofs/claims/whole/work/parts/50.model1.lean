theorem ni_inc6 (e : Nat) : nI e + Int32.ofInt 6 = nI (e + 6) := by rw [show Int32.ofInt 6 = nI 6 from by decide +kernel]; exact nI_add e 6
def byB (v : Int32) : Bool := decide (0 ≤ v ∧ v ≤ nI 255)
theorem byB_y {v : Nat} (h : v < 256) : byB (nI v) = true := decide_eq_true ⟨nI_pos' (by omega), nI_le (by omega) (by decide)⟩
theorem byB_n {v : Int32} (h : v < 0 ∨ nI 255 < v) : byB v = false := decide_eq_false (fun z => h.elim (fun q => Int32.not_le.mpr q z.1) (fun q => Int32.not_le.mpr q z.2))
theorem byB_of {v : Int32} (h : byB v = true) : ∃ k, k < 256 ∧ v = nI k := by
  have h := of_decide_eq_true h
  obtain ⟨k, hk, rfl⟩ := nI_of (Int32.not_lt.mpr h.1)
  exact ⟨k, by have := (nI_leI hk (by decide : 255 < 2 ^ 31)).mp h.2; omega, rfl⟩
set_option maxHeartbeats 4000000 in
set_option maxRecDepth 100000 in
theorem c_X6_thrown (l : Launch) (D : va_G) (T : Nat → ClassId) (g : Nat → Nat) (m0 : Nat) (mb : Nat) (ml : Nat) (mm : Nat) (mk : Nat) (many : Nat) (th : Int32) : RO l yX6_thrown wsX6_thrown ({ frames := 0, cells := 0, slots := 0, locals := 0 } : Room) D T g [.ref m0] [(m0, .inr (3, [.ref mb, .ref ml, .ref mm, .int (nI many), .int th, .ref mk]))] (.int th) := by
  refine Met.ofW (cc := cX6_thrown) (maxL := 1) (ret := (some .int)) (by decide) rfl ?_
  intro p e s m args below meth c s₁ B hml hv
  obtain ⟨rfl, hP, hK, hG⟩ := hv
  have hx := B.exec
  have hb := B.bytes
  have hr := B.returns
  have hts := atoms_spec (ws := wsX6_thrown) B.pre
  have hown : s.vm.findClass RX6 = some m.cls := findClass_of_methodNamed B.named
  have hlocks := B.notSynchronized
  have hi_X6 : ∀ w ∈ wsX60, w ∈ wsX6_thrown := by decide +kernel
  have hS : va_S (fun _ => False) s.heap s.heap [] := va_S.rf
  have hl := lv_entry ([.ref m0]) (n := 1) (Nat.le_of_ble_eq_true rfl)
  rw [lg_entry_eq]
  generalize (lg_sl ([.ref m0]) ++ List.replicate (1 - (lg_sl ([.ref m0])).length) Slot.unset).toArray = ls at hl ⊢
  have hl : lv_has ls 1 [(0, .ref m0)] := hl
  refine lv_aload_n hx hb dX6_thrown_0 rfl (lv_at hl 0 rfl) ?_
  refine va_get (D := D) (ci := 3) (v := .int th) (C := RX6) (T := TX6) (N := 6) hx hb hts hi_X6 hown hK hP 0 rfl rfl 4 (by decide) (hts _ (List.mem_of_getElem? (i := 1) rfl)) (fun _ h9 => h9) rfl dX6_thrown_1 ?_
  exact W.iret (v := th) hx hb hr (fun t ht hW => ⟨(congrArg (fun z => Outcome.returned (some (Value.int z))) (show th = th from rfl)), ht⟩) (fun q h => nomatch h) dX6_thrown_4
set_option maxHeartbeats 4000000 in
set_option maxRecDepth 100000 in
theorem c_X6_isWrong_0 (l : Launch) (D : va_G) (T : Nat → ClassId) (g : Nat → Nat) (sz : Nat) (m0 : Nat) (mb : Nat) (ml : Nat) (mm : Nat) (mk : Nat) (many : Nat) (th : Int32) : MU l yX6_isWrong wsX6_isWrong ({ frames := 0, cells := 0, slots := 0, locals := 0 } : Room) D T g [.ref m0, .int (nI 0)] [(m0, .inr (3, [.ref mb, .ref ml, .ref mm, .int (nI many), .int th, .ref mk]))] sz (fun u : Unit => some (.int (nI 0))) (fun u : Unit => True) (fun u : Unit => [(m0, .inr (3, [.ref mb, .ref ml, .ref mm, .int (nI many), .int (nI 0), .ref mk]))]) 0 0 := by
  refine Met.ofW (cc := cX6_isWrong) (maxL := 2) (ret := (some .boolean)) (by decide) rfl ?_
  intro p e s m args below meth c s₁ B hml hv
  obtain ⟨rfl, hsz, hP, hK, hD0, hG⟩ := hv
  have hx := B.exec
  have hb := B.bytes
  have hr := B.returns
  have hts := atoms_spec (ws := wsX6_isWrong) B.pre
  have hown : s.vm.findClass RX6 = some m.cls := findClass_of_methodNamed B.named
  have hlocks := B.notSynchronized
  have hi_X6 : ∀ w ∈ wsX60, w ∈ wsX6_isWrong := by decide +kernel
  subst hsz
  have hD := hD0.self (sz := s.heap.size)
  generalize hAe : va_A [(m0, .inr (3, [.ref mb, .ref ml, .ref mm, .int (nI many), .int th, .ref mk]))] s.heap.size = A at hD hG ⊢
  have hA : ∀ q : Nat, s.heap.size ≤ q → A q := fun q h => by rw [← hAe]; exact Or.inr h
  have hS : va_S A s.heap s.heap [] := va_S.rf
  have hP : va_P D cls [(m0, .inr (3, [.ref mb, .ref ml, .ref mm, .int (nI many), .int th, .ref mk]))] s.heap := hP
  have hl := lv_entry ([.ref m0, .int (nI 0)]) (n := 2) (Nat.le_of_ble_eq_true rfl)
  rw [lg_entry_eq]
  generalize (lg_sl ([.ref m0, .int (nI 0)]) ++ List.replicate (2 - (lg_sl ([.ref m0, .int (nI 0)])).length) Slot.unset).toArray = ls at hl ⊢
  have hl : lv_has ls 2 [(0, .ref m0), (1, .int (nI 0))] := hl
  refine lv_aload_n hx hb dX6_isWrong_0 rfl (lv_at hl 0 rfl) ?_
  refine lv_iload_n hx hb dX6_isWrong_1 rfl (lv_at hl 1 rfl) ?_
  refine va_put (D := D) (ci := 3) (v := .int (nI 0)) (ty := .int) (C := RX6) (T := TX6) (N := 6) hx hb hts hi_X6 tyX6 tyX6_ok nmX6 hown hK hP hD hS 0 rfl rfl 4 (by decide) (hts _ (List.mem_of_getElem? (i := 1) rfl)) (fun _ h9 => h9) rfl (by decide +kernel) rfl rfl (Nat.le_of_ble_eq_true rfl) dX6_isWrong_2 (fun H locs hP hD hS => ?_)
  have hP : va_P D cls [(m0, .inr (3, [.ref mb, .ref ml, .ref mm, .int (nI many), .int (nI 0), .ref mk]))] H := hP
  have hD : va_D A [(m0, .inr (3, [.ref mb, .ref ml, .ref mm, .int (nI many), .int (nI 0), .ref mk]))] := hD
  refine lv_iload_n hx hb dX6_isWrong_5 rfl (lv_at hl 1 rfl) ?_
  refine ln_if_eq_t (tgt := 13) hx hb (by omega) (rfl) dX6_isWrong_6 (by decide) ?_
  refine lv_iconst (v := (nI 0)) hx hb dX6_isWrong_13 (by decide +kernel) ?_
  have hP9 := hP.sub (ws' := [(m0, .inr (3, [.ref mb, .ref ml, .ref mm, .int (nI many), .int (nI 0), .ref mk]))]) [0] rfl
  have hD9 := hD.sub (ws' := [(m0, .inr (3, [.ref mb, .ref ml, .ref mm, .int (nI many), .int (nI 0), .ref mk]))]) [0] (by decide) rfl
  exact W.zret (v := (nI 0)) (ty := .boolean) hx hb hr (rfl) (fun t ht hW => ⟨⟨(), rfl, trivial, (by rw [ht]; exact hP9), va_K.moved hW.alike hK, hD9⟩, hS.F ht⟩) hS.2.2 dX6_isWrong_14
set_option maxHeartbeats 4000000 in
set_option maxRecDepth 100000 in
theorem c_X6_isWrong_p (l : Launch) (D : va_G) (T : Nat → ClassId) (g : Nat → Nat) (sz : Nat) (m0 : Nat) (mb : Nat) (ml : Nat) (mm : Nat) (mk : Nat) (many : Nat) (th : Int32) (c9 : Nat) (hc : 0 < c9 ∧ c9 < 10) : MU l yX6_isWrong wsX6_isWrong ({ frames := 0, cells := 0, slots := 0, locals := 0 } : Room) D T g [.ref m0, .int (nI c9)] [(m0, .inr (3, [.ref mb, .ref ml, .ref mm, .int (nI many), .int th, .ref mk]))] sz (fun u : Unit => some (.int (nI 1))) (fun u : Unit => True) (fun u : Unit => [(m0, .inr (3, [.ref mb, .ref ml, .ref mm, .int (nI many), .int (nI c9), .ref mk]))]) 0 0 := by
  refine Met.ofW (cc := cX6_isWrong) (maxL := 2) (ret := (some .boolean)) (by decide) rfl ?_
  intro p e s m args below meth c s₁ B hml hv
  obtain ⟨rfl, hsz, hP, hK, hD0, hG⟩ := hv
  have hx := B.exec
  have hb := B.bytes
  have hr := B.returns
  have hts := atoms_spec (ws := wsX6_isWrong) B.pre
  have hown : s.vm.findClass RX6 = some m.cls := findClass_of_methodNamed B.named
  have hlocks := B.notSynchronized
  have hi_X6 : ∀ w ∈ wsX60, w ∈ wsX6_isWrong := by decide +kernel
  subst hsz
  have hD := hD0.self (sz := s.heap.size)
  generalize hAe : va_A [(m0, .inr (3, [.ref mb, .ref ml, .ref mm, .int (nI many), .int th, .ref mk]))] s.heap.size = A at hD hG ⊢
  have hA : ∀ q : Nat, s.heap.size ≤ q → A q := fun q h => by rw [← hAe]; exact Or.inr h
  have hS : va_S A s.heap s.heap [] := va_S.rf
  have hP : va_P D cls [(m0, .inr (3, [.ref mb, .ref ml, .ref mm, .int (nI many), .int th, .ref mk]))] s.heap := hP
  have hl := lv_entry ([.ref m0, .int (nI c9)]) (n := 2) (Nat.le_of_ble_eq_true rfl)
  rw [lg_entry_eq]
  generalize (lg_sl ([.ref m0, .int (nI c9)]) ++ List.replicate (2 - (lg_sl ([.ref m0, .int (nI c9)])).length) Slot.unset).toArray = ls at hl ⊢
  have hl : lv_has ls 2 [(0, .ref m0), (1, .int (nI c9))] := hl
  refine lv_aload_n hx hb dX6_isWrong_0 rfl (lv_at hl 0 rfl) ?_
  refine lv_iload_n hx hb dX6_isWrong_1 rfl (lv_at hl 1 rfl) ?_
  refine va_put (D := D) (ci := 3) (v := .int (nI c9)) (ty := .int) (C := RX6) (T := TX6) (N := 6) hx hb hts hi_X6 tyX6 tyX6_ok nmX6 hown hK hP hD hS 0 rfl rfl 4 (by decide) (hts _ (List.mem_of_getElem? (i := 1) rfl)) (fun _ h9 => h9) rfl (by decide +kernel) rfl rfl (Nat.le_of_ble_eq_true rfl) dX6_isWrong_2 (fun H locs hP hD hS => ?_)
  have hP : va_P D cls [(m0, .inr (3, [.ref mb, .ref ml, .ref mm, .int (nI many), .int (nI c9), .ref mk]))] H := hP
  have hD : va_D A [(m0, .inr (3, [.ref mb, .ref ml, .ref mm, .int (nI many), .int (nI c9), .ref mk]))] := hD
  refine lv_iload_n hx hb dX6_isWrong_5 rfl (lv_at hl 1 rfl) ?_
  refine ln_if_eq_f (tgt := 13) hx hb (by omega) (by omega) dX6_isWrong_6 (by decide) ?_
  refine lv_iconst (v := (nI 1)) hx hb dX6_isWrong_9 (by decide +kernel) ?_
  refine lv_goto (tgt := 14) hx hb dX6_isWrong_10 (by decide) ?_
  have hP9 := hP.sub (ws' := [(m0, .inr (3, [.ref mb, .ref ml, .ref mm, .int (nI many), .int (nI c9), .ref mk]))]) [0] rfl
  have hD9 := hD.sub (ws' := [(m0, .inr (3, [.ref mb, .ref ml, .ref mm, .int (nI many), .int (nI c9), .ref mk]))]) [0] (by decide) rfl
  exact W.zret (v := (nI 1)) (ty := .boolean) hx hb hr (rfl) (fun t ht hW => ⟨⟨(), rfl, trivial, (by rw [ht]; exact hP9), va_K.moved hW.alike hK, hD9⟩, hS.F ht⟩) hS.2.2 dX6_isWrong_14
set_option maxHeartbeats 4000000 in
set_option maxRecDepth 100000 in
theorem c_X6_isRow_y (l : Launch) (D : va_G) (T : Nat → ClassId) (g : Nat → Nat) (m0 : Nat) (i : Nat) (hi : i ≤ 5) : RO l yX6_isRow wsX6_isRow ({ frames := 0, cells := 0, slots := 0, locals := 0 } : Room) D T g [.ref m0, .int (nI i)] [] (.int (nI 1)) := by
  refine Met.ofW (cc := cX6_isRow) (maxL := 2) (ret := (some .boolean)) (by decide) rfl ?_
  intro p e s m args below meth c s₁ B hml hv
  obtain ⟨rfl, hP, hK, hG⟩ := hv
  have hx := B.exec
  have hb := B.bytes
  have hr := B.returns
  have hts := atoms_spec (ws := wsX6_isRow) B.pre
  have hown : s.vm.findClass RX6 = some m.cls := findClass_of_methodNamed B.named
  have hlocks := B.notSynchronized
  have hS : va_S (fun _ => False) s.heap s.heap [] := va_S.rf
  have hl := lv_entry ([.ref m0, .int (nI i)]) (n := 2) (Nat.le_of_ble_eq_true rfl)
  rw [lg_entry_eq]
  generalize (lg_sl ([.ref m0, .int (nI i)]) ++ List.replicate (2 - (lg_sl ([.ref m0, .int (nI i)])).length) Slot.unset).toArray = ls at hl ⊢
  have hl : lv_has ls 2 [(0, .ref m0), (1, .int (nI i))] := hl
  refine lv_iconst (v := (nI 0)) hx hb dX6_isRow_0 (by decide +kernel) ?_
  refine lv_iload_n hx hb dX6_isRow_1 rfl (lv_at hl 1 rfl) ?_
  refine ln_icmp_gt_f (tgt := 14) hx hb ⟨by omega, by omega⟩ (by omega) dX6_isRow_2 (by decide) ?_
  refine lv_iload_n hx hb dX6_isRow_5 rfl (lv_at hl 1 rfl) ?_
  refine lv_iconst (v := (nI 5)) hx hb dX6_isRow_6 (by decide +kernel) ?_
  refine ln_icmp_gt_f (tgt := 14) hx hb ⟨by omega, by omega⟩ (by omega) dX6_isRow_7 (by decide) ?_
  refine lv_iconst (v := (nI 1)) hx hb dX6_isRow_10 (by decide +kernel) ?_
  refine lv_goto (tgt := 15) hx hb dX6_isRow_11 (by decide) ?_
  exact W.zret (v := (nI 1)) (ty := .boolean) hx hb hr (rfl) (fun t ht hW => ⟨(congrArg (fun z => Outcome.returned (some (Value.int z))) (show (nI 1) = (nI 1) from rfl)), ht⟩) (fun q h => nomatch h) dX6_isRow_15
set_option maxHeartbeats 4000000 in
set_option maxRecDepth 100000 in
theorem c_X6_isRow_n (l : Launch) (D : va_G) (T : Nat → ClassId) (g : Nat → Nat) (m0 : Nat) (i : Int32) (hi : i < 0 ∨ nI 5 < i) : RO l yX6_isRow wsX6_isRow ({ frames := 0, cells := 0, slots := 0, locals := 0 } : Room) D T g [.ref m0, .int i] [] (.int (nI 0)) := by
  refine Met.ofW (cc := cX6_isRow) (maxL := 2) (ret := (some .boolean)) (by decide) rfl ?_
  intro p e s m args below meth c s₁ B hml hv
  obtain ⟨rfl, hP, hK, hG⟩ := hv
  have hx := B.exec
  have hb := B.bytes
  have hr := B.returns
  have hts := atoms_spec (ws := wsX6_isRow) B.pre
  have hown : s.vm.findClass RX6 = some m.cls := findClass_of_methodNamed B.named
  have hlocks := B.notSynchronized
  have hS : va_S (fun _ => False) s.heap s.heap [] := va_S.rf
  have hl := lv_entry ([.ref m0, .int i]) (n := 2) (Nat.le_of_ble_eq_true rfl)
  rw [lg_entry_eq]
  generalize (lg_sl ([.ref m0, .int i]) ++ List.replicate (2 - (lg_sl ([.ref m0, .int i])).length) Slot.unset).toArray = ls at hl ⊢
  have hl : lv_has ls 2 [(0, .ref m0), (1, .int i)] := hl
  refine lv_iconst (v := (nI 0)) hx hb dX6_isRow_0 (by decide +kernel) ?_
  refine lv_iload_n hx hb dX6_isRow_1 rfl (lv_at hl 1 rfl) ?_
  refine lv_icmp_gt (tgt := 14) hx hb dX6_isRow_2 (by decide) (fun c_2 => ?_) (fun c_2 => ?_)
  · refine lv_iconst (v := (nI 0)) hx hb dX6_isRow_14 (by decide +kernel) ?_
    exact W.zret (v := (nI 0)) (ty := .boolean) hx hb hr (rfl) (fun t ht hW => ⟨(congrArg (fun z => Outcome.returned (some (Value.int z))) (show (nI 0) = (nI 0) from rfl)), ht⟩) (fun q h => nomatch h) dX6_isRow_15
  · refine lv_iload_n hx hb dX6_isRow_5 rfl (lv_at hl 1 rfl) ?_
    refine lv_iconst (v := (nI 5)) hx hb dX6_isRow_6 (by decide +kernel) ?_
    refine lv_icmp_gt (tgt := 14) hx hb dX6_isRow_7 (by decide) (fun _ => ?_) (fun q9 => absurd (hi.elim (fun z => absurd z c_2) id) q9)
    refine lv_iconst (v := (nI 0)) hx hb dX6_isRow_14 (by decide +kernel) ?_
    exact W.zret (v := (nI 0)) (ty := .boolean) hx hb hr (rfl) (fun t ht hW => ⟨(congrArg (fun z => Outcome.returned (some (Value.int z))) (show (nI 0) = (nI 0) from rfl)), ht⟩) (fun q h => nomatch h) dX6_isRow_15
set_option maxHeartbeats 4000000 in
set_option maxRecDepth 100000 in
theorem c_X6_isByte_y (l : Launch) (D : va_G) (T : Nat → ClassId) (g : Nat → Nat) (m0 : Nat) (i : Nat) (hi : i ≤ 255) : RO l yX6_isByte wsX6_isByte ({ frames := 0, cells := 0, slots := 0, locals := 0 } : Room) D T g [.ref m0, .int (nI i)] [] (.int (nI 1)) := by
  refine Met.ofW (cc := cX6_isByte) (maxL := 2) (ret := (some .boolean)) (by decide) rfl ?_
  intro p e s m args below meth c s₁ B hml hv
  obtain ⟨rfl, hP, hK, hG⟩ := hv
  have hx := B.exec
  have hb := B.bytes
  have hr := B.returns
  have hts := atoms_spec (ws := wsX6_isByte) B.pre
  have hown : s.vm.findClass RX6 = some m.cls := findClass_of_methodNamed B.named
  have hlocks := B.notSynchronized
  have hS : va_S (fun _ => False) s.heap s.heap [] := va_S.rf
  have hl := lv_entry ([.ref m0, .int (nI i)]) (n := 2) (Nat.le_of_ble_eq_true rfl)
  rw [lg_entry_eq]
  generalize (lg_sl ([.ref m0, .int (nI i)]) ++ List.replicate (2 - (lg_sl ([.ref m0, .int (nI i)])).length) Slot.unset).toArray = ls at hl ⊢
  have hl : lv_has ls 2 [(0, .ref m0), (1, .int (nI i))] := hl
  refine lv_iconst (v := (nI 0)) hx hb dX6_isByte_0 (by decide +kernel) ?_
  refine lv_iload_n hx hb dX6_isByte_1 rfl (lv_at hl 1 rfl) ?_
  refine ln_icmp_gt_f (tgt := 16) hx hb ⟨by omega, by omega⟩ (by omega) dX6_isByte_2 (by decide) ?_
  refine lv_iload_n hx hb dX6_isByte_5 rfl (lv_at hl 1 rfl) ?_
  refine lv_sipush (v := (nI 255)) hx hb dX6_isByte_6 (by decide +kernel) ?_
  refine ln_icmp_gt_f (tgt := 16) hx hb ⟨by omega, by omega⟩ (by omega) dX6_isByte_9 (by decide) ?_
  refine lv_iconst (v := (nI 1)) hx hb dX6_isByte_12 (by decide +kernel) ?_
  refine lv_goto (tgt := 17) hx hb dX6_isByte_13 (by decide) ?_
  exact W.zret (v := (nI 1)) (ty := .boolean) hx hb hr (rfl) (fun t ht hW => ⟨(congrArg (fun z => Outcome.returned (some (Value.int z))) (show (nI 1) = (nI 1) from rfl)), ht⟩) (fun q h => nomatch h) dX6_isByte_17
set_option maxHeartbeats 4000000 in
set_option maxRecDepth 100000 in
theorem c_X6_isByte_n (l : Launch) (D : va_G) (T : Nat → ClassId) (g : Nat → Nat) (m0 : Nat) (i : Int32) (hi : i < 0 ∨ nI 255 < i) : RO l yX6_isByte wsX6_isByte ({ frames := 0, cells := 0, slots := 0, locals := 0 } : Room) D T g [.ref m0, .int i] [] (.int (nI 0)) := by
  refine Met.ofW (cc := cX6_isByte) (maxL := 2) (ret := (some .boolean)) (by decide) rfl ?_
  intro p e s m args below meth c s₁ B hml hv
  obtain ⟨rfl, hP, hK, hG⟩ := hv
  have hx := B.exec
  have hb := B.bytes
  have hr := B.returns
  have hts := atoms_spec (ws := wsX6_isByte) B.pre
  have hown : s.vm.findClass RX6 = some m.cls := findClass_of_methodNamed B.named
  have hlocks := B.notSynchronized
  have hS : va_S (fun _ => False) s.heap s.heap [] := va_S.rf
  have hl := lv_entry ([.ref m0, .int i]) (n := 2) (Nat.le_of_ble_eq_true rfl)
  rw [lg_entry_eq]
  generalize (lg_sl ([.ref m0, .int i]) ++ List.replicate (2 - (lg_sl ([.ref m0, .int i])).length) Slot.unset).toArray = ls at hl ⊢
  have hl : lv_has ls 2 [(0, .ref m0), (1, .int i)] := hl
  refine lv_iconst (v := (nI 0)) hx hb dX6_isByte_0 (by decide +kernel) ?_
  refine lv_iload_n hx hb dX6_isByte_1 rfl (lv_at hl 1 rfl) ?_
  refine lv_icmp_gt (tgt := 16) hx hb dX6_isByte_2 (by decide) (fun c_2 => ?_) (fun c_2 => ?_)
  · refine lv_iconst (v := (nI 0)) hx hb dX6_isByte_16 (by decide +kernel) ?_
    exact W.zret (v := (nI 0)) (ty := .boolean) hx hb hr (rfl) (fun t ht hW => ⟨(congrArg (fun z => Outcome.returned (some (Value.int z))) (show (nI 0) = (nI 0) from rfl)), ht⟩) (fun q h => nomatch h) dX6_isByte_17
  · refine lv_iload_n hx hb dX6_isByte_5 rfl (lv_at hl 1 rfl) ?_
    refine lv_sipush (v := (nI 255)) hx hb dX6_isByte_6 (by decide +kernel) ?_
    refine lv_icmp_gt (tgt := 16) hx hb dX6_isByte_9 (by decide) (fun _ => ?_) (fun q9 => absurd (hi.elim (fun z => absurd z c_2) id) q9)
    refine lv_iconst (v := (nI 0)) hx hb dX6_isByte_16 (by decide +kernel) ?_
    exact W.zret (v := (nI 0)) (ty := .boolean) hx hb hr (rfl) (fun t ht hW => ⟨(congrArg (fun z => Outcome.returned (some (Value.int z))) (show (nI 0) = (nI 0) from rfl)), ht⟩) (fun q h => nomatch h) dX6_isByte_17
set_option maxHeartbeats 4000000 in
set_option maxRecDepth 100000 in
theorem c_X6_isKind_y (l : Launch) (D : va_G) (T : Nat → ClassId) (g : Nat → Nat) (m0 : Nat) (i : Nat) (hi : i ≤ 2) : RO l yX6_isKind wsX6_isKind ({ frames := 0, cells := 0, slots := 0, locals := 0 } : Room) D T g [.ref m0, .int (nI i)] [] (.int (nI 1)) := by
  refine Met.ofW (cc := cX6_isKind) (maxL := 2) (ret := (some .boolean)) (by decide) rfl ?_
  intro p e s m args below meth c s₁ B hml hv
  obtain ⟨rfl, hP, hK, hG⟩ := hv
  have hx := B.exec
  have hb := B.bytes
  have hr := B.returns
  have hts := atoms_spec (ws := wsX6_isKind) B.pre
  have hown : s.vm.findClass RX6 = some m.cls := findClass_of_methodNamed B.named
  have hlocks := B.notSynchronized
  have hS : va_S (fun _ => False) s.heap s.heap [] := va_S.rf
  have hl := lv_entry ([.ref m0, .int (nI i)]) (n := 2) (Nat.le_of_ble_eq_true rfl)
  rw [lg_entry_eq]
  generalize (lg_sl ([.ref m0, .int (nI i)]) ++ List.replicate (2 - (lg_sl ([.ref m0, .int (nI i)])).length) Slot.unset).toArray = ls at hl ⊢
  have hl : lv_has ls 2 [(0, .ref m0), (1, .int (nI i))] := hl
  refine lv_iconst (v := (nI 0)) hx hb dX6_isKind_0 (by decide +kernel) ?_
  refine lv_iload_n hx hb dX6_isKind_1 rfl (lv_at hl 1 rfl) ?_
  refine ln_icmp_gt_f (tgt := 14) hx hb ⟨by omega, by omega⟩ (by omega) dX6_isKind_2 (by decide) ?_
  refine lv_iload_n hx hb dX6_isKind_5 rfl (lv_at hl 1 rfl) ?_
  refine lv_iconst (v := (nI 2)) hx hb dX6_isKind_6 (by decide +kernel) ?_
  refine ln_icmp_gt_f (tgt := 14) hx hb ⟨by omega, by omega⟩ (by omega) dX6_isKind_7 (by decide) ?_
  refine lv_iconst (v := (nI 1)) hx hb dX6_isKind_10 (by decide +kernel) ?_
  refine lv_goto (tgt := 15) hx hb dX6_isKind_11 (by decide) ?_
  exact W.zret (v := (nI 1)) (ty := .boolean) hx hb hr (rfl) (fun t ht hW => ⟨(congrArg (fun z => Outcome.returned (some (Value.int z))) (show (nI 1) = (nI 1) from rfl)), ht⟩) (fun q h => nomatch h) dX6_isKind_15
set_option maxHeartbeats 4000000 in
set_option maxRecDepth 100000 in
theorem c_X6_isKind_n (l : Launch) (D : va_G) (T : Nat → ClassId) (g : Nat → Nat) (m0 : Nat) (i : Int32) (hi : i < 0 ∨ nI 2 < i) : RO l yX6_isKind wsX6_isKind ({ frames := 0, cells := 0, slots := 0, locals := 0 } : Room) D T g [.ref m0, .int i] [] (.int (nI 0)) := by
  refine Met.ofW (cc := cX6_isKind) (maxL := 2) (ret := (some .boolean)) (by decide) rfl ?_
  intro p e s m args below meth c s₁ B hml hv
  obtain ⟨rfl, hP, hK, hG⟩ := hv
  have hx := B.exec
  have hb := B.bytes
  have hr := B.returns
  have hts := atoms_spec (ws := wsX6_isKind) B.pre
  have hown : s.vm.findClass RX6 = some m.cls := findClass_of_methodNamed B.named
  have hlocks := B.notSynchronized
  have hS : va_S (fun _ => False) s.heap s.heap [] := va_S.rf
  have hl := lv_entry ([.ref m0, .int i]) (n := 2) (Nat.le_of_ble_eq_true rfl)
  rw [lg_entry_eq]
  generalize (lg_sl ([.ref m0, .int i]) ++ List.replicate (2 - (lg_sl ([.ref m0, .int i])).length) Slot.unset).toArray = ls at hl ⊢
  have hl : lv_has ls 2 [(0, .ref m0), (1, .int i)] := hl
  refine lv_iconst (v := (nI 0)) hx hb dX6_isKind_0 (by decide +kernel) ?_
  refine lv_iload_n hx hb dX6_isKind_1 rfl (lv_at hl 1 rfl) ?_
  refine lv_icmp_gt (tgt := 14) hx hb dX6_isKind_2 (by decide) (fun c_2 => ?_) (fun c_2 => ?_)
  · refine lv_iconst (v := (nI 0)) hx hb dX6_isKind_14 (by decide +kernel) ?_
    exact W.zret (v := (nI 0)) (ty := .boolean) hx hb hr (rfl) (fun t ht hW => ⟨(congrArg (fun z => Outcome.returned (some (Value.int z))) (show (nI 0) = (nI 0) from rfl)), ht⟩) (fun q h => nomatch h) dX6_isKind_15
  · refine lv_iload_n hx hb dX6_isKind_5 rfl (lv_at hl 1 rfl) ?_
    refine lv_iconst (v := (nI 2)) hx hb dX6_isKind_6 (by decide +kernel) ?_
    refine lv_icmp_gt (tgt := 14) hx hb dX6_isKind_7 (by decide) (fun _ => ?_) (fun q9 => absurd (hi.elim (fun z => absurd z c_2) id) q9)
    refine lv_iconst (v := (nI 0)) hx hb dX6_isKind_14 (by decide +kernel) ?_
    exact W.zret (v := (nI 0)) (ty := .boolean) hx hb hr (rfl) (fun t ht hW => ⟨(congrArg (fun z => Outcome.returned (some (Value.int z))) (show (nI 0) = (nI 0) from rfl)), ht⟩) (fun q h => nomatch h) dX6_isKind_15
set_option maxHeartbeats 4000000 in
set_option maxRecDepth 100000 in
theorem c_X6_isByte (l : Launch) (D : va_G) (T : Nat → ClassId) (g : Nat → Nat) (m0 : Nat) (v : Int32) : RO l yX6_isByte wsX6_isByte ({ frames := 0, cells := 0, slots := 0, locals := 0 } : Room) D T g [.ref m0, .int v] [] (.int (bI (byB v))) := by
  refine Met.ofW (cc := cX6_isByte) (maxL := 2) (ret := (some .boolean)) (by decide) rfl ?_
  intro p e s m args below meth c s₁ B hml hv
  obtain ⟨rfl, hP, hK, hG⟩ := hv
  have hx := B.exec
  have hb := B.bytes
  have hr := B.returns
  have hts := atoms_spec (ws := wsX6_isByte) B.pre
  have hown : s.vm.findClass RX6 = some m.cls := findClass_of_methodNamed B.named
  have hlocks := B.notSynchronized
  have hS : va_S (fun _ => False) s.heap s.heap [] := va_S.rf
  have hl := lv_entry ([.ref m0, .int v]) (n := 2) (Nat.le_of_ble_eq_true rfl)
  rw [lg_entry_eq]
  generalize (lg_sl ([.ref m0, .int v]) ++ List.replicate (2 - (lg_sl ([.ref m0, .int v])).length) Slot.unset).toArray = ls at hl ⊢
  have hl : lv_has ls 2 [(0, .ref m0), (1, .int v)] := hl
  refine lv_iconst (v := (nI 0)) hx hb dX6_isByte_0 (by decide +kernel) ?_
  refine lv_iload_n hx hb dX6_isByte_1 rfl (lv_at hl 1 rfl) ?_
  refine lv_icmp_gt (tgt := 16) hx hb dX6_isByte_2 (by decide) (fun c_2 => ?_) (fun c_2 => ?_)
  · refine lv_iconst (v := (nI 0)) hx hb dX6_isByte_16 (by decide +kernel) ?_
    exact W.zret (v := (nI 0)) (ty := .boolean) hx hb hr (rfl) (fun t ht hW => ⟨(congrArg (fun z => Outcome.returned (some (Value.int z))) (show (nI 0) = (bI (byB v)) from bI_f (decide_eq_false (fun z => Int32.not_le.mpr c_2 z.1)))), ht⟩) (fun q h => nomatch h) dX6_isByte_17
  · refine lv_iload_n hx hb dX6_isByte_5 rfl (lv_at hl 1 rfl) ?_
    refine lv_sipush (v := (nI 255)) hx hb dX6_isByte_6 (by decide +kernel) ?_
    refine lv_icmp_gt (tgt := 16) hx hb dX6_isByte_9 (by decide) (fun c_9 => ?_) (fun c_9 => ?_)
    · refine lv_iconst (v := (nI 0)) hx hb dX6_isByte_16 (by decide +kernel) ?_
      exact W.zret (v := (nI 0)) (ty := .boolean) hx hb hr (rfl) (fun t ht hW => ⟨(congrArg (fun z => Outcome.returned (some (Value.int z))) (show (nI 0) = (bI (byB v)) from bI_f (decide_eq_false (fun z => Int32.not_le.mpr c_9 z.2)))), ht⟩) (fun q h => nomatch h) dX6_isByte_17
    · refine lv_iconst (v := (nI 1)) hx hb dX6_isByte_12 (by decide +kernel) ?_
      refine lv_goto (tgt := 17) hx hb dX6_isByte_13 (by decide) ?_
      exact W.zret (v := (nI 1)) (ty := .boolean) hx hb hr (rfl) (fun t ht hW => ⟨(congrArg (fun z => Outcome.returned (some (Value.int z))) (show (nI 1) = (bI (byB v)) from bI_t (decide_eq_true ⟨Int32.not_lt.mp c_2, Int32.not_lt.mp c_9⟩))), ht⟩) (fun q h => nomatch h) dX6_isByte_17
set_option maxHeartbeats 4000000 in
set_option maxRecDepth 100000 in
theorem c_X6_at (l : Launch) (D : va_G) (T : Nat → ClassId) (g : Nat → Nat) (m0 : Nat) (mb : Nat) (ml : Nat) (mm : Nat) (mk : Nat) (many : Nat) (th : Int32) (fb : Nat → Int32) (i : Nat) (j : Nat) (hij : i < 6 ∧ j < 320) : RO l yX6_at wsX6_at ({ frames := 0, cells := 0, slots := 0, locals := 0 } : Room) D T g [.ref m0, .int (nI i), .int (nI j)] [(m0, .inr (3, [.ref mb, .ref ml, .ref mm, .int (nI many), .int th, .ref mk])), (mb, .inl (T 0, 1920, .inl fb))] (.int (fb (320 * i + j))) := by
  refine Met.ofW (cc := cX6_at) (maxL := 3) (ret := (some .int)) (by decide) rfl ?_
  intro p e s m args below meth c s₁ B hml hv
  obtain ⟨rfl, hP, hK, hG⟩ := hv
  have hx := B.exec
  have hb := B.bytes
  have hr := B.returns
  have hts := atoms_spec (ws := wsX6_at) B.pre
  have hown : s.vm.findClass RX6 = some m.cls := findClass_of_methodNamed B.named
  have hlocks := B.notSynchronized
  have hi_X6 : ∀ w ∈ wsX60, w ∈ wsX6_at := by decide +kernel
  have hS : va_S (fun _ => False) s.heap s.heap [] := va_S.rf
  have hl := lv_entry ([.ref m0, .int (nI i), .int (nI j)]) (n := 3) (Nat.le_of_ble_eq_true rfl)
  rw [lg_entry_eq]
  generalize (lg_sl ([.ref m0, .int (nI i), .int (nI j)]) ++ List.replicate (3 - (lg_sl ([.ref m0, .int (nI i), .int (nI j)])).length) Slot.unset).toArray = ls at hl ⊢
  have hl : lv_has ls 3 [(0, .ref m0), (1, .int (nI i)), (2, .int (nI j))] := hl
  refine lv_aload_n hx hb dX6_at_0 rfl (lv_at hl 0 rfl) ?_
  refine va_get (D := D) (ci := 3) (v := .ref mb) (C := RX6) (T := TX6) (N := 6) hx hb hts hi_X6 hown hK hP 0 rfl rfl 0 (by decide) (hts _ (List.mem_of_getElem? (i := 1) rfl)) (fun _ h9 => h9) rfl dX6_at_1 ?_
  refine lv_sipush (v := (nI 320)) hx hb dX6_at_4 (by decide +kernel) ?_
  refine lv_iload_n hx hb dX6_at_7 rfl (lv_at hl 1 rfl) ?_
  refine ln_mul hx hb dX6_at_8 ?_
  refine lv_iload_n hx hb dX6_at_9 rfl (lv_at hl 2 rfl) ?_
  refine ln_add hx hb dX6_at_10 ?_
  refine ln_iald hx hb hK hP 1 0 rfl rfl ⟨by omega, by omega⟩ dX6_at_11 ?_
  exact W.iret (v := (fb ((320 * i) + j))) hx hb hr (fun t ht hW => ⟨(congrArg (fun z => Outcome.returned (some (Value.int z))) (show (fb ((320 * i) + j)) = (fb (320 * i + j)) from rfl)), ht⟩) (fun q h => nomatch h) dX6_at_12
set_option maxHeartbeats 4000000 in
set_option maxRecDepth 100000 in
theorem c_X6_atB (l : Launch) (D : va_G) (T : Nat → ClassId) (g : Nat → Nat) (m0 : Nat) (mb : Nat) (ml : Nat) (mm : Nat) (mk : Nat) (many : Nat) (th : Int32) (fb : Nat → Int32) (i : Nat) (j : Nat) (n : Nat) (b : Nat → Nat) (hi : i < 6) (hrw : RW fb i n b) (hj : j < n) : RO l yX6_at wsX6_at ({ frames := 0, cells := 0, slots := 0, locals := 0 } : Room) D T g [.ref m0, .int (nI i), .int (nI j)] [(m0, .inr (3, [.ref mb, .ref ml, .ref mm, .int (nI many), .int th, .ref mk])), (mb, .inl (T 0, 1920, .inl fb))] (.int (nI (b j))) := by
  refine Met.ofW (cc := cX6_at) (maxL := 3) (ret := (some .int)) (by decide) rfl ?_
  intro p e s m args below meth c s₁ B hml hv
  obtain ⟨rfl, hP, hK, hG⟩ := hv
  have hx := B.exec
  have hb := B.bytes
  have hr := B.returns
  have hts := atoms_spec (ws := wsX6_at) B.pre
  have hown : s.vm.findClass RX6 = some m.cls := findClass_of_methodNamed B.named
  have hlocks := B.notSynchronized
  have hi_X6 : ∀ w ∈ wsX60, w ∈ wsX6_at := by decide +kernel
  have hS : va_S (fun _ => False) s.heap s.heap [] := va_S.rf
  have hl := lv_entry ([.ref m0, .int (nI i), .int (nI j)]) (n := 3) (Nat.le_of_ble_eq_true rfl)
  rw [lg_entry_eq]
  generalize (lg_sl ([.ref m0, .int (nI i), .int (nI j)]) ++ List.replicate (3 - (lg_sl ([.ref m0, .int (nI i), .int (nI j)])).length) Slot.unset).toArray = ls at hl ⊢
  have hl : lv_has ls 3 [(0, .ref m0), (1, .int (nI i)), (2, .int (nI j))] := hl
  have hn := hrw.1
  refine lv_aload_n hx hb dX6_at_0 rfl (lv_at hl 0 rfl) ?_
  refine va_get (D := D) (ci := 3) (v := .ref mb) (C := RX6) (T := TX6) (N := 6) hx hb hts hi_X6 hown hK hP 0 rfl rfl 0 (by decide) (hts _ (List.mem_of_getElem? (i := 1) rfl)) (fun _ h9 => h9) rfl dX6_at_1 ?_
  refine lv_sipush (v := (nI 320)) hx hb dX6_at_4 (by decide +kernel) ?_
  refine lv_iload_n hx hb dX6_at_7 rfl (lv_at hl 1 rfl) ?_
  refine ln_mul hx hb dX6_at_8 ?_
  refine lv_iload_n hx hb dX6_at_9 rfl (lv_at hl 2 rfl) ?_
  refine ln_add hx hb dX6_at_10 ?_
  refine ln_iald hx hb hK hP 1 0 rfl rfl ⟨by omega, by omega⟩ dX6_at_11 ?_
  rw [show fb ((320 * i) + j) = nI (b j) from (hrw.2 j hj).1]
  exact W.iret (v := (nI (b j))) hx hb hr (fun t ht hW => ⟨(congrArg (fun z => Outcome.returned (some (Value.int z))) (show (nI (b j)) = (nI (b j)) from rfl)), ht⟩) (fun q h => nomatch h) dX6_at_12
set_option maxHeartbeats 4000000 in
set_option maxRecDepth 100000 in
/-- a row becomes what is made -/
theorem c_X6_becomes (l : Launch) (D : va_G) (T : Nat → ClassId) (g : Nat → Nat) (sz : Nat) (m0 : Nat) (mb : Nat) (ml : Nat) (mm : Nat) (mk : Nat) (many : Nat) (th : Int32) (fb : Nat → Int32) (fl : Nat → Int32) (fm : Nat → Int32) (i : Nat) (w : Nat → Nat) (hi : i < 6) (hMD : MD fm many w) (hm : many ≤ 320) : MU l yX6_becomes wsX6_becomes ({ frames := 0, cells := 0, slots := 0, locals := 0 } : Room) D T g [.ref m0, .int (nI i)] [(m0, .inr (3, [.ref mb, .ref ml, .ref mm, .int (nI many), .int th, .ref mk])), (mb, .inl (T 0, 1920, .inl fb)), (ml, .inl (T 0, 6, .inl fl)), (mm, .inl (T 0, 600, .inl fm))] sz (fun u : Nat → Int32 => some (.int (nI many))) (fun u : Nat → Int32 => RW u i many w ∧ ∀ q, q < 320 * i ∨ 320 * i + 320 ≤ q → u q = fb q) (fun u : Nat → Int32 => [(m0, .inr (3, [.ref mb, .ref ml, .ref mm, .int (nI many), .int th, .ref mk])), (mb, .inl (T 0, 1920, .inl u)), (ml, .inl (T 0, 6, .inl (upd fl i (nI many)))), (mm, .inl (T 0, 600, .inl fm))]) 0 0 := by
  refine Met.ofW (cc := cX6_becomes) (maxL := 3) (ret := (some .int)) (by decide) rfl ?_
  intro p e s m args below meth c s₁ B hml hv
  obtain ⟨rfl, hsz, hP, hK, hD0, hG⟩ := hv
  have hx := B.exec
  have hb := B.bytes
  have hr := B.returns
  have hts := atoms_spec (ws := wsX6_becomes) B.pre
  have hown : s.vm.findClass RX6 = some m.cls := findClass_of_methodNamed B.named
  have hlocks := B.notSynchronized
  have hi_X6 : ∀ w ∈ wsX60, w ∈ wsX6_becomes := by decide +kernel
  subst hsz
  have hD := hD0.self (sz := s.heap.size)
  generalize hAe : va_A [(m0, .inr (3, [.ref mb, .ref ml, .ref mm, .int (nI many), .int th, .ref mk])), (mb, .inl (T 0, 1920, .inl fb)), (ml, .inl (T 0, 6, .inl fl)), (mm, .inl (T 0, 600, .inl fm))] s.heap.size = A at hD hG ⊢
  have hA : ∀ q : Nat, s.heap.size ≤ q → A q := fun q h => by rw [← hAe]; exact Or.inr h
  have hS : va_S A s.heap s.heap [] := va_S.rf
  have hP : va_P D cls [(m0, .inr (3, [.ref mb, .ref ml, .ref mm, .int (nI many), .int th, .ref mk])), (mb, .inl (T 0, 1920, .inl fb)), (ml, .inl (T 0, 6, .inl fl)), (mm, .inl (T 0, 600, .inl fm))] s.heap := hP
  have hl := lv_entry ([.ref m0, .int (nI i)]) (n := 3) (Nat.le_of_ble_eq_true rfl)
  rw [lg_entry_eq]
  generalize (lg_sl ([.ref m0, .int (nI i)]) ++ List.replicate (3 - (lg_sl ([.ref m0, .int (nI i)])).length) Slot.unset).toArray = ls at hl ⊢
  have hl : lv_has ls 3 [(0, .ref m0), (1, .int (nI i))] := hl
  refine lv_iconst (v := (nI 0)) hx hb dX6_becomes_0 (by decide +kernel) ?_
  refine lv_istore_n (lv' := [(2, .int (nI 0)), (0, .ref m0), (1, .int (nI i))]) hx hb dX6_becomes_1 rfl hl (by decide) rfl (fun ls hl => ?_)
  have K1 : ∀ (N9 : Nat) (j : Nat) (F : Nat → Int32), (j ≤ many) → (RW F i j w) → (∀ q, q < 320 * i ∨ 320 * i + 320 ≤ q → F q = fb q) → many - j < N9 → ∀ (H : Heap) (locs : List Loc), va_P D cls [(m0, .inr (3, [.ref mb, .ref ml, .ref mm, .int (nI many), .int th, .ref mk])), (mb, .inl (T 0, 1920, .inl F)), (ml, .inl (T 0, 6, .inl fl)), (mm, .inl (T 0, 600, .inl fm))] H → va_D A [(m0, .inr (3, [.ref mb, .ref ml, .ref mm, .int (nI many), .int th, .ref mk])), (mb, .inl (T 0, 1920, .inl F)), (ml, .inl (T 0, 6, .inl fl)), (mm, .inl (T 0, 600, .inl fm))] → va_S A s.heap H locs → ∀ ls : Array Slot, lv_has ls 3 [(0, .ref m0), (1, .int (nI i)), (2, .int (nI j))] → W p l e (headSpec wsX6_becomes ({ frames := 0, cells := 0, slots := 0, locals := 0 } : Room)).room s m ([.ref m0, .int (nI i)] : List Value).toArray below meth c H locs 0 0 (MQ below (QM D T A (fun u : Nat → Int32 => some (.int (nI many))) (fun u : Nat → Int32 => RW u i many w ∧ ∀ q, q < 320 * i ∨ 320 * i + 320 ≤ q → u q = fb q) (fun u : Nat → Int32 => [(m0, .inr (3, [.ref mb, .ref ml, .ref mm, .int (nI many), .int th, .ref mk])), (mb, .inl (T 0, 1920, .inl u)), (ml, .inl (T 0, 6, .inl (upd fl i (nI many)))), (mm, .inl (T 0, 600, .inl fm))])) ([.ref m0, .int (nI i)] : List Value).toArray s 0 0 A) (F0 m 2 ls []) := by
    intro N9
    induction N9 with
    | zero => intro j F hj hF hfr h9; exact absurd h9 (Nat.not_lt_zero _)
    | succ N9 ih_2 =>
      intro j F hj hF hfr h9 H locs hP hD hS ls hl
      refine lv_iload_n hx hb dX6_becomes_2 rfl (lv_at hl 2 rfl) ?_
      refine lv_aload_n hx hb dX6_becomes_3 rfl (lv_at hl 0 rfl) ?_
      refine va_get (D := D) (ci := 3) (v := .int (nI many)) (C := RX6) (T := TX6) (N := 6) hx hb hts hi_X6 hown hK hP 0 rfl rfl 3 (by decide) (hts _ (List.mem_of_getElem? (i := 1) rfl)) (fun _ h9 => h9) rfl dX6_becomes_4 ?_
      refine ln_icmp_ge (tgt := 34) hx hb ⟨by omega, by omega⟩ dX6_becomes_7 (by decide) (fun c_7 => ?_) (fun c_7 => ?_)
      · have e9 : j = many := by omega
        rw [e9] at hF
        refine lv_aload_n hx hb dX6_becomes_34 rfl (lv_at hl 0 rfl) ?_
        refine va_get (D := D) (ci := 3) (v := .ref ml) (C := RX6) (T := TX6) (N := 6) hx hb hts hi_X6 hown hK hP 0 rfl rfl 1 (by decide) (hts _ (List.mem_of_getElem? (i := 4) rfl)) (fun _ h9 => h9) rfl dX6_becomes_35 ?_
        refine lv_iload_n hx hb dX6_becomes_38 rfl (lv_at hl 1 rfl) ?_
        refine lv_aload_n hx hb dX6_becomes_39 rfl (lv_at hl 0 rfl) ?_
        refine va_get (D := D) (ci := 3) (v := .int (nI many)) (C := RX6) (T := TX6) (N := 6) hx hb hts hi_X6 hown hK hP 0 rfl rfl 3 (by decide) (hts _ (List.mem_of_getElem? (i := 1) rfl)) (fun _ h9 => h9) rfl dX6_becomes_40 ?_
        refine ln_iast hx hb hK hP hD hS 2 0 rfl rfl ⟨by omega, by omega⟩ dX6_becomes_43 (fun H locs hP hD hS => ?_)
        have hP : va_P D cls [(m0, .inr (3, [.ref mb, .ref ml, .ref mm, .int (nI many), .int th, .ref mk])), (mb, .inl (T 0, 1920, .inl F)), (ml, .inl (T 0, 6, .inl (upd fl i (nI many)))), (mm, .inl (T 0, 600, .inl fm))] H := hP
        have hD : va_D A [(m0, .inr (3, [.ref mb, .ref ml, .ref mm, .int (nI many), .int th, .ref mk])), (mb, .inl (T 0, 1920, .inl F)), (ml, .inl (T 0, 6, .inl (upd fl i (nI many)))), (mm, .inl (T 0, 600, .inl fm))] := hD
        refine lv_aload_n hx hb dX6_becomes_44 rfl (lv_at hl 0 rfl) ?_
        refine va_get (D := D) (ci := 3) (v := .int (nI many)) (C := RX6) (T := TX6) (N := 6) hx hb hts hi_X6 hown hK hP 0 rfl rfl 3 (by decide) (hts _ (List.mem_of_getElem? (i := 1) rfl)) (fun _ h9 => h9) rfl dX6_becomes_45 ?_
        have hP9 := hP.sub (ws' := [(m0, .inr (3, [.ref mb, .ref ml, .ref mm, .int (nI many), .int th, .ref mk])), (mb, .inl (T 0, 1920, .inl F)), (ml, .inl (T 0, 6, .inl (upd fl i (nI many)))), (mm, .inl (T 0, 600, .inl fm))]) [0, 1, 2, 3] rfl
        have hD9 := hD.sub (ws' := [(m0, .inr (3, [.ref mb, .ref ml, .ref mm, .int (nI many), .int th, .ref mk])), (mb, .inl (T 0, 1920, .inl F)), (ml, .inl (T 0, 6, .inl (upd fl i (nI many)))), (mm, .inl (T 0, 600, .inl fm))]) [0, 1, 2, 3] (by decide) rfl
        exact W.iret (v := (nI many)) hx hb hr (fun t ht hW => ⟨⟨F, rfl, ⟨hF, hfr⟩, (by rw [ht]; exact hP9), va_K.moved hW.alike hK, hD9⟩, hS.F ht⟩) hS.2.2 dX6_becomes_48
      · refine lv_aload_n hx hb dX6_becomes_10 rfl (lv_at hl 0 rfl) ?_
        refine va_get (D := D) (ci := 3) (v := .ref mb) (C := RX6) (T := TX6) (N := 6) hx hb hts hi_X6 hown hK hP 0 rfl rfl 0 (by decide) (hts _ (List.mem_of_getElem? (i := 2) rfl)) (fun _ h9 => h9) rfl dX6_becomes_11 ?_
        refine lv_sipush (v := (nI 320)) hx hb dX6_becomes_14 (by decide +kernel) ?_
        refine lv_iload_n hx hb dX6_becomes_17 rfl (lv_at hl 1 rfl) ?_
        refine ln_mul hx hb dX6_becomes_18 ?_
        refine lv_iload_n hx hb dX6_becomes_19 rfl (lv_at hl 2 rfl) ?_
        refine ln_add hx hb dX6_becomes_20 ?_
        refine lv_aload_n hx hb dX6_becomes_21 rfl (lv_at hl 0 rfl) ?_
        refine va_get (D := D) (ci := 3) (v := .ref mm) (C := RX6) (T := TX6) (N := 6) hx hb hts hi_X6 hown hK hP 0 rfl rfl 2 (by decide) (hts _ (List.mem_of_getElem? (i := 3) rfl)) (fun _ h9 => h9) rfl dX6_becomes_22 ?_
        refine lv_iload_n hx hb dX6_becomes_25 rfl (lv_at hl 2 rfl) ?_
        refine ln_iald hx hb hK hP 3 0 rfl rfl ⟨by omega, by omega⟩ dX6_becomes_26 ?_
        rw [show fm j = nI (w j) from (hMD.2 j (by omega)).1]
        refine ln_iast hx hb hK hP hD hS 1 0 rfl rfl ⟨by omega, by omega⟩ dX6_becomes_27 (fun H locs hP hD hS => ?_)
        have hP : va_P D cls [(m0, .inr (3, [.ref mb, .ref ml, .ref mm, .int (nI many), .int th, .ref mk])), (mb, .inl (T 0, 1920, .inl (upd F ((320 * i) + j) (nI (w j))))), (ml, .inl (T 0, 6, .inl fl)), (mm, .inl (T 0, 600, .inl fm))] H := hP
        have hD : va_D A [(m0, .inr (3, [.ref mb, .ref ml, .ref mm, .int (nI many), .int th, .ref mk])), (mb, .inl (T 0, 1920, .inl (upd F ((320 * i) + j) (nI (w j))))), (ml, .inl (T 0, 6, .inl fl)), (mm, .inl (T 0, 600, .inl fm))] := hD
        refine lv_iinc (v := (nI (j + 1))) (lv' := [(2, .int (nI (j + 1))), (0, .ref m0), (1, .int (nI i))]) hx hb dX6_becomes_28 hl (k := 2) rfl (ni_inc1 _) (by decide) rfl (fun ls hl => ?_)
        refine lv_goto (tgt := 2) hx hb dX6_becomes_31 (by decide) ?_
        exact ih_2 (j + 1) (upd F ((320 * i) + j) (nI (w j))) (by omega) (RW_next hF (by omega) rfl (hMD.2 _ (by omega)).2) (fun q hq => (pk_un (by omega)).trans (hfr q hq)) (by omega) _ _ (hP.sub (ws' := [(m0, .inr (3, [.ref mb, .ref ml, .ref mm, .int (nI many), .int th, .ref mk])), (mb, .inl (T 0, 1920, .inl (upd F ((320 * i) + j) (nI (w j))))), (ml, .inl (T 0, 6, .inl fl)), (mm, .inl (T 0, 600, .inl fm))]) [0, 1, 2, 3] rfl) (hD.sub (ws' := [(m0, .inr (3, [.ref mb, .ref ml, .ref mm, .int (nI many), .int th, .ref mk])), (mb, .inl (T 0, 1920, .inl (upd F ((320 * i) + j) (nI (w j))))), (ml, .inl (T 0, 6, .inl fl)), (mm, .inl (T 0, 600, .inl fm))]) [0, 1, 2, 3] (by decide) rfl) hS ls (lv_sub hl [1, 2, 0] rfl)
  exact K1 _ 0 fb (by omega) (⟨by omega, fun j hj => absurd hj (Nat.not_lt_zero _)⟩) (fun _ _ => rfl) (Nat.lt_succ_self _) _ _ (hP.sub (ws' := [(m0, .inr (3, [.ref mb, .ref ml, .ref mm, .int (nI many), .int th, .ref mk])), (mb, .inl (T 0, 1920, .inl fb)), (ml, .inl (T 0, 6, .inl fl)), (mm, .inl (T 0, 600, .inl fm))]) [0, 1, 2, 3] rfl) (hD.sub (ws' := [(m0, .inr (3, [.ref mb, .ref ml, .ref mm, .int (nI many), .int th, .ref mk])), (mb, .inl (T 0, 1920, .inl fb)), (ml, .inl (T 0, 6, .inl fl)), (mm, .inl (T 0, 600, .inl fm))]) [0, 1, 2, 3] (by decide) rfl) hS ls (lv_sub hl [1, 2, 0] rfl)
set_option maxHeartbeats 4000000 in
set_option maxRecDepth 100000 in
theorem c_X6_makes (l : Launch) (D : va_G) (T : Nat → ClassId) (g : Nat → Nat) (sz : Nat) (m0 : Nat) (mb : Nat) (ml : Nat) (mm : Nat) (mk : Nat) (many : Nat) (th : Int32) (fm : Nat → Int32) (x : Int32) (hm : many < 600) : MU l yX6_makes wsX6_makes ({ frames := 0, cells := 0, slots := 0, locals := 0 } : Room) D T g [.ref m0, .int x] [(m0, .inr (3, [.ref mb, .ref ml, .ref mm, .int (nI many), .int th, .ref mk])), (mm, .inl (T 0, 600, .inl fm))] sz (fun u : Unit => none) (fun u : Unit => True) (fun u : Unit => [(m0, .inr (3, [.ref mb, .ref ml, .ref mm, .int (nI (many + 1)), .int th, .ref mk])), (mm, .inl (T 0, 600, .inl (upd fm many x)))]) 0 0 := by
  refine Met.ofW (cc := cX6_makes) (maxL := 2) (ret := none) (by decide) rfl ?_
  intro p e s m args below meth c s₁ B hml hv
  obtain ⟨rfl, hsz, hP, hK, hD0, hG⟩ := hv
  have hx := B.exec
  have hb := B.bytes
  have hr := B.returns
  have hts := atoms_spec (ws := wsX6_makes) B.pre
  have hown : s.vm.findClass RX6 = some m.cls := findClass_of_methodNamed B.named
  have hlocks := B.notSynchronized
  have hi_X6 : ∀ w ∈ wsX60, w ∈ wsX6_makes := by decide +kernel
  subst hsz
  have hD := hD0.self (sz := s.heap.size)
  generalize hAe : va_A [(m0, .inr (3, [.ref mb, .ref ml, .ref mm, .int (nI many), .int th, .ref mk])), (mm, .inl (T 0, 600, .inl fm))] s.heap.size = A at hD hG ⊢
  have hA : ∀ q : Nat, s.heap.size ≤ q → A q := fun q h => by rw [← hAe]; exact Or.inr h
  have hS : va_S A s.heap s.heap [] := va_S.rf
  have hP : va_P D cls [(m0, .inr (3, [.ref mb, .ref ml, .ref mm, .int (nI many), .int th, .ref mk])), (mm, .inl (T 0, 600, .inl fm))] s.heap := hP
  have hl := lv_entry ([.ref m0, .int x]) (n := 2) (Nat.le_of_ble_eq_true rfl)
  rw [lg_entry_eq]
  generalize (lg_sl ([.ref m0, .int x]) ++ List.replicate (2 - (lg_sl ([.ref m0, .int x])).length) Slot.unset).toArray = ls at hl ⊢
  have hl : lv_has ls 2 [(0, .ref m0), (1, .int x)] := hl
  refine lv_aload_n hx hb dX6_makes_0 rfl (lv_at hl 0 rfl) ?_
  refine va_get (D := D) (ci := 3) (v := .ref mm) (C := RX6) (T := TX6) (N := 6) hx hb hts hi_X6 hown hK hP 0 rfl rfl 2 (by decide) (hts _ (List.mem_of_getElem? (i := 1) rfl)) (fun _ h9 => h9) rfl dX6_makes_1 ?_
  refine lv_aload_n hx hb dX6_makes_4 rfl (lv_at hl 0 rfl) ?_
  refine va_get (D := D) (ci := 3) (v := .int (nI many)) (C := RX6) (T := TX6) (N := 6) hx hb hts hi_X6 hown hK hP 0 rfl rfl 3 (by decide) (hts _ (List.mem_of_getElem? (i := 2) rfl)) (fun _ h9 => h9) rfl dX6_makes_5 ?_
  refine lv_iload_n hx hb dX6_makes_8 rfl (lv_at hl 1 rfl) ?_
  refine ln_iast hx hb hK hP hD hS 1 0 rfl rfl ⟨by omega, by omega⟩ dX6_makes_9 (fun H locs hP hD hS => ?_)
  have hP : va_P D cls [(m0, .inr (3, [.ref mb, .ref ml, .ref mm, .int (nI many), .int th, .ref mk])), (mm, .inl (T 0, 600, .inl (upd fm many x)))] H := hP
  have hD : va_D A [(m0, .inr (3, [.ref mb, .ref ml, .ref mm, .int (nI many), .int th, .ref mk])), (mm, .inl (T 0, 600, .inl (upd fm many x)))] := hD
  refine lv_aload_n hx hb dX6_makes_10 rfl (lv_at hl 0 rfl) ?_
  refine lv_dup hx hb dX6_makes_11 rfl ?_
  refine va_get (D := D) (ci := 3) (v := .int (nI many)) (C := RX6) (T := TX6) (N := 6) hx hb hts hi_X6 hown hK hP 0 rfl rfl 3 (by decide) (hts _ (List.mem_of_getElem? (i := 2) rfl)) (fun _ h9 => h9) rfl dX6_makes_12 ?_
  refine lv_iconst (v := (nI 1)) hx hb dX6_makes_15 (by decide +kernel) ?_
  refine ln_add hx hb dX6_makes_16 ?_
  refine va_put (D := D) (ci := 3) (v := .int (nI (many + 1))) (ty := .int) (C := RX6) (T := TX6) (N := 6) hx hb hts hi_X6 tyX6 tyX6_ok nmX6 hown hK hP hD hS 0 rfl rfl 3 (by decide) (hts _ (List.mem_of_getElem? (i := 2) rfl)) (fun _ h9 => h9) rfl (by decide +kernel) rfl rfl (Nat.le_of_ble_eq_true rfl) dX6_makes_17 (fun H locs hP hD hS => ?_)
  have hP : va_P D cls [(m0, .inr (3, [.ref mb, .ref ml, .ref mm, .int (nI (many + 1)), .int th, .ref mk])), (mm, .inl (T 0, 600, .inl (upd fm many x)))] H := hP
  have hD : va_D A [(m0, .inr (3, [.ref mb, .ref ml, .ref mm, .int (nI (many + 1)), .int th, .ref mk])), (mm, .inl (T 0, 600, .inl (upd fm many x)))] := hD
  have hP9 := hP.sub (ws' := [(m0, .inr (3, [.ref mb, .ref ml, .ref mm, .int (nI (many + 1)), .int th, .ref mk])), (mm, .inl (T 0, 600, .inl (upd fm many x)))]) [0, 1] rfl
  have hD9 := hD.sub (ws' := [(m0, .inr (3, [.ref mb, .ref ml, .ref mm, .int (nI (many + 1)), .int th, .ref mk])), (mm, .inl (T 0, 600, .inl (upd fm many x)))]) [0, 1] (by decide) rfl
  exact W.vret hx hb hr (fun t ht hW => ⟨⟨(), rfl, trivial, (by rw [ht]; exact hP9), va_K.moved hW.alike hK, hD9⟩, hS.F ht⟩) hS.2.2 dX6_makes_20
set_option maxHeartbeats 4000000 in
set_option maxRecDepth 100000 in
theorem c_X6_letter (l : Launch) (D : va_G) (T : Nat → ClassId) (g : Nat → Nat) (m0 : Nat) (w : Nat) (hw : w < 64) (k : Nat) (hk : k < 3) : RO l yX6_letter wsX6_letter ({ frames := 0, cells := 0, slots := 0, locals := 0 } : Room) D T g [.ref m0, .int (nI w), .int (nI k)] [] (.int (nI (letN k w))) := by
  refine Met.ofW (cc := cX6_letter) (maxL := 3) (ret := (some .int)) (by decide) rfl ?_
  intro p e s m args below meth c s₁ B hml hv
  obtain ⟨rfl, hP, hK, hG⟩ := hv
  have hx := B.exec
  have hb := B.bytes
  have hr := B.returns
  have hts := atoms_spec (ws := wsX6_letter) B.pre
  have hown : s.vm.findClass RX6 = some m.cls := findClass_of_methodNamed B.named
  have hlocks := B.notSynchronized
  have hS : va_S (fun _ => False) s.heap s.heap [] := va_S.rf
  have hl := lv_entry ([.ref m0, .int (nI w), .int (nI k)]) (n := 3) (Nat.le_of_ble_eq_true rfl)
  rw [lg_entry_eq]
  generalize (lg_sl ([.ref m0, .int (nI w), .int (nI k)]) ++ List.replicate (3 - (lg_sl ([.ref m0, .int (nI w), .int (nI k)])).length) Slot.unset).toArray = ls at hl ⊢
  have hl : lv_has ls 3 [(0, .ref m0), (1, .int (nI w)), (2, .int (nI k))] := hl
  refine lv_iload_n hx hb dX6_letter_0 rfl (lv_at hl 1 rfl) ?_
  refine lv_bipush (v := (nI 26)) hx hb dX6_letter_1 (by decide +kernel) ?_
  refine ln_icmp_ge (tgt := 11) hx hb ⟨by omega, by omega⟩ dX6_letter_3 (by decide) (fun c_3 => ?_) (fun c_3 => ?_)
  · refine lv_iload_n hx hb dX6_letter_11 rfl (lv_at hl 1 rfl) ?_
    refine lv_bipush (v := (nI 52)) hx hb dX6_letter_12 (by decide +kernel) ?_
    refine ln_icmp_ge (tgt := 25) hx hb ⟨by omega, by omega⟩ dX6_letter_14 (by decide) (fun c_14 => ?_) (fun c_14 => ?_)
    · refine lv_iload_n hx hb dX6_letter_25 rfl (lv_at hl 1 rfl) ?_
      refine lv_bipush (v := (nI 62)) hx hb dX6_letter_26 (by decide +kernel) ?_
      refine ln_icmp_ge (tgt := 39) hx hb ⟨by omega, by omega⟩ dX6_letter_28 (by decide) (fun c_28 => ?_) (fun c_28 => ?_)
      · refine lv_iload_n hx hb dX6_letter_39 rfl (lv_at hl 1 rfl) ?_
        refine lv_bipush (v := (nI 62)) hx hb dX6_letter_40 (by decide +kernel) ?_
        refine ln_icmp_ne (tgt := 60) hx hb ⟨by omega, by omega⟩ dX6_letter_42 (by decide) (fun c_42 => ?_) (fun c_42 => ?_)
        · refine lv_iload_n hx hb dX6_letter_60 rfl (lv_at hl 2 rfl) ?_
          refine lv_iconst (v := (nI 1)) hx hb dX6_letter_61 (by decide +kernel) ?_
          refine ln_icmp_ne (tgt := 70) hx hb ⟨by omega, by omega⟩ dX6_letter_62 (by decide) (fun c_62 => ?_) (fun c_62 => ?_)
          · refine lv_bipush (v := (nI 47)) hx hb dX6_letter_70 (by decide +kernel) ?_
            exact W.iret (v := (nI 47)) hx hb hr (fun t ht hW => ⟨(congrArg (fun z => Outcome.returned (some (Value.int z))) (show (nI 47) = (nI (letN k w)) from congrArg nI (by unfold letN kS kL; (repeat' split) <;> omega))), ht⟩) (fun q h => nomatch h) dX6_letter_72
          · refine lv_bipush (v := (nI 95)) hx hb dX6_letter_65 (by decide +kernel) ?_
            refine lv_goto (tgt := 72) hx hb dX6_letter_67 (by decide) ?_
            exact W.iret (v := (nI 95)) hx hb hr (fun t ht hW => ⟨(congrArg (fun z => Outcome.returned (some (Value.int z))) (show (nI 95) = (nI (letN k w)) from congrArg nI (by unfold letN kS kL; (repeat' split) <;> omega))), ht⟩) (fun q h => nomatch h) dX6_letter_72
        · refine lv_iload_n hx hb dX6_letter_45 rfl (lv_at hl 2 rfl) ?_
          refine lv_iconst (v := (nI 1)) hx hb dX6_letter_46 (by decide +kernel) ?_
          refine ln_icmp_ne (tgt := 55) hx hb ⟨by omega, by omega⟩ dX6_letter_47 (by decide) (fun c_47 => ?_) (fun c_47 => ?_)
          · refine lv_bipush (v := (nI 43)) hx hb dX6_letter_55 (by decide +kernel) ?_
            refine lv_goto (tgt := 72) hx hb dX6_letter_57 (by decide) ?_
            exact W.iret (v := (nI 43)) hx hb hr (fun t ht hW => ⟨(congrArg (fun z => Outcome.returned (some (Value.int z))) (show (nI 43) = (nI (letN k w)) from congrArg nI (by unfold letN kS kL; (repeat' split) <;> omega))), ht⟩) (fun q h => nomatch h) dX6_letter_72
          · refine lv_bipush (v := (nI 45)) hx hb dX6_letter_50 (by decide +kernel) ?_
            refine lv_goto (tgt := 72) hx hb dX6_letter_52 (by decide) ?_
            exact W.iret (v := (nI 45)) hx hb hr (fun t ht hW => ⟨(congrArg (fun z => Outcome.returned (some (Value.int z))) (show (nI 45) = (nI (letN k w)) from congrArg nI (by unfold letN kS kL; (repeat' split) <;> omega))), ht⟩) (fun q h => nomatch h) dX6_letter_72
      · refine lv_bipush (v := (nI 48)) hx hb dX6_letter_31 (by decide +kernel) ?_
        refine lv_iload_n hx hb dX6_letter_33 rfl (lv_at hl 1 rfl) ?_
        refine ln_add hx hb dX6_letter_34 ?_
        refine lv_bipush (v := (nI 52)) hx hb dX6_letter_35 (by decide +kernel) ?_
        refine ln_sub hx hb (by omega) dX6_letter_37 ?_
        exact W.iret (v := (nI ((48 + w) - 52))) hx hb hr (fun t ht hW => ⟨(congrArg (fun z => Outcome.returned (some (Value.int z))) (show (nI ((48 + w) - 52)) = (nI (letN k w)) from congrArg nI (by unfold letN kS kL; (repeat' split) <;> omega))), ht⟩) (fun q h => nomatch h) dX6_letter_38
    · refine lv_bipush (v := (nI 97)) hx hb dX6_letter_17 (by decide +kernel) ?_
      refine lv_iload_n hx hb dX6_letter_19 rfl (lv_at hl 1 rfl) ?_
      refine ln_add hx hb dX6_letter_20 ?_
      refine lv_bipush (v := (nI 26)) hx hb dX6_letter_21 (by decide +kernel) ?_
      refine ln_sub hx hb (by omega) dX6_letter_23 ?_
      exact W.iret (v := (nI ((97 + w) - 26))) hx hb hr (fun t ht hW => ⟨(congrArg (fun z => Outcome.returned (some (Value.int z))) (show (nI ((97 + w) - 26)) = (nI (letN k w)) from congrArg nI (by unfold letN kS kL; (repeat' split) <;> omega))), ht⟩) (fun q h => nomatch h) dX6_letter_24
  · refine lv_bipush (v := (nI 65)) hx hb dX6_letter_6 (by decide +kernel) ?_
    refine lv_iload_n hx hb dX6_letter_8 rfl (lv_at hl 1 rfl) ?_
    refine ln_add hx hb dX6_letter_9 ?_
    exact W.iret (v := (nI (65 + w))) hx hb hr (fun t ht hW => ⟨(congrArg (fun z => Outcome.returned (some (Value.int z))) (show (nI (65 + w)) = (nI (letN k w)) from congrArg nI (by unfold letN kS kL; (repeat' split) <;> omega))), ht⟩) (fun q h => nomatch h) dX6_letter_10
set_option maxHeartbeats 4000000 in
set_option maxRecDepth 100000 in
/-- what a byte is worth -/
theorem c_X6_worth (l : Launch) (D : va_G) (T : Nat → ClassId) (g : Nat → Nat) (m0 : Nat) (mb : Nat) (ml : Nat) (mm : Nat) (mk : Nat) (many : Nat) (th : Int32) (x : Nat) (hx9 : x < 256) (k : Nat) (hk : k < 3) : RO l yX6_worth wsX6_worth ({ frames := 1, cells := 0, slots := 0, locals := 22 } : Room) D T g [.ref m0, .int (nI x), .int (nI k)] [(m0, .inr (3, [.ref mb, .ref ml, .ref mm, .int (nI many), .int th, .ref mk]))] (.int (wV k x)) := by
  refine Met.ofW (cc := cX6_worth) (maxL := 5) (ret := (some .int)) (by decide) rfl ?_
  intro p e s m args below meth c s₁ B hml hv
  obtain ⟨rfl, hP, hK, hG⟩ := hv
  have hx := B.exec
  have hb := B.bytes
  have hr := B.returns
  have hts := atoms_spec (ws := wsX6_worth) B.pre
  have hown : s.vm.findClass RX6 = some m.cls := findClass_of_methodNamed B.named
  have hlocks := B.notSynchronized
  have hS : va_S (fun _ => False) s.heap s.heap [] := va_S.rf
  have hl := lv_entry ([.ref m0, .int (nI x), .int (nI k)]) (n := 5) (Nat.le_of_ble_eq_true rfl)
  rw [lg_entry_eq]
  generalize (lg_sl ([.ref m0, .int (nI x), .int (nI k)]) ++ List.replicate (5 - (lg_sl ([.ref m0, .int (nI x), .int (nI k)])).length) Slot.unset).toArray = ls at hl ⊢
  have hl : lv_has ls 5 [(0, .ref m0), (1, .int (nI x)), (2, .int (nI k))] := hl
  refine lv_iconst (v := (-1)) hx hb dX6_worth_0 (by decide +kernel) ?_
  rw [wu_0 k x]
  refine lv_istore_n (lv' := [(3, .int (wuN k x 0)), (0, .ref m0), (1, .int (nI x)), (2, .int (nI k))]) hx hb dX6_worth_1 rfl hl (by decide) rfl (fun ls hl => ?_)
  refine lv_iconst (v := (nI 0)) hx hb dX6_worth_2 (by decide +kernel) ?_
  refine lv_istore (lv' := [(4, .int (nI 0)), (3, .int (wuN k x 0)), (0, .ref m0), (1, .int (nI x)), (2, .int (nI k))]) hx hb dX6_worth_3 hl (by decide) rfl (fun ls hl => ?_)
  have K1 : ∀ (N9 : Nat) (j : Nat), (j ≤ 64) → 64 - j < N9 → ∀ ls : Array Slot, lv_has ls 5 [(0, .ref m0), (1, .int (nI x)), (2, .int (nI k)), (3, .int (wuN k x j)), (4, .int (nI j))] → W p l e (headSpec wsX6_worth ({ frames := 1, cells := 0, slots := 0, locals := 22 } : Room)).room s m ([.ref m0, .int (nI x), .int (nI k)] : List Value).toArray below meth c s.heap [] 0 0 (MQ below (k2_QcV (.int (wV k x))) ([.ref m0, .int (nI x), .int (nI k)] : List Value).toArray s 0 0 (fun _ => False)) (F0 m 5 ls []) := by
    intro N9
    induction N9 with
    | zero => intro j hj h9; exact absurd h9 (Nat.not_lt_zero _)
    | succ N9 ih_5 =>
      intro j hj h9 ls hl
      refine lv_iload hx hb dX6_worth_5 (lv_at hl 4 rfl) ?_
      refine lv_bipush (v := (nI 64)) hx hb dX6_worth_7 (by decide +kernel) ?_
      refine ln_icmp_ge (tgt := 36) hx hb ⟨by omega, by omega⟩ dX6_worth_9 (by decide) (fun c_9 => ?_) (fun c_9 => ?_)
      · have e9 : j = 64 := by omega
        subst e9
        refine lv_iload_n hx hb dX6_worth_36 rfl (lv_at hl 3 rfl) ?_
        exact W.iret (v := (wuN k x 64)) hx hb hr (fun t ht hW => ⟨(congrArg (fun z => Outcome.returned (some (Value.int z))) (show (wuN k x 64) = (wV k x) from wu_64 k x)), ht⟩) (fun q h => nomatch h) dX6_worth_37
      · refine lv_aload_n hx hb dX6_worth_12 rfl (lv_at hl 0 rfl) ?_
        refine lv_iload hx hb dX6_worth_13 (lv_at hl 4 rfl) ?_
        refine lv_iload_n hx hb dX6_worth_15 rfl (lv_at hl 2 rfl) ?_
        refine ro_V (As := [.int (nI j), .int (nI k)]) (rest := []) (wc := []) (r := .int (nI (letN k j))) ⟨hx, hb, hml, hown, hts⟩ (c_X6_letter l D T g m0 j (by omega) k hk) (cwV 2 hts gX6_worth_X6_letter rfl rfl rfl (by decide +kernel) ⟨Nat.le_of_ble_eq_true rfl, Nat.le_of_ble_eq_true rfl⟩) (va_recv hK hP (ci := 3) (q0 := 0) rfl rfl) hP hK hG hS [] rfl ⟨Nat.zero_le _, Nat.zero_le _⟩ rfl hl.1 (Nat.le_of_ble_eq_true rfl) dX6_worth_16 rfl ?_
        refine lv_iload_n hx hb dX6_worth_19 rfl (lv_at hl 1 rfl) ?_
        have hl9 := letN_lt (k := k) (w := j) (by omega)
        refine ln_icmp_ne (tgt := 28) hx hb ⟨by omega, by omega⟩ dX6_worth_20 (by decide) (fun c_20 => ?_) (fun c_20 => ?_)
        · refine lv_iload_n hx hb dX6_worth_28 rfl (lv_at hl 3 rfl) ?_
          rw [wu_n hk hx9 (by omega) c_20]
          refine lv_istore_n (lv' := [(3, .int (wuN k x (j + 1))), (0, .ref m0), (1, .int (nI x)), (2, .int (nI k)), (4, .int (nI j))]) hx hb dX6_worth_29 rfl hl (by decide) rfl (fun ls hl => ?_)
          refine lv_iinc (v := (nI (j + 1))) (lv' := [(4, .int (nI (j + 1))), (3, .int (wuN k x (j + 1))), (0, .ref m0), (1, .int (nI x)), (2, .int (nI k))]) hx hb dX6_worth_30 hl (k := 4) rfl (ni_inc1 _) (by decide) rfl (fun ls hl => ?_)
          refine lv_goto (tgt := 5) hx hb dX6_worth_33 (by decide) ?_
          exact ih_5 (j + 1) (by omega) (by omega) ls (lv_sub hl [2, 3, 4, 1, 0] rfl)
        · refine lv_iload hx hb dX6_worth_23 (lv_at hl 4 rfl) ?_
          refine lv_goto (tgt := 29) hx hb dX6_worth_25 (by decide) ?_
          rw [wu_y hk (by omega) c_20]
          refine lv_istore_n (lv' := [(3, .int (wuN k x (j + 1))), (0, .ref m0), (1, .int (nI x)), (2, .int (nI k)), (4, .int (nI j))]) hx hb dX6_worth_29 rfl hl (by decide) rfl (fun ls hl => ?_)
          refine lv_iinc (v := (nI (j + 1))) (lv' := [(4, .int (nI (j + 1))), (3, .int (wuN k x (j + 1))), (0, .ref m0), (1, .int (nI x)), (2, .int (nI k))]) hx hb dX6_worth_30 hl (k := 4) rfl (ni_inc1 _) (by decide) rfl (fun ls hl => ?_)
          refine lv_goto (tgt := 5) hx hb dX6_worth_33 (by decide) ?_
          exact ih_5 (j + 1) (by omega) (by omega) ls (lv_sub hl [2, 3, 4, 1, 0] rfl)
  exact K1 _ 0 (by omega) (Nat.lt_succ_self _) ls (lv_sub hl [2, 3, 4, 1, 0] rfl)
