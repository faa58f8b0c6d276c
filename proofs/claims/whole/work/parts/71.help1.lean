def bL (b : Bool) : Int64 := if b then lN 1 else lN 0
set_option maxHeartbeats 4000000 in
set_option maxRecDepth 100000 in
theorem h_add_x1 (l : Launch) (D : va_G) (T : Nat → ClassId) (g : Nat → Nat) (sz : Nat) (hl9 : l.stackTraces = false) (lo : Nat) (ra : Nat) (d0 : Nat) (b0 : Nat) (t0 : Nat) (r0 : Nat) (rd : Nat → Nat) (i : Int32) (hi : i < 0 ∨ ¬ i < nI 6) (x0 : Int32) (ou : Nat) (o : Nat → Int64) : MUN l yL_add wsL_add ({ frames := 80, cells := 5, slots := 1106, locals := 4000 } : Room) D T g [.ref lo, .int i, .int x0, .ref ou] [(lo, .inr (2, [.ref ra, .ref d0, .ref b0, .ref t0, .ref r0])), (ra, .inl (T 2, 6, .inr (.inr (.inr (.inr (fun j => some (rd j))))))), (ou, .inl (T 3, 1, .inr (.inl o)))] sz (fun u : Unit => some (.int (nI 1))) (fun u : Unit => True) (fun u : Unit => [(lo, .inr (2, [.ref ra, .ref d0, .ref b0, .ref t0, .ref r0])), (ra, .inl (T 2, 6, .inr (.inr (.inr (.inr (fun j => some (rd j))))))), (ou, .inl (T 3, 1, .inr (.inl o)))]) 5 1106 := by
  refine va_MetW (hh := [(0, 10, 13, 13), (0, 10, 17, 15), (0, 10, 21, 17)]) (cc := cL_add) (maxL := 5) (ret := (some .int)) (by decide) rfl ?_
  intro p e s m args below meth c s₁ B hml hv
  obtain ⟨rfl, ⟨hsz, hP, hK, hD0, hG⟩, hN⟩ := hv
  have hx := B.exec
  have hb := B.bytes
  have hr := B.returns
  have hts := atoms_spec (ws := wsL_add) B.pre
  have hown : s.vm.findClass RL = some m.cls := findClass_of_methodNamed B.named
  have hlocks := B.notSynchronized
  have htab : c.exceptionTable.toList = tableOf [(0, 10, 13, 13), (0, 10, 17, 15), (0, 10, 21, 17)] := vx_table (x := yL_add) B (hts _ (List.mem_of_getElem? (i := 0) rfl))
  subst hsz
  have hD := hD0.self (sz := s.heap.size)
  generalize hAe : va_A [(lo, .inr (2, [.ref ra, .ref d0, .ref b0, .ref t0, .ref r0])), (ra, .inl (T 2, 6, .inr (.inr (.inr (.inr (fun j => some (rd j))))))), (ou, .inl (T 3, 1, .inr (.inl o)))] s.heap.size = A at hD hG ⊢
  have hA : ∀ q : Nat, s.heap.size ≤ q → A q := fun q h => by rw [← hAe]; exact Or.inr h
  have hS : va_S A s.heap s.heap [] := va_S.rf
  have hP : va_P D cls [(lo, .inr (2, [.ref ra, .ref d0, .ref b0, .ref t0, .ref r0])), (ra, .inl (T 2, 6, .inr (.inr (.inr (.inr (fun j => some (rd j))))))), (ou, .inl (T 3, 1, .inr (.inl o)))] s.heap := hP
  have hl := lv_entry ([.ref lo, .int i, .int x0, .ref ou]) (n := 5) (Nat.le_of_ble_eq_true rfl)
  rw [lg_entry_eq]
  generalize (lg_sl ([.ref lo, .int i, .int x0, .ref ou]) ++ List.replicate (5 - (lg_sl ([.ref lo, .int i, .int x0, .ref ou])).length) Slot.unset).toArray = ls at hl ⊢
  have hl : lv_has ls 5 [(0, .ref lo), (1, .int i), (2, .int x0), (3, .ref ou)] := hl
  refine lv_aload_n hx hb dL_add_0 rfl (lv_at hl 3 rfl) ?_
  refine lv_iconst (v := (nI 0)) hx hb dL_add_1 (by decide +kernel) ?_
  refine lv_aload_n hx hb dL_add_2 rfl (lv_at hl 0 rfl) ?_
  refine lv_iload_n hx hb dL_add_3 rfl (lv_at hl 1 rfl) ?_
  refine lv_iload_n hx hb dL_add_4 rfl (lv_at hl 2 rfl) ?_
  refine tc_V (hpc := 13) (As := [.int i, .int x0]) (rest := [.int (nI 0), .ref ou]) (wc := [(lo, .inr (2, [.ref ra, .ref d0, .ref b0, .ref t0, .ref r0])), (ra, .inl (T 2, 6, .inr (.inr (.inr (.inr (fun j => some (rd j)))))))]) (wr := [(ou, .inl (T 3, 1, .inr (.inl o)))]) ⟨hx, hb, hml, hown, hts⟩ (c_add_x1 l D T g s.heap.size (hl9) lo ra d0 b0 t0 r0 rd i (hi) x0) (cwV 2 hts gL_add_X5_add rfl rfl rfl (by decide +kernel) ⟨Nat.le_of_ble_eq_true rfl, Nat.le_of_ble_eq_true rfl⟩) (va_recv hK hP (ci := 2) (q0 := 0) rfl rfl) hP hD hK hG hS hA [0, 1] [2] rfl (by decide) rfl (by decide) (by decide) ⟨Nat.le_of_ble_eq_true rfl, Nat.le_of_ble_eq_true rfl⟩ rfl hl.1 (Nat.le_of_ble_eq_true rfl) dL_add_5 rfl (fun H1 locs1 q9 ce h1 h2 h3 k9 => vx_catch (name := "java/lang/IndexOutOfBoundsException") hown [] ⟨0, 10, 13, 13⟩ [⟨0, 10, 17, 15⟩, ⟨0, 10, 21, 17⟩] (htab.trans rfl) (fun _ h => absurd h List.not_mem_nil) (by decide) (by decide) (hts _ (List.mem_of_getElem? (i := 1) rfl)) (va_Yc.word (hN.2 _ (List.mem_of_getElem? (i := 0) rfl))) h1 h2 h3 k9) (fun u q9 H locs hq1 hP hD hS => ?_)
  refine W.widen (k := 1) (n := 6) (Nat.le_of_ble_eq_true rfl) (Nat.le_of_ble_eq_true rfl) ?_
  have hP : va_P D cls [(ou, .inl (T 3, 1, .inr (.inl o))), (lo, .inr (2, [.ref ra, .ref d0, .ref b0, .ref t0, .ref r0])), (ra, .inl (T 2, 6, .inr (.inr (.inr (.inr (fun j => some (rd j)))))))] H := hP
  have hD : va_D A [(ou, .inl (T 3, 1, .inr (.inl o))), (lo, .inr (2, [.ref ra, .ref d0, .ref b0, .ref t0, .ref r0])), (ra, .inl (T 2, 6, .inr (.inr (.inr (.inr (fun j => some (rd j)))))))] := hD
  refine lv_astore (lv' := [(4, .ref q9), (0, .ref lo), (1, .int i), (2, .int x0), (3, .ref ou)]) hx hb dL_add_13 hl (by decide) rfl (fun ls hl => ?_)
  refine lv_iconst (v := (nI 1)) hx hb dL_add_15 (by decide +kernel) ?_
  have hP9 := hP.sub (ws' := [(lo, .inr (2, [.ref ra, .ref d0, .ref b0, .ref t0, .ref r0])), (ra, .inl (T 2, 6, .inr (.inr (.inr (.inr (fun j => some (rd j))))))), (ou, .inl (T 3, 1, .inr (.inl o)))]) [1, 2, 0] rfl
  have hD9 := hD.sub (ws' := [(lo, .inr (2, [.ref ra, .ref d0, .ref b0, .ref t0, .ref r0])), (ra, .inl (T 2, 6, .inr (.inr (.inr (.inr (fun j => some (rd j))))))), (ou, .inl (T 3, 1, .inr (.inl o)))]) [1, 2, 0] (by decide) rfl
  refine W.widen (k := 5) (n := 1106) (by omega) (by omega) ?_
  exact W.iret (v := (nI 1)) hx hb hr (fun t ht hW => ⟨⟨(), rfl, trivial, (by rw [ht]; exact hP9), va_K.moved hW.alike hK, hD9⟩, hS.F ht⟩) hS.2.2 dL_add_16
set_option maxHeartbeats 4000000 in
set_option maxRecDepth 100000 in
theorem h_add_x2 (l : Launch) (D : va_G) (T : Nat → ClassId) (g : Nat → Nat) (sz : Nat) (hl9 : l.stackTraces = false) (lo : Nat) (ra : Nat) (d0 : Nat) (b0 : Nat) (t0 : Nat) (r0 : Nat) (rd : Nat → Nat) (i : Nat) (q0 : Nat) (f : Nat → Int32) (n : Nat) (hi : i < 6) (v : Int32) (hv9 : v < 0 ∨ ¬ v ≤ nI 255) (ou : Nat) (o : Nat → Int64) : MUN l yL_add wsL_add ({ frames := 80, cells := 5, slots := 1106, locals := 4000 } : Room) D T g [.ref lo, .int (nI i), .int v, .ref ou] [(lo, .inr (2, [.ref ra, .ref d0, .ref b0, .ref t0, .ref r0])), (ra, .inl (T 2, 6, .inr (.inr (.inr (.inr (fun j => some (rd j))))))), (rd i, .inr (0, [.ref q0, .int (nI n)])), (q0, .inl (T 0, 440, .inl f)), (ou, .inl (T 3, 1, .inr (.inl o)))] sz (fun u : Unit => some (.int (nI 2))) (fun u : Unit => True) (fun u : Unit => [(lo, .inr (2, [.ref ra, .ref d0, .ref b0, .ref t0, .ref r0])), (ra, .inl (T 2, 6, .inr (.inr (.inr (.inr (fun j => some (rd j))))))), (rd i, .inr (0, [.ref q0, .int (nI n)])), (q0, .inl (T 0, 440, .inl f)), (ou, .inl (T 3, 1, .inr (.inl o)))]) 5 1106 := by
  refine va_MetW (hh := [(0, 10, 13, 13), (0, 10, 17, 15), (0, 10, 21, 17)]) (cc := cL_add) (maxL := 5) (ret := (some .int)) (by decide) rfl ?_
  intro p e s m args below meth c s₁ B hml hv
  obtain ⟨rfl, ⟨hsz, hP, hK, hD0, hG⟩, hN⟩ := hv
  have hx := B.exec
  have hb := B.bytes
  have hr := B.returns
  have hts := atoms_spec (ws := wsL_add) B.pre
  have hown : s.vm.findClass RL = some m.cls := findClass_of_methodNamed B.named
  have hlocks := B.notSynchronized
  have htab : c.exceptionTable.toList = tableOf [(0, 10, 13, 13), (0, 10, 17, 15), (0, 10, 21, 17)] := vx_table (x := yL_add) B (hts _ (List.mem_of_getElem? (i := 0) rfl))
  subst hsz
  have hD := hD0.self (sz := s.heap.size)
  generalize hAe : va_A [(lo, .inr (2, [.ref ra, .ref d0, .ref b0, .ref t0, .ref r0])), (ra, .inl (T 2, 6, .inr (.inr (.inr (.inr (fun j => some (rd j))))))), (rd i, .inr (0, [.ref q0, .int (nI n)])), (q0, .inl (T 0, 440, .inl f)), (ou, .inl (T 3, 1, .inr (.inl o)))] s.heap.size = A at hD hG ⊢
  have hA : ∀ q : Nat, s.heap.size ≤ q → A q := fun q h => by rw [← hAe]; exact Or.inr h
  have hS : va_S A s.heap s.heap [] := va_S.rf
  have hP : va_P D cls [(lo, .inr (2, [.ref ra, .ref d0, .ref b0, .ref t0, .ref r0])), (ra, .inl (T 2, 6, .inr (.inr (.inr (.inr (fun j => some (rd j))))))), (rd i, .inr (0, [.ref q0, .int (nI n)])), (q0, .inl (T 0, 440, .inl f)), (ou, .inl (T 3, 1, .inr (.inl o)))] s.heap := hP
  have hl := lv_entry ([.ref lo, .int (nI i), .int v, .ref ou]) (n := 5) (Nat.le_of_ble_eq_true rfl)
  rw [lg_entry_eq]
  generalize (lg_sl ([.ref lo, .int (nI i), .int v, .ref ou]) ++ List.replicate (5 - (lg_sl ([.ref lo, .int (nI i), .int v, .ref ou])).length) Slot.unset).toArray = ls at hl ⊢
  have hl : lv_has ls 5 [(0, .ref lo), (1, .int (nI i)), (2, .int v), (3, .ref ou)] := hl
  refine lv_aload_n hx hb dL_add_0 rfl (lv_at hl 3 rfl) ?_
  refine lv_iconst (v := (nI 0)) hx hb dL_add_1 (by decide +kernel) ?_
  refine lv_aload_n hx hb dL_add_2 rfl (lv_at hl 0 rfl) ?_
  refine lv_iload_n hx hb dL_add_3 rfl (lv_at hl 1 rfl) ?_
  refine lv_iload_n hx hb dL_add_4 rfl (lv_at hl 2 rfl) ?_
  refine tc_V (hpc := 17) (As := [.int (nI i), .int v]) (rest := [.int (nI 0), .ref ou]) (wc := [(lo, .inr (2, [.ref ra, .ref d0, .ref b0, .ref t0, .ref r0])), (ra, .inl (T 2, 6, .inr (.inr (.inr (.inr (fun j => some (rd j))))))), (rd i, .inr (0, [.ref q0, .int (nI n)])), (q0, .inl (T 0, 440, .inl f))]) (wr := [(ou, .inl (T 3, 1, .inr (.inl o)))]) ⟨hx, hb, hml, hown, hts⟩ (c_add_x2 l D T g s.heap.size (hl9) lo ra d0 b0 t0 r0 rd i q0 f n (hi) v (hv9)) (cwV 2 hts gL_add_X5_add rfl rfl rfl (by decide +kernel) ⟨Nat.le_of_ble_eq_true rfl, Nat.le_of_ble_eq_true rfl⟩) (va_recv hK hP (ci := 2) (q0 := 0) rfl rfl) hP hD hK hG hS hA [0, 1, 2, 3] [4] rfl (by decide) rfl (by decide) (by decide) ⟨Nat.le_of_ble_eq_true rfl, Nat.le_of_ble_eq_true rfl⟩ rfl hl.1 (Nat.le_of_ble_eq_true rfl) dL_add_5 rfl (fun H1 locs1 q9 ce h1 h2 h3 k9 => vx_catch (name := "java/lang/IllegalArgumentException") hown [⟨0, 10, 13, 13⟩] ⟨0, 10, 17, 15⟩ [⟨0, 10, 21, 17⟩] (htab.trans rfl) (List.forall_mem_cons.mpr ⟨Or.inr ⟨by decide, "java/lang/IndexOutOfBoundsException", (hts _ (List.mem_of_getElem? (i := 1) rfl)), hN.1 _ (List.mem_of_getElem? (i := 0) rfl)⟩, (fun _ h => absurd h List.not_mem_nil)⟩) (by decide) (by decide) (hts _ (List.mem_of_getElem? (i := 2) rfl)) (va_Yc.word (hN.2 _ (List.mem_of_getElem? (i := 1) rfl))) h1 h2 h3 k9) (fun u q9 H locs hq1 hP hD hS => ?_)
  refine W.widen (k := 1) (n := 6) (Nat.le_of_ble_eq_true rfl) (Nat.le_of_ble_eq_true rfl) ?_
  have hP : va_P D cls [(ou, .inl (T 3, 1, .inr (.inl o))), (lo, .inr (2, [.ref ra, .ref d0, .ref b0, .ref t0, .ref r0])), (ra, .inl (T 2, 6, .inr (.inr (.inr (.inr (fun j => some (rd j))))))), (rd i, .inr (0, [.ref q0, .int (nI n)])), (q0, .inl (T 0, 440, .inl f))] H := hP
  have hD : va_D A [(ou, .inl (T 3, 1, .inr (.inl o))), (lo, .inr (2, [.ref ra, .ref d0, .ref b0, .ref t0, .ref r0])), (ra, .inl (T 2, 6, .inr (.inr (.inr (.inr (fun j => some (rd j))))))), (rd i, .inr (0, [.ref q0, .int (nI n)])), (q0, .inl (T 0, 440, .inl f))] := hD
  refine lv_astore (lv' := [(4, .ref q9), (0, .ref lo), (1, .int (nI i)), (2, .int v), (3, .ref ou)]) hx hb dL_add_17 hl (by decide) rfl (fun ls hl => ?_)
  refine lv_iconst (v := (nI 2)) hx hb dL_add_19 (by decide +kernel) ?_
  have hP9 := hP.sub (ws' := [(lo, .inr (2, [.ref ra, .ref d0, .ref b0, .ref t0, .ref r0])), (ra, .inl (T 2, 6, .inr (.inr (.inr (.inr (fun j => some (rd j))))))), (rd i, .inr (0, [.ref q0, .int (nI n)])), (q0, .inl (T 0, 440, .inl f)), (ou, .inl (T 3, 1, .inr (.inl o)))]) [1, 2, 3, 4, 0] rfl
  have hD9 := hD.sub (ws' := [(lo, .inr (2, [.ref ra, .ref d0, .ref b0, .ref t0, .ref r0])), (ra, .inl (T 2, 6, .inr (.inr (.inr (.inr (fun j => some (rd j))))))), (rd i, .inr (0, [.ref q0, .int (nI n)])), (q0, .inl (T 0, 440, .inl f)), (ou, .inl (T 3, 1, .inr (.inl o)))]) [1, 2, 3, 4, 0] (by decide) rfl
  refine W.widen (k := 5) (n := 1106) (by omega) (by omega) ?_
  exact W.iret (v := (nI 2)) hx hb hr (fun t ht hW => ⟨⟨(), rfl, trivial, (by rw [ht]; exact hP9), va_K.moved hW.alike hK, hD9⟩, hS.F ht⟩) hS.2.2 dL_add_20
set_option maxHeartbeats 4000000 in
set_option maxRecDepth 100000 in
theorem h_add_x3 (l : Launch) (D : va_G) (T : Nat → ClassId) (g : Nat → Nat) (sz : Nat) (hl9 : l.stackTraces = false) (lo : Nat) (ra : Nat) (d0 : Nat) (b0 : Nat) (t0 : Nat) (r0 : Nat) (rd : Nat → Nat) (i : Nat) (q0 : Nat) (f : Nat → Int32) (n : Nat) (hi : i < 6) (v : Nat) (hv9 : v < 256) (hn : 320 ≤ n ∧ n < 900) (ou : Nat) (o : Nat → Int64) : MUN l yL_add wsL_add ({ frames := 80, cells := 5, slots := 1106, locals := 4000 } : Room) D T g [.ref lo, .int (nI i), .int (nI v), .ref ou] [(lo, .inr (2, [.ref ra, .ref d0, .ref b0, .ref t0, .ref r0])), (ra, .inl (T 2, 6, .inr (.inr (.inr (.inr (fun j => some (rd j))))))), (rd i, .inr (0, [.ref q0, .int (nI n)])), (q0, .inl (T 0, 440, .inl f)), (ou, .inl (T 3, 1, .inr (.inl o)))] sz (fun u : Unit => some (.int (nI 3))) (fun u : Unit => True) (fun u : Unit => [(lo, .inr (2, [.ref ra, .ref d0, .ref b0, .ref t0, .ref r0])), (ra, .inl (T 2, 6, .inr (.inr (.inr (.inr (fun j => some (rd j))))))), (rd i, .inr (0, [.ref q0, .int (nI n)])), (q0, .inl (T 0, 440, .inl f)), (ou, .inl (T 3, 1, .inr (.inl o)))]) 5 1106 := by
  refine va_MetW (hh := [(0, 10, 13, 13), (0, 10, 17, 15), (0, 10, 21, 17)]) (cc := cL_add) (maxL := 5) (ret := (some .int)) (by decide) rfl ?_
  intro p e s m args below meth c s₁ B hml hv
  obtain ⟨rfl, ⟨hsz, hP, hK, hD0, hG⟩, hN⟩ := hv
  have hx := B.exec
  have hb := B.bytes
  have hr := B.returns
  have hts := atoms_spec (ws := wsL_add) B.pre
  have hown : s.vm.findClass RL = some m.cls := findClass_of_methodNamed B.named
  have hlocks := B.notSynchronized
  have htab : c.exceptionTable.toList = tableOf [(0, 10, 13, 13), (0, 10, 17, 15), (0, 10, 21, 17)] := vx_table (x := yL_add) B (hts _ (List.mem_of_getElem? (i := 0) rfl))
  subst hsz
  have hD := hD0.self (sz := s.heap.size)
  generalize hAe : va_A [(lo, .inr (2, [.ref ra, .ref d0, .ref b0, .ref t0, .ref r0])), (ra, .inl (T 2, 6, .inr (.inr (.inr (.inr (fun j => some (rd j))))))), (rd i, .inr (0, [.ref q0, .int (nI n)])), (q0, .inl (T 0, 440, .inl f)), (ou, .inl (T 3, 1, .inr (.inl o)))] s.heap.size = A at hD hG ⊢
  have hA : ∀ q : Nat, s.heap.size ≤ q → A q := fun q h => by rw [← hAe]; exact Or.inr h
  have hS : va_S A s.heap s.heap [] := va_S.rf
  have hP : va_P D cls [(lo, .inr (2, [.ref ra, .ref d0, .ref b0, .ref t0, .ref r0])), (ra, .inl (T 2, 6, .inr (.inr (.inr (.inr (fun j => some (rd j))))))), (rd i, .inr (0, [.ref q0, .int (nI n)])), (q0, .inl (T 0, 440, .inl f)), (ou, .inl (T 3, 1, .inr (.inl o)))] s.heap := hP
  have hl := lv_entry ([.ref lo, .int (nI i), .int (nI v), .ref ou]) (n := 5) (Nat.le_of_ble_eq_true rfl)
  rw [lg_entry_eq]
  generalize (lg_sl ([.ref lo, .int (nI i), .int (nI v), .ref ou]) ++ List.replicate (5 - (lg_sl ([.ref lo, .int (nI i), .int (nI v), .ref ou])).length) Slot.unset).toArray = ls at hl ⊢
  have hl : lv_has ls 5 [(0, .ref lo), (1, .int (nI i)), (2, .int (nI v)), (3, .ref ou)] := hl
  refine lv_aload_n hx hb dL_add_0 rfl (lv_at hl 3 rfl) ?_
  refine lv_iconst (v := (nI 0)) hx hb dL_add_1 (by decide +kernel) ?_
  refine lv_aload_n hx hb dL_add_2 rfl (lv_at hl 0 rfl) ?_
  refine lv_iload_n hx hb dL_add_3 rfl (lv_at hl 1 rfl) ?_
  refine lv_iload_n hx hb dL_add_4 rfl (lv_at hl 2 rfl) ?_
  refine tc_V (hpc := 21) (As := [.int (nI i), .int (nI v)]) (rest := [.int (nI 0), .ref ou]) (wc := [(lo, .inr (2, [.ref ra, .ref d0, .ref b0, .ref t0, .ref r0])), (ra, .inl (T 2, 6, .inr (.inr (.inr (.inr (fun j => some (rd j))))))), (rd i, .inr (0, [.ref q0, .int (nI n)])), (q0, .inl (T 0, 440, .inl f))]) (wr := [(ou, .inl (T 3, 1, .inr (.inl o)))]) ⟨hx, hb, hml, hown, hts⟩ (c_add_x3 l D T g s.heap.size (hl9) lo ra d0 b0 t0 r0 rd i q0 f n (hi) v (hv9) (hn)) (cwV 2 hts gL_add_X5_add rfl rfl rfl (by decide +kernel) ⟨Nat.le_of_ble_eq_true rfl, Nat.le_of_ble_eq_true rfl⟩) (va_recv hK hP (ci := 2) (q0 := 0) rfl rfl) hP hD hK hG hS hA [0, 1, 2, 3] [4] rfl (by decide) rfl (by decide) (by decide) ⟨Nat.le_of_ble_eq_true rfl, Nat.le_of_ble_eq_true rfl⟩ rfl hl.1 (Nat.le_of_ble_eq_true rfl) dL_add_5 rfl (fun H1 locs1 q9 ce h1 h2 h3 k9 => vx_catch (name := "java/lang/IllegalStateException") hown [⟨0, 10, 13, 13⟩, ⟨0, 10, 17, 15⟩] ⟨0, 10, 21, 17⟩ [] (htab.trans rfl) (List.forall_mem_cons.mpr ⟨Or.inr ⟨by decide, "java/lang/IndexOutOfBoundsException", (hts _ (List.mem_of_getElem? (i := 1) rfl)), hN.1 _ (List.mem_of_getElem? (i := 1) rfl)⟩, (List.forall_mem_cons.mpr ⟨Or.inr ⟨by decide, "java/lang/IllegalArgumentException", (hts _ (List.mem_of_getElem? (i := 2) rfl)), hN.1 _ (List.mem_of_getElem? (i := 2) rfl)⟩, (fun _ h => absurd h List.not_mem_nil)⟩)⟩) (by decide) (by decide) (hts _ (List.mem_of_getElem? (i := 3) rfl)) (va_Yc.word (hN.2 _ (List.mem_of_getElem? (i := 2) rfl))) h1 h2 h3 k9) (fun u q9 H locs hq1 hP hD hS => ?_)
  refine W.widen (k := 1) (n := 6) (Nat.le_of_ble_eq_true rfl) (Nat.le_of_ble_eq_true rfl) ?_
  have hP : va_P D cls [(ou, .inl (T 3, 1, .inr (.inl o))), (lo, .inr (2, [.ref ra, .ref d0, .ref b0, .ref t0, .ref r0])), (ra, .inl (T 2, 6, .inr (.inr (.inr (.inr (fun j => some (rd j))))))), (rd i, .inr (0, [.ref q0, .int (nI n)])), (q0, .inl (T 0, 440, .inl f))] H := hP
  have hD : va_D A [(ou, .inl (T 3, 1, .inr (.inl o))), (lo, .inr (2, [.ref ra, .ref d0, .ref b0, .ref t0, .ref r0])), (ra, .inl (T 2, 6, .inr (.inr (.inr (.inr (fun j => some (rd j))))))), (rd i, .inr (0, [.ref q0, .int (nI n)])), (q0, .inl (T 0, 440, .inl f))] := hD
  refine lv_astore (lv' := [(4, .ref q9), (0, .ref lo), (1, .int (nI i)), (2, .int (nI v)), (3, .ref ou)]) hx hb dL_add_21 hl (by decide) rfl (fun ls hl => ?_)
  refine lv_iconst (v := (nI 3)) hx hb dL_add_23 (by decide +kernel) ?_
  have hP9 := hP.sub (ws' := [(lo, .inr (2, [.ref ra, .ref d0, .ref b0, .ref t0, .ref r0])), (ra, .inl (T 2, 6, .inr (.inr (.inr (.inr (fun j => some (rd j))))))), (rd i, .inr (0, [.ref q0, .int (nI n)])), (q0, .inl (T 0, 440, .inl f)), (ou, .inl (T 3, 1, .inr (.inl o)))]) [1, 2, 3, 4, 0] rfl
  have hD9 := hD.sub (ws' := [(lo, .inr (2, [.ref ra, .ref d0, .ref b0, .ref t0, .ref r0])), (ra, .inl (T 2, 6, .inr (.inr (.inr (.inr (fun j => some (rd j))))))), (rd i, .inr (0, [.ref q0, .int (nI n)])), (q0, .inl (T 0, 440, .inl f)), (ou, .inl (T 3, 1, .inr (.inl o)))]) [1, 2, 3, 4, 0] (by decide) rfl
  refine W.widen (k := 5) (n := 1106) (by omega) (by omega) ?_
  exact W.iret (v := (nI 3)) hx hb hr (fun t ht hW => ⟨⟨(), rfl, trivial, (by rw [ht]; exact hP9), va_K.moved hW.alike hK, hD9⟩, hS.F ht⟩) hS.2.2 dL_add_24
set_option maxHeartbeats 4000000 in
set_option maxRecDepth 100000 in
theorem h_add (l : Launch) (D : va_G) (T : Nat → ClassId) (g : Nat → Nat) (sz : Nat) (lo : Nat) (ra : Nat) (d0 : Nat) (b0 : Nat) (t0 : Nat) (r0 : Nat) (rd : Nat → Nat) (i : Nat) (q0 : Nat) (f : Nat → Int32) (n : Nat) (b : Nat → Nat) (hb9 : RB f n b) (v : Nat) (hi : i < 6) (hv9 : v < 256) (hn : n < 320) (ou : Nat) (o : Nat → Int64) : MUN l yL_add wsL_add ({ frames := 80, cells := 5, slots := 1106, locals := 4000 } : Room) D T g [.ref lo, .int (nI i), .int (nI v), .ref ou] [(lo, .inr (2, [.ref ra, .ref d0, .ref b0, .ref t0, .ref r0])), (ra, .inl (T 2, 6, .inr (.inr (.inr (.inr (fun j => some (rd j))))))), (rd i, .inr (0, [.ref q0, .int (nI n)])), (q0, .inl (T 0, 440, .inl f)), (ou, .inl (T 3, 1, .inr (.inl o)))] sz (fun u : Unit => some (.int (nI 0))) (fun u : Unit => True) (fun u : Unit => [(lo, .inr (2, [.ref ra, .ref d0, .ref b0, .ref t0, .ref r0])), (ra, .inl (T 2, 6, .inr (.inr (.inr (.inr (fun j => some (rd j))))))), (rd i, .inr (0, [.ref q0, .int (nI (n + 1))])), (q0, .inl (T 0, 440, .inl (upd f n (nI v)))), (ou, .inl (T 3, 1, .inr (.inl (vp_updL o 0 (lN (n + 1))))))]) 5 1106 := by
  refine va_MetW (hh := [(0, 10, 13, 13), (0, 10, 17, 15), (0, 10, 21, 17)]) (cc := cL_add) (maxL := 5) (ret := (some .int)) (by decide) rfl ?_
  intro p e s m args below meth c s₁ B hml hv
  obtain ⟨rfl, ⟨hsz, hP, hK, hD0, hG⟩, hN⟩ := hv
  have hx := B.exec
  have hb := B.bytes
  have hr := B.returns
  have hts := atoms_spec (ws := wsL_add) B.pre
  have hown : s.vm.findClass RL = some m.cls := findClass_of_methodNamed B.named
  have hlocks := B.notSynchronized
  have htab : c.exceptionTable.toList = tableOf [(0, 10, 13, 13), (0, 10, 17, 15), (0, 10, 21, 17)] := vx_table (x := yL_add) B (hts _ (List.mem_of_getElem? (i := 0) rfl))
  subst hsz
  have hD := hD0.self (sz := s.heap.size)
  generalize hAe : va_A [(lo, .inr (2, [.ref ra, .ref d0, .ref b0, .ref t0, .ref r0])), (ra, .inl (T 2, 6, .inr (.inr (.inr (.inr (fun j => some (rd j))))))), (rd i, .inr (0, [.ref q0, .int (nI n)])), (q0, .inl (T 0, 440, .inl f)), (ou, .inl (T 3, 1, .inr (.inl o)))] s.heap.size = A at hD hG ⊢
  have hA : ∀ q : Nat, s.heap.size ≤ q → A q := fun q h => by rw [← hAe]; exact Or.inr h
  have hS : va_S A s.heap s.heap [] := va_S.rf
  have hP : va_P D cls [(lo, .inr (2, [.ref ra, .ref d0, .ref b0, .ref t0, .ref r0])), (ra, .inl (T 2, 6, .inr (.inr (.inr (.inr (fun j => some (rd j))))))), (rd i, .inr (0, [.ref q0, .int (nI n)])), (q0, .inl (T 0, 440, .inl f)), (ou, .inl (T 3, 1, .inr (.inl o)))] s.heap := hP
  have hl := lv_entry ([.ref lo, .int (nI i), .int (nI v), .ref ou]) (n := 5) (Nat.le_of_ble_eq_true rfl)
  rw [lg_entry_eq]
  generalize (lg_sl ([.ref lo, .int (nI i), .int (nI v), .ref ou]) ++ List.replicate (5 - (lg_sl ([.ref lo, .int (nI i), .int (nI v), .ref ou])).length) Slot.unset).toArray = ls at hl ⊢
  have hl : lv_has ls 5 [(0, .ref lo), (1, .int (nI i)), (2, .int (nI v)), (3, .ref ou)] := hl
  refine lv_aload_n hx hb dL_add_0 rfl (lv_at hl 3 rfl) ?_
  refine lv_iconst (v := (nI 0)) hx hb dL_add_1 (by decide +kernel) ?_
  refine lv_aload_n hx hb dL_add_2 rfl (lv_at hl 0 rfl) ?_
  refine lv_iload_n hx hb dL_add_3 rfl (lv_at hl 1 rfl) ?_
  refine lv_iload_n hx hb dL_add_4 rfl (lv_at hl 2 rfl) ?_
  refine mu_V (As := [.int (nI i), .int (nI v)]) (rest := [.int (nI 0), .ref ou]) (wc := [(lo, .inr (2, [.ref ra, .ref d0, .ref b0, .ref t0, .ref r0])), (ra, .inl (T 2, 6, .inr (.inr (.inr (.inr (fun j => some (rd j))))))), (rd i, .inr (0, [.ref q0, .int (nI n)])), (q0, .inl (T 0, 440, .inl f))]) (wr := [(ou, .inl (T 3, 1, .inr (.inl o)))]) ⟨hx, hb, hml, hown, hts⟩ (c_add l D T g s.heap.size lo ra d0 b0 t0 r0 rd i q0 f n b (hb9) v (hi) (hv9) (hn)) (cwV 2 hts gL_add_X5_add rfl rfl rfl (by decide +kernel) ⟨Nat.le_of_ble_eq_true rfl, Nat.le_of_ble_eq_true rfl⟩) (va_recv hK hP (ci := 2) (q0 := 0) rfl rfl) hP hD hK hG hS hA [0, 1, 2, 3] [4] rfl (by decide) rfl (by decide) (by decide) ⟨Nat.le_of_ble_eq_true rfl, Nat.le_of_ble_eq_true rfl⟩ rfl hl.1 (Nat.le_of_ble_eq_true rfl) dL_add_5 rfl (fun u H locs hq1 hP hD hS => ?_)
  have hP : va_P D cls [(ou, .inl (T 3, 1, .inr (.inl o))), (lo, .inr (2, [.ref ra, .ref d0, .ref b0, .ref t0, .ref r0])), (ra, .inl (T 2, 6, .inr (.inr (.inr (.inr (fun j => some (rd j))))))), (rd i, .inr (0, [.ref q0, .int (nI (n + 1))])), (q0, .inl (T 0, 440, .inl (upd f n (nI v))))] H := hP
  have hD : va_D A [(ou, .inl (T 3, 1, .inr (.inl o))), (lo, .inr (2, [.ref ra, .ref d0, .ref b0, .ref t0, .ref r0])), (ra, .inl (T 2, 6, .inr (.inr (.inr (.inr (fun j => some (rd j))))))), (rd i, .inr (0, [.ref q0, .int (nI (n + 1))])), (q0, .inl (T 0, 440, .inl (upd f n (nI v))))] := hD
  refine W.eq (g2 := F0 m 8 ls [.int (nI (n + 1)), .int (nI 0), .ref ou]) rfl ?_
  refine lv_i2l hx hb dL_add_8 (v := lN (n + 1)) (nI_l (by omega)) ?_
  refine va_last hx hb hK hP hD hS 0 3 rfl rfl (vp_in_nI (by omega) (by omega)) dL_add_9 (fun H locs hP hD hS => ?_)
  rw [nI_clamp (by omega)] at hP hD
  have hP : va_P D cls [(ou, .inl (T 3, 1, .inr (.inl (vp_updL o 0 (lN (n + 1)))))), (lo, .inr (2, [.ref ra, .ref d0, .ref b0, .ref t0, .ref r0])), (ra, .inl (T 2, 6, .inr (.inr (.inr (.inr (fun j => some (rd j))))))), (rd i, .inr (0, [.ref q0, .int (nI (n + 1))])), (q0, .inl (T 0, 440, .inl (upd f n (nI v))))] H := hP
  have hD : va_D A [(ou, .inl (T 3, 1, .inr (.inl (vp_updL o 0 (lN (n + 1)))))), (lo, .inr (2, [.ref ra, .ref d0, .ref b0, .ref t0, .ref r0])), (ra, .inl (T 2, 6, .inr (.inr (.inr (.inr (fun j => some (rd j))))))), (rd i, .inr (0, [.ref q0, .int (nI (n + 1))])), (q0, .inl (T 0, 440, .inl (upd f n (nI v))))] := hD
  refine lv_goto (tgt := 25) hx hb dL_add_10 (by decide) ?_
  refine lv_iconst (v := (nI 0)) hx hb dL_add_25 (by decide +kernel) ?_
  have hP9 := hP.sub (ws' := [(lo, .inr (2, [.ref ra, .ref d0, .ref b0, .ref t0, .ref r0])), (ra, .inl (T 2, 6, .inr (.inr (.inr (.inr (fun j => some (rd j))))))), (rd i, .inr (0, [.ref q0, .int (nI (n + 1))])), (q0, .inl (T 0, 440, .inl (upd f n (nI v)))), (ou, .inl (T 3, 1, .inr (.inl (vp_updL o 0 (lN (n + 1))))))]) [1, 2, 3, 4, 0] rfl
  have hD9 := hD.sub (ws' := [(lo, .inr (2, [.ref ra, .ref d0, .ref b0, .ref t0, .ref r0])), (ra, .inl (T 2, 6, .inr (.inr (.inr (.inr (fun j => some (rd j))))))), (rd i, .inr (0, [.ref q0, .int (nI (n + 1))])), (q0, .inl (T 0, 440, .inl (upd f n (nI v)))), (ou, .inl (T 3, 1, .inr (.inl (vp_updL o 0 (lN (n + 1))))))]) [1, 2, 3, 4, 0] (by decide) rfl
  refine W.widen (k := 5) (n := 1106) (by omega) (by omega) ?_
  exact W.iret (v := (nI 0)) hx hb hr (fun t ht hW => ⟨⟨(), rfl, trivial, (by rw [ht]; exact hP9), va_K.moved hW.alike hK, hD9⟩, hS.F ht⟩) hS.2.2 dL_add_26
set_option maxHeartbeats 4000000 in
set_option maxRecDepth 100000 in
theorem h_put_x1 (l : Launch) (D : va_G) (T : Nat → ClassId) (g : Nat → Nat) (sz : Nat) (hl9 : l.stackTraces = false) (lo : Nat) (ra : Nat) (d0 : Nat) (b0 : Nat) (t0 : Nat) (r0 : Nat) (rd : Nat → Nat) (i : Int32) (hi : i < 0 ∨ ¬ i < nI 6) (x0 : Int32) (x1 : Int32) (ou : Nat) (o : Nat → Int64) : MUN l yL_put wsL_put ({ frames := 80, cells := 5, slots := 1106, locals := 4000 } : Room) D T g [.ref lo, .int i, .int x0, .int x1, .ref ou] [(lo, .inr (2, [.ref ra, .ref d0, .ref b0, .ref t0, .ref r0])), (ra, .inl (T 2, 6, .inr (.inr (.inr (.inr (fun j => some (rd j))))))), (ou, .inl (T 3, 1, .inr (.inl o)))] sz (fun u : Unit => some (.int (nI 1))) (fun u : Unit => True) (fun u : Unit => [(lo, .inr (2, [.ref ra, .ref d0, .ref b0, .ref t0, .ref r0])), (ra, .inl (T 2, 6, .inr (.inr (.inr (.inr (fun j => some (rd j))))))), (ou, .inl (T 3, 1, .inr (.inl o)))]) 5 1106 := by
  refine va_MetW (hh := [(0, 12, 15, 13), (0, 12, 19, 15)]) (cc := cL_put) (maxL := 6) (ret := (some .int)) (by decide) rfl ?_
  intro p e s m args below meth c s₁ B hml hv
  obtain ⟨rfl, ⟨hsz, hP, hK, hD0, hG⟩, hN⟩ := hv
  have hx := B.exec
  have hb := B.bytes
  have hr := B.returns
  have hts := atoms_spec (ws := wsL_put) B.pre
  have hown : s.vm.findClass RL = some m.cls := findClass_of_methodNamed B.named
  have hlocks := B.notSynchronized
  have htab : c.exceptionTable.toList = tableOf [(0, 12, 15, 13), (0, 12, 19, 15)] := vx_table (x := yL_add) B (hts _ (List.mem_of_getElem? (i := 0) rfl))
  subst hsz
  have hD := hD0.self (sz := s.heap.size)
  generalize hAe : va_A [(lo, .inr (2, [.ref ra, .ref d0, .ref b0, .ref t0, .ref r0])), (ra, .inl (T 2, 6, .inr (.inr (.inr (.inr (fun j => some (rd j))))))), (ou, .inl (T 3, 1, .inr (.inl o)))] s.heap.size = A at hD hG ⊢
  have hA : ∀ q : Nat, s.heap.size ≤ q → A q := fun q h => by rw [← hAe]; exact Or.inr h
  have hS : va_S A s.heap s.heap [] := va_S.rf
  have hP : va_P D cls [(lo, .inr (2, [.ref ra, .ref d0, .ref b0, .ref t0, .ref r0])), (ra, .inl (T 2, 6, .inr (.inr (.inr (.inr (fun j => some (rd j))))))), (ou, .inl (T 3, 1, .inr (.inl o)))] s.heap := hP
  have hl := lv_entry ([.ref lo, .int i, .int x0, .int x1, .ref ou]) (n := 6) (Nat.le_of_ble_eq_true rfl)
  rw [lg_entry_eq]
  generalize (lg_sl ([.ref lo, .int i, .int x0, .int x1, .ref ou]) ++ List.replicate (6 - (lg_sl ([.ref lo, .int i, .int x0, .int x1, .ref ou])).length) Slot.unset).toArray = ls at hl ⊢
  have hl : lv_has ls 6 [(0, .ref lo), (1, .int i), (2, .int x0), (3, .int x1), (4, .ref ou)] := hl
  refine lv_aload hx hb dL_put_0 (lv_at hl 4 rfl) ?_
  refine lv_iconst (v := (nI 0)) hx hb dL_put_2 (by decide +kernel) ?_
  refine lv_aload_n hx hb dL_put_3 rfl (lv_at hl 0 rfl) ?_
  refine lv_iload_n hx hb dL_put_4 rfl (lv_at hl 1 rfl) ?_
  refine lv_iload_n hx hb dL_put_5 rfl (lv_at hl 2 rfl) ?_
  refine lv_iload_n hx hb dL_put_6 rfl (lv_at hl 3 rfl) ?_
  refine tc_V (hpc := 15) (As := [.int i, .int x0, .int x1]) (rest := [.int (nI 0), .ref ou]) (wc := [(lo, .inr (2, [.ref ra, .ref d0, .ref b0, .ref t0, .ref r0])), (ra, .inl (T 2, 6, .inr (.inr (.inr (.inr (fun j => some (rd j)))))))]) (wr := [(ou, .inl (T 3, 1, .inr (.inl o)))]) ⟨hx, hb, hml, hown, hts⟩ (c_put_x1 l D T g s.heap.size (hl9) lo ra d0 b0 t0 r0 rd i (hi) x0 x1) (cwV 3 hts gL_put_X5_put rfl rfl rfl (by decide +kernel) ⟨Nat.le_of_ble_eq_true rfl, Nat.le_of_ble_eq_true rfl⟩) (va_recv hK hP (ci := 2) (q0 := 0) rfl rfl) hP hD hK hG hS hA [0, 1] [2] rfl (by decide) rfl (by decide) (by decide) ⟨Nat.le_of_ble_eq_true rfl, Nat.le_of_ble_eq_true rfl⟩ rfl hl.1 (Nat.le_of_ble_eq_true rfl) dL_put_7 rfl (fun H1 locs1 q9 ce h1 h2 h3 k9 => vx_catch (name := "java/lang/IndexOutOfBoundsException") hown [] ⟨0, 12, 15, 13⟩ [⟨0, 12, 19, 15⟩] (htab.trans rfl) (fun _ h => absurd h List.not_mem_nil) (by decide) (by decide) (hts _ (List.mem_of_getElem? (i := 1) rfl)) (va_Yc.word (hN.2 _ (List.mem_of_getElem? (i := 0) rfl))) h1 h2 h3 k9) (fun u q9 H locs hq1 hP hD hS => ?_)
  refine W.widen (k := 1) (n := 6) (Nat.le_of_ble_eq_true rfl) (Nat.le_of_ble_eq_true rfl) ?_
  have hP : va_P D cls [(ou, .inl (T 3, 1, .inr (.inl o))), (lo, .inr (2, [.ref ra, .ref d0, .ref b0, .ref t0, .ref r0])), (ra, .inl (T 2, 6, .inr (.inr (.inr (.inr (fun j => some (rd j)))))))] H := hP
  have hD : va_D A [(ou, .inl (T 3, 1, .inr (.inl o))), (lo, .inr (2, [.ref ra, .ref d0, .ref b0, .ref t0, .ref r0])), (ra, .inl (T 2, 6, .inr (.inr (.inr (.inr (fun j => some (rd j)))))))] := hD
  refine lv_astore (lv' := [(5, .ref q9), (0, .ref lo), (1, .int i), (2, .int x0), (3, .int x1), (4, .ref ou)]) hx hb dL_put_15 hl (by decide) rfl (fun ls hl => ?_)
  refine lv_iconst (v := (nI 1)) hx hb dL_put_17 (by decide +kernel) ?_
  have hP9 := hP.sub (ws' := [(lo, .inr (2, [.ref ra, .ref d0, .ref b0, .ref t0, .ref r0])), (ra, .inl (T 2, 6, .inr (.inr (.inr (.inr (fun j => some (rd j))))))), (ou, .inl (T 3, 1, .inr (.inl o)))]) [1, 2, 0] rfl
  have hD9 := hD.sub (ws' := [(lo, .inr (2, [.ref ra, .ref d0, .ref b0, .ref t0, .ref r0])), (ra, .inl (T 2, 6, .inr (.inr (.inr (.inr (fun j => some (rd j))))))), (ou, .inl (T 3, 1, .inr (.inl o)))]) [1, 2, 0] (by decide) rfl
  refine W.widen (k := 5) (n := 1106) (by omega) (by omega) ?_
  exact W.iret (v := (nI 1)) hx hb hr (fun t ht hW => ⟨⟨(), rfl, trivial, (by rw [ht]; exact hP9), va_K.moved hW.alike hK, hD9⟩, hS.F ht⟩) hS.2.2 dL_put_18
set_option maxHeartbeats 4000000 in
set_option maxRecDepth 100000 in
theorem h_put_x2 (l : Launch) (D : va_G) (T : Nat → ClassId) (g : Nat → Nat) (sz : Nat) (hl9 : l.stackTraces = false) (lo : Nat) (ra : Nat) (d0 : Nat) (b0 : Nat) (t0 : Nat) (r0 : Nat) (rd : Nat → Nat) (i : Nat) (q0 : Nat) (f : Nat → Int32) (n : Nat) (hi : i < 6) (p9 : Int32) (v : Int32) (hp : p9 < 0 ∨ ¬ p9 < nI n) (ou : Nat) (o : Nat → Int64) : MUN l yL_put wsL_put ({ frames := 80, cells := 5, slots := 1106, locals := 4000 } : Room) D T g [.ref lo, .int (nI i), .int p9, .int v, .ref ou] [(lo, .inr (2, [.ref ra, .ref d0, .ref b0, .ref t0, .ref r0])), (ra, .inl (T 2, 6, .inr (.inr (.inr (.inr (fun j => some (rd j))))))), (rd i, .inr (0, [.ref q0, .int (nI n)])), (q0, .inl (T 0, 440, .inl f)), (ou, .inl (T 3, 1, .inr (.inl o)))] sz (fun u : Unit => some (.int (nI 1))) (fun u : Unit => True) (fun u : Unit => [(lo, .inr (2, [.ref ra, .ref d0, .ref b0, .ref t0, .ref r0])), (ra, .inl (T 2, 6, .inr (.inr (.inr (.inr (fun j => some (rd j))))))), (rd i, .inr (0, [.ref q0, .int (nI n)])), (q0, .inl (T 0, 440, .inl f)), (ou, .inl (T 3, 1, .inr (.inl o)))]) 5 1106 := by
  refine va_MetW (hh := [(0, 12, 15, 13), (0, 12, 19, 15)]) (cc := cL_put) (maxL := 6) (ret := (some .int)) (by decide) rfl ?_
  intro p e s m args below meth c s₁ B hml hv
  obtain ⟨rfl, ⟨hsz, hP, hK, hD0, hG⟩, hN⟩ := hv
  have hx := B.exec
  have hb := B.bytes
  have hr := B.returns
  have hts := atoms_spec (ws := wsL_put) B.pre
  have hown : s.vm.findClass RL = some m.cls := findClass_of_methodNamed B.named
  have hlocks := B.notSynchronized
  have htab : c.exceptionTable.toList = tableOf [(0, 12, 15, 13), (0, 12, 19, 15)] := vx_table (x := yL_add) B (hts _ (List.mem_of_getElem? (i := 0) rfl))
  subst hsz
  have hD := hD0.self (sz := s.heap.size)
  generalize hAe : va_A [(lo, .inr (2, [.ref ra, .ref d0, .ref b0, .ref t0, .ref r0])), (ra, .inl (T 2, 6, .inr (.inr (.inr (.inr (fun j => some (rd j))))))), (rd i, .inr (0, [.ref q0, .int (nI n)])), (q0, .inl (T 0, 440, .inl f)), (ou, .inl (T 3, 1, .inr (.inl o)))] s.heap.size = A at hD hG ⊢
  have hA : ∀ q : Nat, s.heap.size ≤ q → A q := fun q h => by rw [← hAe]; exact Or.inr h
  have hS : va_S A s.heap s.heap [] := va_S.rf
  have hP : va_P D cls [(lo, .inr (2, [.ref ra, .ref d0, .ref b0, .ref t0, .ref r0])), (ra, .inl (T 2, 6, .inr (.inr (.inr (.inr (fun j => some (rd j))))))), (rd i, .inr (0, [.ref q0, .int (nI n)])), (q0, .inl (T 0, 440, .inl f)), (ou, .inl (T 3, 1, .inr (.inl o)))] s.heap := hP
  have hl := lv_entry ([.ref lo, .int (nI i), .int p9, .int v, .ref ou]) (n := 6) (Nat.le_of_ble_eq_true rfl)
  rw [lg_entry_eq]
  generalize (lg_sl ([.ref lo, .int (nI i), .int p9, .int v, .ref ou]) ++ List.replicate (6 - (lg_sl ([.ref lo, .int (nI i), .int p9, .int v, .ref ou])).length) Slot.unset).toArray = ls at hl ⊢
  have hl : lv_has ls 6 [(0, .ref lo), (1, .int (nI i)), (2, .int p9), (3, .int v), (4, .ref ou)] := hl
  refine lv_aload hx hb dL_put_0 (lv_at hl 4 rfl) ?_
  refine lv_iconst (v := (nI 0)) hx hb dL_put_2 (by decide +kernel) ?_
  refine lv_aload_n hx hb dL_put_3 rfl (lv_at hl 0 rfl) ?_
  refine lv_iload_n hx hb dL_put_4 rfl (lv_at hl 1 rfl) ?_
  refine lv_iload_n hx hb dL_put_5 rfl (lv_at hl 2 rfl) ?_
  refine lv_iload_n hx hb dL_put_6 rfl (lv_at hl 3 rfl) ?_
  refine tc_V (hpc := 15) (As := [.int (nI i), .int p9, .int v]) (rest := [.int (nI 0), .ref ou]) (wc := [(lo, .inr (2, [.ref ra, .ref d0, .ref b0, .ref t0, .ref r0])), (ra, .inl (T 2, 6, .inr (.inr (.inr (.inr (fun j => some (rd j))))))), (rd i, .inr (0, [.ref q0, .int (nI n)])), (q0, .inl (T 0, 440, .inl f))]) (wr := [(ou, .inl (T 3, 1, .inr (.inl o)))]) ⟨hx, hb, hml, hown, hts⟩ (c_put_x2 l D T g s.heap.size (hl9) lo ra d0 b0 t0 r0 rd i q0 f n (hi) p9 v (hp)) (cwV 3 hts gL_put_X5_put rfl rfl rfl (by decide +kernel) ⟨Nat.le_of_ble_eq_true rfl, Nat.le_of_ble_eq_true rfl⟩) (va_recv hK hP (ci := 2) (q0 := 0) rfl rfl) hP hD hK hG hS hA [0, 1, 2, 3] [4] rfl (by decide) rfl (by decide) (by decide) ⟨Nat.le_of_ble_eq_true rfl, Nat.le_of_ble_eq_true rfl⟩ rfl hl.1 (Nat.le_of_ble_eq_true rfl) dL_put_7 rfl (fun H1 locs1 q9 ce h1 h2 h3 k9 => vx_catch (name := "java/lang/IndexOutOfBoundsException") hown [] ⟨0, 12, 15, 13⟩ [⟨0, 12, 19, 15⟩] (htab.trans rfl) (fun _ h => absurd h List.not_mem_nil) (by decide) (by decide) (hts _ (List.mem_of_getElem? (i := 1) rfl)) (va_Yc.word (hN.2 _ (List.mem_of_getElem? (i := 0) rfl))) h1 h2 h3 k9) (fun u q9 H locs hq1 hP hD hS => ?_)
  refine W.widen (k := 1) (n := 6) (Nat.le_of_ble_eq_true rfl) (Nat.le_of_ble_eq_true rfl) ?_
  have hP : va_P D cls [(ou, .inl (T 3, 1, .inr (.inl o))), (lo, .inr (2, [.ref ra, .ref d0, .ref b0, .ref t0, .ref r0])), (ra, .inl (T 2, 6, .inr (.inr (.inr (.inr (fun j => some (rd j))))))), (rd i, .inr (0, [.ref q0, .int (nI n)])), (q0, .inl (T 0, 440, .inl f))] H := hP
  have hD : va_D A [(ou, .inl (T 3, 1, .inr (.inl o))), (lo, .inr (2, [.ref ra, .ref d0, .ref b0, .ref t0, .ref r0])), (ra, .inl (T 2, 6, .inr (.inr (.inr (.inr (fun j => some (rd j))))))), (rd i, .inr (0, [.ref q0, .int (nI n)])), (q0, .inl (T 0, 440, .inl f))] := hD
  refine lv_astore (lv' := [(5, .ref q9), (0, .ref lo), (1, .int (nI i)), (2, .int p9), (3, .int v), (4, .ref ou)]) hx hb dL_put_15 hl (by decide) rfl (fun ls hl => ?_)
  refine lv_iconst (v := (nI 1)) hx hb dL_put_17 (by decide +kernel) ?_
  have hP9 := hP.sub (ws' := [(lo, .inr (2, [.ref ra, .ref d0, .ref b0, .ref t0, .ref r0])), (ra, .inl (T 2, 6, .inr (.inr (.inr (.inr (fun j => some (rd j))))))), (rd i, .inr (0, [.ref q0, .int (nI n)])), (q0, .inl (T 0, 440, .inl f)), (ou, .inl (T 3, 1, .inr (.inl o)))]) [1, 2, 3, 4, 0] rfl
  have hD9 := hD.sub (ws' := [(lo, .inr (2, [.ref ra, .ref d0, .ref b0, .ref t0, .ref r0])), (ra, .inl (T 2, 6, .inr (.inr (.inr (.inr (fun j => some (rd j))))))), (rd i, .inr (0, [.ref q0, .int (nI n)])), (q0, .inl (T 0, 440, .inl f)), (ou, .inl (T 3, 1, .inr (.inl o)))]) [1, 2, 3, 4, 0] (by decide) rfl
  refine W.widen (k := 5) (n := 1106) (by omega) (by omega) ?_
  exact W.iret (v := (nI 1)) hx hb hr (fun t ht hW => ⟨⟨(), rfl, trivial, (by rw [ht]; exact hP9), va_K.moved hW.alike hK, hD9⟩, hS.F ht⟩) hS.2.2 dL_put_18
set_option maxHeartbeats 4000000 in
set_option maxRecDepth 100000 in
theorem h_put_x3 (l : Launch) (D : va_G) (T : Nat → ClassId) (g : Nat → Nat) (sz : Nat) (hl9 : l.stackTraces = false) (lo : Nat) (ra : Nat) (d0 : Nat) (b0 : Nat) (t0 : Nat) (r0 : Nat) (rd : Nat → Nat) (i : Nat) (q0 : Nat) (f : Nat → Int32) (n : Nat) (hi : i < 6) (p9 : Nat) (v : Int32) (hp : p9 < n ∧ n < 1000) (hv9 : v < 0 ∨ ¬ v ≤ nI 255) (ou : Nat) (o : Nat → Int64) : MUN l yL_put wsL_put ({ frames := 80, cells := 5, slots := 1106, locals := 4000 } : Room) D T g [.ref lo, .int (nI i), .int (nI p9), .int v, .ref ou] [(lo, .inr (2, [.ref ra, .ref d0, .ref b0, .ref t0, .ref r0])), (ra, .inl (T 2, 6, .inr (.inr (.inr (.inr (fun j => some (rd j))))))), (rd i, .inr (0, [.ref q0, .int (nI n)])), (q0, .inl (T 0, 440, .inl f)), (ou, .inl (T 3, 1, .inr (.inl o)))] sz (fun u : Unit => some (.int (nI 2))) (fun u : Unit => True) (fun u : Unit => [(lo, .inr (2, [.ref ra, .ref d0, .ref b0, .ref t0, .ref r0])), (ra, .inl (T 2, 6, .inr (.inr (.inr (.inr (fun j => some (rd j))))))), (rd i, .inr (0, [.ref q0, .int (nI n)])), (q0, .inl (T 0, 440, .inl f)), (ou, .inl (T 3, 1, .inr (.inl o)))]) 5 1106 := by
  refine va_MetW (hh := [(0, 12, 15, 13), (0, 12, 19, 15)]) (cc := cL_put) (maxL := 6) (ret := (some .int)) (by decide) rfl ?_
  intro p e s m args below meth c s₁ B hml hv
  obtain ⟨rfl, ⟨hsz, hP, hK, hD0, hG⟩, hN⟩ := hv
  have hx := B.exec
  have hb := B.bytes
  have hr := B.returns
  have hts := atoms_spec (ws := wsL_put) B.pre
  have hown : s.vm.findClass RL = some m.cls := findClass_of_methodNamed B.named
  have hlocks := B.notSynchronized
  have htab : c.exceptionTable.toList = tableOf [(0, 12, 15, 13), (0, 12, 19, 15)] := vx_table (x := yL_add) B (hts _ (List.mem_of_getElem? (i := 0) rfl))
  subst hsz
  have hD := hD0.self (sz := s.heap.size)
  generalize hAe : va_A [(lo, .inr (2, [.ref ra, .ref d0, .ref b0, .ref t0, .ref r0])), (ra, .inl (T 2, 6, .inr (.inr (.inr (.inr (fun j => some (rd j))))))), (rd i, .inr (0, [.ref q0, .int (nI n)])), (q0, .inl (T 0, 440, .inl f)), (ou, .inl (T 3, 1, .inr (.inl o)))] s.heap.size = A at hD hG ⊢
  have hA : ∀ q : Nat, s.heap.size ≤ q → A q := fun q h => by rw [← hAe]; exact Or.inr h
  have hS : va_S A s.heap s.heap [] := va_S.rf
  have hP : va_P D cls [(lo, .inr (2, [.ref ra, .ref d0, .ref b0, .ref t0, .ref r0])), (ra, .inl (T 2, 6, .inr (.inr (.inr (.inr (fun j => some (rd j))))))), (rd i, .inr (0, [.ref q0, .int (nI n)])), (q0, .inl (T 0, 440, .inl f)), (ou, .inl (T 3, 1, .inr (.inl o)))] s.heap := hP
  have hl := lv_entry ([.ref lo, .int (nI i), .int (nI p9), .int v, .ref ou]) (n := 6) (Nat.le_of_ble_eq_true rfl)
  rw [lg_entry_eq]
  generalize (lg_sl ([.ref lo, .int (nI i), .int (nI p9), .int v, .ref ou]) ++ List.replicate (6 - (lg_sl ([.ref lo, .int (nI i), .int (nI p9), .int v, .ref ou])).length) Slot.unset).toArray = ls at hl ⊢
  have hl : lv_has ls 6 [(0, .ref lo), (1, .int (nI i)), (2, .int (nI p9)), (3, .int v), (4, .ref ou)] := hl
  refine lv_aload hx hb dL_put_0 (lv_at hl 4 rfl) ?_
  refine lv_iconst (v := (nI 0)) hx hb dL_put_2 (by decide +kernel) ?_
  refine lv_aload_n hx hb dL_put_3 rfl (lv_at hl 0 rfl) ?_
  refine lv_iload_n hx hb dL_put_4 rfl (lv_at hl 1 rfl) ?_
  refine lv_iload_n hx hb dL_put_5 rfl (lv_at hl 2 rfl) ?_
  refine lv_iload_n hx hb dL_put_6 rfl (lv_at hl 3 rfl) ?_
  refine tc_V (hpc := 19) (As := [.int (nI i), .int (nI p9), .int v]) (rest := [.int (nI 0), .ref ou]) (wc := [(lo, .inr (2, [.ref ra, .ref d0, .ref b0, .ref t0, .ref r0])), (ra, .inl (T 2, 6, .inr (.inr (.inr (.inr (fun j => some (rd j))))))), (rd i, .inr (0, [.ref q0, .int (nI n)])), (q0, .inl (T 0, 440, .inl f))]) (wr := [(ou, .inl (T 3, 1, .inr (.inl o)))]) ⟨hx, hb, hml, hown, hts⟩ (c_put_x3 l D T g s.heap.size (hl9) lo ra d0 b0 t0 r0 rd i q0 f n (hi) p9 v (hp) (hv9)) (cwV 3 hts gL_put_X5_put rfl rfl rfl (by decide +kernel) ⟨Nat.le_of_ble_eq_true rfl, Nat.le_of_ble_eq_true rfl⟩) (va_recv hK hP (ci := 2) (q0 := 0) rfl rfl) hP hD hK hG hS hA [0, 1, 2, 3] [4] rfl (by decide) rfl (by decide) (by decide) ⟨Nat.le_of_ble_eq_true rfl, Nat.le_of_ble_eq_true rfl⟩ rfl hl.1 (Nat.le_of_ble_eq_true rfl) dL_put_7 rfl (fun H1 locs1 q9 ce h1 h2 h3 k9 => vx_catch (name := "java/lang/IllegalArgumentException") hown [⟨0, 12, 15, 13⟩] ⟨0, 12, 19, 15⟩ [] (htab.trans rfl) (List.forall_mem_cons.mpr ⟨Or.inr ⟨by decide, "java/lang/IndexOutOfBoundsException", (hts _ (List.mem_of_getElem? (i := 1) rfl)), hN.1 _ (List.mem_of_getElem? (i := 0) rfl)⟩, (fun _ h => absurd h List.not_mem_nil)⟩) (by decide) (by decide) (hts _ (List.mem_of_getElem? (i := 2) rfl)) (va_Yc.word (hN.2 _ (List.mem_of_getElem? (i := 1) rfl))) h1 h2 h3 k9) (fun u q9 H locs hq1 hP hD hS => ?_)
  refine W.widen (k := 1) (n := 6) (Nat.le_of_ble_eq_true rfl) (Nat.le_of_ble_eq_true rfl) ?_
  have hP : va_P D cls [(ou, .inl (T 3, 1, .inr (.inl o))), (lo, .inr (2, [.ref ra, .ref d0, .ref b0, .ref t0, .ref r0])), (ra, .inl (T 2, 6, .inr (.inr (.inr (.inr (fun j => some (rd j))))))), (rd i, .inr (0, [.ref q0, .int (nI n)])), (q0, .inl (T 0, 440, .inl f))] H := hP
  have hD : va_D A [(ou, .inl (T 3, 1, .inr (.inl o))), (lo, .inr (2, [.ref ra, .ref d0, .ref b0, .ref t0, .ref r0])), (ra, .inl (T 2, 6, .inr (.inr (.inr (.inr (fun j => some (rd j))))))), (rd i, .inr (0, [.ref q0, .int (nI n)])), (q0, .inl (T 0, 440, .inl f))] := hD
  refine lv_astore (lv' := [(5, .ref q9), (0, .ref lo), (1, .int (nI i)), (2, .int (nI p9)), (3, .int v), (4, .ref ou)]) hx hb dL_put_19 hl (by decide) rfl (fun ls hl => ?_)
  refine lv_iconst (v := (nI 2)) hx hb dL_put_21 (by decide +kernel) ?_
  have hP9 := hP.sub (ws' := [(lo, .inr (2, [.ref ra, .ref d0, .ref b0, .ref t0, .ref r0])), (ra, .inl (T 2, 6, .inr (.inr (.inr (.inr (fun j => some (rd j))))))), (rd i, .inr (0, [.ref q0, .int (nI n)])), (q0, .inl (T 0, 440, .inl f)), (ou, .inl (T 3, 1, .inr (.inl o)))]) [1, 2, 3, 4, 0] rfl
  have hD9 := hD.sub (ws' := [(lo, .inr (2, [.ref ra, .ref d0, .ref b0, .ref t0, .ref r0])), (ra, .inl (T 2, 6, .inr (.inr (.inr (.inr (fun j => some (rd j))))))), (rd i, .inr (0, [.ref q0, .int (nI n)])), (q0, .inl (T 0, 440, .inl f)), (ou, .inl (T 3, 1, .inr (.inl o)))]) [1, 2, 3, 4, 0] (by decide) rfl
  refine W.widen (k := 5) (n := 1106) (by omega) (by omega) ?_
  exact W.iret (v := (nI 2)) hx hb hr (fun t ht hW => ⟨⟨(), rfl, trivial, (by rw [ht]; exact hP9), va_K.moved hW.alike hK, hD9⟩, hS.F ht⟩) hS.2.2 dL_put_22
set_option maxHeartbeats 4000000 in
set_option maxRecDepth 100000 in
theorem h_put (l : Launch) (D : va_G) (T : Nat → ClassId) (g : Nat → Nat) (sz : Nat) (lo : Nat) (ra : Nat) (d0 : Nat) (b0 : Nat) (t0 : Nat) (r0 : Nat) (rd : Nat → Nat) (i : Nat) (q0 : Nat) (f : Nat → Int32) (n : Nat) (b : Nat → Nat) (hb9 : RB f n b) (p9 : Nat) (v : Nat) (hi : i < 6) (hp : p9 < n) (hv9 : v < 256) (ou : Nat) (o : Nat → Int64) : MUN l yL_put wsL_put ({ frames := 80, cells := 5, slots := 1106, locals := 4000 } : Room) D T g [.ref lo, .int (nI i), .int (nI p9), .int (nI v), .ref ou] [(lo, .inr (2, [.ref ra, .ref d0, .ref b0, .ref t0, .ref r0])), (ra, .inl (T 2, 6, .inr (.inr (.inr (.inr (fun j => some (rd j))))))), (rd i, .inr (0, [.ref q0, .int (nI n)])), (q0, .inl (T 0, 440, .inl f)), (ou, .inl (T 3, 1, .inr (.inl o)))] sz (fun u : Unit => some (.int (nI 0))) (fun u : Unit => True) (fun u : Unit => [(lo, .inr (2, [.ref ra, .ref d0, .ref b0, .ref t0, .ref r0])), (ra, .inl (T 2, 6, .inr (.inr (.inr (.inr (fun j => some (rd j))))))), (rd i, .inr (0, [.ref q0, .int (nI n)])), (q0, .inl (T 0, 440, .inl (upd f p9 (nI v)))), (ou, .inl (T 3, 1, .inr (.inl (vp_updL o 0 (lN (b p9))))))]) 5 1106 := by
  refine va_MetW (hh := [(0, 12, 15, 13), (0, 12, 19, 15)]) (cc := cL_put) (maxL := 6) (ret := (some .int)) (by decide) rfl ?_
  intro p e s m args below meth c s₁ B hml hv
  obtain ⟨rfl, ⟨hsz, hP, hK, hD0, hG⟩, hN⟩ := hv
  have hx := B.exec
  have hb := B.bytes
  have hr := B.returns
  have hts := atoms_spec (ws := wsL_put) B.pre
  have hown : s.vm.findClass RL = some m.cls := findClass_of_methodNamed B.named
  have hlocks := B.notSynchronized
  have htab : c.exceptionTable.toList = tableOf [(0, 12, 15, 13), (0, 12, 19, 15)] := vx_table (x := yL_add) B (hts _ (List.mem_of_getElem? (i := 0) rfl))
  subst hsz
  have hD := hD0.self (sz := s.heap.size)
  generalize hAe : va_A [(lo, .inr (2, [.ref ra, .ref d0, .ref b0, .ref t0, .ref r0])), (ra, .inl (T 2, 6, .inr (.inr (.inr (.inr (fun j => some (rd j))))))), (rd i, .inr (0, [.ref q0, .int (nI n)])), (q0, .inl (T 0, 440, .inl f)), (ou, .inl (T 3, 1, .inr (.inl o)))] s.heap.size = A at hD hG ⊢
  have hA : ∀ q : Nat, s.heap.size ≤ q → A q := fun q h => by rw [← hAe]; exact Or.inr h
  have hS : va_S A s.heap s.heap [] := va_S.rf
  have hP : va_P D cls [(lo, .inr (2, [.ref ra, .ref d0, .ref b0, .ref t0, .ref r0])), (ra, .inl (T 2, 6, .inr (.inr (.inr (.inr (fun j => some (rd j))))))), (rd i, .inr (0, [.ref q0, .int (nI n)])), (q0, .inl (T 0, 440, .inl f)), (ou, .inl (T 3, 1, .inr (.inl o)))] s.heap := hP
  have hl := lv_entry ([.ref lo, .int (nI i), .int (nI p9), .int (nI v), .ref ou]) (n := 6) (Nat.le_of_ble_eq_true rfl)
  rw [lg_entry_eq]
  generalize (lg_sl ([.ref lo, .int (nI i), .int (nI p9), .int (nI v), .ref ou]) ++ List.replicate (6 - (lg_sl ([.ref lo, .int (nI i), .int (nI p9), .int (nI v), .ref ou])).length) Slot.unset).toArray = ls at hl ⊢
  have hl : lv_has ls 6 [(0, .ref lo), (1, .int (nI i)), (2, .int (nI p9)), (3, .int (nI v)), (4, .ref ou)] := hl
  have hx9 := (hb9.2 p9 hp).2
  refine lv_aload hx hb dL_put_0 (lv_at hl 4 rfl) ?_
  refine lv_iconst (v := (nI 0)) hx hb dL_put_2 (by decide +kernel) ?_
  refine lv_aload_n hx hb dL_put_3 rfl (lv_at hl 0 rfl) ?_
  refine lv_iload_n hx hb dL_put_4 rfl (lv_at hl 1 rfl) ?_
  refine lv_iload_n hx hb dL_put_5 rfl (lv_at hl 2 rfl) ?_
  refine lv_iload_n hx hb dL_put_6 rfl (lv_at hl 3 rfl) ?_
  refine mu_V (As := [.int (nI i), .int (nI p9), .int (nI v)]) (rest := [.int (nI 0), .ref ou]) (wc := [(lo, .inr (2, [.ref ra, .ref d0, .ref b0, .ref t0, .ref r0])), (ra, .inl (T 2, 6, .inr (.inr (.inr (.inr (fun j => some (rd j))))))), (rd i, .inr (0, [.ref q0, .int (nI n)])), (q0, .inl (T 0, 440, .inl f))]) (wr := [(ou, .inl (T 3, 1, .inr (.inl o)))]) ⟨hx, hb, hml, hown, hts⟩ (c_put l D T g s.heap.size lo ra d0 b0 t0 r0 rd i q0 f n b (hb9) p9 v (hi) (hp) (hv9)) (cwV 3 hts gL_put_X5_put rfl rfl rfl (by decide +kernel) ⟨Nat.le_of_ble_eq_true rfl, Nat.le_of_ble_eq_true rfl⟩) (va_recv hK hP (ci := 2) (q0 := 0) rfl rfl) hP hD hK hG hS hA [0, 1, 2, 3] [4] rfl (by decide) rfl (by decide) (by decide) ⟨Nat.le_of_ble_eq_true rfl, Nat.le_of_ble_eq_true rfl⟩ rfl hl.1 (Nat.le_of_ble_eq_true rfl) dL_put_7 rfl (fun u H locs hq1 hP hD hS => ?_)
  have hP : va_P D cls [(ou, .inl (T 3, 1, .inr (.inl o))), (lo, .inr (2, [.ref ra, .ref d0, .ref b0, .ref t0, .ref r0])), (ra, .inl (T 2, 6, .inr (.inr (.inr (.inr (fun j => some (rd j))))))), (rd i, .inr (0, [.ref q0, .int (nI n)])), (q0, .inl (T 0, 440, .inl (upd f p9 (nI v))))] H := hP
  have hD : va_D A [(ou, .inl (T 3, 1, .inr (.inl o))), (lo, .inr (2, [.ref ra, .ref d0, .ref b0, .ref t0, .ref r0])), (ra, .inl (T 2, 6, .inr (.inr (.inr (.inr (fun j => some (rd j))))))), (rd i, .inr (0, [.ref q0, .int (nI n)])), (q0, .inl (T 0, 440, .inl (upd f p9 (nI v))))] := hD
  refine W.eq (g2 := F0 m 10 ls [.int (nI (b p9)), .int (nI 0), .ref ou]) rfl ?_
  refine lv_i2l hx hb dL_put_10 (v := lN (b p9)) (nI_l (by omega)) ?_
  refine va_last hx hb hK hP hD hS 0 3 rfl rfl (vp_in_nI (by omega) (by omega)) dL_put_11 (fun H locs hP hD hS => ?_)
  rw [nI_clamp (by omega)] at hP hD
  have hP : va_P D cls [(ou, .inl (T 3, 1, .inr (.inl (vp_updL o 0 (lN (b p9)))))), (lo, .inr (2, [.ref ra, .ref d0, .ref b0, .ref t0, .ref r0])), (ra, .inl (T 2, 6, .inr (.inr (.inr (.inr (fun j => some (rd j))))))), (rd i, .inr (0, [.ref q0, .int (nI n)])), (q0, .inl (T 0, 440, .inl (upd f p9 (nI v))))] H := hP
  have hD : va_D A [(ou, .inl (T 3, 1, .inr (.inl (vp_updL o 0 (lN (b p9)))))), (lo, .inr (2, [.ref ra, .ref d0, .ref b0, .ref t0, .ref r0])), (ra, .inl (T 2, 6, .inr (.inr (.inr (.inr (fun j => some (rd j))))))), (rd i, .inr (0, [.ref q0, .int (nI n)])), (q0, .inl (T 0, 440, .inl (upd f p9 (nI v))))] := hD
  refine lv_goto (tgt := 23) hx hb dL_put_12 (by decide) ?_
  refine lv_iconst (v := (nI 0)) hx hb dL_put_23 (by decide +kernel) ?_
  have hP9 := hP.sub (ws' := [(lo, .inr (2, [.ref ra, .ref d0, .ref b0, .ref t0, .ref r0])), (ra, .inl (T 2, 6, .inr (.inr (.inr (.inr (fun j => some (rd j))))))), (rd i, .inr (0, [.ref q0, .int (nI n)])), (q0, .inl (T 0, 440, .inl (upd f p9 (nI v)))), (ou, .inl (T 3, 1, .inr (.inl (vp_updL o 0 (lN (b p9))))))]) [1, 2, 3, 4, 0] rfl
  have hD9 := hD.sub (ws' := [(lo, .inr (2, [.ref ra, .ref d0, .ref b0, .ref t0, .ref r0])), (ra, .inl (T 2, 6, .inr (.inr (.inr (.inr (fun j => some (rd j))))))), (rd i, .inr (0, [.ref q0, .int (nI n)])), (q0, .inl (T 0, 440, .inl (upd f p9 (nI v)))), (ou, .inl (T 3, 1, .inr (.inl (vp_updL o 0 (lN (b p9))))))]) [1, 2, 3, 4, 0] (by decide) rfl
  refine W.widen (k := 5) (n := 1106) (by omega) (by omega) ?_
  exact W.iret (v := (nI 0)) hx hb hr (fun t ht hW => ⟨⟨(), rfl, trivial, (by rw [ht]; exact hP9), va_K.moved hW.alike hK, hD9⟩, hS.F ht⟩) hS.2.2 dL_put_24
set_option maxHeartbeats 4000000 in
set_option maxRecDepth 100000 in
theorem h_insert_x1 (l : Launch) (D : va_G) (T : Nat → ClassId) (g : Nat → Nat) (sz : Nat) (hl9 : l.stackTraces = false) (lo : Nat) (ra : Nat) (d0 : Nat) (b0 : Nat) (t0 : Nat) (r0 : Nat) (rd : Nat → Nat) (i : Int32) (hi : i < 0 ∨ ¬ i < nI 6) (x0 : Int32) (x1 : Int32) (ou : Nat) (o : Nat → Int64) : MUN l yL_insert wsL_insert ({ frames := 80, cells := 5, slots := 1106, locals := 4000 } : Room) D T g [.ref lo, .int i, .int x0, .int x1, .ref ou] [(lo, .inr (2, [.ref ra, .ref d0, .ref b0, .ref t0, .ref r0])), (ra, .inl (T 2, 6, .inr (.inr (.inr (.inr (fun j => some (rd j))))))), (ou, .inl (T 3, 1, .inr (.inl o)))] sz (fun u : Unit => some (.int (nI 1))) (fun u : Unit => True) (fun u : Unit => [(lo, .inr (2, [.ref ra, .ref d0, .ref b0, .ref t0, .ref r0])), (ra, .inl (T 2, 6, .inr (.inr (.inr (.inr (fun j => some (rd j))))))), (ou, .inl (T 3, 1, .inr (.inl o)))]) 5 1106 := by
  refine va_MetW (hh := [(0, 12, 15, 13), (0, 12, 19, 15), (0, 12, 23, 17)]) (cc := cL_insert) (maxL := 6) (ret := (some .int)) (by decide) rfl ?_
  intro p e s m args below meth c s₁ B hml hv
  obtain ⟨rfl, ⟨hsz, hP, hK, hD0, hG⟩, hN⟩ := hv
  have hx := B.exec
  have hb := B.bytes
  have hr := B.returns
  have hts := atoms_spec (ws := wsL_insert) B.pre
  have hown : s.vm.findClass RL = some m.cls := findClass_of_methodNamed B.named
  have hlocks := B.notSynchronized
  have htab : c.exceptionTable.toList = tableOf [(0, 12, 15, 13), (0, 12, 19, 15), (0, 12, 23, 17)] := vx_table (x := yL_add) B (hts _ (List.mem_of_getElem? (i := 0) rfl))
  subst hsz
  have hD := hD0.self (sz := s.heap.size)
  generalize hAe : va_A [(lo, .inr (2, [.ref ra, .ref d0, .ref b0, .ref t0, .ref r0])), (ra, .inl (T 2, 6, .inr (.inr (.inr (.inr (fun j => some (rd j))))))), (ou, .inl (T 3, 1, .inr (.inl o)))] s.heap.size = A at hD hG ⊢
  have hA : ∀ q : Nat, s.heap.size ≤ q → A q := fun q h => by rw [← hAe]; exact Or.inr h
  have hS : va_S A s.heap s.heap [] := va_S.rf
  have hP : va_P D cls [(lo, .inr (2, [.ref ra, .ref d0, .ref b0, .ref t0, .ref r0])), (ra, .inl (T 2, 6, .inr (.inr (.inr (.inr (fun j => some (rd j))))))), (ou, .inl (T 3, 1, .inr (.inl o)))] s.heap := hP
  have hl := lv_entry ([.ref lo, .int i, .int x0, .int x1, .ref ou]) (n := 6) (Nat.le_of_ble_eq_true rfl)
  rw [lg_entry_eq]
  generalize (lg_sl ([.ref lo, .int i, .int x0, .int x1, .ref ou]) ++ List.replicate (6 - (lg_sl ([.ref lo, .int i, .int x0, .int x1, .ref ou])).length) Slot.unset).toArray = ls at hl ⊢
  have hl : lv_has ls 6 [(0, .ref lo), (1, .int i), (2, .int x0), (3, .int x1), (4, .ref ou)] := hl
  refine lv_aload hx hb dL_insert_0 (lv_at hl 4 rfl) ?_
  refine lv_iconst (v := (nI 0)) hx hb dL_insert_2 (by decide +kernel) ?_
  refine lv_aload_n hx hb dL_insert_3 rfl (lv_at hl 0 rfl) ?_
  refine lv_iload_n hx hb dL_insert_4 rfl (lv_at hl 1 rfl) ?_
  refine lv_iload_n hx hb dL_insert_5 rfl (lv_at hl 2 rfl) ?_
  refine lv_iload_n hx hb dL_insert_6 rfl (lv_at hl 3 rfl) ?_
  refine tc_V (hpc := 15) (As := [.int i, .int x0, .int x1]) (rest := [.int (nI 0), .ref ou]) (wc := [(lo, .inr (2, [.ref ra, .ref d0, .ref b0, .ref t0, .ref r0])), (ra, .inl (T 2, 6, .inr (.inr (.inr (.inr (fun j => some (rd j)))))))]) (wr := [(ou, .inl (T 3, 1, .inr (.inl o)))]) ⟨hx, hb, hml, hown, hts⟩ (c_insert_x1 l D T g s.heap.size (hl9) lo ra d0 b0 t0 r0 rd i (hi) x0 x1) (cwV 3 hts gL_insert_X5_insert rfl rfl rfl (by decide +kernel) ⟨Nat.le_of_ble_eq_true rfl, Nat.le_of_ble_eq_true rfl⟩) (va_recv hK hP (ci := 2) (q0 := 0) rfl rfl) hP hD hK hG hS hA [0, 1] [2] rfl (by decide) rfl (by decide) (by decide) ⟨Nat.le_of_ble_eq_true rfl, Nat.le_of_ble_eq_true rfl⟩ rfl hl.1 (Nat.le_of_ble_eq_true rfl) dL_insert_7 rfl (fun H1 locs1 q9 ce h1 h2 h3 k9 => vx_catch (name := "java/lang/IndexOutOfBoundsException") hown [] ⟨0, 12, 15, 13⟩ [⟨0, 12, 19, 15⟩, ⟨0, 12, 23, 17⟩] (htab.trans rfl) (fun _ h => absurd h List.not_mem_nil) (by decide) (by decide) (hts _ (List.mem_of_getElem? (i := 1) rfl)) (va_Yc.word (hN.2 _ (List.mem_of_getElem? (i := 0) rfl))) h1 h2 h3 k9) (fun u q9 H locs hq1 hP hD hS => ?_)
  refine W.widen (k := 1) (n := 6) (Nat.le_of_ble_eq_true rfl) (Nat.le_of_ble_eq_true rfl) ?_
  have hP : va_P D cls [(ou, .inl (T 3, 1, .inr (.inl o))), (lo, .inr (2, [.ref ra, .ref d0, .ref b0, .ref t0, .ref r0])), (ra, .inl (T 2, 6, .inr (.inr (.inr (.inr (fun j => some (rd j)))))))] H := hP
  have hD : va_D A [(ou, .inl (T 3, 1, .inr (.inl o))), (lo, .inr (2, [.ref ra, .ref d0, .ref b0, .ref t0, .ref r0])), (ra, .inl (T 2, 6, .inr (.inr (.inr (.inr (fun j => some (rd j)))))))] := hD
  refine lv_astore (lv' := [(5, .ref q9), (0, .ref lo), (1, .int i), (2, .int x0), (3, .int x1), (4, .ref ou)]) hx hb dL_insert_15 hl (by decide) rfl (fun ls hl => ?_)
  refine lv_iconst (v := (nI 1)) hx hb dL_insert_17 (by decide +kernel) ?_
  have hP9 := hP.sub (ws' := [(lo, .inr (2, [.ref ra, .ref d0, .ref b0, .ref t0, .ref r0])), (ra, .inl (T 2, 6, .inr (.inr (.inr (.inr (fun j => some (rd j))))))), (ou, .inl (T 3, 1, .inr (.inl o)))]) [1, 2, 0] rfl
  have hD9 := hD.sub (ws' := [(lo, .inr (2, [.ref ra, .ref d0, .ref b0, .ref t0, .ref r0])), (ra, .inl (T 2, 6, .inr (.inr (.inr (.inr (fun j => some (rd j))))))), (ou, .inl (T 3, 1, .inr (.inl o)))]) [1, 2, 0] (by decide) rfl
  refine W.widen (k := 5) (n := 1106) (by omega) (by omega) ?_
  exact W.iret (v := (nI 1)) hx hb hr (fun t ht hW => ⟨⟨(), rfl, trivial, (by rw [ht]; exact hP9), va_K.moved hW.alike hK, hD9⟩, hS.F ht⟩) hS.2.2 dL_insert_18
set_option maxHeartbeats 4000000 in
set_option maxRecDepth 100000 in
theorem h_insert_x2 (l : Launch) (D : va_G) (T : Nat → ClassId) (g : Nat → Nat) (sz : Nat) (hl9 : l.stackTraces = false) (lo : Nat) (ra : Nat) (d0 : Nat) (b0 : Nat) (t0 : Nat) (r0 : Nat) (rd : Nat → Nat) (i : Nat) (q0 : Nat) (f : Nat → Int32) (n : Nat) (hi : i < 6) (p9 : Int32) (v : Int32) (hp : p9 < 0 ∨ ¬ p9 < nI (n + 1)) (ou : Nat) (o : Nat → Int64) : MUN l yL_insert wsL_insert ({ frames := 80, cells := 5, slots := 1106, locals := 4000 } : Room) D T g [.ref lo, .int (nI i), .int p9, .int v, .ref ou] [(lo, .inr (2, [.ref ra, .ref d0, .ref b0, .ref t0, .ref r0])), (ra, .inl (T 2, 6, .inr (.inr (.inr (.inr (fun j => some (rd j))))))), (rd i, .inr (0, [.ref q0, .int (nI n)])), (q0, .inl (T 0, 440, .inl f)), (ou, .inl (T 3, 1, .inr (.inl o)))] sz (fun u : Unit => some (.int (nI 1))) (fun u : Unit => True) (fun u : Unit => [(lo, .inr (2, [.ref ra, .ref d0, .ref b0, .ref t0, .ref r0])), (ra, .inl (T 2, 6, .inr (.inr (.inr (.inr (fun j => some (rd j))))))), (rd i, .inr (0, [.ref q0, .int (nI n)])), (q0, .inl (T 0, 440, .inl f)), (ou, .inl (T 3, 1, .inr (.inl o)))]) 5 1106 := by
  refine va_MetW (hh := [(0, 12, 15, 13), (0, 12, 19, 15), (0, 12, 23, 17)]) (cc := cL_insert) (maxL := 6) (ret := (some .int)) (by decide) rfl ?_
  intro p e s m args below meth c s₁ B hml hv
  obtain ⟨rfl, ⟨hsz, hP, hK, hD0, hG⟩, hN⟩ := hv
  have hx := B.exec
  have hb := B.bytes
  have hr := B.returns
  have hts := atoms_spec (ws := wsL_insert) B.pre
  have hown : s.vm.findClass RL = some m.cls := findClass_of_methodNamed B.named
  have hlocks := B.notSynchronized
  have htab : c.exceptionTable.toList = tableOf [(0, 12, 15, 13), (0, 12, 19, 15), (0, 12, 23, 17)] := vx_table (x := yL_add) B (hts _ (List.mem_of_getElem? (i := 0) rfl))
  subst hsz
  have hD := hD0.self (sz := s.heap.size)
  generalize hAe : va_A [(lo, .inr (2, [.ref ra, .ref d0, .ref b0, .ref t0, .ref r0])), (ra, .inl (T 2, 6, .inr (.inr (.inr (.inr (fun j => some (rd j))))))), (rd i, .inr (0, [.ref q0, .int (nI n)])), (q0, .inl (T 0, 440, .inl f)), (ou, .inl (T 3, 1, .inr (.inl o)))] s.heap.size = A at hD hG ⊢
  have hA : ∀ q : Nat, s.heap.size ≤ q → A q := fun q h => by rw [← hAe]; exact Or.inr h
  have hS : va_S A s.heap s.heap [] := va_S.rf
  have hP : va_P D cls [(lo, .inr (2, [.ref ra, .ref d0, .ref b0, .ref t0, .ref r0])), (ra, .inl (T 2, 6, .inr (.inr (.inr (.inr (fun j => some (rd j))))))), (rd i, .inr (0, [.ref q0, .int (nI n)])), (q0, .inl (T 0, 440, .inl f)), (ou, .inl (T 3, 1, .inr (.inl o)))] s.heap := hP
  have hl := lv_entry ([.ref lo, .int (nI i), .int p9, .int v, .ref ou]) (n := 6) (Nat.le_of_ble_eq_true rfl)
  rw [lg_entry_eq]
  generalize (lg_sl ([.ref lo, .int (nI i), .int p9, .int v, .ref ou]) ++ List.replicate (6 - (lg_sl ([.ref lo, .int (nI i), .int p9, .int v, .ref ou])).length) Slot.unset).toArray = ls at hl ⊢
  have hl : lv_has ls 6 [(0, .ref lo), (1, .int (nI i)), (2, .int p9), (3, .int v), (4, .ref ou)] := hl
  refine lv_aload hx hb dL_insert_0 (lv_at hl 4 rfl) ?_
  refine lv_iconst (v := (nI 0)) hx hb dL_insert_2 (by decide +kernel) ?_
  refine lv_aload_n hx hb dL_insert_3 rfl (lv_at hl 0 rfl) ?_
  refine lv_iload_n hx hb dL_insert_4 rfl (lv_at hl 1 rfl) ?_
  refine lv_iload_n hx hb dL_insert_5 rfl (lv_at hl 2 rfl) ?_
  refine lv_iload_n hx hb dL_insert_6 rfl (lv_at hl 3 rfl) ?_
  refine tc_V (hpc := 15) (As := [.int (nI i), .int p9, .int v]) (rest := [.int (nI 0), .ref ou]) (wc := [(lo, .inr (2, [.ref ra, .ref d0, .ref b0, .ref t0, .ref r0])), (ra, .inl (T 2, 6, .inr (.inr (.inr (.inr (fun j => some (rd j))))))), (rd i, .inr (0, [.ref q0, .int (nI n)])), (q0, .inl (T 0, 440, .inl f))]) (wr := [(ou, .inl (T 3, 1, .inr (.inl o)))]) ⟨hx, hb, hml, hown, hts⟩ (c_insert_x2 l D T g s.heap.size (hl9) lo ra d0 b0 t0 r0 rd i q0 f n (hi) p9 v (hp)) (cwV 3 hts gL_insert_X5_insert rfl rfl rfl (by decide +kernel) ⟨Nat.le_of_ble_eq_true rfl, Nat.le_of_ble_eq_true rfl⟩) (va_recv hK hP (ci := 2) (q0 := 0) rfl rfl) hP hD hK hG hS hA [0, 1, 2, 3] [4] rfl (by decide) rfl (by decide) (by decide) ⟨Nat.le_of_ble_eq_true rfl, Nat.le_of_ble_eq_true rfl⟩ rfl hl.1 (Nat.le_of_ble_eq_true rfl) dL_insert_7 rfl (fun H1 locs1 q9 ce h1 h2 h3 k9 => vx_catch (name := "java/lang/IndexOutOfBoundsException") hown [] ⟨0, 12, 15, 13⟩ [⟨0, 12, 19, 15⟩, ⟨0, 12, 23, 17⟩] (htab.trans rfl) (fun _ h => absurd h List.not_mem_nil) (by decide) (by decide) (hts _ (List.mem_of_getElem? (i := 1) rfl)) (va_Yc.word (hN.2 _ (List.mem_of_getElem? (i := 0) rfl))) h1 h2 h3 k9) (fun u q9 H locs hq1 hP hD hS => ?_)
  refine W.widen (k := 1) (n := 6) (Nat.le_of_ble_eq_true rfl) (Nat.le_of_ble_eq_true rfl) ?_
  have hP : va_P D cls [(ou, .inl (T 3, 1, .inr (.inl o))), (lo, .inr (2, [.ref ra, .ref d0, .ref b0, .ref t0, .ref r0])), (ra, .inl (T 2, 6, .inr (.inr (.inr (.inr (fun j => some (rd j))))))), (rd i, .inr (0, [.ref q0, .int (nI n)])), (q0, .inl (T 0, 440, .inl f))] H := hP
  have hD : va_D A [(ou, .inl (T 3, 1, .inr (.inl o))), (lo, .inr (2, [.ref ra, .ref d0, .ref b0, .ref t0, .ref r0])), (ra, .inl (T 2, 6, .inr (.inr (.inr (.inr (fun j => some (rd j))))))), (rd i, .inr (0, [.ref q0, .int (nI n)])), (q0, .inl (T 0, 440, .inl f))] := hD
  refine lv_astore (lv' := [(5, .ref q9), (0, .ref lo), (1, .int (nI i)), (2, .int p9), (3, .int v), (4, .ref ou)]) hx hb dL_insert_15 hl (by decide) rfl (fun ls hl => ?_)
  refine lv_iconst (v := (nI 1)) hx hb dL_insert_17 (by decide +kernel) ?_
  have hP9 := hP.sub (ws' := [(lo, .inr (2, [.ref ra, .ref d0, .ref b0, .ref t0, .ref r0])), (ra, .inl (T 2, 6, .inr (.inr (.inr (.inr (fun j => some (rd j))))))), (rd i, .inr (0, [.ref q0, .int (nI n)])), (q0, .inl (T 0, 440, .inl f)), (ou, .inl (T 3, 1, .inr (.inl o)))]) [1, 2, 3, 4, 0] rfl
  have hD9 := hD.sub (ws' := [(lo, .inr (2, [.ref ra, .ref d0, .ref b0, .ref t0, .ref r0])), (ra, .inl (T 2, 6, .inr (.inr (.inr (.inr (fun j => some (rd j))))))), (rd i, .inr (0, [.ref q0, .int (nI n)])), (q0, .inl (T 0, 440, .inl f)), (ou, .inl (T 3, 1, .inr (.inl o)))]) [1, 2, 3, 4, 0] (by decide) rfl
  refine W.widen (k := 5) (n := 1106) (by omega) (by omega) ?_
  exact W.iret (v := (nI 1)) hx hb hr (fun t ht hW => ⟨⟨(), rfl, trivial, (by rw [ht]; exact hP9), va_K.moved hW.alike hK, hD9⟩, hS.F ht⟩) hS.2.2 dL_insert_18
set_option maxHeartbeats 4000000 in
set_option maxRecDepth 100000 in
theorem h_insert_x3 (l : Launch) (D : va_G) (T : Nat → ClassId) (g : Nat → Nat) (sz : Nat) (hl9 : l.stackTraces = false) (lo : Nat) (ra : Nat) (d0 : Nat) (b0 : Nat) (t0 : Nat) (r0 : Nat) (rd : Nat → Nat) (i : Nat) (q0 : Nat) (f : Nat → Int32) (n : Nat) (hi : i < 6) (p9 : Nat) (v : Int32) (hp : p9 ≤ n ∧ n < 900) (hv9 : v < 0 ∨ ¬ v ≤ nI 255) (ou : Nat) (o : Nat → Int64) : MUN l yL_insert wsL_insert ({ frames := 80, cells := 5, slots := 1106, locals := 4000 } : Room) D T g [.ref lo, .int (nI i), .int (nI p9), .int v, .ref ou] [(lo, .inr (2, [.ref ra, .ref d0, .ref b0, .ref t0, .ref r0])), (ra, .inl (T 2, 6, .inr (.inr (.inr (.inr (fun j => some (rd j))))))), (rd i, .inr (0, [.ref q0, .int (nI n)])), (q0, .inl (T 0, 440, .inl f)), (ou, .inl (T 3, 1, .inr (.inl o)))] sz (fun u : Unit => some (.int (nI 2))) (fun u : Unit => True) (fun u : Unit => [(lo, .inr (2, [.ref ra, .ref d0, .ref b0, .ref t0, .ref r0])), (ra, .inl (T 2, 6, .inr (.inr (.inr (.inr (fun j => some (rd j))))))), (rd i, .inr (0, [.ref q0, .int (nI n)])), (q0, .inl (T 0, 440, .inl f)), (ou, .inl (T 3, 1, .inr (.inl o)))]) 5 1106 := by
  refine va_MetW (hh := [(0, 12, 15, 13), (0, 12, 19, 15), (0, 12, 23, 17)]) (cc := cL_insert) (maxL := 6) (ret := (some .int)) (by decide) rfl ?_
  intro p e s m args below meth c s₁ B hml hv
  obtain ⟨rfl, ⟨hsz, hP, hK, hD0, hG⟩, hN⟩ := hv
  have hx := B.exec
  have hb := B.bytes
  have hr := B.returns
  have hts := atoms_spec (ws := wsL_insert) B.pre
  have hown : s.vm.findClass RL = some m.cls := findClass_of_methodNamed B.named
  have hlocks := B.notSynchronized
  have htab : c.exceptionTable.toList = tableOf [(0, 12, 15, 13), (0, 12, 19, 15), (0, 12, 23, 17)] := vx_table (x := yL_add) B (hts _ (List.mem_of_getElem? (i := 0) rfl))
  subst hsz
  have hD := hD0.self (sz := s.heap.size)
  generalize hAe : va_A [(lo, .inr (2, [.ref ra, .ref d0, .ref b0, .ref t0, .ref r0])), (ra, .inl (T 2, 6, .inr (.inr (.inr (.inr (fun j => some (rd j))))))), (rd i, .inr (0, [.ref q0, .int (nI n)])), (q0, .inl (T 0, 440, .inl f)), (ou, .inl (T 3, 1, .inr (.inl o)))] s.heap.size = A at hD hG ⊢
  have hA : ∀ q : Nat, s.heap.size ≤ q → A q := fun q h => by rw [← hAe]; exact Or.inr h
  have hS : va_S A s.heap s.heap [] := va_S.rf
  have hP : va_P D cls [(lo, .inr (2, [.ref ra, .ref d0, .ref b0, .ref t0, .ref r0])), (ra, .inl (T 2, 6, .inr (.inr (.inr (.inr (fun j => some (rd j))))))), (rd i, .inr (0, [.ref q0, .int (nI n)])), (q0, .inl (T 0, 440, .inl f)), (ou, .inl (T 3, 1, .inr (.inl o)))] s.heap := hP
  have hl := lv_entry ([.ref lo, .int (nI i), .int (nI p9), .int v, .ref ou]) (n := 6) (Nat.le_of_ble_eq_true rfl)
  rw [lg_entry_eq]
  generalize (lg_sl ([.ref lo, .int (nI i), .int (nI p9), .int v, .ref ou]) ++ List.replicate (6 - (lg_sl ([.ref lo, .int (nI i), .int (nI p9), .int v, .ref ou])).length) Slot.unset).toArray = ls at hl ⊢
  have hl : lv_has ls 6 [(0, .ref lo), (1, .int (nI i)), (2, .int (nI p9)), (3, .int v), (4, .ref ou)] := hl
  refine lv_aload hx hb dL_insert_0 (lv_at hl 4 rfl) ?_
  refine lv_iconst (v := (nI 0)) hx hb dL_insert_2 (by decide +kernel) ?_
  refine lv_aload_n hx hb dL_insert_3 rfl (lv_at hl 0 rfl) ?_
  refine lv_iload_n hx hb dL_insert_4 rfl (lv_at hl 1 rfl) ?_
  refine lv_iload_n hx hb dL_insert_5 rfl (lv_at hl 2 rfl) ?_
  refine lv_iload_n hx hb dL_insert_6 rfl (lv_at hl 3 rfl) ?_
  refine tc_V (hpc := 19) (As := [.int (nI i), .int (nI p9), .int v]) (rest := [.int (nI 0), .ref ou]) (wc := [(lo, .inr (2, [.ref ra, .ref d0, .ref b0, .ref t0, .ref r0])), (ra, .inl (T 2, 6, .inr (.inr (.inr (.inr (fun j => some (rd j))))))), (rd i, .inr (0, [.ref q0, .int (nI n)])), (q0, .inl (T 0, 440, .inl f))]) (wr := [(ou, .inl (T 3, 1, .inr (.inl o)))]) ⟨hx, hb, hml, hown, hts⟩ (c_insert_x3 l D T g s.heap.size (hl9) lo ra d0 b0 t0 r0 rd i q0 f n (hi) p9 v (hp) (hv9)) (cwV 3 hts gL_insert_X5_insert rfl rfl rfl (by decide +kernel) ⟨Nat.le_of_ble_eq_true rfl, Nat.le_of_ble_eq_true rfl⟩) (va_recv hK hP (ci := 2) (q0 := 0) rfl rfl) hP hD hK hG hS hA [0, 1, 2, 3] [4] rfl (by decide) rfl (by decide) (by decide) ⟨Nat.le_of_ble_eq_true rfl, Nat.le_of_ble_eq_true rfl⟩ rfl hl.1 (Nat.le_of_ble_eq_true rfl) dL_insert_7 rfl (fun H1 locs1 q9 ce h1 h2 h3 k9 => vx_catch (name := "java/lang/IllegalArgumentException") hown [⟨0, 12, 15, 13⟩] ⟨0, 12, 19, 15⟩ [⟨0, 12, 23, 17⟩] (htab.trans rfl) (List.forall_mem_cons.mpr ⟨Or.inr ⟨by decide, "java/lang/IndexOutOfBoundsException", (hts _ (List.mem_of_getElem? (i := 1) rfl)), hN.1 _ (List.mem_of_getElem? (i := 0) rfl)⟩, (fun _ h => absurd h List.not_mem_nil)⟩) (by decide) (by decide) (hts _ (List.mem_of_getElem? (i := 2) rfl)) (va_Yc.word (hN.2 _ (List.mem_of_getElem? (i := 1) rfl))) h1 h2 h3 k9) (fun u q9 H locs hq1 hP hD hS => ?_)
  refine W.widen (k := 1) (n := 6) (Nat.le_of_ble_eq_true rfl) (Nat.le_of_ble_eq_true rfl) ?_
  have hP : va_P D cls [(ou, .inl (T 3, 1, .inr (.inl o))), (lo, .inr (2, [.ref ra, .ref d0, .ref b0, .ref t0, .ref r0])), (ra, .inl (T 2, 6, .inr (.inr (.inr (.inr (fun j => some (rd j))))))), (rd i, .inr (0, [.ref q0, .int (nI n)])), (q0, .inl (T 0, 440, .inl f))] H := hP
  have hD : va_D A [(ou, .inl (T 3, 1, .inr (.inl o))), (lo, .inr (2, [.ref ra, .ref d0, .ref b0, .ref t0, .ref r0])), (ra, .inl (T 2, 6, .inr (.inr (.inr (.inr (fun j => some (rd j))))))), (rd i, .inr (0, [.ref q0, .int (nI n)])), (q0, .inl (T 0, 440, .inl f))] := hD
  refine lv_astore (lv' := [(5, .ref q9), (0, .ref lo), (1, .int (nI i)), (2, .int (nI p9)), (3, .int v), (4, .ref ou)]) hx hb dL_insert_19 hl (by decide) rfl (fun ls hl => ?_)
  refine lv_iconst (v := (nI 2)) hx hb dL_insert_21 (by decide +kernel) ?_
  have hP9 := hP.sub (ws' := [(lo, .inr (2, [.ref ra, .ref d0, .ref b0, .ref t0, .ref r0])), (ra, .inl (T 2, 6, .inr (.inr (.inr (.inr (fun j => some (rd j))))))), (rd i, .inr (0, [.ref q0, .int (nI n)])), (q0, .inl (T 0, 440, .inl f)), (ou, .inl (T 3, 1, .inr (.inl o)))]) [1, 2, 3, 4, 0] rfl
  have hD9 := hD.sub (ws' := [(lo, .inr (2, [.ref ra, .ref d0, .ref b0, .ref t0, .ref r0])), (ra, .inl (T 2, 6, .inr (.inr (.inr (.inr (fun j => some (rd j))))))), (rd i, .inr (0, [.ref q0, .int (nI n)])), (q0, .inl (T 0, 440, .inl f)), (ou, .inl (T 3, 1, .inr (.inl o)))]) [1, 2, 3, 4, 0] (by decide) rfl
  refine W.widen (k := 5) (n := 1106) (by omega) (by omega) ?_
  exact W.iret (v := (nI 2)) hx hb hr (fun t ht hW => ⟨⟨(), rfl, trivial, (by rw [ht]; exact hP9), va_K.moved hW.alike hK, hD9⟩, hS.F ht⟩) hS.2.2 dL_insert_22
set_option maxHeartbeats 4000000 in
set_option maxRecDepth 100000 in
theorem h_insert_x4 (l : Launch) (D : va_G) (T : Nat → ClassId) (g : Nat → Nat) (sz : Nat) (hl9 : l.stackTraces = false) (lo : Nat) (ra : Nat) (d0 : Nat) (b0 : Nat) (t0 : Nat) (r0 : Nat) (rd : Nat → Nat) (i : Nat) (q0 : Nat) (f : Nat → Int32) (n : Nat) (hi : i < 6) (p9 : Nat) (v : Nat) (hp : p9 ≤ n ∧ n < 900) (hv9 : v < 256) (hn : 320 ≤ n) (ou : Nat) (o : Nat → Int64) : MUN l yL_insert wsL_insert ({ frames := 80, cells := 5, slots := 1106, locals := 4000 } : Room) D T g [.ref lo, .int (nI i), .int (nI p9), .int (nI v), .ref ou] [(lo, .inr (2, [.ref ra, .ref d0, .ref b0, .ref t0, .ref r0])), (ra, .inl (T 2, 6, .inr (.inr (.inr (.inr (fun j => some (rd j))))))), (rd i, .inr (0, [.ref q0, .int (nI n)])), (q0, .inl (T 0, 440, .inl f)), (ou, .inl (T 3, 1, .inr (.inl o)))] sz (fun u : Unit => some (.int (nI 3))) (fun u : Unit => True) (fun u : Unit => [(lo, .inr (2, [.ref ra, .ref d0, .ref b0, .ref t0, .ref r0])), (ra, .inl (T 2, 6, .inr (.inr (.inr (.inr (fun j => some (rd j))))))), (rd i, .inr (0, [.ref q0, .int (nI n)])), (q0, .inl (T 0, 440, .inl f)), (ou, .inl (T 3, 1, .inr (.inl o)))]) 5 1106 := by
  refine va_MetW (hh := [(0, 12, 15, 13), (0, 12, 19, 15), (0, 12, 23, 17)]) (cc := cL_insert) (maxL := 6) (ret := (some .int)) (by decide) rfl ?_
  intro p e s m args below meth c s₁ B hml hv
  obtain ⟨rfl, ⟨hsz, hP, hK, hD0, hG⟩, hN⟩ := hv
  have hx := B.exec
  have hb := B.bytes
  have hr := B.returns
  have hts := atoms_spec (ws := wsL_insert) B.pre
  have hown : s.vm.findClass RL = some m.cls := findClass_of_methodNamed B.named
  have hlocks := B.notSynchronized
  have htab : c.exceptionTable.toList = tableOf [(0, 12, 15, 13), (0, 12, 19, 15), (0, 12, 23, 17)] := vx_table (x := yL_add) B (hts _ (List.mem_of_getElem? (i := 0) rfl))
  subst hsz
  have hD := hD0.self (sz := s.heap.size)
  generalize hAe : va_A [(lo, .inr (2, [.ref ra, .ref d0, .ref b0, .ref t0, .ref r0])), (ra, .inl (T 2, 6, .inr (.inr (.inr (.inr (fun j => some (rd j))))))), (rd i, .inr (0, [.ref q0, .int (nI n)])), (q0, .inl (T 0, 440, .inl f)), (ou, .inl (T 3, 1, .inr (.inl o)))] s.heap.size = A at hD hG ⊢
  have hA : ∀ q : Nat, s.heap.size ≤ q → A q := fun q h => by rw [← hAe]; exact Or.inr h
  have hS : va_S A s.heap s.heap [] := va_S.rf
  have hP : va_P D cls [(lo, .inr (2, [.ref ra, .ref d0, .ref b0, .ref t0, .ref r0])), (ra, .inl (T 2, 6, .inr (.inr (.inr (.inr (fun j => some (rd j))))))), (rd i, .inr (0, [.ref q0, .int (nI n)])), (q0, .inl (T 0, 440, .inl f)), (ou, .inl (T 3, 1, .inr (.inl o)))] s.heap := hP
  have hl := lv_entry ([.ref lo, .int (nI i), .int (nI p9), .int (nI v), .ref ou]) (n := 6) (Nat.le_of_ble_eq_true rfl)
  rw [lg_entry_eq]
  generalize (lg_sl ([.ref lo, .int (nI i), .int (nI p9), .int (nI v), .ref ou]) ++ List.replicate (6 - (lg_sl ([.ref lo, .int (nI i), .int (nI p9), .int (nI v), .ref ou])).length) Slot.unset).toArray = ls at hl ⊢
  have hl : lv_has ls 6 [(0, .ref lo), (1, .int (nI i)), (2, .int (nI p9)), (3, .int (nI v)), (4, .ref ou)] := hl
  refine lv_aload hx hb dL_insert_0 (lv_at hl 4 rfl) ?_
  refine lv_iconst (v := (nI 0)) hx hb dL_insert_2 (by decide +kernel) ?_
  refine lv_aload_n hx hb dL_insert_3 rfl (lv_at hl 0 rfl) ?_
  refine lv_iload_n hx hb dL_insert_4 rfl (lv_at hl 1 rfl) ?_
  refine lv_iload_n hx hb dL_insert_5 rfl (lv_at hl 2 rfl) ?_
  refine lv_iload_n hx hb dL_insert_6 rfl (lv_at hl 3 rfl) ?_
  refine tc_V (hpc := 23) (As := [.int (nI i), .int (nI p9), .int (nI v)]) (rest := [.int (nI 0), .ref ou]) (wc := [(lo, .inr (2, [.ref ra, .ref d0, .ref b0, .ref t0, .ref r0])), (ra, .inl (T 2, 6, .inr (.inr (.inr (.inr (fun j => some (rd j))))))), (rd i, .inr (0, [.ref q0, .int (nI n)])), (q0, .inl (T 0, 440, .inl f))]) (wr := [(ou, .inl (T 3, 1, .inr (.inl o)))]) ⟨hx, hb, hml, hown, hts⟩ (c_insert_x4 l D T g s.heap.size (hl9) lo ra d0 b0 t0 r0 rd i q0 f n (hi) p9 v (hp) (hv9) (hn)) (cwV 3 hts gL_insert_X5_insert rfl rfl rfl (by decide +kernel) ⟨Nat.le_of_ble_eq_true rfl, Nat.le_of_ble_eq_true rfl⟩) (va_recv hK hP (ci := 2) (q0 := 0) rfl rfl) hP hD hK hG hS hA [0, 1, 2, 3] [4] rfl (by decide) rfl (by decide) (by decide) ⟨Nat.le_of_ble_eq_true rfl, Nat.le_of_ble_eq_true rfl⟩ rfl hl.1 (Nat.le_of_ble_eq_true rfl) dL_insert_7 rfl (fun H1 locs1 q9 ce h1 h2 h3 k9 => vx_catch (name := "java/lang/IllegalStateException") hown [⟨0, 12, 15, 13⟩, ⟨0, 12, 19, 15⟩] ⟨0, 12, 23, 17⟩ [] (htab.trans rfl) (List.forall_mem_cons.mpr ⟨Or.inr ⟨by decide, "java/lang/IndexOutOfBoundsException", (hts _ (List.mem_of_getElem? (i := 1) rfl)), hN.1 _ (List.mem_of_getElem? (i := 1) rfl)⟩, (List.forall_mem_cons.mpr ⟨Or.inr ⟨by decide, "java/lang/IllegalArgumentException", (hts _ (List.mem_of_getElem? (i := 2) rfl)), hN.1 _ (List.mem_of_getElem? (i := 2) rfl)⟩, (fun _ h => absurd h List.not_mem_nil)⟩)⟩) (by decide) (by decide) (hts _ (List.mem_of_getElem? (i := 3) rfl)) (va_Yc.word (hN.2 _ (List.mem_of_getElem? (i := 2) rfl))) h1 h2 h3 k9) (fun u q9 H locs hq1 hP hD hS => ?_)
  refine W.widen (k := 1) (n := 6) (Nat.le_of_ble_eq_true rfl) (Nat.le_of_ble_eq_true rfl) ?_
  have hP : va_P D cls [(ou, .inl (T 3, 1, .inr (.inl o))), (lo, .inr (2, [.ref ra, .ref d0, .ref b0, .ref t0, .ref r0])), (ra, .inl (T 2, 6, .inr (.inr (.inr (.inr (fun j => some (rd j))))))), (rd i, .inr (0, [.ref q0, .int (nI n)])), (q0, .inl (T 0, 440, .inl f))] H := hP
  have hD : va_D A [(ou, .inl (T 3, 1, .inr (.inl o))), (lo, .inr (2, [.ref ra, .ref d0, .ref b0, .ref t0, .ref r0])), (ra, .inl (T 2, 6, .inr (.inr (.inr (.inr (fun j => some (rd j))))))), (rd i, .inr (0, [.ref q0, .int (nI n)])), (q0, .inl (T 0, 440, .inl f))] := hD
  refine lv_astore (lv' := [(5, .ref q9), (0, .ref lo), (1, .int (nI i)), (2, .int (nI p9)), (3, .int (nI v)), (4, .ref ou)]) hx hb dL_insert_23 hl (by decide) rfl (fun ls hl => ?_)
  refine lv_iconst (v := (nI 3)) hx hb dL_insert_25 (by decide +kernel) ?_
  have hP9 := hP.sub (ws' := [(lo, .inr (2, [.ref ra, .ref d0, .ref b0, .ref t0, .ref r0])), (ra, .inl (T 2, 6, .inr (.inr (.inr (.inr (fun j => some (rd j))))))), (rd i, .inr (0, [.ref q0, .int (nI n)])), (q0, .inl (T 0, 440, .inl f)), (ou, .inl (T 3, 1, .inr (.inl o)))]) [1, 2, 3, 4, 0] rfl
  have hD9 := hD.sub (ws' := [(lo, .inr (2, [.ref ra, .ref d0, .ref b0, .ref t0, .ref r0])), (ra, .inl (T 2, 6, .inr (.inr (.inr (.inr (fun j => some (rd j))))))), (rd i, .inr (0, [.ref q0, .int (nI n)])), (q0, .inl (T 0, 440, .inl f)), (ou, .inl (T 3, 1, .inr (.inl o)))]) [1, 2, 3, 4, 0] (by decide) rfl
  refine W.widen (k := 5) (n := 1106) (by omega) (by omega) ?_
  exact W.iret (v := (nI 3)) hx hb hr (fun t ht hW => ⟨⟨(), rfl, trivial, (by rw [ht]; exact hP9), va_K.moved hW.alike hK, hD9⟩, hS.F ht⟩) hS.2.2 dL_insert_26
set_option maxHeartbeats 4000000 in
set_option maxRecDepth 100000 in
theorem h_insert (l : Launch) (D : va_G) (T : Nat → ClassId) (g : Nat → Nat) (sz : Nat) (lo : Nat) (ra : Nat) (d0 : Nat) (b0 : Nat) (t0 : Nat) (r0 : Nat) (rd : Nat → Nat) (i : Nat) (q0 : Nat) (f : Nat → Int32) (n : Nat) (b : Nat → Nat) (hb9 : RB f n b) (p9 : Nat) (v : Nat) (hi : i < 6) (hp : p9 ≤ n ∧ n < 320) (hv9 : v < 256) (ou : Nat) (o : Nat → Int64) : MUN l yL_insert wsL_insert ({ frames := 80, cells := 5, slots := 1106, locals := 4000 } : Room) D T g [.ref lo, .int (nI i), .int (nI p9), .int (nI v), .ref ou] [(lo, .inr (2, [.ref ra, .ref d0, .ref b0, .ref t0, .ref r0])), (ra, .inl (T 2, 6, .inr (.inr (.inr (.inr (fun j => some (rd j))))))), (rd i, .inr (0, [.ref q0, .int (nI n)])), (q0, .inl (T 0, 440, .inl f)), (ou, .inl (T 3, 1, .inr (.inl o)))] sz (fun u : Nat → Int32 => some (.int (nI 0))) (fun u : Nat → Int32 => RB u (n + 1) (insN b p9 v)) (fun u : Nat → Int32 => [(lo, .inr (2, [.ref ra, .ref d0, .ref b0, .ref t0, .ref r0])), (ra, .inl (T 2, 6, .inr (.inr (.inr (.inr (fun j => some (rd j))))))), (rd i, .inr (0, [.ref q0, .int (nI (n + 1))])), (q0, .inl (T 0, 440, .inl u)), (ou, .inl (T 3, 1, .inr (.inl (vp_updL o 0 (lN (n + 1))))))]) 5 1106 := by
  refine va_MetW (hh := [(0, 12, 15, 13), (0, 12, 19, 15), (0, 12, 23, 17)]) (cc := cL_insert) (maxL := 6) (ret := (some .int)) (by decide) rfl ?_
  intro p e s m args below meth c s₁ B hml hv
  obtain ⟨rfl, ⟨hsz, hP, hK, hD0, hG⟩, hN⟩ := hv
  have hx := B.exec
  have hb := B.bytes
  have hr := B.returns
  have hts := atoms_spec (ws := wsL_insert) B.pre
  have hown : s.vm.findClass RL = some m.cls := findClass_of_methodNamed B.named
  have hlocks := B.notSynchronized
  have htab : c.exceptionTable.toList = tableOf [(0, 12, 15, 13), (0, 12, 19, 15), (0, 12, 23, 17)] := vx_table (x := yL_add) B (hts _ (List.mem_of_getElem? (i := 0) rfl))
  subst hsz
  have hD := hD0.self (sz := s.heap.size)
  generalize hAe : va_A [(lo, .inr (2, [.ref ra, .ref d0, .ref b0, .ref t0, .ref r0])), (ra, .inl (T 2, 6, .inr (.inr (.inr (.inr (fun j => some (rd j))))))), (rd i, .inr (0, [.ref q0, .int (nI n)])), (q0, .inl (T 0, 440, .inl f)), (ou, .inl (T 3, 1, .inr (.inl o)))] s.heap.size = A at hD hG ⊢
  have hA : ∀ q : Nat, s.heap.size ≤ q → A q := fun q h => by rw [← hAe]; exact Or.inr h
  have hS : va_S A s.heap s.heap [] := va_S.rf
  have hP : va_P D cls [(lo, .inr (2, [.ref ra, .ref d0, .ref b0, .ref t0, .ref r0])), (ra, .inl (T 2, 6, .inr (.inr (.inr (.inr (fun j => some (rd j))))))), (rd i, .inr (0, [.ref q0, .int (nI n)])), (q0, .inl (T 0, 440, .inl f)), (ou, .inl (T 3, 1, .inr (.inl o)))] s.heap := hP
  have hl := lv_entry ([.ref lo, .int (nI i), .int (nI p9), .int (nI v), .ref ou]) (n := 6) (Nat.le_of_ble_eq_true rfl)
  rw [lg_entry_eq]
  generalize (lg_sl ([.ref lo, .int (nI i), .int (nI p9), .int (nI v), .ref ou]) ++ List.replicate (6 - (lg_sl ([.ref lo, .int (nI i), .int (nI p9), .int (nI v), .ref ou])).length) Slot.unset).toArray = ls at hl ⊢
  have hl : lv_has ls 6 [(0, .ref lo), (1, .int (nI i)), (2, .int (nI p9)), (3, .int (nI v)), (4, .ref ou)] := hl
  refine lv_aload hx hb dL_insert_0 (lv_at hl 4 rfl) ?_
  refine lv_iconst (v := (nI 0)) hx hb dL_insert_2 (by decide +kernel) ?_
  refine lv_aload_n hx hb dL_insert_3 rfl (lv_at hl 0 rfl) ?_
  refine lv_iload_n hx hb dL_insert_4 rfl (lv_at hl 1 rfl) ?_
  refine lv_iload_n hx hb dL_insert_5 rfl (lv_at hl 2 rfl) ?_
  refine lv_iload_n hx hb dL_insert_6 rfl (lv_at hl 3 rfl) ?_
  refine mu_V (As := [.int (nI i), .int (nI p9), .int (nI v)]) (rest := [.int (nI 0), .ref ou]) (wc := [(lo, .inr (2, [.ref ra, .ref d0, .ref b0, .ref t0, .ref r0])), (ra, .inl (T 2, 6, .inr (.inr (.inr (.inr (fun j => some (rd j))))))), (rd i, .inr (0, [.ref q0, .int (nI n)])), (q0, .inl (T 0, 440, .inl f))]) (wr := [(ou, .inl (T 3, 1, .inr (.inl o)))]) ⟨hx, hb, hml, hown, hts⟩ (c_insert l D T g s.heap.size lo ra d0 b0 t0 r0 rd i q0 f n b (hb9) p9 v (hi) (hp) (hv9)) (cwV 3 hts gL_insert_X5_insert rfl rfl rfl (by decide +kernel) ⟨Nat.le_of_ble_eq_true rfl, Nat.le_of_ble_eq_true rfl⟩) (va_recv hK hP (ci := 2) (q0 := 0) rfl rfl) hP hD hK hG hS hA [0, 1, 2, 3] [4] rfl (by decide) rfl (by decide) (by decide) ⟨Nat.le_of_ble_eq_true rfl, Nat.le_of_ble_eq_true rfl⟩ rfl hl.1 (Nat.le_of_ble_eq_true rfl) dL_insert_7 rfl (fun u H locs hq2 hP hD hS => ?_)
  obtain ⟨F_1, hu9⟩ : ∃ z, z = u := ⟨_, rfl⟩
  subst hu9
  have hP : va_P D cls [(ou, .inl (T 3, 1, .inr (.inl o))), (lo, .inr (2, [.ref ra, .ref d0, .ref b0, .ref t0, .ref r0])), (ra, .inl (T 2, 6, .inr (.inr (.inr (.inr (fun j => some (rd j))))))), (rd i, .inr (0, [.ref q0, .int (nI (n + 1))])), (q0, .inl (T 0, 440, .inl F_1))] H := hP
  have hD : va_D A [(ou, .inl (T 3, 1, .inr (.inl o))), (lo, .inr (2, [.ref ra, .ref d0, .ref b0, .ref t0, .ref r0])), (ra, .inl (T 2, 6, .inr (.inr (.inr (.inr (fun j => some (rd j))))))), (rd i, .inr (0, [.ref q0, .int (nI (n + 1))])), (q0, .inl (T 0, 440, .inl F_1))] := hD
  have hp1 : RB F_1 (n + 1) (insN b p9 v) := hq2
  refine W.eq (g2 := F0 m 10 ls [.int (nI (n + 1)), .int (nI 0), .ref ou]) rfl ?_
  refine lv_i2l hx hb dL_insert_10 (v := lN (n + 1)) (nI_l (by omega)) ?_
  refine va_last hx hb hK hP hD hS 0 3 rfl rfl (vp_in_nI (by omega) (by omega)) dL_insert_11 (fun H locs hP hD hS => ?_)
  rw [nI_clamp (by omega)] at hP hD
  have hP : va_P D cls [(ou, .inl (T 3, 1, .inr (.inl (vp_updL o 0 (lN (n + 1)))))), (lo, .inr (2, [.ref ra, .ref d0, .ref b0, .ref t0, .ref r0])), (ra, .inl (T 2, 6, .inr (.inr (.inr (.inr (fun j => some (rd j))))))), (rd i, .inr (0, [.ref q0, .int (nI (n + 1))])), (q0, .inl (T 0, 440, .inl F_1))] H := hP
  have hD : va_D A [(ou, .inl (T 3, 1, .inr (.inl (vp_updL o 0 (lN (n + 1)))))), (lo, .inr (2, [.ref ra, .ref d0, .ref b0, .ref t0, .ref r0])), (ra, .inl (T 2, 6, .inr (.inr (.inr (.inr (fun j => some (rd j))))))), (rd i, .inr (0, [.ref q0, .int (nI (n + 1))])), (q0, .inl (T 0, 440, .inl F_1))] := hD
  refine lv_goto (tgt := 27) hx hb dL_insert_12 (by decide) ?_
  refine lv_iconst (v := (nI 0)) hx hb dL_insert_27 (by decide +kernel) ?_
  have hP9 := hP.sub (ws' := [(lo, .inr (2, [.ref ra, .ref d0, .ref b0, .ref t0, .ref r0])), (ra, .inl (T 2, 6, .inr (.inr (.inr (.inr (fun j => some (rd j))))))), (rd i, .inr (0, [.ref q0, .int (nI (n + 1))])), (q0, .inl (T 0, 440, .inl F_1)), (ou, .inl (T 3, 1, .inr (.inl (vp_updL o 0 (lN (n + 1))))))]) [1, 2, 3, 4, 0] rfl
  have hD9 := hD.sub (ws' := [(lo, .inr (2, [.ref ra, .ref d0, .ref b0, .ref t0, .ref r0])), (ra, .inl (T 2, 6, .inr (.inr (.inr (.inr (fun j => some (rd j))))))), (rd i, .inr (0, [.ref q0, .int (nI (n + 1))])), (q0, .inl (T 0, 440, .inl F_1)), (ou, .inl (T 3, 1, .inr (.inl (vp_updL o 0 (lN (n + 1))))))]) [1, 2, 3, 4, 0] (by decide) rfl
  refine W.widen (k := 5) (n := 1106) (by omega) (by omega) ?_
  exact W.iret (v := (nI 0)) hx hb hr (fun t ht hW => ⟨⟨F_1, rfl, hp1, (by rw [ht]; exact hP9), va_K.moved hW.alike hK, hD9⟩, hS.F ht⟩) hS.2.2 dL_insert_28
set_option maxHeartbeats 4000000 in
set_option maxRecDepth 100000 in
theorem h_remove_x1 (l : Launch) (D : va_G) (T : Nat → ClassId) (g : Nat → Nat) (sz : Nat) (hl9 : l.stackTraces = false) (lo : Nat) (ra : Nat) (d0 : Nat) (b0 : Nat) (t0 : Nat) (r0 : Nat) (rd : Nat → Nat) (i : Int32) (hi : i < 0 ∨ ¬ i < nI 6) (x0 : Int32) (x1 : Int32) (ou : Nat) (o : Nat → Int64) : MUN l yL_remove wsL_remove ({ frames := 80, cells := 5, slots := 1106, locals := 4000 } : Room) D T g [.ref lo, .int i, .int x0, .int x1, .ref ou] [(lo, .inr (2, [.ref ra, .ref d0, .ref b0, .ref t0, .ref r0])), (ra, .inl (T 2, 6, .inr (.inr (.inr (.inr (fun j => some (rd j))))))), (ou, .inl (T 3, 1, .inr (.inl o)))] sz (fun u : Unit => some (.int (nI 1))) (fun u : Unit => True) (fun u : Unit => [(lo, .inr (2, [.ref ra, .ref d0, .ref b0, .ref t0, .ref r0])), (ra, .inl (T 2, 6, .inr (.inr (.inr (.inr (fun j => some (rd j))))))), (ou, .inl (T 3, 1, .inr (.inl o)))]) 5 1106 := by
  refine va_MetW (hh := [(0, 12, 15, 13)]) (cc := cL_remove) (maxL := 6) (ret := (some .int)) (by decide) rfl ?_
  intro p e s m args below meth c s₁ B hml hv
  obtain ⟨rfl, ⟨hsz, hP, hK, hD0, hG⟩, hN⟩ := hv
  have hx := B.exec
  have hb := B.bytes
  have hr := B.returns
  have hts := atoms_spec (ws := wsL_remove) B.pre
  have hown : s.vm.findClass RL = some m.cls := findClass_of_methodNamed B.named
  have hlocks := B.notSynchronized
  have htab : c.exceptionTable.toList = tableOf [(0, 12, 15, 13)] := vx_table (x := yL_add) B (hts _ (List.mem_of_getElem? (i := 0) rfl))
  subst hsz
  have hD := hD0.self (sz := s.heap.size)
  generalize hAe : va_A [(lo, .inr (2, [.ref ra, .ref d0, .ref b0, .ref t0, .ref r0])), (ra, .inl (T 2, 6, .inr (.inr (.inr (.inr (fun j => some (rd j))))))), (ou, .inl (T 3, 1, .inr (.inl o)))] s.heap.size = A at hD hG ⊢
  have hA : ∀ q : Nat, s.heap.size ≤ q → A q := fun q h => by rw [← hAe]; exact Or.inr h
  have hS : va_S A s.heap s.heap [] := va_S.rf
  have hP : va_P D cls [(lo, .inr (2, [.ref ra, .ref d0, .ref b0, .ref t0, .ref r0])), (ra, .inl (T 2, 6, .inr (.inr (.inr (.inr (fun j => some (rd j))))))), (ou, .inl (T 3, 1, .inr (.inl o)))] s.heap := hP
  have hl := lv_entry ([.ref lo, .int i, .int x0, .int x1, .ref ou]) (n := 6) (Nat.le_of_ble_eq_true rfl)
  rw [lg_entry_eq]
  generalize (lg_sl ([.ref lo, .int i, .int x0, .int x1, .ref ou]) ++ List.replicate (6 - (lg_sl ([.ref lo, .int i, .int x0, .int x1, .ref ou])).length) Slot.unset).toArray = ls at hl ⊢
  have hl : lv_has ls 6 [(0, .ref lo), (1, .int i), (2, .int x0), (3, .int x1), (4, .ref ou)] := hl
  refine lv_aload hx hb dL_remove_0 (lv_at hl 4 rfl) ?_
  refine lv_iconst (v := (nI 0)) hx hb dL_remove_2 (by decide +kernel) ?_
  refine lv_aload_n hx hb dL_remove_3 rfl (lv_at hl 0 rfl) ?_
  refine lv_iload_n hx hb dL_remove_4 rfl (lv_at hl 1 rfl) ?_
  refine lv_iload_n hx hb dL_remove_5 rfl (lv_at hl 2 rfl) ?_
  refine lv_iload_n hx hb dL_remove_6 rfl (lv_at hl 3 rfl) ?_
  refine tc_V (hpc := 15) (As := [.int i, .int x0, .int x1]) (rest := [.int (nI 0), .ref ou]) (wc := [(lo, .inr (2, [.ref ra, .ref d0, .ref b0, .ref t0, .ref r0])), (ra, .inl (T 2, 6, .inr (.inr (.inr (.inr (fun j => some (rd j)))))))]) (wr := [(ou, .inl (T 3, 1, .inr (.inl o)))]) ⟨hx, hb, hml, hown, hts⟩ (c_remove_x1 l D T g s.heap.size (hl9) lo ra d0 b0 t0 r0 rd i (hi) x0 x1) (cwV 3 hts gL_remove_X5_remove rfl rfl rfl (by decide +kernel) ⟨Nat.le_of_ble_eq_true rfl, Nat.le_of_ble_eq_true rfl⟩) (va_recv hK hP (ci := 2) (q0 := 0) rfl rfl) hP hD hK hG hS hA [0, 1] [2] rfl (by decide) rfl (by decide) (by decide) ⟨Nat.le_of_ble_eq_true rfl, Nat.le_of_ble_eq_true rfl⟩ rfl hl.1 (Nat.le_of_ble_eq_true rfl) dL_remove_7 rfl (fun H1 locs1 q9 ce h1 h2 h3 k9 => vx_catch (name := "java/lang/IndexOutOfBoundsException") hown [] ⟨0, 12, 15, 13⟩ [] (htab.trans rfl) (fun _ h => absurd h List.not_mem_nil) (by decide) (by decide) (hts _ (List.mem_of_getElem? (i := 1) rfl)) (va_Yc.word (hN.2 _ (List.mem_of_getElem? (i := 0) rfl))) h1 h2 h3 k9) (fun u q9 H locs hq1 hP hD hS => ?_)
  refine W.widen (k := 1) (n := 6) (Nat.le_of_ble_eq_true rfl) (Nat.le_of_ble_eq_true rfl) ?_
  have hP : va_P D cls [(ou, .inl (T 3, 1, .inr (.inl o))), (lo, .inr (2, [.ref ra, .ref d0, .ref b0, .ref t0, .ref r0])), (ra, .inl (T 2, 6, .inr (.inr (.inr (.inr (fun j => some (rd j)))))))] H := hP
  have hD : va_D A [(ou, .inl (T 3, 1, .inr (.inl o))), (lo, .inr (2, [.ref ra, .ref d0, .ref b0, .ref t0, .ref r0])), (ra, .inl (T 2, 6, .inr (.inr (.inr (.inr (fun j => some (rd j)))))))] := hD
  refine lv_astore (lv' := [(5, .ref q9), (0, .ref lo), (1, .int i), (2, .int x0), (3, .int x1), (4, .ref ou)]) hx hb dL_remove_15 hl (by decide) rfl (fun ls hl => ?_)
  refine lv_iconst (v := (nI 1)) hx hb dL_remove_17 (by decide +kernel) ?_
  have hP9 := hP.sub (ws' := [(lo, .inr (2, [.ref ra, .ref d0, .ref b0, .ref t0, .ref r0])), (ra, .inl (T 2, 6, .inr (.inr (.inr (.inr (fun j => some (rd j))))))), (ou, .inl (T 3, 1, .inr (.inl o)))]) [1, 2, 0] rfl
  have hD9 := hD.sub (ws' := [(lo, .inr (2, [.ref ra, .ref d0, .ref b0, .ref t0, .ref r0])), (ra, .inl (T 2, 6, .inr (.inr (.inr (.inr (fun j => some (rd j))))))), (ou, .inl (T 3, 1, .inr (.inl o)))]) [1, 2, 0] (by decide) rfl
  refine W.widen (k := 5) (n := 1106) (by omega) (by omega) ?_
  exact W.iret (v := (nI 1)) hx hb hr (fun t ht hW => ⟨⟨(), rfl, trivial, (by rw [ht]; exact hP9), va_K.moved hW.alike hK, hD9⟩, hS.F ht⟩) hS.2.2 dL_remove_18
set_option maxHeartbeats 4000000 in
set_option maxRecDepth 100000 in
theorem h_remove_x2 (l : Launch) (D : va_G) (T : Nat → ClassId) (g : Nat → Nat) (sz : Nat) (hl9 : l.stackTraces = false) (lo : Nat) (ra : Nat) (d0 : Nat) (b0 : Nat) (t0 : Nat) (r0 : Nat) (rd : Nat → Nat) (i : Nat) (q0 : Nat) (f : Nat → Int32) (n : Nat) (hi : i < 6) (p9 : Int32) (m9 : Int32) (hp : p9 < 0 ∨ m9 < 0 ∨ ¬ m9 ≤ nI n - p9) (ou : Nat) (o : Nat → Int64) : MUN l yL_remove wsL_remove ({ frames := 80, cells := 5, slots := 1106, locals := 4000 } : Room) D T g [.ref lo, .int (nI i), .int p9, .int m9, .ref ou] [(lo, .inr (2, [.ref ra, .ref d0, .ref b0, .ref t0, .ref r0])), (ra, .inl (T 2, 6, .inr (.inr (.inr (.inr (fun j => some (rd j))))))), (rd i, .inr (0, [.ref q0, .int (nI n)])), (q0, .inl (T 0, 440, .inl f)), (ou, .inl (T 3, 1, .inr (.inl o)))] sz (fun u : Unit => some (.int (nI 1))) (fun u : Unit => True) (fun u : Unit => [(lo, .inr (2, [.ref ra, .ref d0, .ref b0, .ref t0, .ref r0])), (ra, .inl (T 2, 6, .inr (.inr (.inr (.inr (fun j => some (rd j))))))), (rd i, .inr (0, [.ref q0, .int (nI n)])), (q0, .inl (T 0, 440, .inl f)), (ou, .inl (T 3, 1, .inr (.inl o)))]) 5 1106 := by
  refine va_MetW (hh := [(0, 12, 15, 13)]) (cc := cL_remove) (maxL := 6) (ret := (some .int)) (by decide) rfl ?_
  intro p e s m args below meth c s₁ B hml hv
  obtain ⟨rfl, ⟨hsz, hP, hK, hD0, hG⟩, hN⟩ := hv
  have hx := B.exec
  have hb := B.bytes
  have hr := B.returns
  have hts := atoms_spec (ws := wsL_remove) B.pre
  have hown : s.vm.findClass RL = some m.cls := findClass_of_methodNamed B.named
  have hlocks := B.notSynchronized
  have htab : c.exceptionTable.toList = tableOf [(0, 12, 15, 13)] := vx_table (x := yL_add) B (hts _ (List.mem_of_getElem? (i := 0) rfl))
  subst hsz
  have hD := hD0.self (sz := s.heap.size)
  generalize hAe : va_A [(lo, .inr (2, [.ref ra, .ref d0, .ref b0, .ref t0, .ref r0])), (ra, .inl (T 2, 6, .inr (.inr (.inr (.inr (fun j => some (rd j))))))), (rd i, .inr (0, [.ref q0, .int (nI n)])), (q0, .inl (T 0, 440, .inl f)), (ou, .inl (T 3, 1, .inr (.inl o)))] s.heap.size = A at hD hG ⊢
  have hA : ∀ q : Nat, s.heap.size ≤ q → A q := fun q h => by rw [← hAe]; exact Or.inr h
  have hS : va_S A s.heap s.heap [] := va_S.rf
  have hP : va_P D cls [(lo, .inr (2, [.ref ra, .ref d0, .ref b0, .ref t0, .ref r0])), (ra, .inl (T 2, 6, .inr (.inr (.inr (.inr (fun j => some (rd j))))))), (rd i, .inr (0, [.ref q0, .int (nI n)])), (q0, .inl (T 0, 440, .inl f)), (ou, .inl (T 3, 1, .inr (.inl o)))] s.heap := hP
  have hl := lv_entry ([.ref lo, .int (nI i), .int p9, .int m9, .ref ou]) (n := 6) (Nat.le_of_ble_eq_true rfl)
  rw [lg_entry_eq]
  generalize (lg_sl ([.ref lo, .int (nI i), .int p9, .int m9, .ref ou]) ++ List.replicate (6 - (lg_sl ([.ref lo, .int (nI i), .int p9, .int m9, .ref ou])).length) Slot.unset).toArray = ls at hl ⊢
  have hl : lv_has ls 6 [(0, .ref lo), (1, .int (nI i)), (2, .int p9), (3, .int m9), (4, .ref ou)] := hl
  refine lv_aload hx hb dL_remove_0 (lv_at hl 4 rfl) ?_
  refine lv_iconst (v := (nI 0)) hx hb dL_remove_2 (by decide +kernel) ?_
  refine lv_aload_n hx hb dL_remove_3 rfl (lv_at hl 0 rfl) ?_
  refine lv_iload_n hx hb dL_remove_4 rfl (lv_at hl 1 rfl) ?_
  refine lv_iload_n hx hb dL_remove_5 rfl (lv_at hl 2 rfl) ?_
  refine lv_iload_n hx hb dL_remove_6 rfl (lv_at hl 3 rfl) ?_
  refine tc_V (hpc := 15) (As := [.int (nI i), .int p9, .int m9]) (rest := [.int (nI 0), .ref ou]) (wc := [(lo, .inr (2, [.ref ra, .ref d0, .ref b0, .ref t0, .ref r0])), (ra, .inl (T 2, 6, .inr (.inr (.inr (.inr (fun j => some (rd j))))))), (rd i, .inr (0, [.ref q0, .int (nI n)])), (q0, .inl (T 0, 440, .inl f))]) (wr := [(ou, .inl (T 3, 1, .inr (.inl o)))]) ⟨hx, hb, hml, hown, hts⟩ (c_remove_x2 l D T g s.heap.size (hl9) lo ra d0 b0 t0 r0 rd i q0 f n (hi) p9 m9 (hp)) (cwV 3 hts gL_remove_X5_remove rfl rfl rfl (by decide +kernel) ⟨Nat.le_of_ble_eq_true rfl, Nat.le_of_ble_eq_true rfl⟩) (va_recv hK hP (ci := 2) (q0 := 0) rfl rfl) hP hD hK hG hS hA [0, 1, 2, 3] [4] rfl (by decide) rfl (by decide) (by decide) ⟨Nat.le_of_ble_eq_true rfl, Nat.le_of_ble_eq_true rfl⟩ rfl hl.1 (Nat.le_of_ble_eq_true rfl) dL_remove_7 rfl (fun H1 locs1 q9 ce h1 h2 h3 k9 => vx_catch (name := "java/lang/IndexOutOfBoundsException") hown [] ⟨0, 12, 15, 13⟩ [] (htab.trans rfl) (fun _ h => absurd h List.not_mem_nil) (by decide) (by decide) (hts _ (List.mem_of_getElem? (i := 1) rfl)) (va_Yc.word (hN.2 _ (List.mem_of_getElem? (i := 0) rfl))) h1 h2 h3 k9) (fun u q9 H locs hq1 hP hD hS => ?_)
  refine W.widen (k := 1) (n := 6) (Nat.le_of_ble_eq_true rfl) (Nat.le_of_ble_eq_true rfl) ?_
  have hP : va_P D cls [(ou, .inl (T 3, 1, .inr (.inl o))), (lo, .inr (2, [.ref ra, .ref d0, .ref b0, .ref t0, .ref r0])), (ra, .inl (T 2, 6, .inr (.inr (.inr (.inr (fun j => some (rd j))))))), (rd i, .inr (0, [.ref q0, .int (nI n)])), (q0, .inl (T 0, 440, .inl f))] H := hP
  have hD : va_D A [(ou, .inl (T 3, 1, .inr (.inl o))), (lo, .inr (2, [.ref ra, .ref d0, .ref b0, .ref t0, .ref r0])), (ra, .inl (T 2, 6, .inr (.inr (.inr (.inr (fun j => some (rd j))))))), (rd i, .inr (0, [.ref q0, .int (nI n)])), (q0, .inl (T 0, 440, .inl f))] := hD
  refine lv_astore (lv' := [(5, .ref q9), (0, .ref lo), (1, .int (nI i)), (2, .int p9), (3, .int m9), (4, .ref ou)]) hx hb dL_remove_15 hl (by decide) rfl (fun ls hl => ?_)
  refine lv_iconst (v := (nI 1)) hx hb dL_remove_17 (by decide +kernel) ?_
  have hP9 := hP.sub (ws' := [(lo, .inr (2, [.ref ra, .ref d0, .ref b0, .ref t0, .ref r0])), (ra, .inl (T 2, 6, .inr (.inr (.inr (.inr (fun j => some (rd j))))))), (rd i, .inr (0, [.ref q0, .int (nI n)])), (q0, .inl (T 0, 440, .inl f)), (ou, .inl (T 3, 1, .inr (.inl o)))]) [1, 2, 3, 4, 0] rfl
  have hD9 := hD.sub (ws' := [(lo, .inr (2, [.ref ra, .ref d0, .ref b0, .ref t0, .ref r0])), (ra, .inl (T 2, 6, .inr (.inr (.inr (.inr (fun j => some (rd j))))))), (rd i, .inr (0, [.ref q0, .int (nI n)])), (q0, .inl (T 0, 440, .inl f)), (ou, .inl (T 3, 1, .inr (.inl o)))]) [1, 2, 3, 4, 0] (by decide) rfl
  refine W.widen (k := 5) (n := 1106) (by omega) (by omega) ?_
  exact W.iret (v := (nI 1)) hx hb hr (fun t ht hW => ⟨⟨(), rfl, trivial, (by rw [ht]; exact hP9), va_K.moved hW.alike hK, hD9⟩, hS.F ht⟩) hS.2.2 dL_remove_18
set_option maxHeartbeats 4000000 in
set_option maxRecDepth 100000 in
theorem h_remove (l : Launch) (D : va_G) (T : Nat → ClassId) (g : Nat → Nat) (sz : Nat) (lo : Nat) (ra : Nat) (d0 : Nat) (b0 : Nat) (t0 : Nat) (r0 : Nat) (rd : Nat → Nat) (i : Nat) (q0 : Nat) (f : Nat → Int32) (n : Nat) (b : Nat → Nat) (hb9 : RB f n b) (p9 : Nat) (m9 : Nat) (hi : i < 6) (hp : p9 + m9 ≤ n) (ou : Nat) (o : Nat → Int64) : MUN l yL_remove wsL_remove ({ frames := 80, cells := 5, slots := 1106, locals := 4000 } : Room) D T g [.ref lo, .int (nI i), .int (nI p9), .int (nI m9), .ref ou] [(lo, .inr (2, [.ref ra, .ref d0, .ref b0, .ref t0, .ref r0])), (ra, .inl (T 2, 6, .inr (.inr (.inr (.inr (fun j => some (rd j))))))), (rd i, .inr (0, [.ref q0, .int (nI n)])), (q0, .inl (T 0, 440, .inl f)), (ou, .inl (T 3, 1, .inr (.inl o)))] sz (fun u : Nat → Int32 => some (.int (nI 0))) (fun u : Nat → Int32 => RB u (n - m9) (delN b p9 m9)) (fun u : Nat → Int32 => [(lo, .inr (2, [.ref ra, .ref d0, .ref b0, .ref t0, .ref r0])), (ra, .inl (T 2, 6, .inr (.inr (.inr (.inr (fun j => some (rd j))))))), (rd i, .inr (0, [.ref q0, .int (nI (n - m9))])), (q0, .inl (T 0, 440, .inl u)), (ou, .inl (T 3, 1, .inr (.inl (vp_updL o 0 (lN (n - m9))))))]) 5 1106 := by
  refine va_MetW (hh := [(0, 12, 15, 13)]) (cc := cL_remove) (maxL := 6) (ret := (some .int)) (by decide) rfl ?_
  intro p e s m args below meth c s₁ B hml hv
  obtain ⟨rfl, ⟨hsz, hP, hK, hD0, hG⟩, hN⟩ := hv
  have hx := B.exec
  have hb := B.bytes
  have hr := B.returns
  have hts := atoms_spec (ws := wsL_remove) B.pre
  have hown : s.vm.findClass RL = some m.cls := findClass_of_methodNamed B.named
  have hlocks := B.notSynchronized
  have htab : c.exceptionTable.toList = tableOf [(0, 12, 15, 13)] := vx_table (x := yL_add) B (hts _ (List.mem_of_getElem? (i := 0) rfl))
  subst hsz
  have hD := hD0.self (sz := s.heap.size)
  generalize hAe : va_A [(lo, .inr (2, [.ref ra, .ref d0, .ref b0, .ref t0, .ref r0])), (ra, .inl (T 2, 6, .inr (.inr (.inr (.inr (fun j => some (rd j))))))), (rd i, .inr (0, [.ref q0, .int (nI n)])), (q0, .inl (T 0, 440, .inl f)), (ou, .inl (T 3, 1, .inr (.inl o)))] s.heap.size = A at hD hG ⊢
  have hA : ∀ q : Nat, s.heap.size ≤ q → A q := fun q h => by rw [← hAe]; exact Or.inr h
  have hS : va_S A s.heap s.heap [] := va_S.rf
  have hP : va_P D cls [(lo, .inr (2, [.ref ra, .ref d0, .ref b0, .ref t0, .ref r0])), (ra, .inl (T 2, 6, .inr (.inr (.inr (.inr (fun j => some (rd j))))))), (rd i, .inr (0, [.ref q0, .int (nI n)])), (q0, .inl (T 0, 440, .inl f)), (ou, .inl (T 3, 1, .inr (.inl o)))] s.heap := hP
  have hl := lv_entry ([.ref lo, .int (nI i), .int (nI p9), .int (nI m9), .ref ou]) (n := 6) (Nat.le_of_ble_eq_true rfl)
  rw [lg_entry_eq]
  generalize (lg_sl ([.ref lo, .int (nI i), .int (nI p9), .int (nI m9), .ref ou]) ++ List.replicate (6 - (lg_sl ([.ref lo, .int (nI i), .int (nI p9), .int (nI m9), .ref ou])).length) Slot.unset).toArray = ls at hl ⊢
  have hl : lv_has ls 6 [(0, .ref lo), (1, .int (nI i)), (2, .int (nI p9)), (3, .int (nI m9)), (4, .ref ou)] := hl
  have hn9 := hb9.1
  refine lv_aload hx hb dL_remove_0 (lv_at hl 4 rfl) ?_
  refine lv_iconst (v := (nI 0)) hx hb dL_remove_2 (by decide +kernel) ?_
  refine lv_aload_n hx hb dL_remove_3 rfl (lv_at hl 0 rfl) ?_
  refine lv_iload_n hx hb dL_remove_4 rfl (lv_at hl 1 rfl) ?_
  refine lv_iload_n hx hb dL_remove_5 rfl (lv_at hl 2 rfl) ?_
  refine lv_iload_n hx hb dL_remove_6 rfl (lv_at hl 3 rfl) ?_
  refine mu_V (As := [.int (nI i), .int (nI p9), .int (nI m9)]) (rest := [.int (nI 0), .ref ou]) (wc := [(lo, .inr (2, [.ref ra, .ref d0, .ref b0, .ref t0, .ref r0])), (ra, .inl (T 2, 6, .inr (.inr (.inr (.inr (fun j => some (rd j))))))), (rd i, .inr (0, [.ref q0, .int (nI n)])), (q0, .inl (T 0, 440, .inl f))]) (wr := [(ou, .inl (T 3, 1, .inr (.inl o)))]) ⟨hx, hb, hml, hown, hts⟩ (c_remove l D T g s.heap.size lo ra d0 b0 t0 r0 rd i q0 f n b (hb9) p9 m9 (hi) (hp)) (cwV 3 hts gL_remove_X5_remove rfl rfl rfl (by decide +kernel) ⟨Nat.le_of_ble_eq_true rfl, Nat.le_of_ble_eq_true rfl⟩) (va_recv hK hP (ci := 2) (q0 := 0) rfl rfl) hP hD hK hG hS hA [0, 1, 2, 3] [4] rfl (by decide) rfl (by decide) (by decide) ⟨Nat.le_of_ble_eq_true rfl, Nat.le_of_ble_eq_true rfl⟩ rfl hl.1 (Nat.le_of_ble_eq_true rfl) dL_remove_7 rfl (fun u H locs hq2 hP hD hS => ?_)
  obtain ⟨F_1, hu9⟩ : ∃ z, z = u := ⟨_, rfl⟩
  subst hu9
  have hP : va_P D cls [(ou, .inl (T 3, 1, .inr (.inl o))), (lo, .inr (2, [.ref ra, .ref d0, .ref b0, .ref t0, .ref r0])), (ra, .inl (T 2, 6, .inr (.inr (.inr (.inr (fun j => some (rd j))))))), (rd i, .inr (0, [.ref q0, .int (nI (n - m9))])), (q0, .inl (T 0, 440, .inl F_1))] H := hP
  have hD : va_D A [(ou, .inl (T 3, 1, .inr (.inl o))), (lo, .inr (2, [.ref ra, .ref d0, .ref b0, .ref t0, .ref r0])), (ra, .inl (T 2, 6, .inr (.inr (.inr (.inr (fun j => some (rd j))))))), (rd i, .inr (0, [.ref q0, .int (nI (n - m9))])), (q0, .inl (T 0, 440, .inl F_1))] := hD
  have hp1 : RB F_1 (n - m9) (delN b p9 m9) := hq2
  refine W.eq (g2 := F0 m 10 ls [.int (nI (n - m9)), .int (nI 0), .ref ou]) rfl ?_
  refine lv_i2l hx hb dL_remove_10 (v := lN (n - m9)) (nI_l (by omega)) ?_
  refine va_last hx hb hK hP hD hS 0 3 rfl rfl (vp_in_nI (by omega) (by omega)) dL_remove_11 (fun H locs hP hD hS => ?_)
  rw [nI_clamp (by omega)] at hP hD
  have hP : va_P D cls [(ou, .inl (T 3, 1, .inr (.inl (vp_updL o 0 (lN (n - m9)))))), (lo, .inr (2, [.ref ra, .ref d0, .ref b0, .ref t0, .ref r0])), (ra, .inl (T 2, 6, .inr (.inr (.inr (.inr (fun j => some (rd j))))))), (rd i, .inr (0, [.ref q0, .int (nI (n - m9))])), (q0, .inl (T 0, 440, .inl F_1))] H := hP
  have hD : va_D A [(ou, .inl (T 3, 1, .inr (.inl (vp_updL o 0 (lN (n - m9)))))), (lo, .inr (2, [.ref ra, .ref d0, .ref b0, .ref t0, .ref r0])), (ra, .inl (T 2, 6, .inr (.inr (.inr (.inr (fun j => some (rd j))))))), (rd i, .inr (0, [.ref q0, .int (nI (n - m9))])), (q0, .inl (T 0, 440, .inl F_1))] := hD
  refine lv_goto (tgt := 19) hx hb dL_remove_12 (by decide) ?_
  refine lv_iconst (v := (nI 0)) hx hb dL_remove_19 (by decide +kernel) ?_
  have hP9 := hP.sub (ws' := [(lo, .inr (2, [.ref ra, .ref d0, .ref b0, .ref t0, .ref r0])), (ra, .inl (T 2, 6, .inr (.inr (.inr (.inr (fun j => some (rd j))))))), (rd i, .inr (0, [.ref q0, .int (nI (n - m9))])), (q0, .inl (T 0, 440, .inl F_1)), (ou, .inl (T 3, 1, .inr (.inl (vp_updL o 0 (lN (n - m9))))))]) [1, 2, 3, 4, 0] rfl
  have hD9 := hD.sub (ws' := [(lo, .inr (2, [.ref ra, .ref d0, .ref b0, .ref t0, .ref r0])), (ra, .inl (T 2, 6, .inr (.inr (.inr (.inr (fun j => some (rd j))))))), (rd i, .inr (0, [.ref q0, .int (nI (n - m9))])), (q0, .inl (T 0, 440, .inl F_1)), (ou, .inl (T 3, 1, .inr (.inl (vp_updL o 0 (lN (n - m9))))))]) [1, 2, 3, 4, 0] (by decide) rfl
  refine W.widen (k := 5) (n := 1106) (by omega) (by omega) ?_
  exact W.iret (v := (nI 0)) hx hb hr (fun t ht hW => ⟨⟨F_1, rfl, hp1, (by rw [ht]; exact hP9), va_K.moved hW.alike hK, hD9⟩, hS.F ht⟩) hS.2.2 dL_remove_20
set_option maxHeartbeats 4000000 in
set_option maxRecDepth 100000 in
theorem h_length_x1 (l : Launch) (D : va_G) (T : Nat → ClassId) (g : Nat → Nat) (sz : Nat) (hl9 : l.stackTraces = false) (lo : Nat) (ra : Nat) (d0 : Nat) (b0 : Nat) (t0 : Nat) (r0 : Nat) (rd : Nat → Nat) (i : Int32) (hi : i < 0 ∨ ¬ i < nI 6) (ou : Nat) (o : Nat → Int64) : MUN l yL_length wsL_length ({ frames := 80, cells := 5, slots := 1106, locals := 4000 } : Room) D T g [.ref lo, .int i, .ref ou] [(lo, .inr (2, [.ref ra, .ref d0, .ref b0, .ref t0, .ref r0])), (ra, .inl (T 2, 6, .inr (.inr (.inr (.inr (fun j => some (rd j))))))), (ou, .inl (T 3, 1, .inr (.inl o)))] sz (fun u : Unit => some (.int (nI 1))) (fun u : Unit => True) (fun u : Unit => [(lo, .inr (2, [.ref ra, .ref d0, .ref b0, .ref t0, .ref r0])), (ra, .inl (T 2, 6, .inr (.inr (.inr (.inr (fun j => some (rd j))))))), (ou, .inl (T 3, 1, .inr (.inl o)))]) 5 1106 := by
  refine va_MetW (hh := [(0, 9, 12, 13)]) (cc := cL_length) (maxL := 4) (ret := (some .int)) (by decide) rfl ?_
  intro p e s m args below meth c s₁ B hml hv
  obtain ⟨rfl, ⟨hsz, hP, hK, hD0, hG⟩, hN⟩ := hv
  have hx := B.exec
  have hb := B.bytes
  have hr := B.returns
  have hts := atoms_spec (ws := wsL_length) B.pre
  have hown : s.vm.findClass RL = some m.cls := findClass_of_methodNamed B.named
  have hlocks := B.notSynchronized
  have htab : c.exceptionTable.toList = tableOf [(0, 9, 12, 13)] := vx_table (x := yL_add) B (hts _ (List.mem_of_getElem? (i := 0) rfl))
  subst hsz
  have hD := hD0.self (sz := s.heap.size)
  generalize hAe : va_A [(lo, .inr (2, [.ref ra, .ref d0, .ref b0, .ref t0, .ref r0])), (ra, .inl (T 2, 6, .inr (.inr (.inr (.inr (fun j => some (rd j))))))), (ou, .inl (T 3, 1, .inr (.inl o)))] s.heap.size = A at hD hG ⊢
  have hA : ∀ q : Nat, s.heap.size ≤ q → A q := fun q h => by rw [← hAe]; exact Or.inr h
  have hS : va_S A s.heap s.heap [] := va_S.rf
  have hP : va_P D cls [(lo, .inr (2, [.ref ra, .ref d0, .ref b0, .ref t0, .ref r0])), (ra, .inl (T 2, 6, .inr (.inr (.inr (.inr (fun j => some (rd j))))))), (ou, .inl (T 3, 1, .inr (.inl o)))] s.heap := hP
  have hl := lv_entry ([.ref lo, .int i, .ref ou]) (n := 4) (Nat.le_of_ble_eq_true rfl)
  rw [lg_entry_eq]
  generalize (lg_sl ([.ref lo, .int i, .ref ou]) ++ List.replicate (4 - (lg_sl ([.ref lo, .int i, .ref ou])).length) Slot.unset).toArray = ls at hl ⊢
  have hl : lv_has ls 4 [(0, .ref lo), (1, .int i), (2, .ref ou)] := hl
  refine lv_aload_n hx hb dL_length_0 rfl (lv_at hl 2 rfl) ?_
  refine lv_iconst (v := (nI 0)) hx hb dL_length_1 (by decide +kernel) ?_
  refine lv_aload_n hx hb dL_length_2 rfl (lv_at hl 0 rfl) ?_
  refine lv_iload_n hx hb dL_length_3 rfl (lv_at hl 1 rfl) ?_
  refine tc_V (hpc := 12) (As := [.int i]) (rest := [.int (nI 0), .ref ou]) (wc := [(lo, .inr (2, [.ref ra, .ref d0, .ref b0, .ref t0, .ref r0])), (ra, .inl (T 2, 6, .inr (.inr (.inr (.inr (fun j => some (rd j)))))))]) (wr := [(ou, .inl (T 3, 1, .inr (.inl o)))]) ⟨hx, hb, hml, hown, hts⟩ (c_length_x1 l D T g s.heap.size (hl9) lo ra d0 b0 t0 r0 rd i (hi)) (cwV 1 hts gL_length_X5_length rfl rfl rfl (by decide +kernel) ⟨Nat.le_of_ble_eq_true rfl, Nat.le_of_ble_eq_true rfl⟩) (va_recv hK hP (ci := 2) (q0 := 0) rfl rfl) hP hD hK hG hS hA [0, 1] [2] rfl (by decide) rfl (by decide) (by decide) ⟨Nat.le_of_ble_eq_true rfl, Nat.le_of_ble_eq_true rfl⟩ rfl hl.1 (Nat.le_of_ble_eq_true rfl) dL_length_4 rfl (fun H1 locs1 q9 ce h1 h2 h3 k9 => vx_catch (name := "java/lang/IndexOutOfBoundsException") hown [] ⟨0, 9, 12, 13⟩ [] (htab.trans rfl) (fun _ h => absurd h List.not_mem_nil) (by decide) (by decide) (hts _ (List.mem_of_getElem? (i := 1) rfl)) (va_Yc.word (hN.2 _ (List.mem_of_getElem? (i := 0) rfl))) h1 h2 h3 k9) (fun u q9 H locs hq1 hP hD hS => ?_)
  refine W.widen (k := 1) (n := 6) (Nat.le_of_ble_eq_true rfl) (Nat.le_of_ble_eq_true rfl) ?_
  have hP : va_P D cls [(ou, .inl (T 3, 1, .inr (.inl o))), (lo, .inr (2, [.ref ra, .ref d0, .ref b0, .ref t0, .ref r0])), (ra, .inl (T 2, 6, .inr (.inr (.inr (.inr (fun j => some (rd j)))))))] H := hP
  have hD : va_D A [(ou, .inl (T 3, 1, .inr (.inl o))), (lo, .inr (2, [.ref ra, .ref d0, .ref b0, .ref t0, .ref r0])), (ra, .inl (T 2, 6, .inr (.inr (.inr (.inr (fun j => some (rd j)))))))] := hD
  refine lv_astore_n (lv' := [(3, .ref q9), (0, .ref lo), (1, .int i), (2, .ref ou)]) hx hb dL_length_12 rfl hl (by decide) rfl (fun ls hl => ?_)
  refine lv_iconst (v := (nI 1)) hx hb dL_length_13 (by decide +kernel) ?_
  have hP9 := hP.sub (ws' := [(lo, .inr (2, [.ref ra, .ref d0, .ref b0, .ref t0, .ref r0])), (ra, .inl (T 2, 6, .inr (.inr (.inr (.inr (fun j => some (rd j))))))), (ou, .inl (T 3, 1, .inr (.inl o)))]) [1, 2, 0] rfl
  have hD9 := hD.sub (ws' := [(lo, .inr (2, [.ref ra, .ref d0, .ref b0, .ref t0, .ref r0])), (ra, .inl (T 2, 6, .inr (.inr (.inr (.inr (fun j => some (rd j))))))), (ou, .inl (T 3, 1, .inr (.inl o)))]) [1, 2, 0] (by decide) rfl
  refine W.widen (k := 5) (n := 1106) (by omega) (by omega) ?_
  exact W.iret (v := (nI 1)) hx hb hr (fun t ht hW => ⟨⟨(), rfl, trivial, (by rw [ht]; exact hP9), va_K.moved hW.alike hK, hD9⟩, hS.F ht⟩) hS.2.2 dL_length_14
set_option maxHeartbeats 4000000 in
set_option maxRecDepth 100000 in
theorem h_length (l : Launch) (D : va_G) (T : Nat → ClassId) (g : Nat → Nat) (sz : Nat) (lo : Nat) (ra : Nat) (d0 : Nat) (b0 : Nat) (t0 : Nat) (r0 : Nat) (rd : Nat → Nat) (i : Nat) (q0 : Nat) (f : Nat → Int32) (n : Nat) (hi : i < 6) (hn4 : n ≤ 440) (ou : Nat) (o : Nat → Int64) : MUN l yL_length wsL_length ({ frames := 80, cells := 5, slots := 1106, locals := 4000 } : Room) D T g [.ref lo, .int (nI i), .ref ou] [(lo, .inr (2, [.ref ra, .ref d0, .ref b0, .ref t0, .ref r0])), (ra, .inl (T 2, 6, .inr (.inr (.inr (.inr (fun j => some (rd j))))))), (rd i, .inr (0, [.ref q0, .int (nI n)])), (q0, .inl (T 0, 440, .inl f)), (ou, .inl (T 3, 1, .inr (.inl o)))] sz (fun u : Unit => some (.int (nI 0))) (fun u : Unit => True) (fun u : Unit => [(lo, .inr (2, [.ref ra, .ref d0, .ref b0, .ref t0, .ref r0])), (ra, .inl (T 2, 6, .inr (.inr (.inr (.inr (fun j => some (rd j))))))), (rd i, .inr (0, [.ref q0, .int (nI n)])), (q0, .inl (T 0, 440, .inl f)), (ou, .inl (T 3, 1, .inr (.inl (vp_updL o 0 (lN n)))))]) 5 1106 := by
  refine va_MetW (hh := [(0, 9, 12, 13)]) (cc := cL_length) (maxL := 4) (ret := (some .int)) (by decide) rfl ?_
  intro p e s m args below meth c s₁ B hml hv
  obtain ⟨rfl, ⟨hsz, hP, hK, hD0, hG⟩, hN⟩ := hv
  have hx := B.exec
  have hb := B.bytes
  have hr := B.returns
  have hts := atoms_spec (ws := wsL_length) B.pre
  have hown : s.vm.findClass RL = some m.cls := findClass_of_methodNamed B.named
  have hlocks := B.notSynchronized
  have htab : c.exceptionTable.toList = tableOf [(0, 9, 12, 13)] := vx_table (x := yL_add) B (hts _ (List.mem_of_getElem? (i := 0) rfl))
  subst hsz
  have hD := hD0.self (sz := s.heap.size)
  generalize hAe : va_A [(lo, .inr (2, [.ref ra, .ref d0, .ref b0, .ref t0, .ref r0])), (ra, .inl (T 2, 6, .inr (.inr (.inr (.inr (fun j => some (rd j))))))), (rd i, .inr (0, [.ref q0, .int (nI n)])), (q0, .inl (T 0, 440, .inl f)), (ou, .inl (T 3, 1, .inr (.inl o)))] s.heap.size = A at hD hG ⊢
  have hA : ∀ q : Nat, s.heap.size ≤ q → A q := fun q h => by rw [← hAe]; exact Or.inr h
  have hS : va_S A s.heap s.heap [] := va_S.rf
  have hP : va_P D cls [(lo, .inr (2, [.ref ra, .ref d0, .ref b0, .ref t0, .ref r0])), (ra, .inl (T 2, 6, .inr (.inr (.inr (.inr (fun j => some (rd j))))))), (rd i, .inr (0, [.ref q0, .int (nI n)])), (q0, .inl (T 0, 440, .inl f)), (ou, .inl (T 3, 1, .inr (.inl o)))] s.heap := hP
  have hl := lv_entry ([.ref lo, .int (nI i), .ref ou]) (n := 4) (Nat.le_of_ble_eq_true rfl)
  rw [lg_entry_eq]
  generalize (lg_sl ([.ref lo, .int (nI i), .ref ou]) ++ List.replicate (4 - (lg_sl ([.ref lo, .int (nI i), .ref ou])).length) Slot.unset).toArray = ls at hl ⊢
  have hl : lv_has ls 4 [(0, .ref lo), (1, .int (nI i)), (2, .ref ou)] := hl
  refine lv_aload_n hx hb dL_length_0 rfl (lv_at hl 2 rfl) ?_
  refine lv_iconst (v := (nI 0)) hx hb dL_length_1 (by decide +kernel) ?_
  refine lv_aload_n hx hb dL_length_2 rfl (lv_at hl 0 rfl) ?_
  refine lv_iload_n hx hb dL_length_3 rfl (lv_at hl 1 rfl) ?_
  refine ro_V (As := [.int (nI i)]) (rest := [.int (nI 0), .ref ou]) (wc := [(lo, .inr (2, [.ref ra, .ref d0, .ref b0, .ref t0, .ref r0])), (ra, .inl (T 2, 6, .inr (.inr (.inr (.inr (fun j => some (rd j))))))), (rd i, .inr (0, [.ref q0, .int (nI n)])), (q0, .inl (T 0, 440, .inl f))]) (r := .int (nI n)) ⟨hx, hb, hml, hown, hts⟩ (c_length l D T g lo ra d0 b0 t0 r0 rd i q0 f n (hi)) (cwV 1 hts gL_length_X5_length rfl rfl rfl (by decide +kernel) ⟨Nat.le_of_ble_eq_true rfl, Nat.le_of_ble_eq_true rfl⟩) (va_recv hK hP (ci := 2) (q0 := 0) rfl rfl) hP hK hG hS [0, 1, 2, 3] rfl ⟨Nat.zero_le _, Nat.zero_le _⟩ rfl hl.1 (Nat.le_of_ble_eq_true rfl) dL_length_4 rfl ?_
  refine lv_i2l hx hb dL_length_7 (v := lN n) (nI_l (by omega)) ?_
  refine va_last hx hb hK hP hD hS 4 3 rfl rfl (vp_in_nI (by omega) (by omega)) dL_length_8 (fun H locs hP hD hS => ?_)
  rw [nI_clamp (by omega)] at hP hD
  have hP : va_P D cls [(lo, .inr (2, [.ref ra, .ref d0, .ref b0, .ref t0, .ref r0])), (ra, .inl (T 2, 6, .inr (.inr (.inr (.inr (fun j => some (rd j))))))), (rd i, .inr (0, [.ref q0, .int (nI n)])), (q0, .inl (T 0, 440, .inl f)), (ou, .inl (T 3, 1, .inr (.inl (vp_updL o 0 (lN n)))))] H := hP
  have hD : va_D A [(lo, .inr (2, [.ref ra, .ref d0, .ref b0, .ref t0, .ref r0])), (ra, .inl (T 2, 6, .inr (.inr (.inr (.inr (fun j => some (rd j))))))), (rd i, .inr (0, [.ref q0, .int (nI n)])), (q0, .inl (T 0, 440, .inl f)), (ou, .inl (T 3, 1, .inr (.inl (vp_updL o 0 (lN n)))))] := hD
  refine lv_goto (tgt := 15) hx hb dL_length_9 (by decide) ?_
  refine lv_iconst (v := (nI 0)) hx hb dL_length_15 (by decide +kernel) ?_
  have hP9 := hP.sub (ws' := [(lo, .inr (2, [.ref ra, .ref d0, .ref b0, .ref t0, .ref r0])), (ra, .inl (T 2, 6, .inr (.inr (.inr (.inr (fun j => some (rd j))))))), (rd i, .inr (0, [.ref q0, .int (nI n)])), (q0, .inl (T 0, 440, .inl f)), (ou, .inl (T 3, 1, .inr (.inl (vp_updL o 0 (lN n)))))]) [0, 1, 2, 3, 4] rfl
  have hD9 := hD.sub (ws' := [(lo, .inr (2, [.ref ra, .ref d0, .ref b0, .ref t0, .ref r0])), (ra, .inl (T 2, 6, .inr (.inr (.inr (.inr (fun j => some (rd j))))))), (rd i, .inr (0, [.ref q0, .int (nI n)])), (q0, .inl (T 0, 440, .inl f)), (ou, .inl (T 3, 1, .inr (.inl (vp_updL o 0 (lN n)))))]) [0, 1, 2, 3, 4] (by decide) rfl
  refine W.widen (k := 5) (n := 1106) (by omega) (by omega) ?_
  exact W.iret (v := (nI 0)) hx hb hr (fun t ht hW => ⟨⟨(), rfl, trivial, (by rw [ht]; exact hP9), va_K.moved hW.alike hK, hD9⟩, hS.F ht⟩) hS.2.2 dL_length_16
set_option maxHeartbeats 4000000 in
set_option maxRecDepth 100000 in
theorem h_get_x1 (l : Launch) (D : va_G) (T : Nat → ClassId) (g : Nat → Nat) (sz : Nat) (hl9 : l.stackTraces = false) (lo : Nat) (ra : Nat) (d0 : Nat) (b0 : Nat) (t0 : Nat) (r0 : Nat) (rd : Nat → Nat) (i : Int32) (hi : i < 0 ∨ ¬ i < nI 6) (x0 : Int32) (ou : Nat) (o : Nat → Int64) : MUN l yL_get wsL_get ({ frames := 80, cells := 5, slots := 1106, locals := 4000 } : Room) D T g [.ref lo, .int i, .int x0, .ref ou] [(lo, .inr (2, [.ref ra, .ref d0, .ref b0, .ref t0, .ref r0])), (ra, .inl (T 2, 6, .inr (.inr (.inr (.inr (fun j => some (rd j))))))), (ou, .inl (T 3, 1, .inr (.inl o)))] sz (fun u : Unit => some (.int (nI 1))) (fun u : Unit => True) (fun u : Unit => [(lo, .inr (2, [.ref ra, .ref d0, .ref b0, .ref t0, .ref r0])), (ra, .inl (T 2, 6, .inr (.inr (.inr (.inr (fun j => some (rd j))))))), (ou, .inl (T 3, 1, .inr (.inl o)))]) 5 1106 := by
  refine va_MetW (hh := [(0, 10, 13, 13)]) (cc := cL_get) (maxL := 5) (ret := (some .int)) (by decide) rfl ?_
  intro p e s m args below meth c s₁ B hml hv
  obtain ⟨rfl, ⟨hsz, hP, hK, hD0, hG⟩, hN⟩ := hv
  have hx := B.exec
  have hb := B.bytes
  have hr := B.returns
  have hts := atoms_spec (ws := wsL_get) B.pre
  have hown : s.vm.findClass RL = some m.cls := findClass_of_methodNamed B.named
  have hlocks := B.notSynchronized
  have htab : c.exceptionTable.toList = tableOf [(0, 10, 13, 13)] := vx_table (x := yL_add) B (hts _ (List.mem_of_getElem? (i := 0) rfl))
  subst hsz
  have hD := hD0.self (sz := s.heap.size)
  generalize hAe : va_A [(lo, .inr (2, [.ref ra, .ref d0, .ref b0, .ref t0, .ref r0])), (ra, .inl (T 2, 6, .inr (.inr (.inr (.inr (fun j => some (rd j))))))), (ou, .inl (T 3, 1, .inr (.inl o)))] s.heap.size = A at hD hG ⊢
  have hA : ∀ q : Nat, s.heap.size ≤ q → A q := fun q h => by rw [← hAe]; exact Or.inr h
  have hS : va_S A s.heap s.heap [] := va_S.rf
  have hP : va_P D cls [(lo, .inr (2, [.ref ra, .ref d0, .ref b0, .ref t0, .ref r0])), (ra, .inl (T 2, 6, .inr (.inr (.inr (.inr (fun j => some (rd j))))))), (ou, .inl (T 3, 1, .inr (.inl o)))] s.heap := hP
  have hl := lv_entry ([.ref lo, .int i, .int x0, .ref ou]) (n := 5) (Nat.le_of_ble_eq_true rfl)
  rw [lg_entry_eq]
  generalize (lg_sl ([.ref lo, .int i, .int x0, .ref ou]) ++ List.replicate (5 - (lg_sl ([.ref lo, .int i, .int x0, .ref ou])).length) Slot.unset).toArray = ls at hl ⊢
  have hl : lv_has ls 5 [(0, .ref lo), (1, .int i), (2, .int x0), (3, .ref ou)] := hl
  refine lv_aload_n hx hb dL_get_0 rfl (lv_at hl 3 rfl) ?_
  refine lv_iconst (v := (nI 0)) hx hb dL_get_1 (by decide +kernel) ?_
  refine lv_aload_n hx hb dL_get_2 rfl (lv_at hl 0 rfl) ?_
  refine lv_iload_n hx hb dL_get_3 rfl (lv_at hl 1 rfl) ?_
  refine lv_iload_n hx hb dL_get_4 rfl (lv_at hl 2 rfl) ?_
  refine tc_V (hpc := 13) (As := [.int i, .int x0]) (rest := [.int (nI 0), .ref ou]) (wc := [(lo, .inr (2, [.ref ra, .ref d0, .ref b0, .ref t0, .ref r0])), (ra, .inl (T 2, 6, .inr (.inr (.inr (.inr (fun j => some (rd j)))))))]) (wr := [(ou, .inl (T 3, 1, .inr (.inl o)))]) ⟨hx, hb, hml, hown, hts⟩ (c_get_x1 l D T g s.heap.size (hl9) lo ra d0 b0 t0 r0 rd i (hi) x0) (cwV 2 hts gL_get_X5_get rfl rfl rfl (by decide +kernel) ⟨Nat.le_of_ble_eq_true rfl, Nat.le_of_ble_eq_true rfl⟩) (va_recv hK hP (ci := 2) (q0 := 0) rfl rfl) hP hD hK hG hS hA [0, 1] [2] rfl (by decide) rfl (by decide) (by decide) ⟨Nat.le_of_ble_eq_true rfl, Nat.le_of_ble_eq_true rfl⟩ rfl hl.1 (Nat.le_of_ble_eq_true rfl) dL_get_5 rfl (fun H1 locs1 q9 ce h1 h2 h3 k9 => vx_catch (name := "java/lang/IndexOutOfBoundsException") hown [] ⟨0, 10, 13, 13⟩ [] (htab.trans rfl) (fun _ h => absurd h List.not_mem_nil) (by decide) (by decide) (hts _ (List.mem_of_getElem? (i := 1) rfl)) (va_Yc.word (hN.2 _ (List.mem_of_getElem? (i := 0) rfl))) h1 h2 h3 k9) (fun u q9 H locs hq1 hP hD hS => ?_)
  refine W.widen (k := 1) (n := 6) (Nat.le_of_ble_eq_true rfl) (Nat.le_of_ble_eq_true rfl) ?_
  have hP : va_P D cls [(ou, .inl (T 3, 1, .inr (.inl o))), (lo, .inr (2, [.ref ra, .ref d0, .ref b0, .ref t0, .ref r0])), (ra, .inl (T 2, 6, .inr (.inr (.inr (.inr (fun j => some (rd j)))))))] H := hP
  have hD : va_D A [(ou, .inl (T 3, 1, .inr (.inl o))), (lo, .inr (2, [.ref ra, .ref d0, .ref b0, .ref t0, .ref r0])), (ra, .inl (T 2, 6, .inr (.inr (.inr (.inr (fun j => some (rd j)))))))] := hD
  refine lv_astore (lv' := [(4, .ref q9), (0, .ref lo), (1, .int i), (2, .int x0), (3, .ref ou)]) hx hb dL_get_13 hl (by decide) rfl (fun ls hl => ?_)
  refine lv_iconst (v := (nI 1)) hx hb dL_get_15 (by decide +kernel) ?_
  have hP9 := hP.sub (ws' := [(lo, .inr (2, [.ref ra, .ref d0, .ref b0, .ref t0, .ref r0])), (ra, .inl (T 2, 6, .inr (.inr (.inr (.inr (fun j => some (rd j))))))), (ou, .inl (T 3, 1, .inr (.inl o)))]) [1, 2, 0] rfl
  have hD9 := hD.sub (ws' := [(lo, .inr (2, [.ref ra, .ref d0, .ref b0, .ref t0, .ref r0])), (ra, .inl (T 2, 6, .inr (.inr (.inr (.inr (fun j => some (rd j))))))), (ou, .inl (T 3, 1, .inr (.inl o)))]) [1, 2, 0] (by decide) rfl
  refine W.widen (k := 5) (n := 1106) (by omega) (by omega) ?_
  exact W.iret (v := (nI 1)) hx hb hr (fun t ht hW => ⟨⟨(), rfl, trivial, (by rw [ht]; exact hP9), va_K.moved hW.alike hK, hD9⟩, hS.F ht⟩) hS.2.2 dL_get_16
set_option maxHeartbeats 4000000 in
set_option maxRecDepth 100000 in
theorem h_get_x2 (l : Launch) (D : va_G) (T : Nat → ClassId) (g : Nat → Nat) (sz : Nat) (hl9 : l.stackTraces = false) (lo : Nat) (ra : Nat) (d0 : Nat) (b0 : Nat) (t0 : Nat) (r0 : Nat) (rd : Nat → Nat) (i : Nat) (q0 : Nat) (f : Nat → Int32) (n : Nat) (hi : i < 6) (p9 : Int32) (hp : p9 < 0 ∨ ¬ p9 < nI n) (ou : Nat) (o : Nat → Int64) : MUN l yL_get wsL_get ({ frames := 80, cells := 5, slots := 1106, locals := 4000 } : Room) D T g [.ref lo, .int (nI i), .int p9, .ref ou] [(lo, .inr (2, [.ref ra, .ref d0, .ref b0, .ref t0, .ref r0])), (ra, .inl (T 2, 6, .inr (.inr (.inr (.inr (fun j => some (rd j))))))), (rd i, .inr (0, [.ref q0, .int (nI n)])), (q0, .inl (T 0, 440, .inl f)), (ou, .inl (T 3, 1, .inr (.inl o)))] sz (fun u : Unit => some (.int (nI 1))) (fun u : Unit => True) (fun u : Unit => [(lo, .inr (2, [.ref ra, .ref d0, .ref b0, .ref t0, .ref r0])), (ra, .inl (T 2, 6, .inr (.inr (.inr (.inr (fun j => some (rd j))))))), (rd i, .inr (0, [.ref q0, .int (nI n)])), (q0, .inl (T 0, 440, .inl f)), (ou, .inl (T 3, 1, .inr (.inl o)))]) 5 1106 := by
  refine va_MetW (hh := [(0, 10, 13, 13)]) (cc := cL_get) (maxL := 5) (ret := (some .int)) (by decide) rfl ?_
  intro p e s m args below meth c s₁ B hml hv
  obtain ⟨rfl, ⟨hsz, hP, hK, hD0, hG⟩, hN⟩ := hv
  have hx := B.exec
  have hb := B.bytes
  have hr := B.returns
  have hts := atoms_spec (ws := wsL_get) B.pre
  have hown : s.vm.findClass RL = some m.cls := findClass_of_methodNamed B.named
  have hlocks := B.notSynchronized
  have htab : c.exceptionTable.toList = tableOf [(0, 10, 13, 13)] := vx_table (x := yL_add) B (hts _ (List.mem_of_getElem? (i := 0) rfl))
  subst hsz
  have hD := hD0.self (sz := s.heap.size)
  generalize hAe : va_A [(lo, .inr (2, [.ref ra, .ref d0, .ref b0, .ref t0, .ref r0])), (ra, .inl (T 2, 6, .inr (.inr (.inr (.inr (fun j => some (rd j))))))), (rd i, .inr (0, [.ref q0, .int (nI n)])), (q0, .inl (T 0, 440, .inl f)), (ou, .inl (T 3, 1, .inr (.inl o)))] s.heap.size = A at hD hG ⊢
  have hA : ∀ q : Nat, s.heap.size ≤ q → A q := fun q h => by rw [← hAe]; exact Or.inr h
  have hS : va_S A s.heap s.heap [] := va_S.rf
  have hP : va_P D cls [(lo, .inr (2, [.ref ra, .ref d0, .ref b0, .ref t0, .ref r0])), (ra, .inl (T 2, 6, .inr (.inr (.inr (.inr (fun j => some (rd j))))))), (rd i, .inr (0, [.ref q0, .int (nI n)])), (q0, .inl (T 0, 440, .inl f)), (ou, .inl (T 3, 1, .inr (.inl o)))] s.heap := hP
  have hl := lv_entry ([.ref lo, .int (nI i), .int p9, .ref ou]) (n := 5) (Nat.le_of_ble_eq_true rfl)
  rw [lg_entry_eq]
  generalize (lg_sl ([.ref lo, .int (nI i), .int p9, .ref ou]) ++ List.replicate (5 - (lg_sl ([.ref lo, .int (nI i), .int p9, .ref ou])).length) Slot.unset).toArray = ls at hl ⊢
  have hl : lv_has ls 5 [(0, .ref lo), (1, .int (nI i)), (2, .int p9), (3, .ref ou)] := hl
  refine lv_aload_n hx hb dL_get_0 rfl (lv_at hl 3 rfl) ?_
  refine lv_iconst (v := (nI 0)) hx hb dL_get_1 (by decide +kernel) ?_
  refine lv_aload_n hx hb dL_get_2 rfl (lv_at hl 0 rfl) ?_
  refine lv_iload_n hx hb dL_get_3 rfl (lv_at hl 1 rfl) ?_
  refine lv_iload_n hx hb dL_get_4 rfl (lv_at hl 2 rfl) ?_
  refine tc_V (hpc := 13) (As := [.int (nI i), .int p9]) (rest := [.int (nI 0), .ref ou]) (wc := [(lo, .inr (2, [.ref ra, .ref d0, .ref b0, .ref t0, .ref r0])), (ra, .inl (T 2, 6, .inr (.inr (.inr (.inr (fun j => some (rd j))))))), (rd i, .inr (0, [.ref q0, .int (nI n)])), (q0, .inl (T 0, 440, .inl f))]) (wr := [(ou, .inl (T 3, 1, .inr (.inl o)))]) ⟨hx, hb, hml, hown, hts⟩ (c_get_x2 l D T g s.heap.size (hl9) lo ra d0 b0 t0 r0 rd i q0 f n (hi) p9 (hp)) (cwV 2 hts gL_get_X5_get rfl rfl rfl (by decide +kernel) ⟨Nat.le_of_ble_eq_true rfl, Nat.le_of_ble_eq_true rfl⟩) (va_recv hK hP (ci := 2) (q0 := 0) rfl rfl) hP hD hK hG hS hA [0, 1, 2, 3] [4] rfl (by decide) rfl (by decide) (by decide) ⟨Nat.le_of_ble_eq_true rfl, Nat.le_of_ble_eq_true rfl⟩ rfl hl.1 (Nat.le_of_ble_eq_true rfl) dL_get_5 rfl (fun H1 locs1 q9 ce h1 h2 h3 k9 => vx_catch (name := "java/lang/IndexOutOfBoundsException") hown [] ⟨0, 10, 13, 13⟩ [] (htab.trans rfl) (fun _ h => absurd h List.not_mem_nil) (by decide) (by decide) (hts _ (List.mem_of_getElem? (i := 1) rfl)) (va_Yc.word (hN.2 _ (List.mem_of_getElem? (i := 0) rfl))) h1 h2 h3 k9) (fun u q9 H locs hq1 hP hD hS => ?_)
  refine W.widen (k := 1) (n := 6) (Nat.le_of_ble_eq_true rfl) (Nat.le_of_ble_eq_true rfl) ?_
  have hP : va_P D cls [(ou, .inl (T 3, 1, .inr (.inl o))), (lo, .inr (2, [.ref ra, .ref d0, .ref b0, .ref t0, .ref r0])), (ra, .inl (T 2, 6, .inr (.inr (.inr (.inr (fun j => some (rd j))))))), (rd i, .inr (0, [.ref q0, .int (nI n)])), (q0, .inl (T 0, 440, .inl f))] H := hP
  have hD : va_D A [(ou, .inl (T 3, 1, .inr (.inl o))), (lo, .inr (2, [.ref ra, .ref d0, .ref b0, .ref t0, .ref r0])), (ra, .inl (T 2, 6, .inr (.inr (.inr (.inr (fun j => some (rd j))))))), (rd i, .inr (0, [.ref q0, .int (nI n)])), (q0, .inl (T 0, 440, .inl f))] := hD
  refine lv_astore (lv' := [(4, .ref q9), (0, .ref lo), (1, .int (nI i)), (2, .int p9), (3, .ref ou)]) hx hb dL_get_13 hl (by decide) rfl (fun ls hl => ?_)
  refine lv_iconst (v := (nI 1)) hx hb dL_get_15 (by decide +kernel) ?_
  have hP9 := hP.sub (ws' := [(lo, .inr (2, [.ref ra, .ref d0, .ref b0, .ref t0, .ref r0])), (ra, .inl (T 2, 6, .inr (.inr (.inr (.inr (fun j => some (rd j))))))), (rd i, .inr (0, [.ref q0, .int (nI n)])), (q0, .inl (T 0, 440, .inl f)), (ou, .inl (T 3, 1, .inr (.inl o)))]) [1, 2, 3, 4, 0] rfl
  have hD9 := hD.sub (ws' := [(lo, .inr (2, [.ref ra, .ref d0, .ref b0, .ref t0, .ref r0])), (ra, .inl (T 2, 6, .inr (.inr (.inr (.inr (fun j => some (rd j))))))), (rd i, .inr (0, [.ref q0, .int (nI n)])), (q0, .inl (T 0, 440, .inl f)), (ou, .inl (T 3, 1, .inr (.inl o)))]) [1, 2, 3, 4, 0] (by decide) rfl
  refine W.widen (k := 5) (n := 1106) (by omega) (by omega) ?_
  exact W.iret (v := (nI 1)) hx hb hr (fun t ht hW => ⟨⟨(), rfl, trivial, (by rw [ht]; exact hP9), va_K.moved hW.alike hK, hD9⟩, hS.F ht⟩) hS.2.2 dL_get_16
